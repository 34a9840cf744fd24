-- ===== PART A: goes FIRST, ahead of the names: the tables' words, and 'selects' of the private methods out of them =====
/-- a private method of a class that the tables say can be made, by its rows of tables_1 -/
def lw_okq (q : MethodName × Nat) : Prop := (q.1.cls ≠ "java/lang/invoke/MethodHandle" ∧ q.1.cls ≠ "java/lang/invoke/VarHandle") ∧ Cond.instantiable q.1.cls q.2 ∈ tables_1 ∧ Cond.privateMethod q.1 ∈ tables_1 ∧ Cond.instanceMethod q.1 ∈ tables_1
theorem lw_p0 : lw_okq (⟨"PinBarrels", "begin", "(IIII)I"⟩, 9) := ⟨⟨by decide +kernel, by decide +kernel⟩, List.mem_of_getElem? (i := 17) (by decide +kernel), List.mem_of_getElem? (i := 180) (by decide +kernel), List.mem_of_getElem? (i := 181) (by decide +kernel)⟩
theorem lw_p1 : lw_okq (⟨"PinBarrels", "rowAtRisk", "(III)LPinBarrels$Row;"⟩, 9) := ⟨⟨by decide +kernel, by decide +kernel⟩, List.mem_of_getElem? (i := 17) (by decide +kernel), List.mem_of_getElem? (i := 184) (by decide +kernel), List.mem_of_getElem? (i := 185) (by decide +kernel)⟩
theorem lw_p2 : lw_okq (⟨"PinBarrels$Bench", "splice", "(III)I"⟩, 4) := ⟨⟨by decide +kernel, by decide +kernel⟩, List.mem_of_getElem? (i := 25) (by decide +kernel), List.mem_of_getElem? (i := 200) (by decide +kernel), List.mem_of_getElem? (i := 201) (by decide +kernel)⟩
theorem lw_p3 : lw_okq (⟨"PinBarrels$Bench", "howManyFit", "(LPinBarrels$Row;ILPinBarrels$Row;I)I"⟩, 4) := ⟨⟨by decide +kernel, by decide +kernel⟩, List.mem_of_getElem? (i := 25) (by decide +kernel), List.mem_of_getElem? (i := 217) (by decide +kernel), List.mem_of_getElem? (i := 218) (by decide +kernel)⟩
theorem lw_p4 : lw_okq (⟨"PinBarrels$Bench", "turn", "(II)I"⟩, 4) := ⟨⟨by decide +kernel, by decide +kernel⟩, List.mem_of_getElem? (i := 25) (by decide +kernel), List.mem_of_getElem? (i := 235) (by decide +kernel), List.mem_of_getElem? (i := 236) (by decide +kernel)⟩
theorem lw_p5 : lw_okq (⟨"PinBarrels$Bench", "open", "(II)I"⟩, 4) := ⟨⟨by decide +kernel, by decide +kernel⟩, List.mem_of_getElem? (i := 25) (by decide +kernel), List.mem_of_getElem? (i := 247) (by decide +kernel), List.mem_of_getElem? (i := 248) (by decide +kernel)⟩
theorem lw_p6 : lw_okq (⟨"PinBarrels$Bench", "refusalOfPlaces", "(II)I"⟩, 4) := ⟨⟨by decide +kernel, by decide +kernel⟩, List.mem_of_getElem? (i := 25) (by decide +kernel), List.mem_of_getElem? (i := 251) (by decide +kernel), List.mem_of_getElem? (i := 252) (by decide +kernel)⟩
theorem lw_p7 : lw_okq (⟨"PinBarrels$Row", "empty", "(II)V"⟩, 2) := ⟨⟨by decide +kernel, by decide +kernel⟩, List.mem_of_getElem? (i := 261) (by decide +kernel), List.mem_of_getElem? (i := 259) (by decide +kernel), List.mem_of_getElem? (i := 260) (by decide +kernel)⟩
theorem lw_p8 : lw_okq (⟨"PinBarrels$Bench", "shut", "(II)I"⟩, 4) := ⟨⟨by decide +kernel, by decide +kernel⟩, List.mem_of_getElem? (i := 25) (by decide +kernel), List.mem_of_getElem? (i := 264) (by decide +kernel), List.mem_of_getElem? (i := 265) (by decide +kernel)⟩
theorem lw_p9 : lw_okq (⟨"PinBarrels$Bench", "make", "(III)I"⟩, 4) := ⟨⟨by decide +kernel, by decide +kernel⟩, List.mem_of_getElem? (i := 25) (by decide +kernel), List.mem_of_getElem? (i := 272) (by decide +kernel), List.mem_of_getElem? (i := 273) (by decide +kernel)⟩
theorem lw_p10 : lw_okq (⟨"PinBarrels$Bench", "twin", "(II)I"⟩, 4) := ⟨⟨by decide +kernel, by decide +kernel⟩, List.mem_of_getElem? (i := 25) (by decide +kernel), List.mem_of_getElem? (i := 303) (by decide +kernel), List.mem_of_getElem? (i := 304) (by decide +kernel)⟩
theorem lw_p11 : lw_okq (⟨"PinBarrels$Bench", "swap", "(II)I"⟩, 4) := ⟨⟨by decide +kernel, by decide +kernel⟩, List.mem_of_getElem? (i := 25) (by decide +kernel), List.mem_of_getElem? (i := 308) (by decide +kernel), List.mem_of_getElem? (i := 309) (by decide +kernel)⟩
theorem lw_p12 : lw_okq (⟨"PinBarrels$Bench", "hang", "(II)I"⟩, 4) := ⟨⟨by decide +kernel, by decide +kernel⟩, List.mem_of_getElem? (i := 25) (by decide +kernel), List.mem_of_getElem? (i := 312) (by decide +kernel), List.mem_of_getElem? (i := 313) (by decide +kernel)⟩
theorem lw_p13 : lw_okq (⟨"PinBarrels$Bench", "pin", "(II)I"⟩, 4) := ⟨⟨by decide +kernel, by decide +kernel⟩, List.mem_of_getElem? (i := 25) (by decide +kernel), List.mem_of_getElem? (i := 346) (by decide +kernel), List.mem_of_getElem? (i := 347) (by decide +kernel)⟩
theorem lw_p14 : lw_okq (⟨"PinBarrels$Bench", "seat", "(II)I"⟩, 4) := ⟨⟨by decide +kernel, by decide +kernel⟩, List.mem_of_getElem? (i := 25) (by decide +kernel), List.mem_of_getElem? (i := 377) (by decide +kernel), List.mem_of_getElem? (i := 378) (by decide +kernel)⟩
theorem lw_p15 : lw_okq (⟨"PinBarrels$Bench", "lift", "(II)I"⟩, 4) := ⟨⟨by decide +kernel, by decide +kernel⟩, List.mem_of_getElem? (i := 25) (by decide +kernel), List.mem_of_getElem? (i := 382) (by decide +kernel), List.mem_of_getElem? (i := 383) (by decide +kernel)⟩
def lw_privs_1 : List (MethodName × Nat) := [(⟨"PinBarrels", "begin", "(IIII)I"⟩, 9), (⟨"PinBarrels", "rowAtRisk", "(III)LPinBarrels$Row;"⟩, 9), (⟨"PinBarrels$Bench", "splice", "(III)I"⟩, 4), (⟨"PinBarrels$Bench", "howManyFit", "(LPinBarrels$Row;ILPinBarrels$Row;I)I"⟩, 4), (⟨"PinBarrels$Bench", "turn", "(II)I"⟩, 4), (⟨"PinBarrels$Bench", "open", "(II)I"⟩, 4), (⟨"PinBarrels$Bench", "refusalOfPlaces", "(II)I"⟩, 4), (⟨"PinBarrels$Row", "empty", "(II)V"⟩, 2), (⟨"PinBarrels$Bench", "shut", "(II)I"⟩, 4), (⟨"PinBarrels$Bench", "make", "(III)I"⟩, 4), (⟨"PinBarrels$Bench", "twin", "(II)I"⟩, 4), (⟨"PinBarrels$Bench", "swap", "(II)I"⟩, 4), (⟨"PinBarrels$Bench", "hang", "(II)I"⟩, 4), (⟨"PinBarrels$Bench", "pin", "(II)I"⟩, 4), (⟨"PinBarrels$Bench", "seat", "(II)I"⟩, 4), (⟨"PinBarrels$Bench", "lift", "(II)I"⟩, 4)]
theorem lw_r1 : ∀ q ∈ lw_privs_1, lw_okq q := List.forall_mem_cons.mpr ⟨lw_p0, List.forall_mem_cons.mpr ⟨lw_p1, List.forall_mem_cons.mpr ⟨lw_p2, List.forall_mem_cons.mpr ⟨lw_p3, List.forall_mem_cons.mpr ⟨lw_p4, List.forall_mem_cons.mpr ⟨lw_p5, List.forall_mem_cons.mpr ⟨lw_p6, List.forall_mem_cons.mpr ⟨lw_p7, List.forall_mem_cons.mpr ⟨lw_p8, List.forall_mem_cons.mpr ⟨lw_p9, List.forall_mem_cons.mpr ⟨lw_p10, List.forall_mem_cons.mpr ⟨lw_p11, List.forall_mem_cons.mpr ⟨lw_p12, List.forall_mem_cons.mpr ⟨lw_p13, List.forall_mem_cons.mpr ⟨lw_p14, List.forall_mem_cons.mpr ⟨lw_p15, fun _ h => absurd h List.not_mem_nil⟩⟩⟩⟩⟩⟩⟩⟩⟩⟩⟩⟩⟩⟩⟩⟩
theorem lw_p16 : lw_okq (⟨"PinBarrels$Tune", "isWhen", "(I)Z"⟩, 6) := ⟨⟨by decide +kernel, by decide +kernel⟩, List.mem_of_getElem? (i := 75) (by decide +kernel), List.mem_of_getElem? (i := 418) (by decide +kernel), List.mem_of_getElem? (i := 419) (by decide +kernel)⟩
theorem lw_p17 : lw_okq (⟨"PinBarrelsModel", "begin", "(IIII)I"⟩, 28) := ⟨⟨by decide +kernel, by decide +kernel⟩, List.mem_of_getElem? (i := 476) (by decide +kernel), List.mem_of_getElem? (i := 585) (by decide +kernel), List.mem_of_getElem? (i := 586) (by decide +kernel)⟩
theorem lw_p18 : lw_okq (⟨"PinBarrelsModel", "rowOn", "(I)I"⟩, 28) := ⟨⟨by decide +kernel, by decide +kernel⟩, List.mem_of_getElem? (i := 476) (by decide +kernel), List.mem_of_getElem? (i := 589) (by decide +kernel), List.mem_of_getElem? (i := 590) (by decide +kernel)⟩
theorem lw_p19 : lw_okq (⟨"PinBarrelsModel", "does", "(IIII)I"⟩, 28) := ⟨⟨by decide +kernel, by decide +kernel⟩, List.mem_of_getElem? (i := 476) (by decide +kernel), List.mem_of_getElem? (i := 593) (by decide +kernel), List.mem_of_getElem? (i := 594) (by decide +kernel)⟩
theorem lw_p20 : lw_okq (⟨"PinBarrelsModel", "splice", "(III)I"⟩, 28) := ⟨⟨by decide +kernel, by decide +kernel⟩, List.mem_of_getElem? (i := 476) (by decide +kernel), List.mem_of_getElem? (i := 597) (by decide +kernel), List.mem_of_getElem? (i := 598) (by decide +kernel)⟩
theorem lw_p21 : lw_okq (⟨"PinBarrelsModel", "canHave", "(II)Z"⟩, 28) := ⟨⟨by decide +kernel, by decide +kernel⟩, List.mem_of_getElem? (i := 476) (by decide +kernel), List.mem_of_getElem? (i := 601) (by decide +kernel), List.mem_of_getElem? (i := 602) (by decide +kernel)⟩
theorem lw_p22 : lw_okq (⟨"PinBarrelsModel", "turn", "(II)I"⟩, 28) := ⟨⟨by decide +kernel, by decide +kernel⟩, List.mem_of_getElem? (i := 476) (by decide +kernel), List.mem_of_getElem? (i := 605) (by decide +kernel), List.mem_of_getElem? (i := 606) (by decide +kernel)⟩
theorem lw_p23 : lw_okq (⟨"PinBarrelsModel", "open", "(IIZ)I"⟩, 28) := ⟨⟨by decide +kernel, by decide +kernel⟩, List.mem_of_getElem? (i := 476) (by decide +kernel), List.mem_of_getElem? (i := 609) (by decide +kernel), List.mem_of_getElem? (i := 610) (by decide +kernel)⟩
theorem lw_p24 : lw_okq (⟨"PinBarrelsModel", "makeOn", "(III)I"⟩, 28) := ⟨⟨by decide +kernel, by decide +kernel⟩, List.mem_of_getElem? (i := 476) (by decide +kernel), List.mem_of_getElem? (i := 613) (by decide +kernel), List.mem_of_getElem? (i := 614) (by decide +kernel)⟩
theorem lw_p25 : lw_okq (⟨"PinBarrelsModel", "roomFor", "(I)Z"⟩, 28) := ⟨⟨by decide +kernel, by decide +kernel⟩, List.mem_of_getElem? (i := 476) (by decide +kernel), List.mem_of_getElem? (i := 617) (by decide +kernel), List.mem_of_getElem? (i := 618) (by decide +kernel)⟩
theorem lw_p26 : lw_okq (⟨"PinBarrelsModel", "make", "(II)I"⟩, 28) := ⟨⟨by decide +kernel, by decide +kernel⟩, List.mem_of_getElem? (i := 476) (by decide +kernel), List.mem_of_getElem? (i := 621) (by decide +kernel), List.mem_of_getElem? (i := 622) (by decide +kernel)⟩
theorem lw_p27 : lw_okq (⟨"PinBarrelsModel", "hold", "(III)V"⟩, 28) := ⟨⟨by decide +kernel, by decide +kernel⟩, List.mem_of_getElem? (i := 476) (by decide +kernel), List.mem_of_getElem? (i := 625) (by decide +kernel), List.mem_of_getElem? (i := 626) (by decide +kernel)⟩
theorem lw_p28 : lw_okq (⟨"PinBarrelsModel", "twin", "(II)I"⟩, 28) := ⟨⟨by decide +kernel, by decide +kernel⟩, List.mem_of_getElem? (i := 476) (by decide +kernel), List.mem_of_getElem? (i := 629) (by decide +kernel), List.mem_of_getElem? (i := 630) (by decide +kernel)⟩
theorem lw_p29 : lw_okq (⟨"PinBarrelsModel", "swap", "(II)V"⟩, 28) := ⟨⟨by decide +kernel, by decide +kernel⟩, List.mem_of_getElem? (i := 476) (by decide +kernel), List.mem_of_getElem? (i := 633) (by decide +kernel), List.mem_of_getElem? (i := 634) (by decide +kernel)⟩
theorem lw_p30 : lw_okq (⟨"PinBarrelsModel", "hang", "(II)I"⟩, 28) := ⟨⟨by decide +kernel, by decide +kernel⟩, List.mem_of_getElem? (i := 476) (by decide +kernel), List.mem_of_getElem? (i := 637) (by decide +kernel), List.mem_of_getElem? (i := 638) (by decide +kernel)⟩
theorem lw_p31 : lw_okq (⟨"PinBarrelsModel", "pin", "(II)I"⟩, 28) := ⟨⟨by decide +kernel, by decide +kernel⟩, List.mem_of_getElem? (i := 476) (by decide +kernel), List.mem_of_getElem? (i := 641) (by decide +kernel), List.mem_of_getElem? (i := 642) (by decide +kernel)⟩
def lw_privs_2 : List (MethodName × Nat) := [(⟨"PinBarrels$Tune", "isWhen", "(I)Z"⟩, 6), (⟨"PinBarrelsModel", "begin", "(IIII)I"⟩, 28), (⟨"PinBarrelsModel", "rowOn", "(I)I"⟩, 28), (⟨"PinBarrelsModel", "does", "(IIII)I"⟩, 28), (⟨"PinBarrelsModel", "splice", "(III)I"⟩, 28), (⟨"PinBarrelsModel", "canHave", "(II)Z"⟩, 28), (⟨"PinBarrelsModel", "turn", "(II)I"⟩, 28), (⟨"PinBarrelsModel", "open", "(IIZ)I"⟩, 28), (⟨"PinBarrelsModel", "makeOn", "(III)I"⟩, 28), (⟨"PinBarrelsModel", "roomFor", "(I)Z"⟩, 28), (⟨"PinBarrelsModel", "make", "(II)I"⟩, 28), (⟨"PinBarrelsModel", "hold", "(III)V"⟩, 28), (⟨"PinBarrelsModel", "twin", "(II)I"⟩, 28), (⟨"PinBarrelsModel", "swap", "(II)V"⟩, 28), (⟨"PinBarrelsModel", "hang", "(II)I"⟩, 28), (⟨"PinBarrelsModel", "pin", "(II)I"⟩, 28)]
theorem lw_r2 : ∀ q ∈ lw_privs_2, lw_okq q := List.forall_mem_cons.mpr ⟨lw_p16, List.forall_mem_cons.mpr ⟨lw_p17, List.forall_mem_cons.mpr ⟨lw_p18, List.forall_mem_cons.mpr ⟨lw_p19, List.forall_mem_cons.mpr ⟨lw_p20, List.forall_mem_cons.mpr ⟨lw_p21, List.forall_mem_cons.mpr ⟨lw_p22, List.forall_mem_cons.mpr ⟨lw_p23, List.forall_mem_cons.mpr ⟨lw_p24, List.forall_mem_cons.mpr ⟨lw_p25, List.forall_mem_cons.mpr ⟨lw_p26, List.forall_mem_cons.mpr ⟨lw_p27, List.forall_mem_cons.mpr ⟨lw_p28, List.forall_mem_cons.mpr ⟨lw_p29, List.forall_mem_cons.mpr ⟨lw_p30, List.forall_mem_cons.mpr ⟨lw_p31, fun _ h => absurd h List.not_mem_nil⟩⟩⟩⟩⟩⟩⟩⟩⟩⟩⟩⟩⟩⟩⟩⟩
theorem lw_p32 : lw_okq (⟨"PinBarrelsModel", "seat", "(II)I"⟩, 28) := ⟨⟨by decide +kernel, by decide +kernel⟩, List.mem_of_getElem? (i := 476) (by decide +kernel), List.mem_of_getElem? (i := 669) (by decide +kernel), List.mem_of_getElem? (i := 670) (by decide +kernel)⟩
theorem lw_p33 : lw_okq (⟨"PinBarrelsModel", "lift", "(II)I"⟩, 28) := ⟨⟨by decide +kernel, by decide +kernel⟩, List.mem_of_getElem? (i := 476) (by decide +kernel), List.mem_of_getElem? (i := 673) (by decide +kernel), List.mem_of_getElem? (i := 674) (by decide +kernel)⟩
theorem lw_p34 : lw_okq (⟨"PinBarrelsModel", "write", "(I)V"⟩, 28) := ⟨⟨by decide +kernel, by decide +kernel⟩, List.mem_of_getElem? (i := 476) (by decide +kernel), List.mem_of_getElem? (i := 677) (by decide +kernel), List.mem_of_getElem? (i := 678) (by decide +kernel)⟩
theorem lw_p35 : lw_okq (⟨"PinBarrelsModel", "again", "(I)I"⟩, 28) := ⟨⟨by decide +kernel, by decide +kernel⟩, List.mem_of_getElem? (i := 476) (by decide +kernel), List.mem_of_getElem? (i := 685) (by decide +kernel), List.mem_of_getElem? (i := 686) (by decide +kernel)⟩
theorem lw_p36 : lw_okq (⟨"PinBarrelsModel", "behind", "(II)I"⟩, 28) := ⟨⟨by decide +kernel, by decide +kernel⟩, List.mem_of_getElem? (i := 476) (by decide +kernel), List.mem_of_getElem? (i := 689) (by decide +kernel), List.mem_of_getElem? (i := 690) (by decide +kernel)⟩
theorem lw_p37 : lw_okq (⟨"PinBarrelsModel", "first", "(I)I"⟩, 28) := ⟨⟨by decide +kernel, by decide +kernel⟩, List.mem_of_getElem? (i := 476) (by decide +kernel), List.mem_of_getElem? (i := 701) (by decide +kernel), List.mem_of_getElem? (i := 702) (by decide +kernel)⟩
def lw_privs_3 : List (MethodName × Nat) := [(⟨"PinBarrelsModel", "seat", "(II)I"⟩, 28), (⟨"PinBarrelsModel", "lift", "(II)I"⟩, 28), (⟨"PinBarrelsModel", "write", "(I)V"⟩, 28), (⟨"PinBarrelsModel", "again", "(I)I"⟩, 28), (⟨"PinBarrelsModel", "behind", "(II)I"⟩, 28), (⟨"PinBarrelsModel", "first", "(I)I"⟩, 28)]
theorem lw_r3 : ∀ q ∈ lw_privs_3, lw_okq q := List.forall_mem_cons.mpr ⟨lw_p32, List.forall_mem_cons.mpr ⟨lw_p33, List.forall_mem_cons.mpr ⟨lw_p34, List.forall_mem_cons.mpr ⟨lw_p35, List.forall_mem_cons.mpr ⟨lw_p36, List.forall_mem_cons.mpr ⟨lw_p37, fun _ h => absurd h List.not_mem_nil⟩⟩⟩⟩⟩⟩
def lw_privs : List (MethodName × Nat) := lw_privs_1 ++ (lw_privs_2 ++ (lw_privs_3))
def lw_tbl : List Cond := k2_sels lw_privs ++ tables_1
theorem lw_privs_ok : ∀ q ∈ lw_privs, lw_okq q := by
  show ∀ q ∈ lw_privs_1 ++ (lw_privs_2 ++ (lw_privs_3)), lw_okq q
  exact List.forall_mem_append.mpr ⟨lw_r1, List.forall_mem_append.mpr ⟨lw_r2, lw_r3⟩⟩

def RX0 : String := "PinBarrels$Bench"
def TX0 : u_T := fun k => match k with
  | 0 => ("PinBarrels$Bench", "held", "[LPinBarrels$Thing;", true)
  | 1 => ("PinBarrels$Bench", "marks", "[I", true)
  | 2 => ("PinBarrels$Bench", "between", "[J", true)
  | _ => ("PinBarrels$Bench", "stock", "LPinBarrels$Stock;", true)
def tyX0 : Nat → FieldType := fun k => match k with
  | 0 => .array (.object "PinBarrels$Thing")
  | 1 => .array .int
  | 2 => .array .long
  | _ => .object "PinBarrels$Stock"
abbrev wsX00 : List Cond := u_ws RX0 TX0 4
theorem nmX0 : ∀ a, a < 4 → ∀ b, b < 4 → a ≠ b → (TX0 a).2.1 ≠ (TX0 b).2.1 := by decide +kernel
theorem tyX0_ok : ∀ k, k < 4 → parseFieldDescriptor (TX0 k).2.2.1 = some (tyX0 k) := by decide +kernel
abbrev cX0_init : ByteArray := prog_2_method_1_code
def yX0_init : MethodName := ⟨RX0, "<init>", "()V"⟩
abbrev cX0_leastHolder : ByteArray := prog_2_method_2_code
def yX0_leastHolder : MethodName := ⟨RX0, "leastHolder", "(LPinBarrels$Thing;)I"⟩
abbrev cX0_perform : ByteArray := prog_2_method_3_code
def yX0_perform : MethodName := ⟨RX0, "perform", "(IIII)I"⟩
abbrev cX0_splice : ByteArray := prog_2_method_4_code
def yX0_splice : MethodName := ⟨RX0, "splice", "(III)I"⟩
abbrev cX0_howManyFit : ByteArray := prog_2_method_5_code
def yX0_howManyFit : MethodName := ⟨RX0, "howManyFit", "(LPinBarrels$Row;ILPinBarrels$Row;I)I"⟩
abbrev cX0_turn : ByteArray := prog_2_method_6_code
def yX0_turn : MethodName := ⟨RX0, "turn", "(II)I"⟩
abbrev cX0_open : ByteArray := prog_2_method_7_code
def yX0_open : MethodName := ⟨RX0, "open", "(II)I"⟩
abbrev cX0_shut : ByteArray := prog_2_method_8_code
def yX0_shut : MethodName := ⟨RX0, "shut", "(II)I"⟩
abbrev cX0_refusalOfPlaces : ByteArray := prog_2_method_9_code
def yX0_refusalOfPlaces : MethodName := ⟨RX0, "refusalOfPlaces", "(II)I"⟩
abbrev cX0_make : ByteArray := prog_2_method_10_code
def yX0_make : MethodName := ⟨RX0, "make", "(III)I"⟩
abbrev cX0_twin : ByteArray := prog_2_method_11_code
def yX0_twin : MethodName := ⟨RX0, "twin", "(II)I"⟩
abbrev cX0_swap : ByteArray := prog_2_method_12_code
def yX0_swap : MethodName := ⟨RX0, "swap", "(II)I"⟩
abbrev cX0_hang : ByteArray := prog_2_method_13_code
def yX0_hang : MethodName := ⟨RX0, "hang", "(II)I"⟩
abbrev cX0_pin : ByteArray := prog_2_method_14_code
def yX0_pin : MethodName := ⟨RX0, "pin", "(II)I"⟩
abbrev cX0_seat : ByteArray := prog_2_method_15_code
def yX0_seat : MethodName := ⟨RX0, "seat", "(II)I"⟩
abbrev cX0_lift : ByteArray := prog_2_method_16_code
def yX0_lift : MethodName := ⟨RX0, "lift", "(II)I"⟩
def RX1 : String := "PinBarrels$Book"
def TX1 : u_T := fun k => match k with
  | 0 => ("PinBarrels$Book", "rows", "[LPinBarrels$Row;", true)
  | 1 => ("PinBarrels$Book", "pages", "[J", true)
  | 2 => ("PinBarrels$Book", "kept", "I", false)
  | _ => ("PinBarrels$Book", "next", "I", false)
def tyX1 : Nat → FieldType := fun k => match k with
  | 0 => .array (.object "PinBarrels$Row")
  | 1 => .array .long
  | 2 => .int
  | _ => .int
abbrev wsX10 : List Cond := u_ws RX1 TX1 4
theorem nmX1 : ∀ a, a < 4 → ∀ b, b < 4 → a ≠ b → (TX1 a).2.1 ≠ (TX1 b).2.1 := by decide +kernel
theorem tyX1_ok : ∀ k, k < 4 → parseFieldDescriptor (TX1 k).2.2.1 = some (tyX1 k) := by decide +kernel
abbrev cX1_init : ByteArray := prog_3_method_1_code
def yX1_init : MethodName := ⟨RX1, "<init>", "()V"⟩
abbrev cX1_write : ByteArray := prog_3_method_2_code
def yX1_write : MethodName := ⟨RX1, "write", "(LPinBarrels$Row;[J)V"⟩
abbrev cX1_takeBack : ByteArray := prog_3_method_3_code
def yX1_takeBack : MethodName := ⟨RX1, "takeBack", "()Z"⟩
def RX2 : String := "PinBarrels$Crank"
def TX2 : u_T := fun k => match k with
  | _ => ("", "", "", false)
def tyX2 : Nat → FieldType := fun k => match k with
  | _ => .int
abbrev wsX20 : List Cond := u_ws RX2 TX2 0
theorem nmX2 : ∀ a, a < 0 → ∀ b, b < 0 → a ≠ b → (TX2 a).2.1 ≠ (TX2 b).2.1 := by decide +kernel
theorem tyX2_ok : ∀ k, k < 0 → parseFieldDescriptor (TX2 k).2.2.1 = some (tyX2 k) := by decide +kernel
abbrev cX2_init : ByteArray := prog_4_method_1_code
def yX2_init : MethodName := ⟨RX2, "<init>", "()V"⟩
abbrev cX2_appearance : ByteArray := prog_4_method_2_code
def yX2_appearance : MethodName := ⟨RX2, "appearance", "()I"⟩
abbrev cX2_measure : ByteArray := prog_4_method_3_code
def yX2_measure : MethodName := ⟨RX2, "measure", "()I"⟩
def RX3 : String := "PinBarrels$Figure"
def TX3 : u_T := fun k => match k with
  | 0 => ("PinBarrels$Figure", "sort", "I", true)
  | _ => ("PinBarrels$Figure", "number", "I", true)
def tyX3 : Nat → FieldType := fun k => match k with
  | 0 => .int
  | _ => .int
abbrev wsX30 : List Cond := u_ws RX3 TX3 2
theorem nmX3 : ∀ a, a < 2 → ∀ b, b < 2 → a ≠ b → (TX3 a).2.1 ≠ (TX3 b).2.1 := by decide +kernel
theorem tyX3_ok : ∀ k, k < 2 → parseFieldDescriptor (TX3 k).2.2.1 = some (tyX3 k) := by decide +kernel
abbrev cX3_init : ByteArray := prog_5_method_1_code
def yX3_init : MethodName := ⟨RX3, "<init>", "(II)V"⟩
abbrev cX3_appearance : ByteArray := prog_5_method_2_code
def yX3_appearance : MethodName := ⟨RX3, "appearance", "()I"⟩
abbrev cX3_measure : ByteArray := prog_5_method_3_code
def yX3_measure : MethodName := ⟨RX3, "measure", "()I"⟩
def RX4 : String := "PinBarrels$Numbers"
def TX4 : u_T := fun k => match k with
  | _ => ("", "", "", false)
def tyX4 : Nat → FieldType := fun k => match k with
  | _ => .int
abbrev wsX40 : List Cond := u_ws RX4 TX4 0
theorem nmX4 : ∀ a, a < 0 → ∀ b, b < 0 → a ≠ b → (TX4 a).2.1 ≠ (TX4 b).2.1 := by decide +kernel
theorem tyX4_ok : ∀ k, k < 0 → parseFieldDescriptor (TX4 k).2.2.1 = some (tyX4 k) := by decide +kernel
abbrev cX4_cutToKind : ByteArray := prog_6_method_2_code
def yX4_cutToKind : MethodName := ⟨RX4, "cutToKind", "(II)J"⟩
abbrev cX4_floatBits : ByteArray := prog_6_method_3_code
def yX4_floatBits : MethodName := ⟨RX4, "floatBits", "(I)I"⟩
abbrev cX4_doubleBits : ByteArray := prog_6_method_4_code
def yX4_doubleBits : MethodName := ⟨RX4, "doubleBits", "(I)J"⟩
abbrev cX4_topBit : ByteArray := prog_6_method_5_code
def yX4_topBit : MethodName := ⟨RX4, "topBit", "(J)I"⟩
abbrev cX4_shiftedToNearest : ByteArray := prog_6_method_6_code
def yX4_shiftedToNearest : MethodName := ⟨RX4, "shiftedToNearest", "(JI)J"⟩
def RX5 : String := "PinBarrels$Row"
def TX5 : u_T := fun k => match k with
  | 0 => ("PinBarrels$Row", "kind", "I", true)
  | _ => ("PinBarrels$Row", "cells", "[J", true)
def tyX5 : Nat → FieldType := fun k => match k with
  | 0 => .int
  | _ => .array .long
abbrev wsX50 : List Cond := u_ws RX5 TX5 2
theorem nmX5 : ∀ a, a < 2 → ∀ b, b < 2 → a ≠ b → (TX5 a).2.1 ≠ (TX5 b).2.1 := by decide +kernel
theorem tyX5_ok : ∀ k, k < 2 → parseFieldDescriptor (TX5 k).2.2.1 = some (tyX5 k) := by decide +kernel
abbrev cX5_init : ByteArray := prog_7_method_1_code
def yX5_init : MethodName := ⟨RX5, "<init>", "(II)V"⟩
abbrev cX5_appearance : ByteArray := prog_7_method_2_code
def yX5_appearance : MethodName := ⟨RX5, "appearance", "()I"⟩
abbrev cX5_measure : ByteArray := prog_7_method_3_code
def yX5_measure : MethodName := ⟨RX5, "measure", "()I"⟩
abbrev cX5_isOfFigures : ByteArray := prog_7_method_4_code
def yX5_isOfFigures : MethodName := ⟨RX5, "isOfFigures", "()Z"⟩
abbrev cX5_isAlike : ByteArray := prog_7_method_5_code
def yX5_isAlike : MethodName := ⟨RX5, "isAlike", "(LPinBarrels$Row;)Z"⟩
abbrev cX5_hasPlace : ByteArray := prog_7_method_6_code
def yX5_hasPlace : MethodName := ⟨RX5, "hasPlace", "(I)Z"⟩
abbrev cX5_hasPlaces : ByteArray := prog_7_method_7_code
def yX5_hasPlaces : MethodName := ⟨RX5, "hasPlaces", "(II)Z"⟩
abbrev cX5_canHave : ByteArray := prog_7_method_8_code
def yX5_canHave : MethodName := ⟨RX5, "canHave", "(I)Z"⟩
abbrev cX5_turn : ByteArray := prog_7_method_9_code
def yX5_turn : MethodName := ⟨RX5, "turn", "(I[J)V"⟩
abbrev cX5_open : ByteArray := prog_7_method_10_code
def yX5_open : MethodName := ⟨RX5, "open", "(II)V"⟩
abbrev cX5_shut : ByteArray := prog_7_method_11_code
def yX5_shut : MethodName := ⟨RX5, "shut", "(II)V"⟩
abbrev cX5_empty : ByteArray := prog_7_method_12_code
def yX5_empty : MethodName := ⟨RX5, "empty", "(II)V"⟩
abbrev cX5_copyTo : ByteArray := prog_7_method_13_code
def yX5_copyTo : MethodName := ⟨RX5, "copyTo", "([J)V"⟩
abbrev cX5_differsFrom : ByteArray := prog_7_method_14_code
def yX5_differsFrom : MethodName := ⟨RX5, "differsFrom", "([J)Z"⟩
def RX6 : String := "PinBarrels$Stock"
def TX6 : u_T := fun k => match k with
  | 0 => ("PinBarrels$Stock", "figures", "[LPinBarrels$Figure;", true)
  | 1 => ("PinBarrels$Stock", "figuresMade", "I", false)
  | 2 => ("PinBarrels$Stock", "rowsMade", "I", false)
  | _ => ("PinBarrels$Stock", "cellsMade", "I", false)
def tyX6 : Nat → FieldType := fun k => match k with
  | 0 => .array (.object "PinBarrels$Figure")
  | 1 => .int
  | 2 => .int
  | _ => .int
abbrev wsX60 : List Cond := u_ws RX6 TX6 4
theorem nmX6 : ∀ a, a < 4 → ∀ b, b < 4 → a ≠ b → (TX6 a).2.1 ≠ (TX6 b).2.1 := by decide +kernel
theorem tyX6_ok : ∀ k, k < 4 → parseFieldDescriptor (TX6 k).2.2.1 = some (tyX6 k) := by decide +kernel
abbrev cX6_init : ByteArray := prog_8_method_1_code
def yX6_init : MethodName := ⟨RX6, "<init>", "()V"⟩
abbrev cX6_hasRoomForRow : ByteArray := prog_8_method_2_code
def yX6_hasRoomForRow : MethodName := ⟨RX6, "hasRoomForRow", "(I)Z"⟩
abbrev cX6_hasRoomForFigure : ByteArray := prog_8_method_3_code
def yX6_hasRoomForFigure : MethodName := ⟨RX6, "hasRoomForFigure", "()Z"⟩
abbrev cX6_makeRow : ByteArray := prog_8_method_4_code
def yX6_makeRow : MethodName := ⟨RX6, "makeRow", "(II)LPinBarrels$Row;"⟩
abbrev cX6_makeFigure : ByteArray := prog_8_method_5_code
def yX6_makeFigure : MethodName := ⟨RX6, "makeFigure", "(I)LPinBarrels$Figure;"⟩
abbrev cX6_figureOf : ByteArray := prog_8_method_6_code
def yX6_figureOf : MethodName := ⟨RX6, "figureOf", "(J)LPinBarrels$Figure;"⟩
abbrev cX6_sortOf : ByteArray := prog_8_method_7_code
def yX6_sortOf : MethodName := ⟨RX6, "sortOf", "(J)I"⟩
def RX7 : String := "PinBarrels$Thing"
def TX7 : u_T := fun k => match k with
  | _ => ("", "", "", false)
def tyX7 : Nat → FieldType := fun k => match k with
  | _ => .int
abbrev wsX70 : List Cond := u_ws RX7 TX7 0
theorem nmX7 : ∀ a, a < 0 → ∀ b, b < 0 → a ≠ b → (TX7 a).2.1 ≠ (TX7 b).2.1 := by decide +kernel
theorem tyX7_ok : ∀ k, k < 0 → parseFieldDescriptor (TX7 k).2.2.1 = some (tyX7 k) := by decide +kernel
abbrev cX7_init : ByteArray := prog_9_method_1_code
def yX7_init : MethodName := ⟨RX7, "<init>", "()V"⟩
def RX8 : String := "PinBarrels$Tune"
def TX8 : u_T := fun k => match k with
  | 0 => ("PinBarrels$Tune", "codes", "[I", true)
  | 1 => ("PinBarrels$Tune", "as", "[I", true)
  | 2 => ("PinBarrels$Tune", "bs", "[I", true)
  | 3 => ("PinBarrels$Tune", "cs", "[I", true)
  | 4 => ("PinBarrels$Tune", "timesAgain", "[I", true)
  | _ => ("PinBarrels$Tune", "length", "I", false)
def tyX8 : Nat → FieldType := fun k => match k with
  | 0 => .array .int
  | 1 => .array .int
  | 2 => .array .int
  | 3 => .array .int
  | 4 => .array .int
  | _ => .int
abbrev wsX80 : List Cond := u_ws RX8 TX8 6
theorem nmX8 : ∀ a, a < 6 → ∀ b, b < 6 → a ≠ b → (TX8 a).2.1 ≠ (TX8 b).2.1 := by decide +kernel
theorem tyX8_ok : ∀ k, k < 6 → parseFieldDescriptor (TX8 k).2.2.1 = some (tyX8 k) := by decide +kernel
abbrev cX8_init : ByteArray := prog_10_method_1_code
def yX8_init : MethodName := ⟨RX8, "<init>", "()V"⟩
abbrev cX8_append : ByteArray := prog_10_method_2_code
def yX8_append : MethodName := ⟨RX8, "append", "(IIII)I"⟩
abbrev cX8_forgetAgains : ByteArray := prog_10_method_3_code
def yX8_forgetAgains : MethodName := ⟨RX8, "forgetAgains", "()V"⟩
abbrev cX8_following : ByteArray := prog_10_method_4_code
def yX8_following : MethodName := ⟨RX8, "following", "(I)I"⟩
abbrev cX8_meeting : ByteArray := prog_10_method_5_code
def yX8_meeting : MethodName := ⟨RX8, "meeting", "(II)I"⟩
abbrev cX8_isWhen : ByteArray := prog_10_method_6_code
def yX8_isWhen : MethodName := ⟨RX8, "isWhen", "(I)Z"⟩
def RX9 : String := "PinBarrels"
def TX9 : u_T := fun k => match k with
  | 0 => ("PinBarrels", "bench", "LPinBarrels$Bench;", true)
  | 1 => ("PinBarrels", "tune", "LPinBarrels$Tune;", true)
  | 2 => ("PinBarrels", "book", "LPinBarrels$Book;", true)
  | 3 => ("PinBarrels", "ahead", "[J", true)
  | 4 => ("PinBarrels", "begun", "I", false)
  | 5 => ("PinBarrels", "refusals", "I", false)
  | 6 => ("PinBarrels", "metRefusals", "I", false)
  | 7 => ("PinBarrels", "begunInRun", "I", false)
  | _ => ("PinBarrels", "enderOfRun", "I", false)
def tyX9 : Nat → FieldType := fun k => match k with
  | 0 => .object "PinBarrels$Bench"
  | 1 => .object "PinBarrels$Tune"
  | 2 => .object "PinBarrels$Book"
  | 3 => .array .long
  | 4 => .int
  | 5 => .int
  | 6 => .int
  | 7 => .int
  | _ => .int
abbrev wsX90 : List Cond := u_ws RX9 TX9 9
theorem nmX9 : ∀ a, a < 9 → ∀ b, b < 9 → a ≠ b → (TX9 a).2.1 ≠ (TX9 b).2.1 := by decide +kernel
theorem tyX9_ok : ∀ k, k < 9 → parseFieldDescriptor (TX9 k).2.2.1 = some (tyX9 k) := by decide +kernel
abbrev cX9_init : ByteArray := prog_1_method_1_code
def yX9_init : MethodName := ⟨RX9, "<init>", "()V"⟩
abbrev cX9_order : ByteArray := prog_1_method_2_code
def yX9_order : MethodName := ⟨RX9, "order", "(IIII)I"⟩
abbrev cX9_cut : ByteArray := prog_1_method_3_code
def yX9_cut : MethodName := ⟨RX9, "cut", "(I)Z"⟩
abbrev cX9_act : ByteArray := prog_1_method_4_code
def yX9_act : MethodName := ⟨RX9, "act", "(IIII)I"⟩
abbrev cX9_run : ByteArray := prog_1_method_5_code
def yX9_run : MethodName := ⟨RX9, "run", "(I)I"⟩
abbrev cX9_back : ByteArray := prog_1_method_6_code
def yX9_back : MethodName := ⟨RX9, "back", "()Z"⟩
abbrev cX9_look : ByteArray := prog_1_method_7_code
def yX9_look : MethodName := ⟨RX9, "look", "(II)I"⟩
abbrev cX9_cell : ByteArray := prog_1_method_8_code
def yX9_cell : MethodName := ⟨RX9, "cell", "(II)J"⟩
abbrev cX9_sort : ByteArray := prog_1_method_9_code
def yX9_sort : MethodName := ⟨RX9, "sort", "(I)I"⟩
abbrev cX9_count : ByteArray := prog_1_method_10_code
def yX9_count : MethodName := ⟨RX9, "count", "(I)I"⟩
abbrev cX9_isWithin : ByteArray := prog_1_method_11_code
def yX9_isWithin : MethodName := ⟨RX9, "isWithin", "(III)Z"⟩
abbrev cX9_isSpindle : ByteArray := prog_1_method_12_code
def yX9_isSpindle : MethodName := ⟨RX9, "isSpindle", "(I)Z"⟩
abbrev cX9_isAsTold : ByteArray := prog_1_method_13_code
def yX9_isAsTold : MethodName := ⟨RX9, "isAsTold", "(IIII)Z"⟩
abbrev cX9_begin : ByteArray := prog_1_method_14_code
def yX9_begin : MethodName := ⟨RX9, "begin", "(IIII)I"⟩
abbrev cX9_rowAtRisk : ByteArray := prog_1_method_15_code
def yX9_rowAtRisk : MethodName := ⟨RX9, "rowAtRisk", "(III)LPinBarrels$Row;"⟩
def RX10 : String := "PinBarrelsModel"
def TX10 : u_T := fun k => match k with
  | 0 => ("PinBarrelsModel", "rows", "I", false)
  | 1 => ("PinBarrelsModel", "kinds", "[I", true)
  | 2 => ("PinBarrelsModel", "lengths", "[I", true)
  | 3 => ("PinBarrelsModel", "froms", "[I", true)
  | 4 => ("PinBarrelsModel", "cells", "I", false)
  | 5 => ("PinBarrelsModel", "values", "[J", true)
  | 6 => ("PinBarrelsModel", "figures", "I", false)
  | 7 => ("PinBarrelsModel", "sorts", "[I", true)
  | 8 => ("PinBarrelsModel", "cranks", "I", false)
  | 9 => ("PinBarrelsModel", "holds", "[I", true)
  | 10 => ("PinBarrelsModel", "which", "[I", true)
  | 11 => ("PinBarrelsModel", "marks", "[I", true)
  | 12 => ("PinBarrelsModel", "orders", "I", false)
  | 13 => ("PinBarrelsModel", "codes", "[I", true)
  | 14 => ("PinBarrelsModel", "as", "[I", true)
  | 15 => ("PinBarrelsModel", "bs", "[I", true)
  | 16 => ("PinBarrelsModel", "cs", "[I", true)
  | 17 => ("PinBarrelsModel", "gone", "[I", true)
  | 18 => ("PinBarrelsModel", "kept", "I", false)
  | 19 => ("PinBarrelsModel", "bookRows", "[I", true)
  | 20 => ("PinBarrelsModel", "bookCells", "[J", true)
  | 21 => ("PinBarrelsModel", "ahead", "[J", true)
  | 22 => ("PinBarrelsModel", "between", "[J", true)
  | 23 => ("PinBarrelsModel", "begun", "I", false)
  | 24 => ("PinBarrelsModel", "refused", "I", false)
  | 25 => ("PinBarrelsModel", "met", "I", false)
  | 26 => ("PinBarrelsModel", "runBegun", "I", false)
  | _ => ("PinBarrelsModel", "endedBy", "I", false)
def tyX10 : Nat → FieldType := fun k => match k with
  | 0 => .int
  | 1 => .array .int
  | 2 => .array .int
  | 3 => .array .int
  | 4 => .int
  | 5 => .array .long
  | 6 => .int
  | 7 => .array .int
  | 8 => .int
  | 9 => .array .int
  | 10 => .array .int
  | 11 => .array .int
  | 12 => .int
  | 13 => .array .int
  | 14 => .array .int
  | 15 => .array .int
  | 16 => .array .int
  | 17 => .array .int
  | 18 => .int
  | 19 => .array .int
  | 20 => .array .long
  | 21 => .array .long
  | 22 => .array .long
  | 23 => .int
  | 24 => .int
  | 25 => .int
  | 26 => .int
  | _ => .int
abbrev wsX100 : List Cond := u_ws RX10 TX10 28
theorem nmX10 : ∀ a, a < 28 → ∀ b, b < 28 → a ≠ b → (TX10 a).2.1 ≠ (TX10 b).2.1 := by decide +kernel
theorem tyX10_ok : ∀ k, k < 28 → parseFieldDescriptor (TX10 k).2.2.1 = some (tyX10 k) := by decide +kernel
abbrev cX10_init : ByteArray := prog_12_method_1_code
def yX10_init : MethodName := ⟨RX10, "<init>", "()V"⟩
abbrev cX10_in : ByteArray := prog_12_method_2_code
def yX10_in : MethodName := ⟨RX10, "in", "(III)Z"⟩
abbrev cX10_isOrder : ByteArray := prog_12_method_3_code
def yX10_isOrder : MethodName := ⟨RX10, "isOrder", "(IIII)Z"⟩
abbrev cX10_order : ByteArray := prog_12_method_4_code
def yX10_order : MethodName := ⟨RX10, "order", "(IIII)I"⟩
abbrev cX10_cut : ByteArray := prog_12_method_5_code
def yX10_cut : MethodName := ⟨RX10, "cut", "(I)Z"⟩
abbrev cX10_rowOn : ByteArray := prog_12_method_6_code
def yX10_rowOn : MethodName := ⟨RX10, "rowOn", "(I)I"⟩
abbrev cX10_roomFor : ByteArray := prog_12_method_7_code
def yX10_roomFor : MethodName := ⟨RX10, "roomFor", "(I)Z"⟩
abbrev cX10_make : ByteArray := prog_12_method_8_code
def yX10_make : MethodName := ⟨RX10, "make", "(II)I"⟩
abbrev cX10_hold : ByteArray := prog_12_method_9_code
def yX10_hold : MethodName := ⟨RX10, "hold", "(III)V"⟩
abbrev cX10_canHave : ByteArray := prog_12_method_10_code
def yX10_canHave : MethodName := ⟨RX10, "canHave", "(II)Z"⟩
abbrev cX10_cutTo : ByteArray := prog_12_method_11_code
def yX10_cutTo : MethodName := ⟨RX10, "cutTo", "(II)J"⟩
abbrev cX10_splice : ByteArray := prog_12_method_12_code
def yX10_splice : MethodName := ⟨RX10, "splice", "(III)I"⟩
abbrev cX10_turn : ByteArray := prog_12_method_13_code
def yX10_turn : MethodName := ⟨RX10, "turn", "(II)I"⟩
abbrev cX10_open : ByteArray := prog_12_method_14_code
def yX10_open : MethodName := ⟨RX10, "open", "(IIZ)I"⟩
abbrev cX10_makeOn : ByteArray := prog_12_method_15_code
def yX10_makeOn : MethodName := ⟨RX10, "makeOn", "(III)I"⟩
abbrev cX10_twin : ByteArray := prog_12_method_16_code
def yX10_twin : MethodName := ⟨RX10, "twin", "(II)I"⟩
abbrev cX10_swap : ByteArray := prog_12_method_17_code
def yX10_swap : MethodName := ⟨RX10, "swap", "(II)V"⟩
abbrev cX10_hang : ByteArray := prog_12_method_18_code
def yX10_hang : MethodName := ⟨RX10, "hang", "(II)I"⟩
abbrev cX10_pin : ByteArray := prog_12_method_19_code
def yX10_pin : MethodName := ⟨RX10, "pin", "(II)I"⟩
abbrev cX10_seat : ByteArray := prog_12_method_20_code
def yX10_seat : MethodName := ⟨RX10, "seat", "(II)I"⟩
abbrev cX10_lift : ByteArray := prog_12_method_21_code
def yX10_lift : MethodName := ⟨RX10, "lift", "(II)I"⟩
abbrev cX10_does : ByteArray := prog_12_method_22_code
def yX10_does : MethodName := ⟨RX10, "does", "(IIII)I"⟩
abbrev cX10_begin : ByteArray := prog_12_method_23_code
def yX10_begin : MethodName := ⟨RX10, "begin", "(IIII)I"⟩
abbrev cX10_write : ByteArray := prog_12_method_24_code
def yX10_write : MethodName := ⟨RX10, "write", "(I)V"⟩
abbrev cX10_act : ByteArray := prog_12_method_25_code
def yX10_act : MethodName := ⟨RX10, "act", "(IIII)I"⟩
abbrev cX10_behind : ByteArray := prog_12_method_26_code
def yX10_behind : MethodName := ⟨RX10, "behind", "(II)I"⟩
abbrev cX10_again : ByteArray := prog_12_method_27_code
def yX10_again : MethodName := ⟨RX10, "again", "(I)I"⟩
abbrev cX10_run : ByteArray := prog_12_method_28_code
def yX10_run : MethodName := ⟨RX10, "run", "(I)I"⟩
abbrev cX10_back : ByteArray := prog_12_method_29_code
def yX10_back : MethodName := ⟨RX10, "back", "()Z"⟩
abbrev cX10_look : ByteArray := prog_12_method_30_code
def yX10_look : MethodName := ⟨RX10, "look", "(II)I"⟩
abbrev cX10_first : ByteArray := prog_12_method_31_code
def yX10_first : MethodName := ⟨RX10, "first", "(I)I"⟩
abbrev cX10_cell : ByteArray := prog_12_method_32_code
def yX10_cell : MethodName := ⟨RX10, "cell", "(II)J"⟩
abbrev cX10_sort : ByteArray := prog_12_method_33_code
def yX10_sort : MethodName := ⟨RX10, "sort", "(I)I"⟩
abbrev cX10_count : ByteArray := prog_12_method_34_code
def yX10_count : MethodName := ⟨RX10, "count", "(I)I"⟩
def RJxe99ae : String := "java/lang/Double"
def TJxe99ae : u_T := fun k => match k with
  | _ => ("", "", "", false)
def tyJxe99ae : Nat → FieldType := fun k => match k with
  | _ => .int
abbrev wsJxe99ae0 : List Cond := u_ws RJxe99ae TJxe99ae 0
theorem nmJxe99ae : ∀ a, a < 0 → ∀ b, b < 0 → a ≠ b → (TJxe99ae a).2.1 ≠ (TJxe99ae b).2.1 := by decide +kernel
theorem tyJxe99ae_ok : ∀ k, k < 0 → parseFieldDescriptor (TJxe99ae k).2.2.1 = some (tyJxe99ae k) := by decide +kernel
abbrev cJxe99ae_isNaN_b9ae7 : ByteArray := prog_13_method_6_code
def yJxe99ae_isNaN_b9ae7 : MethodName := ⟨RJxe99ae, "isNaN", "(D)Z"⟩
abbrev cJxe99ae_doubleToLongBits_ccdee : ByteArray := prog_13_method_23_code
def yJxe99ae_doubleToLongBits_ccdee : MethodName := ⟨RJxe99ae, "doubleToLongBits", "(D)J"⟩
def RJxf58ca : String := "java/lang/Float"
def TJxf58ca : u_T := fun k => match k with
  | _ => ("", "", "", false)
def tyJxf58ca : Nat → FieldType := fun k => match k with
  | _ => .int
abbrev wsJxf58ca0 : List Cond := u_ws RJxf58ca TJxf58ca 0
theorem nmJxf58ca : ∀ a, a < 0 → ∀ b, b < 0 → a ≠ b → (TJxf58ca a).2.1 ≠ (TJxf58ca b).2.1 := by decide +kernel
theorem tyJxf58ca_ok : ∀ k, k < 0 → parseFieldDescriptor (TJxf58ca k).2.2.1 = some (tyJxf58ca k) := by decide +kernel
abbrev cJxf58ca_isNaN_12338 : ByteArray := prog_14_method_6_code
def yJxf58ca_isNaN_12338 : MethodName := ⟨RJxf58ca, "isNaN", "(F)Z"⟩
abbrev cJxf58ca_floatToIntBits_5c35a : ByteArray := prog_14_method_24_code
def yJxf58ca_floatToIntBits_5c35a : MethodName := ⟨RJxf58ca, "floatToIntBits", "(F)I"⟩
def RJ9 : String := "java/lang/Math"
def TJ9 : u_T := fun k => match k with
  | _ => ("", "", "", false)
def tyJ9 : Nat → FieldType := fun k => match k with
  | _ => .int
abbrev wsJ90 : List Cond := u_ws RJ9 TJ9 0
theorem nmJ9 : ∀ a, a < 0 → ∀ b, b < 0 → a ≠ b → (TJ9 a).2.1 ≠ (TJ9 b).2.1 := by decide +kernel
theorem tyJ9_ok : ∀ k, k < 0 → parseFieldDescriptor (TJ9 k).2.2.1 = some (tyJ9 k) := by decide +kernel
abbrev cJ9_floorMod_7cf53 : ByteArray := prog_15_method_50_code
def yJ9_floorMod_7cf53 : MethodName := ⟨RJ9, "floorMod", "(II)I"⟩
abbrev cJ9_abs_067f4 : ByteArray := prog_15_method_61_code
def yJ9_abs_067f4 : MethodName := ⟨RJ9, "abs", "(J)J"⟩
abbrev cJ9_max_7cf53 : ByteArray := prog_15_method_65_code
def yJ9_max_7cf53 : MethodName := ⟨RJ9, "max", "(II)I"⟩
abbrev cJ9_min_7cf53 : ByteArray := prog_15_method_69_code
def yJ9_min_7cf53 : MethodName := ⟨RJ9, "min", "(II)I"⟩
def RJ10 : String := "java/lang/System"
def TJ10 : u_T := fun k => match k with
  | _ => ("", "", "", false)
def tyJ10 : Nat → FieldType := fun k => match k with
  | _ => .int
abbrev wsJ100 : List Cond := u_ws RJ10 TJ10 0
theorem nmJ10 : ∀ a, a < 0 → ∀ b, b < 0 → a ≠ b → (TJ10 a).2.1 ≠ (TJ10 b).2.1 := by decide +kernel
theorem tyJ10_ok : ∀ k, k < 0 → parseFieldDescriptor (TJ10 k).2.2.1 = some (tyJ10 k) := by decide +kernel
def RL : String := "PinBarrelsLaw"
abbrev cL_law : ByteArray := code
def yL_law : MethodName := ⟨RL, "law", "([I)Z"⟩
abbrev vwCl : List vw_C := [(RX0, TX0, 4), (RX1, TX1, 4), (RX2, TX2, 0), (RX3, TX3, 2), (RX5, TX5, 2), (RX6, TX6, 4), (RX8, TX8, 6), (RX9, TX9, 9), (RX10, TX10, 28)]
