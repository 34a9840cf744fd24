/-- the words that a callee keeps -/
def TB : List Cond := lw_tbl.filter goodWord
theorem tb_of {w : Cond} (i : Nat) (h : lw_tbl[i]? = some w) (g : goodWord w = true) : w ∈ TB := List.mem_filter.mpr ⟨List.mem_of_getElem? h, g⟩
theorem tb_good : GoodIn TB TB := fun _ h => ⟨h, good_of_word (List.mem_filter.mp h).2⟩
abbrev wq (y : MethodName) (c : ByteArray) (n : Nat) (r : Option FieldType) : List Cond := Cond.code y c n r :: TB
theorem tb_wq {y : MethodName} {c : ByteArray} {n : Nat} {r : Option FieldType} {c0 : Cond} (h : Cond.code y c n r ∈ TB) : GoodIn (c0 :: TB) (wq y c n r) := fun w hw => by
  rcases List.mem_cons.mp hw with e | e
  · subst e
    exact ⟨List.mem_cons_of_mem _ h, Or.inl rfl⟩
  · exact ⟨List.mem_cons_of_mem _ e, (tb_good w e).2⟩
theorem tb_V {y : MethodName} {c : ByteArray} {n idx : Nat} {r : Option FieldType} {c0 : Cond} {own C : String} (h : Cond.code y c n r ∈ TB) (h1 : Cond.methodLink own idx y ∈ TB) (h2 : Cond.instanceMethod y ∈ TB) (h3 : Cond.selects C y y ∈ TB) (h4 : Cond.initialized C ∈ TB) : GoodIn (c0 :: TB) (wsV own idx C y (wq y c n r)) := fun w hw => by
  rcases List.mem_append.mp hw with e | e
  · simp only [List.mem_cons, List.not_mem_nil, or_false] at e
    rcases e with e | e | e | e <;> subst e
    · exact ⟨List.mem_cons_of_mem _ h1, (tb_good _ h1).2⟩
    · exact ⟨List.mem_cons_of_mem _ h2, (tb_good _ h2).2⟩
    · exact ⟨List.mem_cons_of_mem _ h3, (tb_good _ h3).2⟩
    · exact ⟨List.mem_cons_of_mem _ h4, (tb_good _ h4).2⟩
  · exact tb_wq h w e
theorem tb_S {y : MethodName} {c : ByteArray} {n idx : Nat} {r : Option FieldType} {c0 : Cond} {own : String} (h : Cond.code y c n r ∈ TB) (h1 : Cond.methodLink own idx y ∈ TB) (h2 : Cond.static y ∈ TB) (h4 : Cond.initialized y.cls ∈ TB) : GoodIn (c0 :: TB) (va_wsS own idx y (wq y c n r)) := fun w hw => by
  rcases List.mem_append.mp hw with e | e
  · simp only [List.mem_cons, List.not_mem_nil, or_false] at e
    rcases e with e | e | e <;> subst e
    · exact ⟨List.mem_cons_of_mem _ h1, (tb_good _ h1).2⟩
    · exact ⟨List.mem_cons_of_mem _ h2, (tb_good _ h2).2⟩
    · exact ⟨List.mem_cons_of_mem _ h4, (tb_good _ h4).2⟩
  · exact tb_wq h w e
theorem tb_lay {C : String} {T : u_T} {N : Nat} (h : ∀ k, k < N → u_lay C T k ∈ TB) : ∀ w ∈ u_ws C T N, w ∈ TB := fun w hw => by
  obtain ⟨k, hk, rfl⟩ := List.mem_map.mp hw
  exact h k (List.mem_range.mp hk)
theorem tw_0 : Cond.selects RX9 yX9_begin yX9_begin ∈ TB := tb_of 0 (by decide +kernel) rfl
theorem tw_1 : Cond.selects RX9 yX9_rowAtRisk yX9_rowAtRisk ∈ TB := tb_of 1 (by decide +kernel) rfl
theorem tw_2 : Cond.selects RX0 yX0_splice yX0_splice ∈ TB := tb_of 2 (by decide +kernel) rfl
theorem tw_3 : Cond.selects RX0 yX0_howManyFit yX0_howManyFit ∈ TB := tb_of 3 (by decide +kernel) rfl
theorem tw_4 : Cond.selects RX0 yX0_turn yX0_turn ∈ TB := tb_of 4 (by decide +kernel) rfl
theorem tw_5 : Cond.selects RX0 yX0_open yX0_open ∈ TB := tb_of 5 (by decide +kernel) rfl
theorem tw_6 : Cond.selects RX0 yX0_refusalOfPlaces yX0_refusalOfPlaces ∈ TB := tb_of 6 (by decide +kernel) rfl
theorem tw_7 : Cond.selects RX5 yX5_empty yX5_empty ∈ TB := tb_of 7 (by decide +kernel) rfl
theorem tw_8 : Cond.selects RX0 yX0_shut yX0_shut ∈ TB := tb_of 8 (by decide +kernel) rfl
theorem tw_9 : Cond.selects RX0 yX0_make yX0_make ∈ TB := tb_of 9 (by decide +kernel) rfl
theorem tw_10 : Cond.selects RX0 yX0_twin yX0_twin ∈ TB := tb_of 10 (by decide +kernel) rfl
theorem tw_11 : Cond.selects RX0 yX0_swap yX0_swap ∈ TB := tb_of 11 (by decide +kernel) rfl
theorem tw_12 : Cond.selects RX0 yX0_hang yX0_hang ∈ TB := tb_of 12 (by decide +kernel) rfl
theorem tw_13 : Cond.selects RX0 yX0_pin yX0_pin ∈ TB := tb_of 13 (by decide +kernel) rfl
theorem tw_14 : Cond.selects RX0 yX0_seat yX0_seat ∈ TB := tb_of 14 (by decide +kernel) rfl
theorem tw_15 : Cond.selects RX0 yX0_lift yX0_lift ∈ TB := tb_of 15 (by decide +kernel) rfl
theorem tw_16 : Cond.selects RX8 yX8_isWhen yX8_isWhen ∈ TB := tb_of 16 (by decide +kernel) rfl
theorem tw_17 : Cond.selects RX10 yX10_begin yX10_begin ∈ TB := tb_of 17 (by decide +kernel) rfl
theorem tw_18 : Cond.selects RX10 yX10_rowOn yX10_rowOn ∈ TB := tb_of 18 (by decide +kernel) rfl
theorem tw_19 : Cond.selects RX10 yX10_does yX10_does ∈ TB := tb_of 19 (by decide +kernel) rfl
theorem tw_20 : Cond.selects RX10 yX10_splice yX10_splice ∈ TB := tb_of 20 (by decide +kernel) rfl
theorem tw_21 : Cond.selects RX10 yX10_canHave yX10_canHave ∈ TB := tb_of 21 (by decide +kernel) rfl
theorem tw_22 : Cond.selects RX10 yX10_turn yX10_turn ∈ TB := tb_of 22 (by decide +kernel) rfl
theorem tw_23 : Cond.selects RX10 yX10_open yX10_open ∈ TB := tb_of 23 (by decide +kernel) rfl
theorem tw_24 : Cond.selects RX10 yX10_makeOn yX10_makeOn ∈ TB := tb_of 24 (by decide +kernel) rfl
theorem tw_25 : Cond.selects RX10 yX10_roomFor yX10_roomFor ∈ TB := tb_of 25 (by decide +kernel) rfl
theorem tw_26 : Cond.selects RX10 yX10_make yX10_make ∈ TB := tb_of 26 (by decide +kernel) rfl
theorem tw_27 : Cond.selects RX10 yX10_hold yX10_hold ∈ TB := tb_of 27 (by decide +kernel) rfl
theorem tw_28 : Cond.selects RX10 yX10_twin yX10_twin ∈ TB := tb_of 28 (by decide +kernel) rfl
theorem tw_29 : Cond.selects RX10 yX10_swap yX10_swap ∈ TB := tb_of 29 (by decide +kernel) rfl
theorem tw_30 : Cond.selects RX10 yX10_hang yX10_hang ∈ TB := tb_of 30 (by decide +kernel) rfl
theorem tw_31 : Cond.selects RX10 yX10_pin yX10_pin ∈ TB := tb_of 31 (by decide +kernel) rfl
theorem tw_32 : Cond.selects RX10 yX10_seat yX10_seat ∈ TB := tb_of 32 (by decide +kernel) rfl
theorem tw_33 : Cond.selects RX10 yX10_lift yX10_lift ∈ TB := tb_of 33 (by decide +kernel) rfl
theorem tw_34 : Cond.selects RX10 yX10_write yX10_write ∈ TB := tb_of 34 (by decide +kernel) rfl
theorem tw_35 : Cond.selects RX10 yX10_again yX10_again ∈ TB := tb_of 35 (by decide +kernel) rfl
theorem tw_36 : Cond.selects RX10 yX10_behind yX10_behind ∈ TB := tb_of 36 (by decide +kernel) rfl
theorem tw_37 : Cond.selects RX10 yX10_first yX10_first ∈ TB := tb_of 37 (by decide +kernel) rfl
theorem tw_38 : Cond.initialized RL ∈ TB := tb_of 38 (by decide +kernel) rfl
theorem tw_39 : Cond.initialized RX9 ∈ TB := tb_of 39 (by decide +kernel) rfl
theorem tw_40 : Cond.initialized RX0 ∈ TB := tb_of 40 (by decide +kernel) rfl
theorem tw_41 : Cond.initialized RX6 ∈ TB := tb_of 41 (by decide +kernel) rfl
theorem tw_42 : Cond.initialized RX8 ∈ TB := tb_of 42 (by decide +kernel) rfl
theorem tw_43 : Cond.initialized RX1 ∈ TB := tb_of 43 (by decide +kernel) rfl
theorem tw_44 : Cond.initialized RX10 ∈ TB := tb_of 44 (by decide +kernel) rfl
theorem tw_45 : Cond.initialized RJ10 ∈ TB := tb_of 45 (by decide +kernel) rfl
theorem tw_46 : Cond.initialized RJ9 ∈ TB := tb_of 46 (by decide +kernel) rfl
theorem tw_47 : Cond.initialized RX7 ∈ TB := tb_of 47 (by decide +kernel) rfl
theorem tw_48 : Cond.initialized RX5 ∈ TB := tb_of 48 (by decide +kernel) rfl
theorem tw_49 : Cond.initialized RX2 ∈ TB := tb_of 49 (by decide +kernel) rfl
theorem tw_50 : Cond.initialized RX3 ∈ TB := tb_of 50 (by decide +kernel) rfl
theorem tw_51 : Cond.initialized RX4 ∈ TB := tb_of 51 (by decide +kernel) rfl
theorem tw_52 : Cond.initialized RJxf58ca ∈ TB := tb_of 52 (by decide +kernel) rfl
theorem tw_53 : Cond.initialized RJxe99ae ∈ TB := tb_of 53 (by decide +kernel) rfl
theorem tw_54 : Cond.classLink RL 7 RX9 ∈ TB := tb_of 54 (by decide +kernel) rfl
theorem tw_55 : Cond.instantiable RX9 9 ∈ TB := tb_of 55 (by decide +kernel) rfl
theorem tw_56 : Cond.methodLink RL 9 yX9_init ∈ TB := tb_of 56 (by decide +kernel) rfl
theorem tw_57 : Cond.instanceMethod yX9_init ∈ TB := tb_of 57 (by decide +kernel) rfl
set_option maxRecDepth 20000 in
theorem tw_58 : Cond.code yX9_init cX9_init 1 none ∈ TB := tb_of 58 rfl rfl
theorem tw_59 : Cond.methodLink RX9 3 objectInit ∈ TB := tb_of 59 (by decide +kernel) rfl
theorem tw_60 : Cond.instanceMethod objectInit ∈ TB := tb_of 60 (by decide +kernel) rfl
set_option maxRecDepth 20000 in
theorem tw_61 : Cond.code objectInit ⟨#[0xb1]⟩ 1 none ∈ TB := tb_of 61 rfl rfl
theorem tw_62 : Cond.classLink RX9 9 RX0 ∈ TB := tb_of 62 (by decide +kernel) rfl
theorem tw_63 : Cond.instantiable RX0 4 ∈ TB := tb_of 63 (by decide +kernel) rfl
theorem tw_65 : Cond.instanceMethod yX0_init ∈ TB := tb_of 65 (by decide +kernel) rfl
set_option maxRecDepth 20000 in
theorem tw_66 : Cond.code yX0_init cX0_init 1 none ∈ TB := tb_of 66 rfl rfl
theorem tw_67 : Cond.methodLink RX0 3 objectInit ∈ TB := tb_of 67 (by decide +kernel) rfl
theorem tw_68 : Cond.classLink RX0 9 RX7 ∈ TB := tb_of 68 (by decide +kernel) rfl
theorem tw_70 : Cond.classLink RX0 25 RX6 ∈ TB := tb_of 70 (by decide +kernel) rfl
theorem tw_71 : Cond.instantiable RX6 4 ∈ TB := tb_of 71 (by decide +kernel) rfl
theorem tw_73 : Cond.instanceMethod yX6_init ∈ TB := tb_of 73 (by decide +kernel) rfl
set_option maxRecDepth 20000 in
theorem tw_74 : Cond.code yX6_init cX6_init 1 none ∈ TB := tb_of 74 rfl rfl
theorem tw_75 : Cond.methodLink RX6 3 objectInit ∈ TB := tb_of 75 (by decide +kernel) rfl
theorem tw_76 : Cond.classLink RX6 9 RX3 ∈ TB := tb_of 76 (by decide +kernel) rfl
theorem tw_78 : Cond.fieldLink RX6 11 "PinBarrels$Stock" "figures" "[LPinBarrels$Figure;" ∈ TB := tb_of 78 (by decide +kernel) rfl
theorem tw_79 : Cond.fieldLink RX6 24 "PinBarrels$Stock" "figuresMade" "I" ∈ TB := tb_of 79 (by decide +kernel) rfl
theorem tw_81 : Cond.fieldLink RX6 17 "PinBarrels$Stock" "rowsMade" "I" ∈ TB := tb_of 81 (by decide +kernel) rfl
theorem tw_83 : Cond.fieldLink RX6 21 "PinBarrels$Stock" "cellsMade" "I" ∈ TB := tb_of 83 (by decide +kernel) rfl
theorem tw_94 : Cond.arrayClass .int ∈ TB := tb_of 94 (by decide +kernel) rfl
theorem tw_95 : Cond.arrayClass .long ∈ TB := tb_of 95 (by decide +kernel) rfl
theorem tw_96 : Cond.fieldLink RX0 11 "PinBarrels$Bench" "held" "[LPinBarrels$Thing;" ∈ TB := tb_of 96 (by decide +kernel) rfl
theorem tw_98 : Cond.fieldLink RX0 17 "PinBarrels$Bench" "marks" "[I" ∈ TB := tb_of 98 (by decide +kernel) rfl
theorem tw_100 : Cond.fieldLink RX0 21 "PinBarrels$Bench" "between" "[J" ∈ TB := tb_of 100 (by decide +kernel) rfl
theorem tw_101 : Cond.fieldLink RX0 28 "PinBarrels$Bench" "stock" "LPinBarrels$Stock;" ∈ TB := tb_of 101 (by decide +kernel) rfl
theorem tw_112 : Cond.classLink RX9 16 RX8 ∈ TB := tb_of 112 (by decide +kernel) rfl
theorem tw_113 : Cond.instantiable RX8 6 ∈ TB := tb_of 113 (by decide +kernel) rfl
theorem tw_115 : Cond.instanceMethod yX8_init ∈ TB := tb_of 115 (by decide +kernel) rfl
set_option maxRecDepth 20000 in
theorem tw_116 : Cond.code yX8_init cX8_init 1 none ∈ TB := tb_of 116 rfl rfl
theorem tw_117 : Cond.methodLink RX8 3 objectInit ∈ TB := tb_of 117 (by decide +kernel) rfl
theorem tw_118 : Cond.fieldLink RX8 9 "PinBarrels$Tune" "codes" "[I" ∈ TB := tb_of 118 (by decide +kernel) rfl
theorem tw_120 : Cond.fieldLink RX8 15 "PinBarrels$Tune" "as" "[I" ∈ TB := tb_of 120 (by decide +kernel) rfl
theorem tw_122 : Cond.fieldLink RX8 18 "PinBarrels$Tune" "bs" "[I" ∈ TB := tb_of 122 (by decide +kernel) rfl
theorem tw_124 : Cond.fieldLink RX8 21 "PinBarrels$Tune" "cs" "[I" ∈ TB := tb_of 124 (by decide +kernel) rfl
theorem tw_126 : Cond.fieldLink RX8 24 "PinBarrels$Tune" "timesAgain" "[I" ∈ TB := tb_of 126 (by decide +kernel) rfl
theorem tw_127 : Cond.fieldLink RX8 27 "PinBarrels$Tune" "length" "I" ∈ TB := tb_of 127 (by decide +kernel) rfl
theorem tw_142 : Cond.classLink RX9 23 RX1 ∈ TB := tb_of 142 (by decide +kernel) rfl
theorem tw_143 : Cond.instantiable RX1 4 ∈ TB := tb_of 143 (by decide +kernel) rfl
theorem tw_145 : Cond.instanceMethod yX1_init ∈ TB := tb_of 145 (by decide +kernel) rfl
set_option maxRecDepth 20000 in
theorem tw_146 : Cond.code yX1_init cX1_init 1 none ∈ TB := tb_of 146 rfl rfl
theorem tw_147 : Cond.methodLink RX1 3 objectInit ∈ TB := tb_of 147 (by decide +kernel) rfl
theorem tw_148 : Cond.classLink RX1 9 RX5 ∈ TB := tb_of 148 (by decide +kernel) rfl
theorem tw_150 : Cond.fieldLink RX1 11 "PinBarrels$Book" "rows" "[LPinBarrels$Row;" ∈ TB := tb_of 150 (by decide +kernel) rfl
theorem tw_151 : Cond.fieldLink RX1 17 "PinBarrels$Book" "pages" "[J" ∈ TB := tb_of 151 (by decide +kernel) rfl
theorem tw_152 : Cond.fieldLink RX1 34 "PinBarrels$Book" "kept" "I" ∈ TB := tb_of 152 (by decide +kernel) rfl
theorem tw_154 : Cond.fieldLink RX1 21 "PinBarrels$Book" "next" "I" ∈ TB := tb_of 154 (by decide +kernel) rfl
theorem tw_164 : Cond.fieldLink RX9 12 "PinBarrels" "bench" "LPinBarrels$Bench;" ∈ TB := tb_of 164 (by decide +kernel) rfl
theorem tw_165 : Cond.fieldLink RX9 19 "PinBarrels" "tune" "LPinBarrels$Tune;" ∈ TB := tb_of 165 (by decide +kernel) rfl
theorem tw_166 : Cond.fieldLink RX9 26 "PinBarrels" "book" "LPinBarrels$Book;" ∈ TB := tb_of 166 (by decide +kernel) rfl
theorem tw_167 : Cond.fieldLink RX9 30 "PinBarrels" "ahead" "[J" ∈ TB := tb_of 167 (by decide +kernel) rfl
theorem tw_168 : Cond.fieldLink RX9 49 "PinBarrels" "begun" "I" ∈ TB := tb_of 168 (by decide +kernel) rfl
theorem tw_169 : Cond.fieldLink RX9 148 "PinBarrels" "refusals" "I" ∈ TB := tb_of 169 (by decide +kernel) rfl
theorem tw_170 : Cond.fieldLink RX9 82 "PinBarrels" "metRefusals" "I" ∈ TB := tb_of 170 (by decide +kernel) rfl
theorem tw_171 : Cond.fieldLink RX9 58 "PinBarrels" "begunInRun" "I" ∈ TB := tb_of 171 (by decide +kernel) rfl
theorem tw_172 : Cond.fieldLink RX9 34 "PinBarrels" "enderOfRun" "I" ∈ TB := tb_of 172 (by decide +kernel) rfl
theorem tw_192 : Cond.methodLink RL 13 yX9_order ∈ TB := tb_of 192 (by decide +kernel) rfl
theorem tw_193 : Cond.instanceMethod yX9_order ∈ TB := tb_of 193 (by decide +kernel) rfl
theorem tw_194 : Cond.selects RX9 yX9_order yX9_order ∈ TB := tb_of 194 (by decide +kernel) rfl
set_option maxRecDepth 20000 in
theorem tw_195 : Cond.code yX9_order cX9_order 5 (some .int) ∈ TB := tb_of 195 rfl rfl
theorem tw_196 : Cond.methodLink RX9 38 yX9_isAsTold ∈ TB := tb_of 196 (by decide +kernel) rfl
theorem tw_197 : Cond.static yX9_isAsTold ∈ TB := tb_of 197 (by decide +kernel) rfl
set_option maxRecDepth 20000 in
theorem tw_198 : Cond.code yX9_isAsTold cX9_isAsTold 4 (some .boolean) ∈ TB := tb_of 198 rfl rfl
theorem tw_199 : Cond.methodLink RX9 89 yX9_isSpindle ∈ TB := tb_of 199 (by decide +kernel) rfl
theorem tw_200 : Cond.static yX9_isSpindle ∈ TB := tb_of 200 (by decide +kernel) rfl
set_option maxRecDepth 20000 in
theorem tw_201 : Cond.code yX9_isSpindle cX9_isSpindle 1 (some .boolean) ∈ TB := tb_of 201 rfl rfl
theorem tw_202 : Cond.methodLink RX9 151 yX9_isWithin ∈ TB := tb_of 202 (by decide +kernel) rfl
theorem tw_203 : Cond.static yX9_isWithin ∈ TB := tb_of 203 (by decide +kernel) rfl
set_option maxRecDepth 20000 in
theorem tw_204 : Cond.code yX9_isWithin cX9_isWithin 3 (some .boolean) ∈ TB := tb_of 204 rfl rfl
theorem tw_205 : Cond.methodLink RX9 45 yX8_append ∈ TB := tb_of 205 (by decide +kernel) rfl
theorem tw_206 : Cond.instanceMethod yX8_append ∈ TB := tb_of 206 (by decide +kernel) rfl
theorem tw_207 : Cond.selects RX8 yX8_append yX8_append ∈ TB := tb_of 207 (by decide +kernel) rfl
set_option maxRecDepth 20000 in
theorem tw_208 : Cond.code yX8_append cX8_append 6 (some .int) ∈ TB := tb_of 208 rfl rfl
theorem tw_209 : Cond.methodLink RL 18 yX9_cut ∈ TB := tb_of 209 (by decide +kernel) rfl
theorem tw_210 : Cond.instanceMethod yX9_cut ∈ TB := tb_of 210 (by decide +kernel) rfl
theorem tw_211 : Cond.selects RX9 yX9_cut yX9_cut ∈ TB := tb_of 211 (by decide +kernel) rfl
set_option maxRecDepth 20000 in
theorem tw_212 : Cond.code yX9_cut cX9_cut 2 (some .boolean) ∈ TB := tb_of 212 rfl rfl
theorem tw_213 : Cond.methodLink RL 23 yX9_act ∈ TB := tb_of 213 (by decide +kernel) rfl
theorem tw_214 : Cond.instanceMethod yX9_act ∈ TB := tb_of 214 (by decide +kernel) rfl
theorem tw_215 : Cond.selects RX9 yX9_act yX9_act ∈ TB := tb_of 215 (by decide +kernel) rfl
set_option maxRecDepth 20000 in
theorem tw_216 : Cond.code yX9_act cX9_act 5 (some .int) ∈ TB := tb_of 216 rfl rfl
theorem tw_217 : Cond.methodLink RX9 52 yX9_begin ∈ TB := tb_of 217 (by decide +kernel) rfl
theorem tw_219 : Cond.instanceMethod yX9_begin ∈ TB := tb_of 219 (by decide +kernel) rfl
set_option maxRecDepth 20000 in
theorem tw_220 : Cond.code yX9_begin cX9_begin 7 (some .int) ∈ TB := tb_of 220 rfl rfl
theorem tw_221 : Cond.methodLink RX9 155 yX9_rowAtRisk ∈ TB := tb_of 221 (by decide +kernel) rfl
theorem tw_223 : Cond.instanceMethod yX9_rowAtRisk ∈ TB := tb_of 223 (by decide +kernel) rfl
set_option maxRecDepth 20000 in
theorem tw_224 : Cond.code yX9_rowAtRisk cX9_rowAtRisk 7 (some (.object "PinBarrels$Row")) ∈ TB := tb_of 224 rfl rfl
theorem tw_225 : Cond.classLink RX9 113 RX5 ∈ TB := tb_of 225 (by decide +kernel) rfl
theorem tw_226 : Cond.methodLink RX9 159 yX5_copyTo ∈ TB := tb_of 226 (by decide +kernel) rfl
theorem tw_227 : Cond.instanceMethod yX5_copyTo ∈ TB := tb_of 227 (by decide +kernel) rfl
theorem tw_228 : Cond.selects RX5 yX5_copyTo yX5_copyTo ∈ TB := tb_of 228 (by decide +kernel) rfl
set_option maxRecDepth 20000 in
theorem tw_229 : Cond.code yX5_copyTo cX5_copyTo 2 none ∈ TB := tb_of 229 rfl rfl
theorem tw_230 : Cond.methodLink RX5 33 arraycopyName ∈ TB := tb_of 230 (by decide +kernel) rfl
theorem tw_231 : Cond.static arraycopyName ∈ TB := tb_of 231 (by decide +kernel) rfl
theorem tw_232 : Cond.native arraycopyName ∈ TB := tb_of 232 (by decide +kernel) rfl
theorem tw_233 : Cond.methodLink RX9 163 yX0_perform ∈ TB := tb_of 233 (by decide +kernel) rfl
theorem tw_234 : Cond.instanceMethod yX0_perform ∈ TB := tb_of 234 (by decide +kernel) rfl
theorem tw_235 : Cond.selects RX0 yX0_perform yX0_perform ∈ TB := tb_of 235 (by decide +kernel) rfl
set_option maxRecDepth 20000 in
theorem tw_236 : Cond.code yX0_perform cX0_perform 5 (some .int) ∈ TB := tb_of 236 rfl rfl
theorem tw_237 : Cond.methodLink RX0 32 yX0_splice ∈ TB := tb_of 237 (by decide +kernel) rfl
theorem tw_239 : Cond.instanceMethod yX0_splice ∈ TB := tb_of 239 (by decide +kernel) rfl
set_option maxRecDepth 20000 in
theorem tw_240 : Cond.code yX0_splice cX0_splice 7 (some .int) ∈ TB := tb_of 240 rfl rfl
theorem tw_241 : Cond.classLink RX0 67 RX5 ∈ TB := tb_of 241 (by decide +kernel) rfl
theorem tw_242 : Cond.methodLink RX0 69 yX5_isAlike ∈ TB := tb_of 242 (by decide +kernel) rfl
theorem tw_243 : Cond.instanceMethod yX5_isAlike ∈ TB := tb_of 243 (by decide +kernel) rfl
theorem tw_244 : Cond.selects RX5 yX5_isAlike yX5_isAlike ∈ TB := tb_of 244 (by decide +kernel) rfl
set_option maxRecDepth 20000 in
theorem tw_245 : Cond.code yX5_isAlike cX5_isAlike 2 (some .boolean) ∈ TB := tb_of 245 rfl rfl
theorem tw_246 : Cond.methodLink RX5 19 yX5_isOfFigures ∈ TB := tb_of 246 (by decide +kernel) rfl
theorem tw_247 : Cond.instanceMethod yX5_isOfFigures ∈ TB := tb_of 247 (by decide +kernel) rfl
theorem tw_248 : Cond.selects RX5 yX5_isOfFigures yX5_isOfFigures ∈ TB := tb_of 248 (by decide +kernel) rfl
set_option maxRecDepth 20000 in
theorem tw_249 : Cond.code yX5_isOfFigures cX5_isOfFigures 1 (some .boolean) ∈ TB := tb_of 249 rfl rfl
theorem tw_250 : Cond.methodLink RX0 73 yX5_hasPlaces ∈ TB := tb_of 250 (by decide +kernel) rfl
theorem tw_251 : Cond.instanceMethod yX5_hasPlaces ∈ TB := tb_of 251 (by decide +kernel) rfl
theorem tw_252 : Cond.selects RX5 yX5_hasPlaces yX5_hasPlaces ∈ TB := tb_of 252 (by decide +kernel) rfl
set_option maxRecDepth 20000 in
theorem tw_253 : Cond.code yX5_hasPlaces cX5_hasPlaces 3 (some .boolean) ∈ TB := tb_of 253 rfl rfl
theorem tw_254 : Cond.methodLink RX0 77 yX0_howManyFit ∈ TB := tb_of 254 (by decide +kernel) rfl
theorem tw_256 : Cond.instanceMethod yX0_howManyFit ∈ TB := tb_of 256 (by decide +kernel) rfl
set_option maxRecDepth 20000 in
theorem tw_257 : Cond.code yX0_howManyFit cX0_howManyFit 6 (some .int) ∈ TB := tb_of 257 rfl rfl
theorem tw_258 : Cond.methodLink RX0 90 yX5_isOfFigures ∈ TB := tb_of 258 (by decide +kernel) rfl
theorem tw_259 : Cond.methodLink RX0 94 yX6_sortOf ∈ TB := tb_of 259 (by decide +kernel) rfl
theorem tw_260 : Cond.instanceMethod yX6_sortOf ∈ TB := tb_of 260 (by decide +kernel) rfl
theorem tw_261 : Cond.selects RX6 yX6_sortOf yX6_sortOf ∈ TB := tb_of 261 (by decide +kernel) rfl
set_option maxRecDepth 20000 in
theorem tw_262 : Cond.code yX6_sortOf cX6_sortOf 4 (some .int) ∈ TB := tb_of 262 rfl rfl
theorem tw_263 : Cond.methodLink RX6 33 yX6_figureOf ∈ TB := tb_of 263 (by decide +kernel) rfl
theorem tw_264 : Cond.instanceMethod yX6_figureOf ∈ TB := tb_of 264 (by decide +kernel) rfl
theorem tw_265 : Cond.selects RX6 yX6_figureOf yX6_figureOf ∈ TB := tb_of 265 (by decide +kernel) rfl
set_option maxRecDepth 20000 in
theorem tw_266 : Cond.code yX6_figureOf cX6_figureOf 3 (some (.object "PinBarrels$Figure")) ∈ TB := tb_of 266 rfl rfl
theorem tw_267 : Cond.methodLink RX0 98 yX5_canHave ∈ TB := tb_of 267 (by decide +kernel) rfl
theorem tw_268 : Cond.instanceMethod yX5_canHave ∈ TB := tb_of 268 (by decide +kernel) rfl
theorem tw_269 : Cond.selects RX5 yX5_canHave yX5_canHave ∈ TB := tb_of 269 (by decide +kernel) rfl
set_option maxRecDepth 20000 in
theorem tw_270 : Cond.code yX5_canHave cX5_canHave 2 (some .boolean) ∈ TB := tb_of 270 rfl rfl
theorem tw_271 : Cond.methodLink RX0 84 arraycopyName ∈ TB := tb_of 271 (by decide +kernel) rfl
theorem tw_272 : Cond.methodLink RX0 36 yX0_turn ∈ TB := tb_of 272 (by decide +kernel) rfl
theorem tw_274 : Cond.instanceMethod yX0_turn ∈ TB := tb_of 274 (by decide +kernel) rfl
set_option maxRecDepth 20000 in
theorem tw_275 : Cond.code yX0_turn cX0_turn 5 (some .int) ∈ TB := tb_of 275 rfl rfl
theorem tw_276 : Cond.methodLink RX0 102 yX5_turn ∈ TB := tb_of 276 (by decide +kernel) rfl
theorem tw_277 : Cond.instanceMethod yX5_turn ∈ TB := tb_of 277 (by decide +kernel) rfl
theorem tw_278 : Cond.selects RX5 yX5_turn yX5_turn ∈ TB := tb_of 278 (by decide +kernel) rfl
set_option maxRecDepth 20000 in
theorem tw_279 : Cond.code yX5_turn cX5_turn 6 none ∈ TB := tb_of 279 rfl rfl
theorem tw_280 : Cond.methodLink RX5 23 yJ9_floorMod_7cf53 ∈ TB := tb_of 280 (by decide +kernel) rfl
theorem tw_281 : Cond.static yJ9_floorMod_7cf53 ∈ TB := tb_of 281 (by decide +kernel) rfl
set_option maxRecDepth 20000 in
theorem tw_282 : Cond.code yJ9_floorMod_7cf53 cJ9_floorMod_7cf53 3 (some .int) ∈ TB := tb_of 282 rfl rfl
theorem tw_283 : Cond.methodLink RX5 29 yX5_copyTo ∈ TB := tb_of 283 (by decide +kernel) rfl
theorem tw_284 : Cond.methodLink RX0 40 yX0_open ∈ TB := tb_of 284 (by decide +kernel) rfl
theorem tw_286 : Cond.instanceMethod yX0_open ∈ TB := tb_of 286 (by decide +kernel) rfl
set_option maxRecDepth 20000 in
theorem tw_287 : Cond.code yX0_open cX0_open 6 (some .int) ∈ TB := tb_of 287 rfl rfl
theorem tw_288 : Cond.methodLink RX0 105 yX0_refusalOfPlaces ∈ TB := tb_of 288 (by decide +kernel) rfl
theorem tw_290 : Cond.instanceMethod yX0_refusalOfPlaces ∈ TB := tb_of 290 (by decide +kernel) rfl
set_option maxRecDepth 20000 in
theorem tw_291 : Cond.code yX0_refusalOfPlaces cX0_refusalOfPlaces 5 (some .int) ∈ TB := tb_of 291 rfl rfl
theorem tw_292 : Cond.methodLink RX0 108 yX5_open ∈ TB := tb_of 292 (by decide +kernel) rfl
theorem tw_293 : Cond.instanceMethod yX5_open ∈ TB := tb_of 293 (by decide +kernel) rfl
theorem tw_294 : Cond.selects RX5 yX5_open yX5_open ∈ TB := tb_of 294 (by decide +kernel) rfl
set_option maxRecDepth 20000 in
theorem tw_295 : Cond.code yX5_open cX5_open 3 none ∈ TB := tb_of 295 rfl rfl
theorem tw_296 : Cond.methodLink RX5 39 yX5_empty ∈ TB := tb_of 296 (by decide +kernel) rfl
theorem tw_298 : Cond.instanceMethod yX5_empty ∈ TB := tb_of 298 (by decide +kernel) rfl
theorem tw_299 : Cond.instantiable RX5 2 ∈ TB := tb_of 299 (by decide +kernel) rfl
set_option maxRecDepth 20000 in
theorem tw_300 : Cond.code yX5_empty cX5_empty 4 none ∈ TB := tb_of 300 rfl rfl
theorem tw_301 : Cond.methodLink RX0 43 yX0_shut ∈ TB := tb_of 301 (by decide +kernel) rfl
theorem tw_303 : Cond.instanceMethod yX0_shut ∈ TB := tb_of 303 (by decide +kernel) rfl
set_option maxRecDepth 20000 in
theorem tw_304 : Cond.code yX0_shut cX0_shut 6 (some .int) ∈ TB := tb_of 304 rfl rfl
theorem tw_305 : Cond.methodLink RX0 111 yX5_shut ∈ TB := tb_of 305 (by decide +kernel) rfl
theorem tw_306 : Cond.instanceMethod yX5_shut ∈ TB := tb_of 306 (by decide +kernel) rfl
theorem tw_307 : Cond.selects RX5 yX5_shut yX5_shut ∈ TB := tb_of 307 (by decide +kernel) rfl
set_option maxRecDepth 20000 in
theorem tw_308 : Cond.code yX5_shut cX5_shut 3 none ∈ TB := tb_of 308 rfl rfl
theorem tw_309 : Cond.methodLink RX0 46 yX0_make ∈ TB := tb_of 309 (by decide +kernel) rfl
theorem tw_311 : Cond.instanceMethod yX0_make ∈ TB := tb_of 311 (by decide +kernel) rfl
set_option maxRecDepth 20000 in
theorem tw_312 : Cond.code yX0_make cX0_make 4 (some .int) ∈ TB := tb_of 312 rfl rfl
theorem tw_313 : Cond.methodLink RX0 113 yX6_hasRoomForRow ∈ TB := tb_of 313 (by decide +kernel) rfl
theorem tw_314 : Cond.instanceMethod yX6_hasRoomForRow ∈ TB := tb_of 314 (by decide +kernel) rfl
theorem tw_315 : Cond.selects RX6 yX6_hasRoomForRow yX6_hasRoomForRow ∈ TB := tb_of 315 (by decide +kernel) rfl
set_option maxRecDepth 20000 in
theorem tw_316 : Cond.code yX6_hasRoomForRow cX6_hasRoomForRow 2 (some .boolean) ∈ TB := tb_of 316 rfl rfl
theorem tw_317 : Cond.methodLink RX0 116 yX6_makeRow ∈ TB := tb_of 317 (by decide +kernel) rfl
theorem tw_318 : Cond.instanceMethod yX6_makeRow ∈ TB := tb_of 318 (by decide +kernel) rfl
theorem tw_319 : Cond.selects RX6 yX6_makeRow yX6_makeRow ∈ TB := tb_of 319 (by decide +kernel) rfl
set_option maxRecDepth 20000 in
theorem tw_320 : Cond.code yX6_makeRow cX6_makeRow 3 (some (.object "PinBarrels$Row")) ∈ TB := tb_of 320 rfl rfl
theorem tw_321 : Cond.classLink RX6 27 RX5 ∈ TB := tb_of 321 (by decide +kernel) rfl
theorem tw_322 : Cond.methodLink RX6 29 yX5_init ∈ TB := tb_of 322 (by decide +kernel) rfl
theorem tw_323 : Cond.instanceMethod yX5_init ∈ TB := tb_of 323 (by decide +kernel) rfl
set_option maxRecDepth 20000 in
theorem tw_324 : Cond.code yX5_init cX5_init 3 none ∈ TB := tb_of 324 rfl rfl
theorem tw_326 : Cond.instanceMethod yX7_init ∈ TB := tb_of 326 (by decide +kernel) rfl
set_option maxRecDepth 20000 in
theorem tw_327 : Cond.code yX7_init cX7_init 1 none ∈ TB := tb_of 327 rfl rfl
theorem tw_328 : Cond.methodLink RX7 1 objectInit ∈ TB := tb_of 328 (by decide +kernel) rfl
theorem tw_329 : Cond.fieldLink RX5 9 "PinBarrels$Row" "kind" "I" ∈ TB := tb_of 329 (by decide +kernel) rfl
theorem tw_331 : Cond.fieldLink RX5 15 "PinBarrels$Row" "cells" "[J" ∈ TB := tb_of 331 (by decide +kernel) rfl
theorem tw_340 : Cond.methodLink RX0 49 yX0_twin ∈ TB := tb_of 340 (by decide +kernel) rfl
theorem tw_342 : Cond.instanceMethod yX0_twin ∈ TB := tb_of 342 (by decide +kernel) rfl
set_option maxRecDepth 20000 in
theorem tw_343 : Cond.code yX0_twin cX0_twin 5 (some .int) ∈ TB := tb_of 343 rfl rfl
theorem tw_344 : Cond.methodLink RX0 124 yX5_copyTo ∈ TB := tb_of 344 (by decide +kernel) rfl
theorem tw_345 : Cond.methodLink RX0 52 yX0_swap ∈ TB := tb_of 345 (by decide +kernel) rfl
theorem tw_347 : Cond.instanceMethod yX0_swap ∈ TB := tb_of 347 (by decide +kernel) rfl
set_option maxRecDepth 20000 in
theorem tw_348 : Cond.code yX0_swap cX0_swap 4 (some .int) ∈ TB := tb_of 348 rfl rfl
theorem tw_349 : Cond.methodLink RX0 55 yX0_hang ∈ TB := tb_of 349 (by decide +kernel) rfl
theorem tw_351 : Cond.instanceMethod yX0_hang ∈ TB := tb_of 351 (by decide +kernel) rfl
set_option maxRecDepth 20000 in
theorem tw_352 : Cond.code yX0_hang cX0_hang 3 (some .int) ∈ TB := tb_of 352 rfl rfl
theorem tw_353 : Cond.classLink RX0 128 RX2 ∈ TB := tb_of 353 (by decide +kernel) rfl
theorem tw_354 : Cond.instantiable RX2 0 ∈ TB := tb_of 354 (by decide +kernel) rfl
theorem tw_356 : Cond.instanceMethod yX2_init ∈ TB := tb_of 356 (by decide +kernel) rfl
set_option maxRecDepth 20000 in
theorem tw_357 : Cond.code yX2_init cX2_init 1 none ∈ TB := tb_of 357 rfl rfl
theorem tw_360 : Cond.methodLink RX0 131 yX6_hasRoomForFigure ∈ TB := tb_of 360 (by decide +kernel) rfl
theorem tw_361 : Cond.instanceMethod yX6_hasRoomForFigure ∈ TB := tb_of 361 (by decide +kernel) rfl
theorem tw_362 : Cond.selects RX6 yX6_hasRoomForFigure yX6_hasRoomForFigure ∈ TB := tb_of 362 (by decide +kernel) rfl
set_option maxRecDepth 20000 in
theorem tw_363 : Cond.code yX6_hasRoomForFigure cX6_hasRoomForFigure 1 (some .boolean) ∈ TB := tb_of 363 rfl rfl
theorem tw_364 : Cond.methodLink RX0 134 yX6_makeFigure ∈ TB := tb_of 364 (by decide +kernel) rfl
theorem tw_365 : Cond.instanceMethod yX6_makeFigure ∈ TB := tb_of 365 (by decide +kernel) rfl
theorem tw_366 : Cond.selects RX6 yX6_makeFigure yX6_makeFigure ∈ TB := tb_of 366 (by decide +kernel) rfl
set_option maxRecDepth 20000 in
theorem tw_367 : Cond.code yX6_makeFigure cX6_makeFigure 3 (some (.object "PinBarrels$Figure")) ∈ TB := tb_of 367 rfl rfl
theorem tw_368 : Cond.instantiable RX3 2 ∈ TB := tb_of 368 (by decide +kernel) rfl
theorem tw_369 : Cond.methodLink RX6 32 yX3_init ∈ TB := tb_of 369 (by decide +kernel) rfl
theorem tw_370 : Cond.instanceMethod yX3_init ∈ TB := tb_of 370 (by decide +kernel) rfl
set_option maxRecDepth 20000 in
theorem tw_371 : Cond.code yX3_init cX3_init 3 none ∈ TB := tb_of 371 rfl rfl
theorem tw_373 : Cond.fieldLink RX3 9 "PinBarrels$Figure" "sort" "I" ∈ TB := tb_of 373 (by decide +kernel) rfl
theorem tw_376 : Cond.fieldLink RX3 15 "PinBarrels$Figure" "number" "I" ∈ TB := tb_of 376 (by decide +kernel) rfl
theorem tw_383 : Cond.methodLink RX0 58 yX0_pin ∈ TB := tb_of 383 (by decide +kernel) rfl
theorem tw_385 : Cond.instanceMethod yX0_pin ∈ TB := tb_of 385 (by decide +kernel) rfl
set_option maxRecDepth 20000 in
theorem tw_386 : Cond.code yX0_pin cX0_pin 5 (some .int) ∈ TB := tb_of 386 rfl rfl
theorem tw_387 : Cond.methodLink RX0 138 yX5_hasPlace ∈ TB := tb_of 387 (by decide +kernel) rfl
theorem tw_388 : Cond.instanceMethod yX5_hasPlace ∈ TB := tb_of 388 (by decide +kernel) rfl
theorem tw_389 : Cond.selects RX5 yX5_hasPlace yX5_hasPlace ∈ TB := tb_of 389 (by decide +kernel) rfl
set_option maxRecDepth 20000 in
theorem tw_390 : Cond.code yX5_hasPlace cX5_hasPlace 2 (some .boolean) ∈ TB := tb_of 390 rfl rfl
theorem tw_391 : Cond.methodLink RX0 141 yX4_cutToKind ∈ TB := tb_of 391 (by decide +kernel) rfl
theorem tw_392 : Cond.static yX4_cutToKind ∈ TB := tb_of 392 (by decide +kernel) rfl
set_option maxRecDepth 20000 in
theorem tw_393 : Cond.code yX4_cutToKind cX4_cutToKind 2 (some .long) ∈ TB := tb_of 393 rfl rfl
theorem tw_394 : Cond.methodLink RX4 9 yX4_floatBits ∈ TB := tb_of 394 (by decide +kernel) rfl
theorem tw_395 : Cond.static yX4_floatBits ∈ TB := tb_of 395 (by decide +kernel) rfl
set_option maxRecDepth 20000 in
theorem tw_396 : Cond.code yX4_floatBits cX4_floatBits 8 (some .int) ∈ TB := tb_of 396 rfl rfl
theorem tw_397 : Cond.methodLink RX4 19 yJ9_abs_067f4 ∈ TB := tb_of 397 (by decide +kernel) rfl
theorem tw_398 : Cond.static yJ9_abs_067f4 ∈ TB := tb_of 398 (by decide +kernel) rfl
set_option maxRecDepth 20000 in
theorem tw_399 : Cond.code yJ9_abs_067f4 cJ9_abs_067f4 2 (some .long) ∈ TB := tb_of 399 rfl rfl
theorem tw_400 : Cond.methodLink RX4 25 yX4_topBit ∈ TB := tb_of 400 (by decide +kernel) rfl
theorem tw_401 : Cond.static yX4_topBit ∈ TB := tb_of 401 (by decide +kernel) rfl
set_option maxRecDepth 20000 in
theorem tw_402 : Cond.code yX4_topBit cX4_topBit 4 (some .int) ∈ TB := tb_of 402 rfl rfl
theorem tw_403 : Cond.methodLink RX4 29 yX4_shiftedToNearest ∈ TB := tb_of 403 (by decide +kernel) rfl
theorem tw_404 : Cond.static yX4_shiftedToNearest ∈ TB := tb_of 404 (by decide +kernel) rfl
set_option maxRecDepth 20000 in
theorem tw_405 : Cond.code yX4_shiftedToNearest cX4_shiftedToNearest 10 (some .long) ∈ TB := tb_of 405 rfl rfl
theorem tw_406 : Cond.constantLong RX4 33 8388608 ∈ TB := tb_of 406 (by decide +kernel) rfl
theorem tw_407 : Cond.constantLong RX4 35 2147483648 ∈ TB := tb_of 407 (by decide +kernel) rfl
theorem tw_408 : Cond.methodLink RX4 15 yX4_doubleBits ∈ TB := tb_of 408 (by decide +kernel) rfl
theorem tw_409 : Cond.static yX4_doubleBits ∈ TB := tb_of 409 (by decide +kernel) rfl
set_option maxRecDepth 20000 in
theorem tw_410 : Cond.code yX4_doubleBits cX4_doubleBits 8 (some .long) ∈ TB := tb_of 410 rfl rfl
theorem tw_411 : Cond.constantLong RX4 37 1023 ∈ TB := tb_of 411 (by decide +kernel) rfl
theorem tw_412 : Cond.constantLong RX4 39 4503599627370496 ∈ TB := tb_of 412 (by decide +kernel) rfl
theorem tw_413 : Cond.constantLong RX4 41 (-9223372036854775808) ∈ TB := tb_of 413 (by decide +kernel) rfl
theorem tw_414 : Cond.methodLink RX0 61 yX0_seat ∈ TB := tb_of 414 (by decide +kernel) rfl
theorem tw_416 : Cond.instanceMethod yX0_seat ∈ TB := tb_of 416 (by decide +kernel) rfl
set_option maxRecDepth 20000 in
theorem tw_417 : Cond.code yX0_seat cX0_seat 7 (some .int) ∈ TB := tb_of 417 rfl rfl
theorem tw_418 : Cond.classLink RX0 147 RX3 ∈ TB := tb_of 418 (by decide +kernel) rfl
theorem tw_419 : Cond.methodLink RX0 64 yX0_lift ∈ TB := tb_of 419 (by decide +kernel) rfl
theorem tw_421 : Cond.instanceMethod yX0_lift ∈ TB := tb_of 421 (by decide +kernel) rfl
set_option maxRecDepth 20000 in
theorem tw_422 : Cond.code yX0_lift cX0_lift 5 (some .int) ∈ TB := tb_of 422 rfl rfl
theorem tw_423 : Cond.methodLink RX0 152 yX6_figureOf ∈ TB := tb_of 423 (by decide +kernel) rfl
theorem tw_424 : Cond.methodLink RX9 166 yX5_differsFrom ∈ TB := tb_of 424 (by decide +kernel) rfl
theorem tw_425 : Cond.instanceMethod yX5_differsFrom ∈ TB := tb_of 425 (by decide +kernel) rfl
theorem tw_426 : Cond.selects RX5 yX5_differsFrom yX5_differsFrom ∈ TB := tb_of 426 (by decide +kernel) rfl
set_option maxRecDepth 20000 in
theorem tw_427 : Cond.code yX5_differsFrom cX5_differsFrom 3 (some .boolean) ∈ TB := tb_of 427 rfl rfl
theorem tw_428 : Cond.methodLink RX9 170 yX1_write ∈ TB := tb_of 428 (by decide +kernel) rfl
theorem tw_429 : Cond.instanceMethod yX1_write ∈ TB := tb_of 429 (by decide +kernel) rfl
theorem tw_430 : Cond.selects RX1 yX1_write yX1_write ∈ TB := tb_of 430 (by decide +kernel) rfl
set_option maxRecDepth 20000 in
theorem tw_431 : Cond.code yX1_write cX1_write 3 none ∈ TB := tb_of 431 rfl rfl
theorem tw_432 : Cond.methodLink RX1 28 arraycopyName ∈ TB := tb_of 432 (by decide +kernel) rfl
theorem tw_433 : Cond.methodLink RX1 37 yJ9_min_7cf53 ∈ TB := tb_of 433 (by decide +kernel) rfl
theorem tw_434 : Cond.static yJ9_min_7cf53 ∈ TB := tb_of 434 (by decide +kernel) rfl
set_option maxRecDepth 20000 in
theorem tw_435 : Cond.code yJ9_min_7cf53 cJ9_min_7cf53 2 (some .int) ∈ TB := tb_of 435 rfl rfl
theorem tw_436 : Cond.methodLink RL 27 yX9_run ∈ TB := tb_of 436 (by decide +kernel) rfl
theorem tw_437 : Cond.instanceMethod yX9_run ∈ TB := tb_of 437 (by decide +kernel) rfl
theorem tw_438 : Cond.selects RX9 yX9_run yX9_run ∈ TB := tb_of 438 (by decide +kernel) rfl
set_option maxRecDepth 20000 in
theorem tw_439 : Cond.code yX9_run cX9_run 6 (some .int) ∈ TB := tb_of 439 rfl rfl
theorem tw_440 : Cond.methodLink RX9 55 yX8_forgetAgains ∈ TB := tb_of 440 (by decide +kernel) rfl
theorem tw_441 : Cond.instanceMethod yX8_forgetAgains ∈ TB := tb_of 441 (by decide +kernel) rfl
theorem tw_442 : Cond.selects RX8 yX8_forgetAgains yX8_forgetAgains ∈ TB := tb_of 442 (by decide +kernel) rfl
set_option maxRecDepth 20000 in
theorem tw_443 : Cond.code yX8_forgetAgains cX8_forgetAgains 2 none ∈ TB := tb_of 443 rfl rfl
theorem tw_444 : Cond.methodLink RX9 74 yX8_following ∈ TB := tb_of 444 (by decide +kernel) rfl
theorem tw_445 : Cond.instanceMethod yX8_following ∈ TB := tb_of 445 (by decide +kernel) rfl
theorem tw_446 : Cond.selects RX8 yX8_following yX8_following ∈ TB := tb_of 446 (by decide +kernel) rfl
set_option maxRecDepth 20000 in
theorem tw_447 : Cond.code yX8_following cX8_following 2 (some .int) ∈ TB := tb_of 447 rfl rfl
theorem tw_448 : Cond.methodLink RX8 31 yJ9_max_7cf53 ∈ TB := tb_of 448 (by decide +kernel) rfl
theorem tw_449 : Cond.static yJ9_max_7cf53 ∈ TB := tb_of 449 (by decide +kernel) rfl
set_option maxRecDepth 20000 in
theorem tw_450 : Cond.code yJ9_max_7cf53 cJ9_max_7cf53 2 (some .int) ∈ TB := tb_of 450 rfl rfl
theorem tw_451 : Cond.methodLink RX9 78 yX8_meeting ∈ TB := tb_of 451 (by decide +kernel) rfl
theorem tw_452 : Cond.instanceMethod yX8_meeting ∈ TB := tb_of 452 (by decide +kernel) rfl
theorem tw_453 : Cond.selects RX8 yX8_meeting yX8_meeting ∈ TB := tb_of 453 (by decide +kernel) rfl
set_option maxRecDepth 20000 in
theorem tw_454 : Cond.code yX8_meeting cX8_meeting 5 (some .int) ∈ TB := tb_of 454 rfl rfl
theorem tw_455 : Cond.methodLink RX8 37 yX8_isWhen ∈ TB := tb_of 455 (by decide +kernel) rfl
theorem tw_457 : Cond.instanceMethod yX8_isWhen ∈ TB := tb_of 457 (by decide +kernel) rfl
set_option maxRecDepth 20000 in
theorem tw_458 : Cond.code yX8_isWhen cX8_isWhen 2 (some .boolean) ∈ TB := tb_of 458 rfl rfl
theorem tw_459 : Cond.methodLink RL 32 yX9_back ∈ TB := tb_of 459 (by decide +kernel) rfl
theorem tw_460 : Cond.instanceMethod yX9_back ∈ TB := tb_of 460 (by decide +kernel) rfl
theorem tw_461 : Cond.selects RX9 yX9_back yX9_back ∈ TB := tb_of 461 (by decide +kernel) rfl
set_option maxRecDepth 20000 in
theorem tw_462 : Cond.code yX9_back cX9_back 1 (some .boolean) ∈ TB := tb_of 462 rfl rfl
theorem tw_463 : Cond.methodLink RX9 85 yX1_takeBack ∈ TB := tb_of 463 (by decide +kernel) rfl
theorem tw_464 : Cond.instanceMethod yX1_takeBack ∈ TB := tb_of 464 (by decide +kernel) rfl
theorem tw_465 : Cond.selects RX1 yX1_takeBack yX1_takeBack ∈ TB := tb_of 465 (by decide +kernel) rfl
set_option maxRecDepth 20000 in
theorem tw_466 : Cond.code yX1_takeBack cX1_takeBack 3 (some .boolean) ∈ TB := tb_of 466 rfl rfl
theorem tw_467 : Cond.methodLink RL 37 yX9_look ∈ TB := tb_of 467 (by decide +kernel) rfl
theorem tw_468 : Cond.instanceMethod yX9_look ∈ TB := tb_of 468 (by decide +kernel) rfl
theorem tw_469 : Cond.selects RX9 yX9_look yX9_look ∈ TB := tb_of 469 (by decide +kernel) rfl
set_option maxRecDepth 20000 in
theorem tw_470 : Cond.code yX9_look cX9_look 4 (some .int) ∈ TB := tb_of 470 rfl rfl
theorem tw_471 : Cond.methodLink RX9 97 ⟨"PinBarrels$Thing", "appearance", "()I"⟩ ∈ TB := tb_of 471 (by decide +kernel) rfl
theorem tw_473 : Cond.sameMethod "PinBarrels$Thing" "PinBarrels$Thing" "appearance" "()I" ∈ TB := tb_of 473 (by decide +kernel) rfl
theorem tw_474 : Cond.selects RX2 ⟨"PinBarrels$Thing", "appearance", "()I"⟩ yX2_appearance ∈ TB := tb_of 474 (by decide +kernel) rfl
theorem tw_475 : Cond.instanceMethod yX2_appearance ∈ TB := tb_of 475 (by decide +kernel) rfl
set_option maxRecDepth 20000 in
theorem tw_476 : Cond.code yX2_appearance cX2_appearance 1 (some .int) ∈ TB := tb_of 476 rfl rfl
theorem tw_477 : Cond.selects RX3 ⟨"PinBarrels$Thing", "appearance", "()I"⟩ yX3_appearance ∈ TB := tb_of 477 (by decide +kernel) rfl
theorem tw_478 : Cond.instanceMethod yX3_appearance ∈ TB := tb_of 478 (by decide +kernel) rfl
set_option maxRecDepth 20000 in
theorem tw_479 : Cond.code yX3_appearance cX3_appearance 1 (some .int) ∈ TB := tb_of 479 rfl rfl
theorem tw_480 : Cond.selects RX5 ⟨"PinBarrels$Thing", "appearance", "()I"⟩ yX5_appearance ∈ TB := tb_of 480 (by decide +kernel) rfl
theorem tw_481 : Cond.instanceMethod yX5_appearance ∈ TB := tb_of 481 (by decide +kernel) rfl
set_option maxRecDepth 20000 in
theorem tw_482 : Cond.code yX5_appearance cX5_appearance 1 (some .int) ∈ TB := tb_of 482 rfl rfl
theorem tw_483 : Cond.methodLink RX9 103 ⟨"PinBarrels$Thing", "measure", "()I"⟩ ∈ TB := tb_of 483 (by decide +kernel) rfl
theorem tw_485 : Cond.sameMethod "PinBarrels$Thing" "PinBarrels$Thing" "measure" "()I" ∈ TB := tb_of 485 (by decide +kernel) rfl
theorem tw_486 : Cond.selects RX2 ⟨"PinBarrels$Thing", "measure", "()I"⟩ yX2_measure ∈ TB := tb_of 486 (by decide +kernel) rfl
theorem tw_487 : Cond.instanceMethod yX2_measure ∈ TB := tb_of 487 (by decide +kernel) rfl
set_option maxRecDepth 20000 in
theorem tw_488 : Cond.code yX2_measure cX2_measure 1 (some .int) ∈ TB := tb_of 488 rfl rfl
theorem tw_489 : Cond.selects RX3 ⟨"PinBarrels$Thing", "measure", "()I"⟩ yX3_measure ∈ TB := tb_of 489 (by decide +kernel) rfl
theorem tw_490 : Cond.instanceMethod yX3_measure ∈ TB := tb_of 490 (by decide +kernel) rfl
set_option maxRecDepth 20000 in
theorem tw_491 : Cond.code yX3_measure cX3_measure 1 (some .int) ∈ TB := tb_of 491 rfl rfl
theorem tw_492 : Cond.selects RX5 ⟨"PinBarrels$Thing", "measure", "()I"⟩ yX5_measure ∈ TB := tb_of 492 (by decide +kernel) rfl
theorem tw_493 : Cond.instanceMethod yX5_measure ∈ TB := tb_of 493 (by decide +kernel) rfl
set_option maxRecDepth 20000 in
theorem tw_494 : Cond.code yX5_measure cX5_measure 1 (some .int) ∈ TB := tb_of 494 rfl rfl
theorem tw_495 : Cond.methodLink RX9 109 yX0_leastHolder ∈ TB := tb_of 495 (by decide +kernel) rfl
theorem tw_496 : Cond.instanceMethod yX0_leastHolder ∈ TB := tb_of 496 (by decide +kernel) rfl
theorem tw_497 : Cond.selects RX0 yX0_leastHolder yX0_leastHolder ∈ TB := tb_of 497 (by decide +kernel) rfl
set_option maxRecDepth 20000 in
theorem tw_498 : Cond.code yX0_leastHolder cX0_leastHolder 3 (some .int) ∈ TB := tb_of 498 rfl rfl
theorem tw_499 : Cond.methodLink RL 42 yX9_cell ∈ TB := tb_of 499 (by decide +kernel) rfl
theorem tw_500 : Cond.instanceMethod yX9_cell ∈ TB := tb_of 500 (by decide +kernel) rfl
theorem tw_501 : Cond.selects RX9 yX9_cell yX9_cell ∈ TB := tb_of 501 (by decide +kernel) rfl
set_option maxRecDepth 20000 in
theorem tw_502 : Cond.code yX9_cell cX9_cell 5 (some .long) ∈ TB := tb_of 502 rfl rfl
theorem tw_503 : Cond.methodLink RX9 115 yX5_hasPlace ∈ TB := tb_of 503 (by decide +kernel) rfl
theorem tw_504 : Cond.methodLink RL 47 yX9_sort ∈ TB := tb_of 504 (by decide +kernel) rfl
theorem tw_505 : Cond.instanceMethod yX9_sort ∈ TB := tb_of 505 (by decide +kernel) rfl
theorem tw_506 : Cond.selects RX9 yX9_sort yX9_sort ∈ TB := tb_of 506 (by decide +kernel) rfl
set_option maxRecDepth 20000 in
theorem tw_507 : Cond.code yX9_sort cX9_sort 3 (some .int) ∈ TB := tb_of 507 rfl rfl
theorem tw_508 : Cond.methodLink RX9 125 yX6_figureOf ∈ TB := tb_of 508 (by decide +kernel) rfl
theorem tw_509 : Cond.methodLink RL 51 yX9_count ∈ TB := tb_of 509 (by decide +kernel) rfl
theorem tw_510 : Cond.instanceMethod yX9_count ∈ TB := tb_of 510 (by decide +kernel) rfl
theorem tw_511 : Cond.selects RX9 yX9_count yX9_count ∈ TB := tb_of 511 (by decide +kernel) rfl
set_option maxRecDepth 20000 in
theorem tw_512 : Cond.code yX9_count cX9_count 2 (some .int) ∈ TB := tb_of 512 rfl rfl
theorem tw_513 : Cond.classLink RL 10 RX10 ∈ TB := tb_of 513 (by decide +kernel) rfl
theorem tw_514 : Cond.instantiable RX10 28 ∈ TB := tb_of 514 (by decide +kernel) rfl
theorem tw_515 : Cond.methodLink RL 12 yX10_init ∈ TB := tb_of 515 (by decide +kernel) rfl
theorem tw_516 : Cond.instanceMethod yX10_init ∈ TB := tb_of 516 (by decide +kernel) rfl
set_option maxRecDepth 20000 in
theorem tw_517 : Cond.code yX10_init cX10_init 1 none ∈ TB := tb_of 517 rfl rfl
theorem tw_518 : Cond.methodLink RX10 1 objectInit ∈ TB := tb_of 518 (by decide +kernel) rfl
theorem tw_519 : Cond.fieldLink RX10 77 "PinBarrelsModel" "rows" "I" ∈ TB := tb_of 519 (by decide +kernel) rfl
theorem tw_520 : Cond.fieldLink RX10 7 "PinBarrelsModel" "kinds" "[I" ∈ TB := tb_of 520 (by decide +kernel) rfl
theorem tw_521 : Cond.fieldLink RX10 13 "PinBarrelsModel" "lengths" "[I" ∈ TB := tb_of 521 (by decide +kernel) rfl
theorem tw_522 : Cond.fieldLink RX10 16 "PinBarrelsModel" "froms" "[I" ∈ TB := tb_of 522 (by decide +kernel) rfl
theorem tw_523 : Cond.fieldLink RX10 80 "PinBarrelsModel" "cells" "I" ∈ TB := tb_of 523 (by decide +kernel) rfl
theorem tw_524 : Cond.fieldLink RX10 19 "PinBarrelsModel" "values" "[J" ∈ TB := tb_of 524 (by decide +kernel) rfl
theorem tw_525 : Cond.fieldLink RX10 116 "PinBarrelsModel" "figures" "I" ∈ TB := tb_of 525 (by decide +kernel) rfl
theorem tw_526 : Cond.fieldLink RX10 23 "PinBarrelsModel" "sorts" "[I" ∈ TB := tb_of 526 (by decide +kernel) rfl
theorem tw_527 : Cond.fieldLink RX10 119 "PinBarrelsModel" "cranks" "I" ∈ TB := tb_of 527 (by decide +kernel) rfl
theorem tw_528 : Cond.fieldLink RX10 26 "PinBarrelsModel" "holds" "[I" ∈ TB := tb_of 528 (by decide +kernel) rfl
theorem tw_529 : Cond.fieldLink RX10 29 "PinBarrelsModel" "which" "[I" ∈ TB := tb_of 529 (by decide +kernel) rfl
theorem tw_530 : Cond.fieldLink RX10 32 "PinBarrelsModel" "marks" "[I" ∈ TB := tb_of 530 (by decide +kernel) rfl
theorem tw_531 : Cond.fieldLink RX10 70 "PinBarrelsModel" "orders" "I" ∈ TB := tb_of 531 (by decide +kernel) rfl
theorem tw_532 : Cond.fieldLink RX10 35 "PinBarrelsModel" "codes" "[I" ∈ TB := tb_of 532 (by decide +kernel) rfl
theorem tw_533 : Cond.fieldLink RX10 38 "PinBarrelsModel" "as" "[I" ∈ TB := tb_of 533 (by decide +kernel) rfl
theorem tw_534 : Cond.fieldLink RX10 41 "PinBarrelsModel" "bs" "[I" ∈ TB := tb_of 534 (by decide +kernel) rfl
theorem tw_535 : Cond.fieldLink RX10 44 "PinBarrelsModel" "cs" "[I" ∈ TB := tb_of 535 (by decide +kernel) rfl
theorem tw_536 : Cond.fieldLink RX10 47 "PinBarrelsModel" "gone" "[I" ∈ TB := tb_of 536 (by decide +kernel) rfl
theorem tw_537 : Cond.fieldLink RX10 173 "PinBarrelsModel" "kept" "I" ∈ TB := tb_of 537 (by decide +kernel) rfl
theorem tw_538 : Cond.fieldLink RX10 50 "PinBarrelsModel" "bookRows" "[I" ∈ TB := tb_of 538 (by decide +kernel) rfl
theorem tw_539 : Cond.fieldLink RX10 53 "PinBarrelsModel" "bookCells" "[J" ∈ TB := tb_of 539 (by decide +kernel) rfl
theorem tw_540 : Cond.fieldLink RX10 56 "PinBarrelsModel" "ahead" "[J" ∈ TB := tb_of 540 (by decide +kernel) rfl
theorem tw_541 : Cond.fieldLink RX10 59 "PinBarrelsModel" "between" "[J" ∈ TB := tb_of 541 (by decide +kernel) rfl
theorem tw_542 : Cond.fieldLink RX10 159 "PinBarrelsModel" "begun" "I" ∈ TB := tb_of 542 (by decide +kernel) rfl
theorem tw_543 : Cond.fieldLink RX10 170 "PinBarrelsModel" "refused" "I" ∈ TB := tb_of 543 (by decide +kernel) rfl
theorem tw_544 : Cond.fieldLink RX10 188 "PinBarrelsModel" "met" "I" ∈ TB := tb_of 544 (by decide +kernel) rfl
theorem tw_545 : Cond.fieldLink RX10 179 "PinBarrelsModel" "runBegun" "I" ∈ TB := tb_of 545 (by decide +kernel) rfl
theorem tw_546 : Cond.fieldLink RX10 62 "PinBarrelsModel" "endedBy" "I" ∈ TB := tb_of 546 (by decide +kernel) rfl
theorem tw_604 : Cond.methodLink RL 17 yX10_order ∈ TB := tb_of 604 (by decide +kernel) rfl
theorem tw_605 : Cond.instanceMethod yX10_order ∈ TB := tb_of 605 (by decide +kernel) rfl
theorem tw_606 : Cond.selects RX10 yX10_order yX10_order ∈ TB := tb_of 606 (by decide +kernel) rfl
set_option maxRecDepth 20000 in
theorem tw_607 : Cond.code yX10_order cX10_order 5 (some .int) ∈ TB := tb_of 607 rfl rfl
theorem tw_608 : Cond.methodLink RX10 73 yX10_isOrder ∈ TB := tb_of 608 (by decide +kernel) rfl
theorem tw_609 : Cond.static yX10_isOrder ∈ TB := tb_of 609 (by decide +kernel) rfl
set_option maxRecDepth 20000 in
theorem tw_610 : Cond.code yX10_isOrder cX10_isOrder 6 (some .boolean) ∈ TB := tb_of 610 rfl rfl
theorem tw_611 : Cond.methodLink RX10 66 yX10_in ∈ TB := tb_of 611 (by decide +kernel) rfl
theorem tw_612 : Cond.static yX10_in ∈ TB := tb_of 612 (by decide +kernel) rfl
set_option maxRecDepth 20000 in
theorem tw_613 : Cond.code yX10_in cX10_in 3 (some .boolean) ∈ TB := tb_of 613 rfl rfl
theorem tw_614 : Cond.methodLink RL 22 yX10_cut ∈ TB := tb_of 614 (by decide +kernel) rfl
theorem tw_615 : Cond.instanceMethod yX10_cut ∈ TB := tb_of 615 (by decide +kernel) rfl
theorem tw_616 : Cond.selects RX10 yX10_cut yX10_cut ∈ TB := tb_of 616 (by decide +kernel) rfl
set_option maxRecDepth 20000 in
theorem tw_617 : Cond.code yX10_cut cX10_cut 2 (some .boolean) ∈ TB := tb_of 617 rfl rfl
theorem tw_618 : Cond.methodLink RL 26 yX10_act ∈ TB := tb_of 618 (by decide +kernel) rfl
theorem tw_619 : Cond.instanceMethod yX10_act ∈ TB := tb_of 619 (by decide +kernel) rfl
theorem tw_620 : Cond.selects RX10 yX10_act yX10_act ∈ TB := tb_of 620 (by decide +kernel) rfl
set_option maxRecDepth 20000 in
theorem tw_621 : Cond.code yX10_act cX10_act 5 (some .int) ∈ TB := tb_of 621 rfl rfl
theorem tw_622 : Cond.methodLink RX10 176 yX10_begin ∈ TB := tb_of 622 (by decide +kernel) rfl
theorem tw_624 : Cond.instanceMethod yX10_begin ∈ TB := tb_of 624 (by decide +kernel) rfl
set_option maxRecDepth 20000 in
theorem tw_625 : Cond.code yX10_begin cX10_begin 9 (some .int) ∈ TB := tb_of 625 rfl rfl
theorem tw_626 : Cond.methodLink RX10 96 yX10_rowOn ∈ TB := tb_of 626 (by decide +kernel) rfl
theorem tw_628 : Cond.instanceMethod yX10_rowOn ∈ TB := tb_of 628 (by decide +kernel) rfl
set_option maxRecDepth 20000 in
theorem tw_629 : Cond.code yX10_rowOn cX10_rowOn 2 (some .int) ∈ TB := tb_of 629 rfl rfl
theorem tw_630 : Cond.methodLink RX10 162 yX10_does ∈ TB := tb_of 630 (by decide +kernel) rfl
theorem tw_632 : Cond.instanceMethod yX10_does ∈ TB := tb_of 632 (by decide +kernel) rfl
set_option maxRecDepth 20000 in
theorem tw_633 : Cond.code yX10_does cX10_does 5 (some .int) ∈ TB := tb_of 633 rfl rfl
theorem tw_634 : Cond.methodLink RX10 126 yX10_splice ∈ TB := tb_of 634 (by decide +kernel) rfl
theorem tw_636 : Cond.instanceMethod yX10_splice ∈ TB := tb_of 636 (by decide +kernel) rfl
set_option maxRecDepth 20000 in
theorem tw_637 : Cond.code yX10_splice cX10_splice 12 (some .int) ∈ TB := tb_of 637 rfl rfl
theorem tw_638 : Cond.methodLink RX10 100 yX10_canHave ∈ TB := tb_of 638 (by decide +kernel) rfl
theorem tw_640 : Cond.instanceMethod yX10_canHave ∈ TB := tb_of 640 (by decide +kernel) rfl
set_option maxRecDepth 20000 in
theorem tw_641 : Cond.code yX10_canHave cX10_canHave 4 (some .boolean) ∈ TB := tb_of 641 rfl rfl
theorem tw_642 : Cond.methodLink RX10 130 yX10_turn ∈ TB := tb_of 642 (by decide +kernel) rfl
theorem tw_644 : Cond.instanceMethod yX10_turn ∈ TB := tb_of 644 (by decide +kernel) rfl
set_option maxRecDepth 20000 in
theorem tw_645 : Cond.code yX10_turn cX10_turn 7 (some .int) ∈ TB := tb_of 645 rfl rfl
theorem tw_646 : Cond.methodLink RX10 133 yX10_open ∈ TB := tb_of 646 (by decide +kernel) rfl
theorem tw_648 : Cond.instanceMethod yX10_open ∈ TB := tb_of 648 (by decide +kernel) rfl
set_option maxRecDepth 20000 in
theorem tw_649 : Cond.code yX10_open cX10_open 10 (some .int) ∈ TB := tb_of 649 rfl rfl
theorem tw_650 : Cond.methodLink RX10 137 yX10_makeOn ∈ TB := tb_of 650 (by decide +kernel) rfl
theorem tw_652 : Cond.instanceMethod yX10_makeOn ∈ TB := tb_of 652 (by decide +kernel) rfl
set_option maxRecDepth 20000 in
theorem tw_653 : Cond.code yX10_makeOn cX10_makeOn 4 (some .int) ∈ TB := tb_of 653 rfl rfl
theorem tw_654 : Cond.methodLink RX10 104 yX10_roomFor ∈ TB := tb_of 654 (by decide +kernel) rfl
theorem tw_656 : Cond.instanceMethod yX10_roomFor ∈ TB := tb_of 656 (by decide +kernel) rfl
set_option maxRecDepth 20000 in
theorem tw_657 : Cond.code yX10_roomFor cX10_roomFor 2 (some .boolean) ∈ TB := tb_of 657 rfl rfl
theorem tw_658 : Cond.methodLink RX10 108 yX10_make ∈ TB := tb_of 658 (by decide +kernel) rfl
theorem tw_660 : Cond.instanceMethod yX10_make ∈ TB := tb_of 660 (by decide +kernel) rfl
set_option maxRecDepth 20000 in
theorem tw_661 : Cond.code yX10_make cX10_make 3 (some .int) ∈ TB := tb_of 661 rfl rfl
theorem tw_662 : Cond.methodLink RX10 112 yX10_hold ∈ TB := tb_of 662 (by decide +kernel) rfl
theorem tw_664 : Cond.instanceMethod yX10_hold ∈ TB := tb_of 664 (by decide +kernel) rfl
set_option maxRecDepth 20000 in
theorem tw_665 : Cond.code yX10_hold cX10_hold 4 none ∈ TB := tb_of 665 rfl rfl
theorem tw_666 : Cond.methodLink RX10 140 yX10_twin ∈ TB := tb_of 666 (by decide +kernel) rfl
theorem tw_668 : Cond.instanceMethod yX10_twin ∈ TB := tb_of 668 (by decide +kernel) rfl
set_option maxRecDepth 20000 in
theorem tw_669 : Cond.code yX10_twin cX10_twin 6 (some .int) ∈ TB := tb_of 669 rfl rfl
theorem tw_670 : Cond.methodLink RX10 143 yX10_swap ∈ TB := tb_of 670 (by decide +kernel) rfl
theorem tw_672 : Cond.instanceMethod yX10_swap ∈ TB := tb_of 672 (by decide +kernel) rfl
set_option maxRecDepth 20000 in
theorem tw_673 : Cond.code yX10_swap cX10_swap 5 none ∈ TB := tb_of 673 rfl rfl
theorem tw_674 : Cond.methodLink RX10 147 yX10_hang ∈ TB := tb_of 674 (by decide +kernel) rfl
theorem tw_676 : Cond.instanceMethod yX10_hang ∈ TB := tb_of 676 (by decide +kernel) rfl
set_option maxRecDepth 20000 in
theorem tw_677 : Cond.code yX10_hang cX10_hang 3 (some .int) ∈ TB := tb_of 677 rfl rfl
theorem tw_678 : Cond.methodLink RX10 150 yX10_pin ∈ TB := tb_of 678 (by decide +kernel) rfl
theorem tw_680 : Cond.instanceMethod yX10_pin ∈ TB := tb_of 680 (by decide +kernel) rfl
set_option maxRecDepth 20000 in
theorem tw_681 : Cond.code yX10_pin cX10_pin 4 (some .int) ∈ TB := tb_of 681 rfl rfl
theorem tw_682 : Cond.methodLink RX10 122 yX10_cutTo ∈ TB := tb_of 682 (by decide +kernel) rfl
theorem tw_683 : Cond.static yX10_cutTo ∈ TB := tb_of 683 (by decide +kernel) rfl
set_option maxRecDepth 20000 in
theorem tw_684 : Cond.code yX10_cutTo cX10_cutTo 2 (some .long) ∈ TB := tb_of 684 rfl rfl
theorem tw_685 : Cond.constant RX10 83 65535 ∈ TB := tb_of 685 (by decide +kernel) rfl
theorem tw_686 : Cond.methodLink RX10 84 yJxf58ca_floatToIntBits_5c35a ∈ TB := tb_of 686 (by decide +kernel) rfl
theorem tw_687 : Cond.static yJxf58ca_floatToIntBits_5c35a ∈ TB := tb_of 687 (by decide +kernel) rfl
set_option maxRecDepth 20000 in
theorem tw_688 : Cond.code yJxf58ca_floatToIntBits_5c35a cJxf58ca_floatToIntBits_5c35a 1 (some .int) ∈ TB := tb_of 688 rfl rfl
theorem tw_689 : Cond.methodLink RJxf58ca 59 yJxf58ca_isNaN_12338 ∈ TB := tb_of 689 (by decide +kernel) rfl
theorem tw_690 : Cond.static yJxf58ca_isNaN_12338 ∈ TB := tb_of 690 (by decide +kernel) rfl
set_option maxRecDepth 20000 in
theorem tw_691 : Cond.code yJxf58ca_isNaN_12338 cJxf58ca_isNaN_12338 1 (some .boolean) ∈ TB := tb_of 691 rfl rfl
theorem tw_692 : Cond.methodLink RJxf58ca 74 ⟨"java/lang/Float", "floatToRawIntBits", "(F)I"⟩ ∈ TB := tb_of 692 (by decide +kernel) rfl
theorem tw_693 : Cond.static ⟨"java/lang/Float", "floatToRawIntBits", "(F)I"⟩ ∈ TB := tb_of 693 (by decide +kernel) rfl
theorem tw_694 : Cond.native ⟨"java/lang/Float", "floatToRawIntBits", "(F)I"⟩ ∈ TB := tb_of 694 (by decide +kernel) rfl
theorem tw_695 : Cond.constant RJxf58ca 77 2143289344 ∈ TB := tb_of 695 (by decide +kernel) rfl
theorem tw_696 : Cond.methodLink RX10 90 yJxe99ae_doubleToLongBits_ccdee ∈ TB := tb_of 696 (by decide +kernel) rfl
theorem tw_697 : Cond.static yJxe99ae_doubleToLongBits_ccdee ∈ TB := tb_of 697 (by decide +kernel) rfl
set_option maxRecDepth 20000 in
theorem tw_698 : Cond.code yJxe99ae_doubleToLongBits_ccdee cJxe99ae_doubleToLongBits_ccdee 2 (some .long) ∈ TB := tb_of 698 rfl rfl
theorem tw_699 : Cond.methodLink RJxe99ae 122 yJxe99ae_isNaN_b9ae7 ∈ TB := tb_of 699 (by decide +kernel) rfl
theorem tw_700 : Cond.static yJxe99ae_isNaN_b9ae7 ∈ TB := tb_of 700 (by decide +kernel) rfl
set_option maxRecDepth 20000 in
theorem tw_701 : Cond.code yJxe99ae_isNaN_b9ae7 cJxe99ae_isNaN_b9ae7 2 (some .boolean) ∈ TB := tb_of 701 rfl rfl
theorem tw_702 : Cond.methodLink RJxe99ae 134 ⟨"java/lang/Double", "doubleToRawLongBits", "(D)J"⟩ ∈ TB := tb_of 702 (by decide +kernel) rfl
theorem tw_703 : Cond.static ⟨"java/lang/Double", "doubleToRawLongBits", "(D)J"⟩ ∈ TB := tb_of 703 (by decide +kernel) rfl
theorem tw_704 : Cond.native ⟨"java/lang/Double", "doubleToRawLongBits", "(D)J"⟩ ∈ TB := tb_of 704 (by decide +kernel) rfl
theorem tw_705 : Cond.constantLong RJxe99ae 137 9221120237041090560 ∈ TB := tb_of 705 (by decide +kernel) rfl
theorem tw_706 : Cond.methodLink RX10 153 yX10_seat ∈ TB := tb_of 706 (by decide +kernel) rfl
theorem tw_708 : Cond.instanceMethod yX10_seat ∈ TB := tb_of 708 (by decide +kernel) rfl
set_option maxRecDepth 20000 in
theorem tw_709 : Cond.code yX10_seat cX10_seat 5 (some .int) ∈ TB := tb_of 709 rfl rfl
theorem tw_710 : Cond.methodLink RX10 156 yX10_lift ∈ TB := tb_of 710 (by decide +kernel) rfl
theorem tw_712 : Cond.instanceMethod yX10_lift ∈ TB := tb_of 712 (by decide +kernel) rfl
set_option maxRecDepth 20000 in
theorem tw_713 : Cond.code yX10_lift cX10_lift 5 (some .int) ∈ TB := tb_of 713 rfl rfl
theorem tw_714 : Cond.methodLink RX10 166 yX10_write ∈ TB := tb_of 714 (by decide +kernel) rfl
theorem tw_716 : Cond.instanceMethod yX10_write ∈ TB := tb_of 716 (by decide +kernel) rfl
set_option maxRecDepth 20000 in
theorem tw_717 : Cond.code yX10_write cX10_write 3 none ∈ TB := tb_of 717 rfl rfl
theorem tw_718 : Cond.methodLink RL 31 yX10_run ∈ TB := tb_of 718 (by decide +kernel) rfl
theorem tw_719 : Cond.instanceMethod yX10_run ∈ TB := tb_of 719 (by decide +kernel) rfl
theorem tw_720 : Cond.selects RX10 yX10_run yX10_run ∈ TB := tb_of 720 (by decide +kernel) rfl
set_option maxRecDepth 20000 in
theorem tw_721 : Cond.code yX10_run cX10_run 5 (some .int) ∈ TB := tb_of 721 rfl rfl
theorem tw_722 : Cond.methodLink RX10 182 yX10_again ∈ TB := tb_of 722 (by decide +kernel) rfl
theorem tw_724 : Cond.instanceMethod yX10_again ∈ TB := tb_of 724 (by decide +kernel) rfl
set_option maxRecDepth 20000 in
theorem tw_725 : Cond.code yX10_again cX10_again 2 (some .int) ∈ TB := tb_of 725 rfl rfl
theorem tw_726 : Cond.methodLink RX10 185 yX10_behind ∈ TB := tb_of 726 (by decide +kernel) rfl
theorem tw_728 : Cond.instanceMethod yX10_behind ∈ TB := tb_of 728 (by decide +kernel) rfl
set_option maxRecDepth 20000 in
theorem tw_729 : Cond.code yX10_behind cX10_behind 4 (some .int) ∈ TB := tb_of 729 rfl rfl
theorem tw_730 : Cond.methodLink RL 36 yX10_back ∈ TB := tb_of 730 (by decide +kernel) rfl
theorem tw_731 : Cond.instanceMethod yX10_back ∈ TB := tb_of 731 (by decide +kernel) rfl
theorem tw_732 : Cond.selects RX10 yX10_back yX10_back ∈ TB := tb_of 732 (by decide +kernel) rfl
set_option maxRecDepth 20000 in
theorem tw_733 : Cond.code yX10_back cX10_back 3 (some .boolean) ∈ TB := tb_of 733 rfl rfl
theorem tw_734 : Cond.methodLink RL 41 yX10_look ∈ TB := tb_of 734 (by decide +kernel) rfl
theorem tw_735 : Cond.instanceMethod yX10_look ∈ TB := tb_of 735 (by decide +kernel) rfl
theorem tw_736 : Cond.selects RX10 yX10_look yX10_look ∈ TB := tb_of 736 (by decide +kernel) rfl
set_option maxRecDepth 20000 in
theorem tw_737 : Cond.code yX10_look cX10_look 3 (some .int) ∈ TB := tb_of 737 rfl rfl
theorem tw_738 : Cond.methodLink RX10 191 yX10_first ∈ TB := tb_of 738 (by decide +kernel) rfl
theorem tw_740 : Cond.instanceMethod yX10_first ∈ TB := tb_of 740 (by decide +kernel) rfl
set_option maxRecDepth 20000 in
theorem tw_741 : Cond.code yX10_first cX10_first 3 (some .int) ∈ TB := tb_of 741 rfl rfl
theorem tw_742 : Cond.methodLink RL 46 yX10_cell ∈ TB := tb_of 742 (by decide +kernel) rfl
theorem tw_743 : Cond.instanceMethod yX10_cell ∈ TB := tb_of 743 (by decide +kernel) rfl
theorem tw_744 : Cond.selects RX10 yX10_cell yX10_cell ∈ TB := tb_of 744 (by decide +kernel) rfl
set_option maxRecDepth 20000 in
theorem tw_745 : Cond.code yX10_cell cX10_cell 4 (some .long) ∈ TB := tb_of 745 rfl rfl
theorem tw_746 : Cond.methodLink RL 50 yX10_sort ∈ TB := tb_of 746 (by decide +kernel) rfl
theorem tw_747 : Cond.instanceMethod yX10_sort ∈ TB := tb_of 747 (by decide +kernel) rfl
theorem tw_748 : Cond.selects RX10 yX10_sort yX10_sort ∈ TB := tb_of 748 (by decide +kernel) rfl
set_option maxRecDepth 20000 in
theorem tw_749 : Cond.code yX10_sort cX10_sort 2 (some .int) ∈ TB := tb_of 749 rfl rfl
theorem tw_750 : Cond.methodLink RL 54 yX10_count ∈ TB := tb_of 750 (by decide +kernel) rfl
theorem tw_751 : Cond.instanceMethod yX10_count ∈ TB := tb_of 751 (by decide +kernel) rfl
theorem tw_752 : Cond.selects RX10 yX10_count yX10_count ∈ TB := tb_of 752 (by decide +kernel) rfl
set_option maxRecDepth 20000 in
theorem tw_753 : Cond.code yX10_count cX10_count 2 (some .int) ∈ TB := tb_of 753 rfl rfl
theorem tlX0 : ∀ w ∈ u_ws RX0 TX0 4, w ∈ TB := tb_lay (fun k hk => match k, hk with
  | 0, _ => tb_of 103 (by decide +kernel) rfl
  | 1, _ => tb_of 105 (by decide +kernel) rfl
  | 2, _ => tb_of 107 (by decide +kernel) rfl
  | 3, _ => tb_of 109 (by decide +kernel) rfl
  | k + 4, h => absurd h (by omega))
theorem tlX1 : ∀ w ∈ u_ws RX1 TX1 4, w ∈ TB := tb_lay (fun k hk => match k, hk with
  | 0, _ => tb_of 155 (by decide +kernel) rfl
  | 1, _ => tb_of 157 (by decide +kernel) rfl
  | 2, _ => tb_of 159 (by decide +kernel) rfl
  | 3, _ => tb_of 161 (by decide +kernel) rfl
  | k + 4, h => absurd h (by omega))
theorem tlX2 : ∀ w ∈ u_ws RX2 TX2 0, w ∈ TB := tb_lay (fun k hk => absurd hk (Nat.not_lt_zero k))
theorem tlX3 : ∀ w ∈ u_ws RX3 TX3 2, w ∈ TB := tb_lay (fun k hk => match k, hk with
  | 0, _ => tb_of 378 (by decide +kernel) rfl
  | 1, _ => tb_of 380 (by decide +kernel) rfl
  | k + 2, h => absurd h (by omega))
theorem tlX5 : ∀ w ∈ u_ws RX5 TX5 2, w ∈ TB := tb_lay (fun k hk => match k, hk with
  | 0, _ => tb_of 335 (by decide +kernel) rfl
  | 1, _ => tb_of 337 (by decide +kernel) rfl
  | k + 2, h => absurd h (by omega))
theorem tlX6 : ∀ w ∈ u_ws RX6 TX6 4, w ∈ TB := tb_lay (fun k hk => match k, hk with
  | 0, _ => tb_of 85 (by decide +kernel) rfl
  | 1, _ => tb_of 87 (by decide +kernel) rfl
  | 2, _ => tb_of 89 (by decide +kernel) rfl
  | 3, _ => tb_of 91 (by decide +kernel) rfl
  | k + 4, h => absurd h (by omega))
theorem tlX8 : ∀ w ∈ u_ws RX8 TX8 6, w ∈ TB := tb_lay (fun k hk => match k, hk with
  | 0, _ => tb_of 129 (by decide +kernel) rfl
  | 1, _ => tb_of 131 (by decide +kernel) rfl
  | 2, _ => tb_of 133 (by decide +kernel) rfl
  | 3, _ => tb_of 135 (by decide +kernel) rfl
  | 4, _ => tb_of 137 (by decide +kernel) rfl
  | 5, _ => tb_of 139 (by decide +kernel) rfl
  | k + 6, h => absurd h (by omega))
theorem tlX9 : ∀ w ∈ u_ws RX9 TX9 9, w ∈ TB := tb_lay (fun k hk => match k, hk with
  | 0, _ => tb_of 173 (by decide +kernel) rfl
  | 1, _ => tb_of 175 (by decide +kernel) rfl
  | 2, _ => tb_of 177 (by decide +kernel) rfl
  | 3, _ => tb_of 179 (by decide +kernel) rfl
  | 4, _ => tb_of 181 (by decide +kernel) rfl
  | 5, _ => tb_of 183 (by decide +kernel) rfl
  | 6, _ => tb_of 185 (by decide +kernel) rfl
  | 7, _ => tb_of 187 (by decide +kernel) rfl
  | 8, _ => tb_of 189 (by decide +kernel) rfl
  | k + 9, h => absurd h (by omega))
theorem tlX10 : ∀ w ∈ u_ws RX10 TX10 28, w ∈ TB := tb_lay (fun k hk => match k, hk with
  | 0, _ => tb_of 547 (by decide +kernel) rfl
  | 1, _ => tb_of 549 (by decide +kernel) rfl
  | 2, _ => tb_of 551 (by decide +kernel) rfl
  | 3, _ => tb_of 553 (by decide +kernel) rfl
  | 4, _ => tb_of 555 (by decide +kernel) rfl
  | 5, _ => tb_of 557 (by decide +kernel) rfl
  | 6, _ => tb_of 559 (by decide +kernel) rfl
  | 7, _ => tb_of 561 (by decide +kernel) rfl
  | 8, _ => tb_of 563 (by decide +kernel) rfl
  | 9, _ => tb_of 565 (by decide +kernel) rfl
  | 10, _ => tb_of 567 (by decide +kernel) rfl
  | 11, _ => tb_of 569 (by decide +kernel) rfl
  | 12, _ => tb_of 571 (by decide +kernel) rfl
  | 13, _ => tb_of 573 (by decide +kernel) rfl
  | 14, _ => tb_of 575 (by decide +kernel) rfl
  | 15, _ => tb_of 577 (by decide +kernel) rfl
  | 16, _ => tb_of 579 (by decide +kernel) rfl
  | 17, _ => tb_of 581 (by decide +kernel) rfl
  | 18, _ => tb_of 583 (by decide +kernel) rfl
  | 19, _ => tb_of 585 (by decide +kernel) rfl
  | 20, _ => tb_of 587 (by decide +kernel) rfl
  | 21, _ => tb_of 589 (by decide +kernel) rfl
  | 22, _ => tb_of 591 (by decide +kernel) rfl
  | 23, _ => tb_of 593 (by decide +kernel) rfl
  | 24, _ => tb_of 595 (by decide +kernel) rfl
  | 25, _ => tb_of 597 (by decide +kernel) rfl
  | 26, _ => tb_of 599 (by decide +kernel) rfl
  | 27, _ => tb_of 601 (by decide +kernel) rfl
  | k + 28, h => absurd h (by omega))
def xk_ng : List Cond := [Cond.methodLinkNest RX9 11 yX0_init "PinBarrels", Cond.methodLinkNest RX0 27 yX6_init "PinBarrels", Cond.fieldLinkNest RX9 142 "PinBarrels$Stock" "figuresMade" "I" "PinBarrels", Cond.fieldLinkNest RX9 136 "PinBarrels$Stock" "rowsMade" "I" "PinBarrels", Cond.fieldLinkNest RX9 139 "PinBarrels$Stock" "cellsMade" "I" "PinBarrels", Cond.fieldLinkNest RX9 93 "PinBarrels$Bench" "held" "[LPinBarrels$Thing;" "PinBarrels", Cond.fieldLinkNest RX9 106 "PinBarrels$Bench" "marks" "[I" "PinBarrels", Cond.fieldLinkNest RX9 121 "PinBarrels$Bench" "stock" "LPinBarrels$Stock;" "PinBarrels", Cond.methodLinkNest RX9 18 yX8_init "PinBarrels", Cond.fieldLinkNest RX9 61 "PinBarrels$Tune" "codes" "[I" "PinBarrels", Cond.fieldLinkNest RX9 65 "PinBarrels$Tune" "as" "[I" "PinBarrels", Cond.fieldLinkNest RX9 68 "PinBarrels$Tune" "bs" "[I" "PinBarrels", Cond.fieldLinkNest RX9 71 "PinBarrels$Tune" "cs" "[I" "PinBarrels", Cond.fieldLinkNest RX9 42 "PinBarrels$Tune" "length" "I" "PinBarrels", Cond.methodLinkNest RX9 25 yX1_init "PinBarrels", Cond.fieldLinkNest RX9 145 "PinBarrels$Book" "kept" "I" "PinBarrels", Cond.methodLinkNest RX5 3 yX7_init "PinBarrels", Cond.fieldLinkNest RX0 120 "PinBarrels$Row" "kind" "I" "PinBarrels", Cond.fieldLinkNest RX1 25 "PinBarrels$Row" "cells" "[J" "PinBarrels", Cond.fieldLinkNest RX0 81 "PinBarrels$Row" "cells" "[J" "PinBarrels", Cond.fieldLinkNest RX9 118 "PinBarrels$Row" "cells" "[J" "PinBarrels", Cond.methodLinkNest RX0 130 yX2_init "PinBarrels", Cond.methodLinkNest RX2 3 yX7_init "PinBarrels", Cond.methodLinkNest RX3 3 yX7_init "PinBarrels", Cond.fieldLinkNest RX6 37 "PinBarrels$Figure" "sort" "I" "PinBarrels", Cond.fieldLinkNest RX9 131 "PinBarrels$Figure" "sort" "I" "PinBarrels", Cond.fieldLinkNest RX0 149 "PinBarrels$Figure" "number" "I" "PinBarrels", Cond.declares ⟨"PinBarrels$Thing", "appearance", "()I"⟩, Cond.declares ⟨"PinBarrels$Thing", "measure", "()I"⟩, Cond.castable "PinBarrels$Row" "PinBarrels$Row", Cond.castable "PinBarrels$Figure" "PinBarrels$Figure", Cond.castable "PinBarrels$Crank" "PinBarrels$Thing", Cond.castable "PinBarrels$Figure" "PinBarrels$Thing", Cond.castable "PinBarrels$Row" "PinBarrels$Thing"]
theorem xk_ng_warm {s U : State} (hW : s.WarmedH U.vm) (h : ∀ w ∈ xk_ng, va_Nw w s) : ∀ w ∈ xk_ng, va_Nw w U := by
  intro w hw
  have h0 := h w hw
  simp only [xk_ng, List.mem_cons, List.not_mem_nil, or_false] at hw
  rcases hw with e | e | e | e | e | e | e | e | e | e | e | e | e | e | e | e | e | e | e | e | e | e | e | e | e | e | e | e | e | e | e | e | e | e <;> subst e
  · exact va_Nw.warmM hW h0
  · exact va_Nw.warmM hW h0
  · exact va_Nw.warmF hW h0
  · exact va_Nw.warmF hW h0
  · exact va_Nw.warmF hW h0
  · exact va_Nw.warmF hW h0
  · exact va_Nw.warmF hW h0
  · exact va_Nw.warmF hW h0
  · exact va_Nw.warmM hW h0
  · exact va_Nw.warmF hW h0
  · exact va_Nw.warmF hW h0
  · exact va_Nw.warmF hW h0
  · exact va_Nw.warmF hW h0
  · exact va_Nw.warmF hW h0
  · exact va_Nw.warmM hW h0
  · exact va_Nw.warmF hW h0
  · exact va_Nw.warmM hW h0
  · exact va_Nw.warmF hW h0
  · exact va_Nw.warmF hW h0
  · exact va_Nw.warmF hW h0
  · exact va_Nw.warmF hW h0
  · exact va_Nw.warmM hW h0
  · exact va_Nw.warmM hW h0
  · exact va_Nw.warmM hW h0
  · exact va_Nw.warmF hW h0
  · exact va_Nw.warmF hW h0
  · exact va_Nw.warmF hW h0
  · exact va_Nw.warmD hW h0
  · exact va_Nw.warmD hW h0
  · exact va_Nw.warmC hW h0
  · exact va_Nw.warmC hW h0
  · exact va_Nw.warmC hW h0
  · exact va_Nw.warmC hW h0
  · exact va_Nw.warmC hW h0
theorem xn_0 : Cond.methodLinkNest RX9 11 yX0_init "PinBarrels" ∈ xk_ng := List.mem_of_getElem? (i := 0) rfl
theorem xn_1 : Cond.methodLinkNest RX0 27 yX6_init "PinBarrels" ∈ xk_ng := List.mem_of_getElem? (i := 1) rfl
theorem xn_2 : Cond.fieldLinkNest RX9 142 "PinBarrels$Stock" "figuresMade" "I" "PinBarrels" ∈ xk_ng := List.mem_of_getElem? (i := 2) rfl
theorem xn_3 : Cond.fieldLinkNest RX9 136 "PinBarrels$Stock" "rowsMade" "I" "PinBarrels" ∈ xk_ng := List.mem_of_getElem? (i := 3) rfl
theorem xn_4 : Cond.fieldLinkNest RX9 139 "PinBarrels$Stock" "cellsMade" "I" "PinBarrels" ∈ xk_ng := List.mem_of_getElem? (i := 4) rfl
theorem xn_5 : Cond.fieldLinkNest RX9 93 "PinBarrels$Bench" "held" "[LPinBarrels$Thing;" "PinBarrels" ∈ xk_ng := List.mem_of_getElem? (i := 5) rfl
theorem xn_6 : Cond.fieldLinkNest RX9 106 "PinBarrels$Bench" "marks" "[I" "PinBarrels" ∈ xk_ng := List.mem_of_getElem? (i := 6) rfl
theorem xn_7 : Cond.fieldLinkNest RX9 121 "PinBarrels$Bench" "stock" "LPinBarrels$Stock;" "PinBarrels" ∈ xk_ng := List.mem_of_getElem? (i := 7) rfl
theorem xn_8 : Cond.methodLinkNest RX9 18 yX8_init "PinBarrels" ∈ xk_ng := List.mem_of_getElem? (i := 8) rfl
theorem xn_9 : Cond.fieldLinkNest RX9 61 "PinBarrels$Tune" "codes" "[I" "PinBarrels" ∈ xk_ng := List.mem_of_getElem? (i := 9) rfl
theorem xn_10 : Cond.fieldLinkNest RX9 65 "PinBarrels$Tune" "as" "[I" "PinBarrels" ∈ xk_ng := List.mem_of_getElem? (i := 10) rfl
theorem xn_11 : Cond.fieldLinkNest RX9 68 "PinBarrels$Tune" "bs" "[I" "PinBarrels" ∈ xk_ng := List.mem_of_getElem? (i := 11) rfl
theorem xn_12 : Cond.fieldLinkNest RX9 71 "PinBarrels$Tune" "cs" "[I" "PinBarrels" ∈ xk_ng := List.mem_of_getElem? (i := 12) rfl
theorem xn_13 : Cond.fieldLinkNest RX9 42 "PinBarrels$Tune" "length" "I" "PinBarrels" ∈ xk_ng := List.mem_of_getElem? (i := 13) rfl
theorem xn_14 : Cond.methodLinkNest RX9 25 yX1_init "PinBarrels" ∈ xk_ng := List.mem_of_getElem? (i := 14) rfl
theorem xn_15 : Cond.fieldLinkNest RX9 145 "PinBarrels$Book" "kept" "I" "PinBarrels" ∈ xk_ng := List.mem_of_getElem? (i := 15) rfl
theorem xn_16 : Cond.methodLinkNest RX5 3 yX7_init "PinBarrels" ∈ xk_ng := List.mem_of_getElem? (i := 16) rfl
theorem xn_17 : Cond.fieldLinkNest RX0 120 "PinBarrels$Row" "kind" "I" "PinBarrels" ∈ xk_ng := List.mem_of_getElem? (i := 17) rfl
theorem xn_18 : Cond.fieldLinkNest RX1 25 "PinBarrels$Row" "cells" "[J" "PinBarrels" ∈ xk_ng := List.mem_of_getElem? (i := 18) rfl
theorem xn_19 : Cond.fieldLinkNest RX0 81 "PinBarrels$Row" "cells" "[J" "PinBarrels" ∈ xk_ng := List.mem_of_getElem? (i := 19) rfl
theorem xn_20 : Cond.fieldLinkNest RX9 118 "PinBarrels$Row" "cells" "[J" "PinBarrels" ∈ xk_ng := List.mem_of_getElem? (i := 20) rfl
theorem xn_21 : Cond.methodLinkNest RX0 130 yX2_init "PinBarrels" ∈ xk_ng := List.mem_of_getElem? (i := 21) rfl
theorem xn_22 : Cond.methodLinkNest RX2 3 yX7_init "PinBarrels" ∈ xk_ng := List.mem_of_getElem? (i := 22) rfl
theorem xn_23 : Cond.methodLinkNest RX3 3 yX7_init "PinBarrels" ∈ xk_ng := List.mem_of_getElem? (i := 23) rfl
theorem xn_24 : Cond.fieldLinkNest RX6 37 "PinBarrels$Figure" "sort" "I" "PinBarrels" ∈ xk_ng := List.mem_of_getElem? (i := 24) rfl
theorem xn_25 : Cond.fieldLinkNest RX9 131 "PinBarrels$Figure" "sort" "I" "PinBarrels" ∈ xk_ng := List.mem_of_getElem? (i := 25) rfl
theorem xn_26 : Cond.fieldLinkNest RX0 149 "PinBarrels$Figure" "number" "I" "PinBarrels" ∈ xk_ng := List.mem_of_getElem? (i := 26) rfl
theorem xn_27 : Cond.declares ⟨"PinBarrels$Thing", "appearance", "()I"⟩ ∈ xk_ng := List.mem_of_getElem? (i := 27) rfl
theorem xn_28 : Cond.declares ⟨"PinBarrels$Thing", "measure", "()I"⟩ ∈ xk_ng := List.mem_of_getElem? (i := 28) rfl
theorem xn_29 : Cond.castable "PinBarrels$Row" "PinBarrels$Row" ∈ xk_ng := List.mem_of_getElem? (i := 29) rfl
theorem xn_30 : Cond.castable "PinBarrels$Figure" "PinBarrels$Figure" ∈ xk_ng := List.mem_of_getElem? (i := 30) rfl
theorem xn_31 : Cond.castable "PinBarrels$Crank" "PinBarrels$Thing" ∈ xk_ng := List.mem_of_getElem? (i := 31) rfl
theorem xn_32 : Cond.castable "PinBarrels$Figure" "PinBarrels$Thing" ∈ xk_ng := List.mem_of_getElem? (i := 32) rfl
theorem xn_33 : Cond.castable "PinBarrels$Row" "PinBarrels$Thing" ∈ xk_ng := List.mem_of_getElem? (i := 33) rfl
theorem xk_ng_all : ∀ w ∈ xk_ng, w ∈ lw_tbl := by
  intro w hw
  simp only [xk_ng, List.mem_cons, List.not_mem_nil, or_false] at hw
  rcases hw with e | e | e | e | e | e | e | e | e | e | e | e | e | e | e | e | e | e | e | e | e | e | e | e | e | e | e | e | e | e | e | e | e | e <;> subst e
  · exact List.mem_of_getElem? (i := 64) (by decide +kernel)
  · exact List.mem_of_getElem? (i := 72) (by decide +kernel)
  · exact List.mem_of_getElem? (i := 80) (by decide +kernel)
  · exact List.mem_of_getElem? (i := 82) (by decide +kernel)
  · exact List.mem_of_getElem? (i := 84) (by decide +kernel)
  · exact List.mem_of_getElem? (i := 97) (by decide +kernel)
  · exact List.mem_of_getElem? (i := 99) (by decide +kernel)
  · exact List.mem_of_getElem? (i := 102) (by decide +kernel)
  · exact List.mem_of_getElem? (i := 114) (by decide +kernel)
  · exact List.mem_of_getElem? (i := 119) (by decide +kernel)
  · exact List.mem_of_getElem? (i := 121) (by decide +kernel)
  · exact List.mem_of_getElem? (i := 123) (by decide +kernel)
  · exact List.mem_of_getElem? (i := 125) (by decide +kernel)
  · exact List.mem_of_getElem? (i := 128) (by decide +kernel)
  · exact List.mem_of_getElem? (i := 144) (by decide +kernel)
  · exact List.mem_of_getElem? (i := 153) (by decide +kernel)
  · exact List.mem_of_getElem? (i := 325) (by decide +kernel)
  · exact List.mem_of_getElem? (i := 330) (by decide +kernel)
  · exact List.mem_of_getElem? (i := 332) (by decide +kernel)
  · exact List.mem_of_getElem? (i := 333) (by decide +kernel)
  · exact List.mem_of_getElem? (i := 334) (by decide +kernel)
  · exact List.mem_of_getElem? (i := 355) (by decide +kernel)
  · exact List.mem_of_getElem? (i := 358) (by decide +kernel)
  · exact List.mem_of_getElem? (i := 372) (by decide +kernel)
  · exact List.mem_of_getElem? (i := 374) (by decide +kernel)
  · exact List.mem_of_getElem? (i := 375) (by decide +kernel)
  · exact List.mem_of_getElem? (i := 377) (by decide +kernel)
  · exact List.mem_of_getElem? (i := 472) (by decide +kernel)
  · exact List.mem_of_getElem? (i := 484) (by decide +kernel)
  · exact List.mem_of_getElem? (i := 754) (by decide +kernel)
  · exact List.mem_of_getElem? (i := 755) (by decide +kernel)
  · exact List.mem_of_getElem? (i := 756) (by decide +kernel)
  · exact List.mem_of_getElem? (i := 757) (by decide +kernel)
  · exact List.mem_of_getElem? (i := 758) (by decide +kernel)
