theorem dX0_init_0 : decode cX0_init 0 = .ok (.aload_n 0, 1) := by decide +kernel
theorem dX0_init_1 : decode cX0_init 1 = .ok (.invokespecial 3, 3) := by decide +kernel
theorem dX0_init_4 : decode cX0_init 4 = .ok (.aload_n 0, 1) := by decide +kernel
theorem dX0_init_5 : decode cX0_init 5 = .ok (.bipush 10, 2) := by decide +kernel
theorem dX0_init_7 : decode cX0_init 7 = .ok (.anewarray 9, 3) := by decide +kernel
theorem dX0_init_10 : decode cX0_init 10 = .ok (.putfield 11, 3) := by decide +kernel
theorem dX0_init_13 : decode cX0_init 13 = .ok (.aload_n 0, 1) := by decide +kernel
theorem dX0_init_14 : decode cX0_init 14 = .ok (.bipush 10, 2) := by decide +kernel
theorem dX0_init_16 : decode cX0_init 16 = .ok (.newarray .int, 2) := by decide +kernel
theorem dX0_init_18 : decode cX0_init 18 = .ok (.putfield 17, 3) := by decide +kernel
theorem dX0_init_21 : decode cX0_init 21 = .ok (.aload_n 0, 1) := by decide +kernel
theorem dX0_init_22 : decode cX0_init 22 = .ok (.bipush 64, 2) := by decide +kernel
theorem dX0_init_24 : decode cX0_init 24 = .ok (.newarray .long, 2) := by decide +kernel
theorem dX0_init_26 : decode cX0_init 26 = .ok (.putfield 21, 3) := by decide +kernel
theorem dX0_init_29 : decode cX0_init 29 = .ok (.aload_n 0, 1) := by decide +kernel
theorem dX0_init_30 : decode cX0_init 30 = .ok (.new 25, 3) := by decide +kernel
theorem dX0_init_33 : decode cX0_init 33 = .ok (.dup, 1) := by decide +kernel
theorem dX0_init_34 : decode cX0_init 34 = .ok (.invokespecial 27, 3) := by decide +kernel
theorem dX0_init_37 : decode cX0_init 37 = .ok (.putfield 28, 3) := by decide +kernel
theorem dX0_init_40 : decode cX0_init 40 = .ok (.return_, 1) := by decide +kernel
theorem dX0_leastHolder_0 : decode cX0_leastHolder 0 = .ok (.aload_n 1, 1) := by decide +kernel
theorem dX0_leastHolder_1 : decode cX0_leastHolder 1 = .ok (.ifnonnull 5, 3) := by decide +kernel
theorem dX0_leastHolder_4 : decode cX0_leastHolder 4 = .ok (.iconst (-1), 1) := by decide +kernel
theorem dX0_leastHolder_5 : decode cX0_leastHolder 5 = .ok (.ireturn, 1) := by decide +kernel
theorem dX0_leastHolder_6 : decode cX0_leastHolder 6 = .ok (.iconst 0, 1) := by decide +kernel
theorem dX0_leastHolder_7 : decode cX0_leastHolder 7 = .ok (.istore_n 2, 1) := by decide +kernel
theorem dX0_leastHolder_8 : decode cX0_leastHolder 8 = .ok (.iload_n 2, 1) := by decide +kernel
theorem dX0_leastHolder_9 : decode cX0_leastHolder 9 = .ok (.bipush 10, 2) := by decide +kernel
theorem dX0_leastHolder_11 : decode cX0_leastHolder 11 = .ok (.if_icmp .ge 21, 3) := by decide +kernel
theorem dX0_leastHolder_14 : decode cX0_leastHolder 14 = .ok (.aload_n 0, 1) := by decide +kernel
theorem dX0_leastHolder_15 : decode cX0_leastHolder 15 = .ok (.getfield 11, 3) := by decide +kernel
theorem dX0_leastHolder_18 : decode cX0_leastHolder 18 = .ok (.iload_n 2, 1) := by decide +kernel
theorem dX0_leastHolder_19 : decode cX0_leastHolder 19 = .ok (.aaload, 1) := by decide +kernel
theorem dX0_leastHolder_20 : decode cX0_leastHolder 20 = .ok (.aload_n 1, 1) := by decide +kernel
theorem dX0_leastHolder_21 : decode cX0_leastHolder 21 = .ok (.if_acmp .ne 5, 3) := by decide +kernel
theorem dX0_leastHolder_24 : decode cX0_leastHolder 24 = .ok (.iload_n 2, 1) := by decide +kernel
theorem dX0_leastHolder_25 : decode cX0_leastHolder 25 = .ok (.ireturn, 1) := by decide +kernel
theorem dX0_leastHolder_26 : decode cX0_leastHolder 26 = .ok (.iinc 2 1, 3) := by decide +kernel
theorem dX0_leastHolder_29 : decode cX0_leastHolder 29 = .ok (.goto (-21), 3) := by decide +kernel
theorem dX0_leastHolder_32 : decode cX0_leastHolder 32 = .ok (.iconst (-1), 1) := by decide +kernel
theorem dX0_leastHolder_33 : decode cX0_leastHolder 33 = .ok (.ireturn, 1) := by decide +kernel
theorem dX0_perform_0 : decode cX0_perform 0 = .ok (.iload_n 1, 1) := by decide +kernel
theorem dX0_perform_1 : decode cX0_perform 1 = .ok (.tableswitch 176 0 12 #[67, 77, 86, 94, 102, 110, 119, 126, 140, 147, 154, 162, 169], 67) := by decide +kernel
theorem dX0_perform_68 : decode cX0_perform 68 = .ok (.aload_n 0, 1) := by decide +kernel
theorem dX0_perform_69 : decode cX0_perform 69 = .ok (.getfield 17, 3) := by decide +kernel
theorem dX0_perform_72 : decode cX0_perform 72 = .ok (.iload_n 2, 1) := by decide +kernel
theorem dX0_perform_73 : decode cX0_perform 73 = .ok (.iload 4, 2) := by decide +kernel
theorem dX0_perform_75 : decode cX0_perform 75 = .ok (.iastore, 1) := by decide +kernel
theorem dX0_perform_76 : decode cX0_perform 76 = .ok (.iconst 0, 1) := by decide +kernel
theorem dX0_perform_77 : decode cX0_perform 77 = .ok (.ireturn, 1) := by decide +kernel
theorem dX0_perform_78 : decode cX0_perform 78 = .ok (.aload_n 0, 1) := by decide +kernel
theorem dX0_perform_79 : decode cX0_perform 79 = .ok (.iload_n 2, 1) := by decide +kernel
theorem dX0_perform_80 : decode cX0_perform 80 = .ok (.iload_n 3, 1) := by decide +kernel
theorem dX0_perform_81 : decode cX0_perform 81 = .ok (.iload 4, 2) := by decide +kernel
theorem dX0_perform_83 : decode cX0_perform 83 = .ok (.invokevirtual 32, 3) := by decide +kernel
theorem dX0_perform_86 : decode cX0_perform 86 = .ok (.ireturn, 1) := by decide +kernel
theorem dX0_perform_87 : decode cX0_perform 87 = .ok (.aload_n 0, 1) := by decide +kernel
theorem dX0_perform_88 : decode cX0_perform 88 = .ok (.iload_n 2, 1) := by decide +kernel
theorem dX0_perform_89 : decode cX0_perform 89 = .ok (.iload 4, 2) := by decide +kernel
theorem dX0_perform_91 : decode cX0_perform 91 = .ok (.invokevirtual 36, 3) := by decide +kernel
theorem dX0_perform_94 : decode cX0_perform 94 = .ok (.ireturn, 1) := by decide +kernel
theorem dX0_perform_95 : decode cX0_perform 95 = .ok (.aload_n 0, 1) := by decide +kernel
theorem dX0_perform_96 : decode cX0_perform 96 = .ok (.iload_n 2, 1) := by decide +kernel
theorem dX0_perform_97 : decode cX0_perform 97 = .ok (.iload 4, 2) := by decide +kernel
theorem dX0_perform_99 : decode cX0_perform 99 = .ok (.invokevirtual 40, 3) := by decide +kernel
theorem dX0_perform_102 : decode cX0_perform 102 = .ok (.ireturn, 1) := by decide +kernel
theorem dX0_perform_103 : decode cX0_perform 103 = .ok (.aload_n 0, 1) := by decide +kernel
theorem dX0_perform_104 : decode cX0_perform 104 = .ok (.iload_n 2, 1) := by decide +kernel
theorem dX0_perform_105 : decode cX0_perform 105 = .ok (.iload 4, 2) := by decide +kernel
theorem dX0_perform_107 : decode cX0_perform 107 = .ok (.invokevirtual 43, 3) := by decide +kernel
theorem dX0_perform_110 : decode cX0_perform 110 = .ok (.ireturn, 1) := by decide +kernel
theorem dX0_perform_111 : decode cX0_perform 111 = .ok (.aload_n 0, 1) := by decide +kernel
theorem dX0_perform_112 : decode cX0_perform 112 = .ok (.iload_n 2, 1) := by decide +kernel
theorem dX0_perform_113 : decode cX0_perform 113 = .ok (.iload_n 3, 1) := by decide +kernel
theorem dX0_perform_114 : decode cX0_perform 114 = .ok (.iload 4, 2) := by decide +kernel
theorem dX0_perform_116 : decode cX0_perform 116 = .ok (.invokevirtual 46, 3) := by decide +kernel
theorem dX0_perform_119 : decode cX0_perform 119 = .ok (.ireturn, 1) := by decide +kernel
theorem dX0_perform_120 : decode cX0_perform 120 = .ok (.aload_n 0, 1) := by decide +kernel
theorem dX0_perform_121 : decode cX0_perform 121 = .ok (.iload_n 2, 1) := by decide +kernel
theorem dX0_perform_122 : decode cX0_perform 122 = .ok (.iload_n 3, 1) := by decide +kernel
theorem dX0_perform_123 : decode cX0_perform 123 = .ok (.invokevirtual 49, 3) := by decide +kernel
theorem dX0_perform_126 : decode cX0_perform 126 = .ok (.ireturn, 1) := by decide +kernel
theorem dX0_perform_127 : decode cX0_perform 127 = .ok (.aload_n 0, 1) := by decide +kernel
theorem dX0_perform_128 : decode cX0_perform 128 = .ok (.getfield 11, 3) := by decide +kernel
theorem dX0_perform_131 : decode cX0_perform 131 = .ok (.iload_n 2, 1) := by decide +kernel
theorem dX0_perform_132 : decode cX0_perform 132 = .ok (.aload_n 0, 1) := by decide +kernel
theorem dX0_perform_133 : decode cX0_perform 133 = .ok (.getfield 11, 3) := by decide +kernel
theorem dX0_perform_136 : decode cX0_perform 136 = .ok (.iload_n 3, 1) := by decide +kernel
theorem dX0_perform_137 : decode cX0_perform 137 = .ok (.aaload, 1) := by decide +kernel
theorem dX0_perform_138 : decode cX0_perform 138 = .ok (.aastore, 1) := by decide +kernel
theorem dX0_perform_139 : decode cX0_perform 139 = .ok (.iconst 0, 1) := by decide +kernel
theorem dX0_perform_140 : decode cX0_perform 140 = .ok (.ireturn, 1) := by decide +kernel
theorem dX0_perform_141 : decode cX0_perform 141 = .ok (.aload_n 0, 1) := by decide +kernel
theorem dX0_perform_142 : decode cX0_perform 142 = .ok (.iload_n 2, 1) := by decide +kernel
theorem dX0_perform_143 : decode cX0_perform 143 = .ok (.iload_n 3, 1) := by decide +kernel
theorem dX0_perform_144 : decode cX0_perform 144 = .ok (.invokevirtual 52, 3) := by decide +kernel
theorem dX0_perform_147 : decode cX0_perform 147 = .ok (.ireturn, 1) := by decide +kernel
theorem dX0_perform_148 : decode cX0_perform 148 = .ok (.aload_n 0, 1) := by decide +kernel
theorem dX0_perform_149 : decode cX0_perform 149 = .ok (.iload_n 2, 1) := by decide +kernel
theorem dX0_perform_150 : decode cX0_perform 150 = .ok (.iload_n 3, 1) := by decide +kernel
theorem dX0_perform_151 : decode cX0_perform 151 = .ok (.invokevirtual 55, 3) := by decide +kernel
theorem dX0_perform_154 : decode cX0_perform 154 = .ok (.ireturn, 1) := by decide +kernel
theorem dX0_perform_155 : decode cX0_perform 155 = .ok (.aload_n 0, 1) := by decide +kernel
theorem dX0_perform_156 : decode cX0_perform 156 = .ok (.iload_n 2, 1) := by decide +kernel
theorem dX0_perform_157 : decode cX0_perform 157 = .ok (.iload 4, 2) := by decide +kernel
theorem dX0_perform_159 : decode cX0_perform 159 = .ok (.invokevirtual 58, 3) := by decide +kernel
theorem dX0_perform_162 : decode cX0_perform 162 = .ok (.ireturn, 1) := by decide +kernel
theorem dX0_perform_163 : decode cX0_perform 163 = .ok (.aload_n 0, 1) := by decide +kernel
theorem dX0_perform_164 : decode cX0_perform 164 = .ok (.iload_n 2, 1) := by decide +kernel
theorem dX0_perform_165 : decode cX0_perform 165 = .ok (.iload_n 3, 1) := by decide +kernel
theorem dX0_perform_166 : decode cX0_perform 166 = .ok (.invokevirtual 61, 3) := by decide +kernel
theorem dX0_perform_169 : decode cX0_perform 169 = .ok (.ireturn, 1) := by decide +kernel
theorem dX0_perform_170 : decode cX0_perform 170 = .ok (.aload_n 0, 1) := by decide +kernel
theorem dX0_perform_171 : decode cX0_perform 171 = .ok (.iload_n 2, 1) := by decide +kernel
theorem dX0_perform_172 : decode cX0_perform 172 = .ok (.iload_n 3, 1) := by decide +kernel
theorem dX0_perform_173 : decode cX0_perform 173 = .ok (.invokevirtual 64, 3) := by decide +kernel
theorem dX0_perform_176 : decode cX0_perform 176 = .ok (.ireturn, 1) := by decide +kernel
theorem dX0_perform_177 : decode cX0_perform 177 = .ok (.iconst 0, 1) := by decide +kernel
theorem dX0_perform_178 : decode cX0_perform 178 = .ok (.ireturn, 1) := by decide +kernel
theorem dX0_splice_0 : decode cX0_splice 0 = .ok (.aload_n 0, 1) := by decide +kernel
theorem dX0_splice_1 : decode cX0_splice 1 = .ok (.getfield 11, 3) := by decide +kernel
theorem dX0_splice_4 : decode cX0_splice 4 = .ok (.iload_n 1, 1) := by decide +kernel
theorem dX0_splice_5 : decode cX0_splice 5 = .ok (.aaload, 1) := by decide +kernel
theorem dX0_splice_6 : decode cX0_splice 6 = .ok (.ifnull 12, 3) := by decide +kernel
theorem dX0_splice_9 : decode cX0_splice 9 = .ok (.aload_n 0, 1) := by decide +kernel
theorem dX0_splice_10 : decode cX0_splice 10 = .ok (.getfield 11, 3) := by decide +kernel
theorem dX0_splice_13 : decode cX0_splice 13 = .ok (.iload_n 2, 1) := by decide +kernel
theorem dX0_splice_14 : decode cX0_splice 14 = .ok (.aaload, 1) := by decide +kernel
theorem dX0_splice_15 : decode cX0_splice 15 = .ok (.ifnonnull 5, 3) := by decide +kernel
theorem dX0_splice_18 : decode cX0_splice 18 = .ok (.iconst 1, 1) := by decide +kernel
theorem dX0_splice_19 : decode cX0_splice 19 = .ok (.ireturn, 1) := by decide +kernel
theorem dX0_splice_20 : decode cX0_splice 20 = .ok (.aload_n 0, 1) := by decide +kernel
theorem dX0_splice_21 : decode cX0_splice 21 = .ok (.getfield 11, 3) := by decide +kernel
theorem dX0_splice_24 : decode cX0_splice 24 = .ok (.iload_n 1, 1) := by decide +kernel
theorem dX0_splice_25 : decode cX0_splice 25 = .ok (.aaload, 1) := by decide +kernel
theorem dX0_splice_26 : decode cX0_splice 26 = .ok (.astore 6, 2) := by decide +kernel
theorem dX0_splice_28 : decode cX0_splice 28 = .ok (.aload 6, 2) := by decide +kernel
theorem dX0_splice_30 : decode cX0_splice 30 = .ok (.instanceof 67, 3) := by decide +kernel
theorem dX0_splice_33 : decode cX0_splice 33 = .ok (.ifCond .eq 43, 3) := by decide +kernel
theorem dX0_splice_36 : decode cX0_splice 36 = .ok (.aload 6, 2) := by decide +kernel
theorem dX0_splice_38 : decode cX0_splice 38 = .ok (.checkcast 67, 3) := by decide +kernel
theorem dX0_splice_41 : decode cX0_splice 41 = .ok (.astore 4, 2) := by decide +kernel
theorem dX0_splice_43 : decode cX0_splice 43 = .ok (.aload_n 0, 1) := by decide +kernel
theorem dX0_splice_44 : decode cX0_splice 44 = .ok (.getfield 11, 3) := by decide +kernel
theorem dX0_splice_47 : decode cX0_splice 47 = .ok (.iload_n 2, 1) := by decide +kernel
theorem dX0_splice_48 : decode cX0_splice 48 = .ok (.aaload, 1) := by decide +kernel
theorem dX0_splice_49 : decode cX0_splice 49 = .ok (.astore 6, 2) := by decide +kernel
theorem dX0_splice_51 : decode cX0_splice 51 = .ok (.aload 6, 2) := by decide +kernel
theorem dX0_splice_53 : decode cX0_splice 53 = .ok (.instanceof 67, 3) := by decide +kernel
theorem dX0_splice_56 : decode cX0_splice 56 = .ok (.ifCond .eq 20, 3) := by decide +kernel
theorem dX0_splice_59 : decode cX0_splice 59 = .ok (.aload 6, 2) := by decide +kernel
theorem dX0_splice_61 : decode cX0_splice 61 = .ok (.checkcast 67, 3) := by decide +kernel
theorem dX0_splice_64 : decode cX0_splice 64 = .ok (.astore 5, 2) := by decide +kernel
theorem dX0_splice_66 : decode cX0_splice 66 = .ok (.aload 4, 2) := by decide +kernel
theorem dX0_splice_68 : decode cX0_splice 68 = .ok (.aload 5, 2) := by decide +kernel
theorem dX0_splice_70 : decode cX0_splice 70 = .ok (.invokevirtual 69, 3) := by decide +kernel
theorem dX0_splice_73 : decode cX0_splice 73 = .ok (.ifCond .ne 5, 3) := by decide +kernel
theorem dX0_splice_76 : decode cX0_splice 76 = .ok (.iconst 2, 1) := by decide +kernel
theorem dX0_splice_77 : decode cX0_splice 77 = .ok (.ireturn, 1) := by decide +kernel
theorem dX0_splice_78 : decode cX0_splice 78 = .ok (.aload 4, 2) := by decide +kernel
theorem dX0_splice_80 : decode cX0_splice 80 = .ok (.aload_n 0, 1) := by decide +kernel
theorem dX0_splice_81 : decode cX0_splice 81 = .ok (.getfield 17, 3) := by decide +kernel
theorem dX0_splice_84 : decode cX0_splice 84 = .ok (.iload_n 1, 1) := by decide +kernel
theorem dX0_splice_85 : decode cX0_splice 85 = .ok (.iaload, 1) := by decide +kernel
theorem dX0_splice_86 : decode cX0_splice 86 = .ok (.iload_n 3, 1) := by decide +kernel
theorem dX0_splice_87 : decode cX0_splice 87 = .ok (.invokevirtual 73, 3) := by decide +kernel
theorem dX0_splice_90 : decode cX0_splice 90 = .ok (.ifCond .eq 18, 3) := by decide +kernel
theorem dX0_splice_93 : decode cX0_splice 93 = .ok (.aload 5, 2) := by decide +kernel
theorem dX0_splice_95 : decode cX0_splice 95 = .ok (.aload_n 0, 1) := by decide +kernel
theorem dX0_splice_96 : decode cX0_splice 96 = .ok (.getfield 17, 3) := by decide +kernel
theorem dX0_splice_99 : decode cX0_splice 99 = .ok (.iload_n 2, 1) := by decide +kernel
theorem dX0_splice_100 : decode cX0_splice 100 = .ok (.iaload, 1) := by decide +kernel
theorem dX0_splice_101 : decode cX0_splice 101 = .ok (.iload_n 3, 1) := by decide +kernel
theorem dX0_splice_102 : decode cX0_splice 102 = .ok (.invokevirtual 73, 3) := by decide +kernel
theorem dX0_splice_105 : decode cX0_splice 105 = .ok (.ifCond .ne 5, 3) := by decide +kernel
theorem dX0_splice_108 : decode cX0_splice 108 = .ok (.iconst 3, 1) := by decide +kernel
theorem dX0_splice_109 : decode cX0_splice 109 = .ok (.ireturn, 1) := by decide +kernel
theorem dX0_splice_110 : decode cX0_splice 110 = .ok (.aload_n 0, 1) := by decide +kernel
theorem dX0_splice_111 : decode cX0_splice 111 = .ok (.aload 4, 2) := by decide +kernel
theorem dX0_splice_113 : decode cX0_splice 113 = .ok (.aload_n 0, 1) := by decide +kernel
theorem dX0_splice_114 : decode cX0_splice 114 = .ok (.getfield 17, 3) := by decide +kernel
theorem dX0_splice_117 : decode cX0_splice 117 = .ok (.iload_n 1, 1) := by decide +kernel
theorem dX0_splice_118 : decode cX0_splice 118 = .ok (.iaload, 1) := by decide +kernel
theorem dX0_splice_119 : decode cX0_splice 119 = .ok (.aload 5, 2) := by decide +kernel
theorem dX0_splice_121 : decode cX0_splice 121 = .ok (.iload_n 3, 1) := by decide +kernel
theorem dX0_splice_122 : decode cX0_splice 122 = .ok (.invokevirtual 77, 3) := by decide +kernel
theorem dX0_splice_125 : decode cX0_splice 125 = .ok (.istore 6, 2) := by decide +kernel
theorem dX0_splice_127 : decode cX0_splice 127 = .ok (.aload 4, 2) := by decide +kernel
theorem dX0_splice_129 : decode cX0_splice 129 = .ok (.getfield 81, 3) := by decide +kernel
theorem dX0_splice_132 : decode cX0_splice 132 = .ok (.aload_n 0, 1) := by decide +kernel
theorem dX0_splice_133 : decode cX0_splice 133 = .ok (.getfield 17, 3) := by decide +kernel
theorem dX0_splice_136 : decode cX0_splice 136 = .ok (.iload_n 1, 1) := by decide +kernel
theorem dX0_splice_137 : decode cX0_splice 137 = .ok (.iaload, 1) := by decide +kernel
theorem dX0_splice_138 : decode cX0_splice 138 = .ok (.aload 5, 2) := by decide +kernel
theorem dX0_splice_140 : decode cX0_splice 140 = .ok (.getfield 81, 3) := by decide +kernel
theorem dX0_splice_143 : decode cX0_splice 143 = .ok (.aload_n 0, 1) := by decide +kernel
theorem dX0_splice_144 : decode cX0_splice 144 = .ok (.getfield 17, 3) := by decide +kernel
theorem dX0_splice_147 : decode cX0_splice 147 = .ok (.iload_n 2, 1) := by decide +kernel
theorem dX0_splice_148 : decode cX0_splice 148 = .ok (.iaload, 1) := by decide +kernel
theorem dX0_splice_149 : decode cX0_splice 149 = .ok (.iload 6, 2) := by decide +kernel
theorem dX0_splice_151 : decode cX0_splice 151 = .ok (.invokestatic 84, 3) := by decide +kernel
theorem dX0_splice_154 : decode cX0_splice 154 = .ok (.iload 6, 2) := by decide +kernel
theorem dX0_splice_156 : decode cX0_splice 156 = .ok (.iload_n 3, 1) := by decide +kernel
theorem dX0_splice_157 : decode cX0_splice 157 = .ok (.if_icmp .ne 7, 3) := by decide +kernel
theorem dX0_splice_160 : decode cX0_splice 160 = .ok (.iconst 0, 1) := by decide +kernel
theorem dX0_splice_161 : decode cX0_splice 161 = .ok (.goto 4, 3) := by decide +kernel
theorem dX0_splice_164 : decode cX0_splice 164 = .ok (.iconst 2, 1) := by decide +kernel
theorem dX0_splice_165 : decode cX0_splice 165 = .ok (.ireturn, 1) := by decide +kernel
theorem dX0_howManyFit_0 : decode cX0_howManyFit 0 = .ok (.aload_n 3, 1) := by decide +kernel
theorem dX0_howManyFit_1 : decode cX0_howManyFit 1 = .ok (.invokevirtual 90, 3) := by decide +kernel
theorem dX0_howManyFit_4 : decode cX0_howManyFit 4 = .ok (.ifCond .ne 6, 3) := by decide +kernel
theorem dX0_howManyFit_7 : decode cX0_howManyFit 7 = .ok (.iload 4, 2) := by decide +kernel
theorem dX0_howManyFit_9 : decode cX0_howManyFit 9 = .ok (.ireturn, 1) := by decide +kernel
theorem dX0_howManyFit_10 : decode cX0_howManyFit 10 = .ok (.iconst 0, 1) := by decide +kernel
theorem dX0_howManyFit_11 : decode cX0_howManyFit 11 = .ok (.istore 5, 2) := by decide +kernel
theorem dX0_howManyFit_13 : decode cX0_howManyFit 13 = .ok (.iload 5, 2) := by decide +kernel
theorem dX0_howManyFit_15 : decode cX0_howManyFit 15 = .ok (.iload 4, 2) := by decide +kernel
theorem dX0_howManyFit_17 : decode cX0_howManyFit 17 = .ok (.if_icmp .ge 35, 3) := by decide +kernel
theorem dX0_howManyFit_20 : decode cX0_howManyFit 20 = .ok (.aload_n 3, 1) := by decide +kernel
theorem dX0_howManyFit_21 : decode cX0_howManyFit 21 = .ok (.aload_n 0, 1) := by decide +kernel
theorem dX0_howManyFit_22 : decode cX0_howManyFit 22 = .ok (.getfield 28, 3) := by decide +kernel
theorem dX0_howManyFit_25 : decode cX0_howManyFit 25 = .ok (.aload_n 1, 1) := by decide +kernel
theorem dX0_howManyFit_26 : decode cX0_howManyFit 26 = .ok (.getfield 81, 3) := by decide +kernel
theorem dX0_howManyFit_29 : decode cX0_howManyFit 29 = .ok (.iload_n 2, 1) := by decide +kernel
theorem dX0_howManyFit_30 : decode cX0_howManyFit 30 = .ok (.iload 5, 2) := by decide +kernel
theorem dX0_howManyFit_32 : decode cX0_howManyFit 32 = .ok (.iadd, 1) := by decide +kernel
theorem dX0_howManyFit_33 : decode cX0_howManyFit 33 = .ok (.laload, 1) := by decide +kernel
theorem dX0_howManyFit_34 : decode cX0_howManyFit 34 = .ok (.invokevirtual 94, 3) := by decide +kernel
theorem dX0_howManyFit_37 : decode cX0_howManyFit 37 = .ok (.invokevirtual 98, 3) := by decide +kernel
theorem dX0_howManyFit_40 : decode cX0_howManyFit 40 = .ok (.ifCond .ne 6, 3) := by decide +kernel
theorem dX0_howManyFit_43 : decode cX0_howManyFit 43 = .ok (.iload 5, 2) := by decide +kernel
theorem dX0_howManyFit_45 : decode cX0_howManyFit 45 = .ok (.ireturn, 1) := by decide +kernel
theorem dX0_howManyFit_46 : decode cX0_howManyFit 46 = .ok (.iinc 5 1, 3) := by decide +kernel
theorem dX0_howManyFit_49 : decode cX0_howManyFit 49 = .ok (.goto (-36), 3) := by decide +kernel
theorem dX0_howManyFit_52 : decode cX0_howManyFit 52 = .ok (.iload 4, 2) := by decide +kernel
theorem dX0_howManyFit_54 : decode cX0_howManyFit 54 = .ok (.ireturn, 1) := by decide +kernel
theorem dX0_turn_0 : decode cX0_turn 0 = .ok (.aload_n 0, 1) := by decide +kernel
theorem dX0_turn_1 : decode cX0_turn 1 = .ok (.getfield 11, 3) := by decide +kernel
theorem dX0_turn_4 : decode cX0_turn 4 = .ok (.iload_n 1, 1) := by decide +kernel
theorem dX0_turn_5 : decode cX0_turn 5 = .ok (.aaload, 1) := by decide +kernel
theorem dX0_turn_6 : decode cX0_turn 6 = .ok (.ifnonnull 5, 3) := by decide +kernel
theorem dX0_turn_9 : decode cX0_turn 9 = .ok (.iconst 1, 1) := by decide +kernel
theorem dX0_turn_10 : decode cX0_turn 10 = .ok (.ireturn, 1) := by decide +kernel
theorem dX0_turn_11 : decode cX0_turn 11 = .ok (.aload_n 0, 1) := by decide +kernel
theorem dX0_turn_12 : decode cX0_turn 12 = .ok (.getfield 11, 3) := by decide +kernel
theorem dX0_turn_15 : decode cX0_turn 15 = .ok (.iload_n 1, 1) := by decide +kernel
theorem dX0_turn_16 : decode cX0_turn 16 = .ok (.aaload, 1) := by decide +kernel
theorem dX0_turn_17 : decode cX0_turn 17 = .ok (.astore 4, 2) := by decide +kernel
theorem dX0_turn_19 : decode cX0_turn 19 = .ok (.aload 4, 2) := by decide +kernel
theorem dX0_turn_21 : decode cX0_turn 21 = .ok (.instanceof 67, 3) := by decide +kernel
theorem dX0_turn_24 : decode cX0_turn 24 = .ok (.ifCond .eq 12, 3) := by decide +kernel
theorem dX0_turn_27 : decode cX0_turn 27 = .ok (.aload 4, 2) := by decide +kernel
theorem dX0_turn_29 : decode cX0_turn 29 = .ok (.checkcast 67, 3) := by decide +kernel
theorem dX0_turn_32 : decode cX0_turn 32 = .ok (.astore_n 3, 1) := by decide +kernel
theorem dX0_turn_33 : decode cX0_turn 33 = .ok (.goto 5, 3) := by decide +kernel
theorem dX0_turn_36 : decode cX0_turn 36 = .ok (.iconst 2, 1) := by decide +kernel
theorem dX0_turn_37 : decode cX0_turn 37 = .ok (.ireturn, 1) := by decide +kernel
theorem dX0_turn_38 : decode cX0_turn 38 = .ok (.aload_n 3, 1) := by decide +kernel
theorem dX0_turn_39 : decode cX0_turn 39 = .ok (.iload_n 2, 1) := by decide +kernel
theorem dX0_turn_40 : decode cX0_turn 40 = .ok (.aload_n 0, 1) := by decide +kernel
theorem dX0_turn_41 : decode cX0_turn 41 = .ok (.getfield 21, 3) := by decide +kernel
theorem dX0_turn_44 : decode cX0_turn 44 = .ok (.invokevirtual 102, 3) := by decide +kernel
theorem dX0_turn_47 : decode cX0_turn 47 = .ok (.iconst 0, 1) := by decide +kernel
theorem dX0_turn_48 : decode cX0_turn 48 = .ok (.ireturn, 1) := by decide +kernel
theorem dX0_open_0 : decode cX0_open 0 = .ok (.aload_n 0, 1) := by decide +kernel
theorem dX0_open_1 : decode cX0_open 1 = .ok (.iload_n 1, 1) := by decide +kernel
theorem dX0_open_2 : decode cX0_open 2 = .ok (.iload_n 2, 1) := by decide +kernel
theorem dX0_open_3 : decode cX0_open 3 = .ok (.invokevirtual 105, 3) := by decide +kernel
theorem dX0_open_6 : decode cX0_open 6 = .ok (.istore_n 3, 1) := by decide +kernel
theorem dX0_open_7 : decode cX0_open 7 = .ok (.iload_n 3, 1) := by decide +kernel
theorem dX0_open_8 : decode cX0_open 8 = .ok (.ifCond .ne 38, 3) := by decide +kernel
theorem dX0_open_11 : decode cX0_open 11 = .ok (.aload_n 0, 1) := by decide +kernel
theorem dX0_open_12 : decode cX0_open 12 = .ok (.getfield 11, 3) := by decide +kernel
theorem dX0_open_15 : decode cX0_open 15 = .ok (.iload_n 1, 1) := by decide +kernel
theorem dX0_open_16 : decode cX0_open 16 = .ok (.aaload, 1) := by decide +kernel
theorem dX0_open_17 : decode cX0_open 17 = .ok (.astore 5, 2) := by decide +kernel
theorem dX0_open_19 : decode cX0_open 19 = .ok (.aload 5, 2) := by decide +kernel
theorem dX0_open_21 : decode cX0_open 21 = .ok (.instanceof 67, 3) := by decide +kernel
theorem dX0_open_24 : decode cX0_open 24 = .ok (.ifCond .eq 22, 3) := by decide +kernel
theorem dX0_open_27 : decode cX0_open 27 = .ok (.aload 5, 2) := by decide +kernel
theorem dX0_open_29 : decode cX0_open 29 = .ok (.checkcast 67, 3) := by decide +kernel
theorem dX0_open_32 : decode cX0_open 32 = .ok (.astore 4, 2) := by decide +kernel
theorem dX0_open_34 : decode cX0_open 34 = .ok (.aload 4, 2) := by decide +kernel
theorem dX0_open_36 : decode cX0_open 36 = .ok (.aload_n 0, 1) := by decide +kernel
theorem dX0_open_37 : decode cX0_open 37 = .ok (.getfield 17, 3) := by decide +kernel
theorem dX0_open_40 : decode cX0_open 40 = .ok (.iload_n 1, 1) := by decide +kernel
theorem dX0_open_41 : decode cX0_open 41 = .ok (.iaload, 1) := by decide +kernel
theorem dX0_open_42 : decode cX0_open 42 = .ok (.iload_n 2, 1) := by decide +kernel
theorem dX0_open_43 : decode cX0_open 43 = .ok (.invokevirtual 108, 3) := by decide +kernel
theorem dX0_open_46 : decode cX0_open 46 = .ok (.iload_n 3, 1) := by decide +kernel
theorem dX0_open_47 : decode cX0_open 47 = .ok (.ireturn, 1) := by decide +kernel
theorem dX0_shut_0 : decode cX0_shut 0 = .ok (.aload_n 0, 1) := by decide +kernel
theorem dX0_shut_1 : decode cX0_shut 1 = .ok (.iload_n 1, 1) := by decide +kernel
theorem dX0_shut_2 : decode cX0_shut 2 = .ok (.iload_n 2, 1) := by decide +kernel
theorem dX0_shut_3 : decode cX0_shut 3 = .ok (.invokevirtual 105, 3) := by decide +kernel
theorem dX0_shut_6 : decode cX0_shut 6 = .ok (.istore_n 3, 1) := by decide +kernel
theorem dX0_shut_7 : decode cX0_shut 7 = .ok (.iload_n 3, 1) := by decide +kernel
theorem dX0_shut_8 : decode cX0_shut 8 = .ok (.ifCond .ne 38, 3) := by decide +kernel
theorem dX0_shut_11 : decode cX0_shut 11 = .ok (.aload_n 0, 1) := by decide +kernel
theorem dX0_shut_12 : decode cX0_shut 12 = .ok (.getfield 11, 3) := by decide +kernel
theorem dX0_shut_15 : decode cX0_shut 15 = .ok (.iload_n 1, 1) := by decide +kernel
theorem dX0_shut_16 : decode cX0_shut 16 = .ok (.aaload, 1) := by decide +kernel
theorem dX0_shut_17 : decode cX0_shut 17 = .ok (.astore 5, 2) := by decide +kernel
theorem dX0_shut_19 : decode cX0_shut 19 = .ok (.aload 5, 2) := by decide +kernel
theorem dX0_shut_21 : decode cX0_shut 21 = .ok (.instanceof 67, 3) := by decide +kernel
theorem dX0_shut_24 : decode cX0_shut 24 = .ok (.ifCond .eq 22, 3) := by decide +kernel
theorem dX0_shut_27 : decode cX0_shut 27 = .ok (.aload 5, 2) := by decide +kernel
theorem dX0_shut_29 : decode cX0_shut 29 = .ok (.checkcast 67, 3) := by decide +kernel
theorem dX0_shut_32 : decode cX0_shut 32 = .ok (.astore 4, 2) := by decide +kernel
theorem dX0_shut_34 : decode cX0_shut 34 = .ok (.aload 4, 2) := by decide +kernel
theorem dX0_shut_36 : decode cX0_shut 36 = .ok (.aload_n 0, 1) := by decide +kernel
theorem dX0_shut_37 : decode cX0_shut 37 = .ok (.getfield 17, 3) := by decide +kernel
theorem dX0_shut_40 : decode cX0_shut 40 = .ok (.iload_n 1, 1) := by decide +kernel
theorem dX0_shut_41 : decode cX0_shut 41 = .ok (.iaload, 1) := by decide +kernel
theorem dX0_shut_42 : decode cX0_shut 42 = .ok (.iload_n 2, 1) := by decide +kernel
theorem dX0_shut_43 : decode cX0_shut 43 = .ok (.invokevirtual 111, 3) := by decide +kernel
theorem dX0_shut_46 : decode cX0_shut 46 = .ok (.iload_n 3, 1) := by decide +kernel
theorem dX0_shut_47 : decode cX0_shut 47 = .ok (.ireturn, 1) := by decide +kernel
theorem dX0_refusalOfPlaces_0 : decode cX0_refusalOfPlaces 0 = .ok (.aload_n 0, 1) := by decide +kernel
theorem dX0_refusalOfPlaces_1 : decode cX0_refusalOfPlaces 1 = .ok (.getfield 11, 3) := by decide +kernel
theorem dX0_refusalOfPlaces_4 : decode cX0_refusalOfPlaces 4 = .ok (.iload_n 1, 1) := by decide +kernel
theorem dX0_refusalOfPlaces_5 : decode cX0_refusalOfPlaces 5 = .ok (.aaload, 1) := by decide +kernel
theorem dX0_refusalOfPlaces_6 : decode cX0_refusalOfPlaces 6 = .ok (.ifnonnull 5, 3) := by decide +kernel
theorem dX0_refusalOfPlaces_9 : decode cX0_refusalOfPlaces 9 = .ok (.iconst 1, 1) := by decide +kernel
theorem dX0_refusalOfPlaces_10 : decode cX0_refusalOfPlaces 10 = .ok (.ireturn, 1) := by decide +kernel
theorem dX0_refusalOfPlaces_11 : decode cX0_refusalOfPlaces 11 = .ok (.aload_n 0, 1) := by decide +kernel
theorem dX0_refusalOfPlaces_12 : decode cX0_refusalOfPlaces 12 = .ok (.getfield 11, 3) := by decide +kernel
theorem dX0_refusalOfPlaces_15 : decode cX0_refusalOfPlaces 15 = .ok (.iload_n 1, 1) := by decide +kernel
theorem dX0_refusalOfPlaces_16 : decode cX0_refusalOfPlaces 16 = .ok (.aaload, 1) := by decide +kernel
theorem dX0_refusalOfPlaces_17 : decode cX0_refusalOfPlaces 17 = .ok (.astore 4, 2) := by decide +kernel
theorem dX0_refusalOfPlaces_19 : decode cX0_refusalOfPlaces 19 = .ok (.aload 4, 2) := by decide +kernel
theorem dX0_refusalOfPlaces_21 : decode cX0_refusalOfPlaces 21 = .ok (.instanceof 67, 3) := by decide +kernel
theorem dX0_refusalOfPlaces_24 : decode cX0_refusalOfPlaces 24 = .ok (.ifCond .eq 12, 3) := by decide +kernel
theorem dX0_refusalOfPlaces_27 : decode cX0_refusalOfPlaces 27 = .ok (.aload 4, 2) := by decide +kernel
theorem dX0_refusalOfPlaces_29 : decode cX0_refusalOfPlaces 29 = .ok (.checkcast 67, 3) := by decide +kernel
theorem dX0_refusalOfPlaces_32 : decode cX0_refusalOfPlaces 32 = .ok (.astore_n 3, 1) := by decide +kernel
theorem dX0_refusalOfPlaces_33 : decode cX0_refusalOfPlaces 33 = .ok (.goto 5, 3) := by decide +kernel
theorem dX0_refusalOfPlaces_36 : decode cX0_refusalOfPlaces 36 = .ok (.iconst 2, 1) := by decide +kernel
theorem dX0_refusalOfPlaces_37 : decode cX0_refusalOfPlaces 37 = .ok (.ireturn, 1) := by decide +kernel
theorem dX0_refusalOfPlaces_38 : decode cX0_refusalOfPlaces 38 = .ok (.aload_n 3, 1) := by decide +kernel
theorem dX0_refusalOfPlaces_39 : decode cX0_refusalOfPlaces 39 = .ok (.aload_n 0, 1) := by decide +kernel
theorem dX0_refusalOfPlaces_40 : decode cX0_refusalOfPlaces 40 = .ok (.getfield 17, 3) := by decide +kernel
theorem dX0_refusalOfPlaces_43 : decode cX0_refusalOfPlaces 43 = .ok (.iload_n 1, 1) := by decide +kernel
theorem dX0_refusalOfPlaces_44 : decode cX0_refusalOfPlaces 44 = .ok (.iaload, 1) := by decide +kernel
theorem dX0_refusalOfPlaces_45 : decode cX0_refusalOfPlaces 45 = .ok (.iload_n 2, 1) := by decide +kernel
theorem dX0_refusalOfPlaces_46 : decode cX0_refusalOfPlaces 46 = .ok (.invokevirtual 73, 3) := by decide +kernel
theorem dX0_refusalOfPlaces_49 : decode cX0_refusalOfPlaces 49 = .ok (.ifCond .eq 7, 3) := by decide +kernel
theorem dX0_refusalOfPlaces_52 : decode cX0_refusalOfPlaces 52 = .ok (.iconst 0, 1) := by decide +kernel
theorem dX0_refusalOfPlaces_53 : decode cX0_refusalOfPlaces 53 = .ok (.goto 4, 3) := by decide +kernel
theorem dX0_refusalOfPlaces_56 : decode cX0_refusalOfPlaces 56 = .ok (.iconst 3, 1) := by decide +kernel
theorem dX0_refusalOfPlaces_57 : decode cX0_refusalOfPlaces 57 = .ok (.ireturn, 1) := by decide +kernel
theorem dX0_make_0 : decode cX0_make 0 = .ok (.iload_n 3, 1) := by decide +kernel
theorem dX0_make_1 : decode cX0_make 1 = .ok (.ifCond .ge 5, 3) := by decide +kernel
theorem dX0_make_4 : decode cX0_make 4 = .ok (.iconst 5, 1) := by decide +kernel
theorem dX0_make_5 : decode cX0_make 5 = .ok (.ireturn, 1) := by decide +kernel
theorem dX0_make_6 : decode cX0_make 6 = .ok (.aload_n 0, 1) := by decide +kernel
theorem dX0_make_7 : decode cX0_make 7 = .ok (.getfield 28, 3) := by decide +kernel
theorem dX0_make_10 : decode cX0_make 10 = .ok (.iload_n 3, 1) := by decide +kernel
theorem dX0_make_11 : decode cX0_make 11 = .ok (.invokevirtual 113, 3) := by decide +kernel
theorem dX0_make_14 : decode cX0_make 14 = .ok (.ifCond .ne 5, 3) := by decide +kernel
theorem dX0_make_17 : decode cX0_make 17 = .ok (.iconst 4, 1) := by decide +kernel
theorem dX0_make_18 : decode cX0_make 18 = .ok (.ireturn, 1) := by decide +kernel
theorem dX0_make_19 : decode cX0_make 19 = .ok (.aload_n 0, 1) := by decide +kernel
theorem dX0_make_20 : decode cX0_make 20 = .ok (.getfield 11, 3) := by decide +kernel
theorem dX0_make_23 : decode cX0_make 23 = .ok (.iload_n 1, 1) := by decide +kernel
theorem dX0_make_24 : decode cX0_make 24 = .ok (.aload_n 0, 1) := by decide +kernel
theorem dX0_make_25 : decode cX0_make 25 = .ok (.getfield 28, 3) := by decide +kernel
theorem dX0_make_28 : decode cX0_make 28 = .ok (.iload_n 2, 1) := by decide +kernel
theorem dX0_make_29 : decode cX0_make 29 = .ok (.iload_n 3, 1) := by decide +kernel
theorem dX0_make_30 : decode cX0_make 30 = .ok (.invokevirtual 116, 3) := by decide +kernel
theorem dX0_make_33 : decode cX0_make 33 = .ok (.aastore, 1) := by decide +kernel
theorem dX0_make_34 : decode cX0_make 34 = .ok (.iconst 0, 1) := by decide +kernel
theorem dX0_make_35 : decode cX0_make 35 = .ok (.ireturn, 1) := by decide +kernel
theorem dX0_twin_0 : decode cX0_twin 0 = .ok (.aload_n 0, 1) := by decide +kernel
theorem dX0_twin_1 : decode cX0_twin 1 = .ok (.getfield 11, 3) := by decide +kernel
theorem dX0_twin_4 : decode cX0_twin 4 = .ok (.iload_n 2, 1) := by decide +kernel
theorem dX0_twin_5 : decode cX0_twin 5 = .ok (.aaload, 1) := by decide +kernel
theorem dX0_twin_6 : decode cX0_twin 6 = .ok (.ifnonnull 5, 3) := by decide +kernel
theorem dX0_twin_9 : decode cX0_twin 9 = .ok (.iconst 1, 1) := by decide +kernel
theorem dX0_twin_10 : decode cX0_twin 10 = .ok (.ireturn, 1) := by decide +kernel
theorem dX0_twin_11 : decode cX0_twin 11 = .ok (.aload_n 0, 1) := by decide +kernel
theorem dX0_twin_12 : decode cX0_twin 12 = .ok (.getfield 11, 3) := by decide +kernel
theorem dX0_twin_15 : decode cX0_twin 15 = .ok (.iload_n 2, 1) := by decide +kernel
theorem dX0_twin_16 : decode cX0_twin 16 = .ok (.aaload, 1) := by decide +kernel
theorem dX0_twin_17 : decode cX0_twin 17 = .ok (.astore 4, 2) := by decide +kernel
theorem dX0_twin_19 : decode cX0_twin 19 = .ok (.aload 4, 2) := by decide +kernel
theorem dX0_twin_21 : decode cX0_twin 21 = .ok (.instanceof 67, 3) := by decide +kernel
theorem dX0_twin_24 : decode cX0_twin 24 = .ok (.ifCond .eq 12, 3) := by decide +kernel
theorem dX0_twin_27 : decode cX0_twin 27 = .ok (.aload 4, 2) := by decide +kernel
theorem dX0_twin_29 : decode cX0_twin 29 = .ok (.checkcast 67, 3) := by decide +kernel
theorem dX0_twin_32 : decode cX0_twin 32 = .ok (.astore_n 3, 1) := by decide +kernel
theorem dX0_twin_33 : decode cX0_twin 33 = .ok (.goto 5, 3) := by decide +kernel
theorem dX0_twin_36 : decode cX0_twin 36 = .ok (.iconst 2, 1) := by decide +kernel
theorem dX0_twin_37 : decode cX0_twin 37 = .ok (.ireturn, 1) := by decide +kernel
theorem dX0_twin_38 : decode cX0_twin 38 = .ok (.aload_n 0, 1) := by decide +kernel
theorem dX0_twin_39 : decode cX0_twin 39 = .ok (.getfield 28, 3) := by decide +kernel
theorem dX0_twin_42 : decode cX0_twin 42 = .ok (.aload_n 3, 1) := by decide +kernel
theorem dX0_twin_43 : decode cX0_twin 43 = .ok (.getfield 81, 3) := by decide +kernel
theorem dX0_twin_46 : decode cX0_twin 46 = .ok (.arraylength, 1) := by decide +kernel
theorem dX0_twin_47 : decode cX0_twin 47 = .ok (.invokevirtual 113, 3) := by decide +kernel
theorem dX0_twin_50 : decode cX0_twin 50 = .ok (.ifCond .ne 5, 3) := by decide +kernel
theorem dX0_twin_53 : decode cX0_twin 53 = .ok (.iconst 4, 1) := by decide +kernel
theorem dX0_twin_54 : decode cX0_twin 54 = .ok (.ireturn, 1) := by decide +kernel
theorem dX0_twin_55 : decode cX0_twin 55 = .ok (.aload_n 0, 1) := by decide +kernel
theorem dX0_twin_56 : decode cX0_twin 56 = .ok (.getfield 28, 3) := by decide +kernel
theorem dX0_twin_59 : decode cX0_twin 59 = .ok (.aload_n 3, 1) := by decide +kernel
theorem dX0_twin_60 : decode cX0_twin 60 = .ok (.getfield 120, 3) := by decide +kernel
theorem dX0_twin_63 : decode cX0_twin 63 = .ok (.aload_n 3, 1) := by decide +kernel
theorem dX0_twin_64 : decode cX0_twin 64 = .ok (.getfield 81, 3) := by decide +kernel
theorem dX0_twin_67 : decode cX0_twin 67 = .ok (.arraylength, 1) := by decide +kernel
theorem dX0_twin_68 : decode cX0_twin 68 = .ok (.invokevirtual 116, 3) := by decide +kernel
theorem dX0_twin_71 : decode cX0_twin 71 = .ok (.astore 4, 2) := by decide +kernel
theorem dX0_twin_73 : decode cX0_twin 73 = .ok (.aload_n 3, 1) := by decide +kernel
theorem dX0_twin_74 : decode cX0_twin 74 = .ok (.aload 4, 2) := by decide +kernel
theorem dX0_twin_76 : decode cX0_twin 76 = .ok (.getfield 81, 3) := by decide +kernel
theorem dX0_twin_79 : decode cX0_twin 79 = .ok (.invokevirtual 124, 3) := by decide +kernel
theorem dX0_twin_82 : decode cX0_twin 82 = .ok (.aload_n 0, 1) := by decide +kernel
theorem dX0_twin_83 : decode cX0_twin 83 = .ok (.getfield 11, 3) := by decide +kernel
theorem dX0_twin_86 : decode cX0_twin 86 = .ok (.iload_n 1, 1) := by decide +kernel
theorem dX0_twin_87 : decode cX0_twin 87 = .ok (.aload 4, 2) := by decide +kernel
theorem dX0_twin_89 : decode cX0_twin 89 = .ok (.aastore, 1) := by decide +kernel
theorem dX0_twin_90 : decode cX0_twin 90 = .ok (.iconst 0, 1) := by decide +kernel
theorem dX0_twin_91 : decode cX0_twin 91 = .ok (.ireturn, 1) := by decide +kernel
theorem dX0_swap_0 : decode cX0_swap 0 = .ok (.aload_n 0, 1) := by decide +kernel
theorem dX0_swap_1 : decode cX0_swap 1 = .ok (.getfield 11, 3) := by decide +kernel
theorem dX0_swap_4 : decode cX0_swap 4 = .ok (.iload_n 1, 1) := by decide +kernel
theorem dX0_swap_5 : decode cX0_swap 5 = .ok (.aaload, 1) := by decide +kernel
theorem dX0_swap_6 : decode cX0_swap 6 = .ok (.astore_n 3, 1) := by decide +kernel
theorem dX0_swap_7 : decode cX0_swap 7 = .ok (.aload_n 0, 1) := by decide +kernel
theorem dX0_swap_8 : decode cX0_swap 8 = .ok (.getfield 11, 3) := by decide +kernel
theorem dX0_swap_11 : decode cX0_swap 11 = .ok (.iload_n 1, 1) := by decide +kernel
theorem dX0_swap_12 : decode cX0_swap 12 = .ok (.aload_n 0, 1) := by decide +kernel
theorem dX0_swap_13 : decode cX0_swap 13 = .ok (.getfield 11, 3) := by decide +kernel
theorem dX0_swap_16 : decode cX0_swap 16 = .ok (.iload_n 2, 1) := by decide +kernel
theorem dX0_swap_17 : decode cX0_swap 17 = .ok (.aaload, 1) := by decide +kernel
theorem dX0_swap_18 : decode cX0_swap 18 = .ok (.aastore, 1) := by decide +kernel
theorem dX0_swap_19 : decode cX0_swap 19 = .ok (.aload_n 0, 1) := by decide +kernel
theorem dX0_swap_20 : decode cX0_swap 20 = .ok (.getfield 11, 3) := by decide +kernel
theorem dX0_swap_23 : decode cX0_swap 23 = .ok (.iload_n 2, 1) := by decide +kernel
theorem dX0_swap_24 : decode cX0_swap 24 = .ok (.aload_n 3, 1) := by decide +kernel
theorem dX0_swap_25 : decode cX0_swap 25 = .ok (.aastore, 1) := by decide +kernel
theorem dX0_swap_26 : decode cX0_swap 26 = .ok (.iconst 0, 1) := by decide +kernel
theorem dX0_swap_27 : decode cX0_swap 27 = .ok (.ireturn, 1) := by decide +kernel
theorem dX0_hang_0 : decode cX0_hang 0 = .ok (.iload_n 2, 1) := by decide +kernel
theorem dX0_hang_1 : decode cX0_hang 1 = .ok (.ifCond .ne 12, 3) := by decide +kernel
theorem dX0_hang_4 : decode cX0_hang 4 = .ok (.aload_n 0, 1) := by decide +kernel
theorem dX0_hang_5 : decode cX0_hang 5 = .ok (.getfield 11, 3) := by decide +kernel
theorem dX0_hang_8 : decode cX0_hang 8 = .ok (.iload_n 1, 1) := by decide +kernel
theorem dX0_hang_9 : decode cX0_hang 9 = .ok (.aconst_null, 1) := by decide +kernel
theorem dX0_hang_10 : decode cX0_hang 10 = .ok (.aastore, 1) := by decide +kernel
theorem dX0_hang_11 : decode cX0_hang 11 = .ok (.iconst 0, 1) := by decide +kernel
theorem dX0_hang_12 : decode cX0_hang 12 = .ok (.ireturn, 1) := by decide +kernel
theorem dX0_hang_13 : decode cX0_hang 13 = .ok (.iload_n 2, 1) := by decide +kernel
theorem dX0_hang_14 : decode cX0_hang 14 = .ok (.iconst 1, 1) := by decide +kernel
theorem dX0_hang_15 : decode cX0_hang 15 = .ok (.if_icmp .ne 18, 3) := by decide +kernel
theorem dX0_hang_18 : decode cX0_hang 18 = .ok (.aload_n 0, 1) := by decide +kernel
theorem dX0_hang_19 : decode cX0_hang 19 = .ok (.getfield 11, 3) := by decide +kernel
theorem dX0_hang_22 : decode cX0_hang 22 = .ok (.iload_n 1, 1) := by decide +kernel
theorem dX0_hang_23 : decode cX0_hang 23 = .ok (.new 128, 3) := by decide +kernel
theorem dX0_hang_26 : decode cX0_hang 26 = .ok (.dup, 1) := by decide +kernel
theorem dX0_hang_27 : decode cX0_hang 27 = .ok (.invokespecial 130, 3) := by decide +kernel
theorem dX0_hang_30 : decode cX0_hang 30 = .ok (.aastore, 1) := by decide +kernel
theorem dX0_hang_31 : decode cX0_hang 31 = .ok (.iconst 0, 1) := by decide +kernel
theorem dX0_hang_32 : decode cX0_hang 32 = .ok (.ireturn, 1) := by decide +kernel
theorem dX0_hang_33 : decode cX0_hang 33 = .ok (.aload_n 0, 1) := by decide +kernel
theorem dX0_hang_34 : decode cX0_hang 34 = .ok (.getfield 28, 3) := by decide +kernel
theorem dX0_hang_37 : decode cX0_hang 37 = .ok (.invokevirtual 131, 3) := by decide +kernel
theorem dX0_hang_40 : decode cX0_hang 40 = .ok (.ifCond .ne 5, 3) := by decide +kernel
theorem dX0_hang_43 : decode cX0_hang 43 = .ok (.iconst 4, 1) := by decide +kernel
theorem dX0_hang_44 : decode cX0_hang 44 = .ok (.ireturn, 1) := by decide +kernel
theorem dX0_hang_45 : decode cX0_hang 45 = .ok (.aload_n 0, 1) := by decide +kernel
theorem dX0_hang_46 : decode cX0_hang 46 = .ok (.getfield 11, 3) := by decide +kernel
theorem dX0_hang_49 : decode cX0_hang 49 = .ok (.iload_n 1, 1) := by decide +kernel
theorem dX0_hang_50 : decode cX0_hang 50 = .ok (.aload_n 0, 1) := by decide +kernel
theorem dX0_hang_51 : decode cX0_hang 51 = .ok (.getfield 28, 3) := by decide +kernel
theorem dX0_hang_54 : decode cX0_hang 54 = .ok (.iload_n 2, 1) := by decide +kernel
theorem dX0_hang_55 : decode cX0_hang 55 = .ok (.iconst 1, 1) := by decide +kernel
theorem dX0_hang_56 : decode cX0_hang 56 = .ok (.isub, 1) := by decide +kernel
theorem dX0_hang_57 : decode cX0_hang 57 = .ok (.invokevirtual 134, 3) := by decide +kernel
theorem dX0_hang_60 : decode cX0_hang 60 = .ok (.aastore, 1) := by decide +kernel
theorem dX0_hang_61 : decode cX0_hang 61 = .ok (.iconst 0, 1) := by decide +kernel
theorem dX0_hang_62 : decode cX0_hang 62 = .ok (.ireturn, 1) := by decide +kernel
theorem dX0_pin_0 : decode cX0_pin 0 = .ok (.aload_n 0, 1) := by decide +kernel
theorem dX0_pin_1 : decode cX0_pin 1 = .ok (.getfield 11, 3) := by decide +kernel
theorem dX0_pin_4 : decode cX0_pin 4 = .ok (.iload_n 1, 1) := by decide +kernel
theorem dX0_pin_5 : decode cX0_pin 5 = .ok (.aaload, 1) := by decide +kernel
theorem dX0_pin_6 : decode cX0_pin 6 = .ok (.ifnonnull 5, 3) := by decide +kernel
theorem dX0_pin_9 : decode cX0_pin 9 = .ok (.iconst 1, 1) := by decide +kernel
theorem dX0_pin_10 : decode cX0_pin 10 = .ok (.ireturn, 1) := by decide +kernel
theorem dX0_pin_11 : decode cX0_pin 11 = .ok (.aload_n 0, 1) := by decide +kernel
theorem dX0_pin_12 : decode cX0_pin 12 = .ok (.getfield 11, 3) := by decide +kernel
theorem dX0_pin_15 : decode cX0_pin 15 = .ok (.iload_n 1, 1) := by decide +kernel
theorem dX0_pin_16 : decode cX0_pin 16 = .ok (.aaload, 1) := by decide +kernel
theorem dX0_pin_17 : decode cX0_pin 17 = .ok (.astore 4, 2) := by decide +kernel
theorem dX0_pin_19 : decode cX0_pin 19 = .ok (.aload 4, 2) := by decide +kernel
theorem dX0_pin_21 : decode cX0_pin 21 = .ok (.instanceof 67, 3) := by decide +kernel
theorem dX0_pin_24 : decode cX0_pin 24 = .ok (.ifCond .eq 16, 3) := by decide +kernel
theorem dX0_pin_27 : decode cX0_pin 27 = .ok (.aload 4, 2) := by decide +kernel
theorem dX0_pin_29 : decode cX0_pin 29 = .ok (.checkcast 67, 3) := by decide +kernel
theorem dX0_pin_32 : decode cX0_pin 32 = .ok (.astore_n 3, 1) := by decide +kernel
theorem dX0_pin_33 : decode cX0_pin 33 = .ok (.aload_n 3, 1) := by decide +kernel
theorem dX0_pin_34 : decode cX0_pin 34 = .ok (.invokevirtual 90, 3) := by decide +kernel
theorem dX0_pin_37 : decode cX0_pin 37 = .ok (.ifCond .eq 5, 3) := by decide +kernel
theorem dX0_pin_40 : decode cX0_pin 40 = .ok (.iconst 2, 1) := by decide +kernel
theorem dX0_pin_41 : decode cX0_pin 41 = .ok (.ireturn, 1) := by decide +kernel
theorem dX0_pin_42 : decode cX0_pin 42 = .ok (.aload_n 3, 1) := by decide +kernel
theorem dX0_pin_43 : decode cX0_pin 43 = .ok (.aload_n 0, 1) := by decide +kernel
theorem dX0_pin_44 : decode cX0_pin 44 = .ok (.getfield 17, 3) := by decide +kernel
theorem dX0_pin_47 : decode cX0_pin 47 = .ok (.iload_n 1, 1) := by decide +kernel
theorem dX0_pin_48 : decode cX0_pin 48 = .ok (.iaload, 1) := by decide +kernel
theorem dX0_pin_49 : decode cX0_pin 49 = .ok (.invokevirtual 138, 3) := by decide +kernel
theorem dX0_pin_52 : decode cX0_pin 52 = .ok (.ifCond .ne 5, 3) := by decide +kernel
theorem dX0_pin_55 : decode cX0_pin 55 = .ok (.iconst 3, 1) := by decide +kernel
theorem dX0_pin_56 : decode cX0_pin 56 = .ok (.ireturn, 1) := by decide +kernel
theorem dX0_pin_57 : decode cX0_pin 57 = .ok (.aload_n 3, 1) := by decide +kernel
theorem dX0_pin_58 : decode cX0_pin 58 = .ok (.getfield 81, 3) := by decide +kernel
theorem dX0_pin_61 : decode cX0_pin 61 = .ok (.aload_n 0, 1) := by decide +kernel
theorem dX0_pin_62 : decode cX0_pin 62 = .ok (.getfield 17, 3) := by decide +kernel
theorem dX0_pin_65 : decode cX0_pin 65 = .ok (.iload_n 1, 1) := by decide +kernel
theorem dX0_pin_66 : decode cX0_pin 66 = .ok (.iaload, 1) := by decide +kernel
theorem dX0_pin_67 : decode cX0_pin 67 = .ok (.aload_n 3, 1) := by decide +kernel
theorem dX0_pin_68 : decode cX0_pin 68 = .ok (.getfield 120, 3) := by decide +kernel
theorem dX0_pin_71 : decode cX0_pin 71 = .ok (.iload_n 2, 1) := by decide +kernel
theorem dX0_pin_72 : decode cX0_pin 72 = .ok (.invokestatic 141, 3) := by decide +kernel
theorem dX0_pin_75 : decode cX0_pin 75 = .ok (.lastore, 1) := by decide +kernel
theorem dX0_pin_76 : decode cX0_pin 76 = .ok (.iconst 0, 1) := by decide +kernel
theorem dX0_pin_77 : decode cX0_pin 77 = .ok (.ireturn, 1) := by decide +kernel
theorem dX0_seat_0 : decode cX0_seat 0 = .ok (.aload_n 0, 1) := by decide +kernel
theorem dX0_seat_1 : decode cX0_seat 1 = .ok (.getfield 11, 3) := by decide +kernel
theorem dX0_seat_4 : decode cX0_seat 4 = .ok (.iload_n 1, 1) := by decide +kernel
theorem dX0_seat_5 : decode cX0_seat 5 = .ok (.aaload, 1) := by decide +kernel
theorem dX0_seat_6 : decode cX0_seat 6 = .ok (.ifnonnull 5, 3) := by decide +kernel
theorem dX0_seat_9 : decode cX0_seat 9 = .ok (.iconst 1, 1) := by decide +kernel
theorem dX0_seat_10 : decode cX0_seat 10 = .ok (.ireturn, 1) := by decide +kernel
theorem dX0_seat_11 : decode cX0_seat 11 = .ok (.aload_n 0, 1) := by decide +kernel
theorem dX0_seat_12 : decode cX0_seat 12 = .ok (.getfield 11, 3) := by decide +kernel
theorem dX0_seat_15 : decode cX0_seat 15 = .ok (.iload_n 1, 1) := by decide +kernel
theorem dX0_seat_16 : decode cX0_seat 16 = .ok (.aaload, 1) := by decide +kernel
theorem dX0_seat_17 : decode cX0_seat 17 = .ok (.astore 4, 2) := by decide +kernel
theorem dX0_seat_19 : decode cX0_seat 19 = .ok (.aload 4, 2) := by decide +kernel
theorem dX0_seat_21 : decode cX0_seat 21 = .ok (.instanceof 67, 3) := by decide +kernel
theorem dX0_seat_24 : decode cX0_seat 24 = .ok (.ifCond .eq 16, 3) := by decide +kernel
theorem dX0_seat_27 : decode cX0_seat 27 = .ok (.aload 4, 2) := by decide +kernel
theorem dX0_seat_29 : decode cX0_seat 29 = .ok (.checkcast 67, 3) := by decide +kernel
theorem dX0_seat_32 : decode cX0_seat 32 = .ok (.astore_n 3, 1) := by decide +kernel
theorem dX0_seat_33 : decode cX0_seat 33 = .ok (.aload_n 3, 1) := by decide +kernel
theorem dX0_seat_34 : decode cX0_seat 34 = .ok (.invokevirtual 90, 3) := by decide +kernel
theorem dX0_seat_37 : decode cX0_seat 37 = .ok (.ifCond .ne 5, 3) := by decide +kernel
theorem dX0_seat_40 : decode cX0_seat 40 = .ok (.iconst 2, 1) := by decide +kernel
theorem dX0_seat_41 : decode cX0_seat 41 = .ok (.ireturn, 1) := by decide +kernel
theorem dX0_seat_42 : decode cX0_seat 42 = .ok (.iconst 0, 1) := by decide +kernel
theorem dX0_seat_43 : decode cX0_seat 43 = .ok (.istore 4, 2) := by decide +kernel
theorem dX0_seat_45 : decode cX0_seat 45 = .ok (.aload_n 0, 1) := by decide +kernel
theorem dX0_seat_46 : decode cX0_seat 46 = .ok (.getfield 11, 3) := by decide +kernel
theorem dX0_seat_49 : decode cX0_seat 49 = .ok (.iload_n 2, 1) := by decide +kernel
theorem dX0_seat_50 : decode cX0_seat 50 = .ok (.aaload, 1) := by decide +kernel
theorem dX0_seat_51 : decode cX0_seat 51 = .ok (.astore 6, 2) := by decide +kernel
theorem dX0_seat_53 : decode cX0_seat 53 = .ok (.aload 6, 2) := by decide +kernel
theorem dX0_seat_55 : decode cX0_seat 55 = .ok (.instanceof 147, 3) := by decide +kernel
theorem dX0_seat_58 : decode cX0_seat 58 = .ok (.ifCond .eq 20, 3) := by decide +kernel
theorem dX0_seat_61 : decode cX0_seat 61 = .ok (.aload 6, 2) := by decide +kernel
theorem dX0_seat_63 : decode cX0_seat 63 = .ok (.checkcast 147, 3) := by decide +kernel
theorem dX0_seat_66 : decode cX0_seat 66 = .ok (.astore 5, 2) := by decide +kernel
theorem dX0_seat_68 : decode cX0_seat 68 = .ok (.aload 5, 2) := by decide +kernel
theorem dX0_seat_70 : decode cX0_seat 70 = .ok (.getfield 149, 3) := by decide +kernel
theorem dX0_seat_73 : decode cX0_seat 73 = .ok (.istore 4, 2) := by decide +kernel
theorem dX0_seat_75 : decode cX0_seat 75 = .ok (.goto 14, 3) := by decide +kernel
theorem dX0_seat_78 : decode cX0_seat 78 = .ok (.aload_n 0, 1) := by decide +kernel
theorem dX0_seat_79 : decode cX0_seat 79 = .ok (.getfield 11, 3) := by decide +kernel
theorem dX0_seat_82 : decode cX0_seat 82 = .ok (.iload_n 2, 1) := by decide +kernel
theorem dX0_seat_83 : decode cX0_seat 83 = .ok (.aaload, 1) := by decide +kernel
theorem dX0_seat_84 : decode cX0_seat 84 = .ok (.ifnull 5, 3) := by decide +kernel
theorem dX0_seat_87 : decode cX0_seat 87 = .ok (.iconst 2, 1) := by decide +kernel
theorem dX0_seat_88 : decode cX0_seat 88 = .ok (.ireturn, 1) := by decide +kernel
theorem dX0_seat_89 : decode cX0_seat 89 = .ok (.aload_n 3, 1) := by decide +kernel
theorem dX0_seat_90 : decode cX0_seat 90 = .ok (.aload_n 0, 1) := by decide +kernel
theorem dX0_seat_91 : decode cX0_seat 91 = .ok (.getfield 17, 3) := by decide +kernel
theorem dX0_seat_94 : decode cX0_seat 94 = .ok (.iload_n 1, 1) := by decide +kernel
theorem dX0_seat_95 : decode cX0_seat 95 = .ok (.iaload, 1) := by decide +kernel
theorem dX0_seat_96 : decode cX0_seat 96 = .ok (.invokevirtual 138, 3) := by decide +kernel
theorem dX0_seat_99 : decode cX0_seat 99 = .ok (.ifCond .ne 5, 3) := by decide +kernel
theorem dX0_seat_102 : decode cX0_seat 102 = .ok (.iconst 3, 1) := by decide +kernel
theorem dX0_seat_103 : decode cX0_seat 103 = .ok (.ireturn, 1) := by decide +kernel
theorem dX0_seat_104 : decode cX0_seat 104 = .ok (.aload_n 3, 1) := by decide +kernel
theorem dX0_seat_105 : decode cX0_seat 105 = .ok (.aload_n 0, 1) := by decide +kernel
theorem dX0_seat_106 : decode cX0_seat 106 = .ok (.getfield 28, 3) := by decide +kernel
theorem dX0_seat_109 : decode cX0_seat 109 = .ok (.iload 4, 2) := by decide +kernel
theorem dX0_seat_111 : decode cX0_seat 111 = .ok (.i2l, 1) := by decide +kernel
theorem dX0_seat_112 : decode cX0_seat 112 = .ok (.invokevirtual 94, 3) := by decide +kernel
theorem dX0_seat_115 : decode cX0_seat 115 = .ok (.invokevirtual 98, 3) := by decide +kernel
theorem dX0_seat_118 : decode cX0_seat 118 = .ok (.ifCond .ne 5, 3) := by decide +kernel
theorem dX0_seat_121 : decode cX0_seat 121 = .ok (.iconst 2, 1) := by decide +kernel
theorem dX0_seat_122 : decode cX0_seat 122 = .ok (.ireturn, 1) := by decide +kernel
theorem dX0_seat_123 : decode cX0_seat 123 = .ok (.aload_n 3, 1) := by decide +kernel
theorem dX0_seat_124 : decode cX0_seat 124 = .ok (.getfield 81, 3) := by decide +kernel
theorem dX0_seat_127 : decode cX0_seat 127 = .ok (.aload_n 0, 1) := by decide +kernel
theorem dX0_seat_128 : decode cX0_seat 128 = .ok (.getfield 17, 3) := by decide +kernel
theorem dX0_seat_131 : decode cX0_seat 131 = .ok (.iload_n 1, 1) := by decide +kernel
theorem dX0_seat_132 : decode cX0_seat 132 = .ok (.iaload, 1) := by decide +kernel
theorem dX0_seat_133 : decode cX0_seat 133 = .ok (.iload 4, 2) := by decide +kernel
theorem dX0_seat_135 : decode cX0_seat 135 = .ok (.i2l, 1) := by decide +kernel
theorem dX0_seat_136 : decode cX0_seat 136 = .ok (.lastore, 1) := by decide +kernel
theorem dX0_seat_137 : decode cX0_seat 137 = .ok (.iconst 0, 1) := by decide +kernel
theorem dX0_seat_138 : decode cX0_seat 138 = .ok (.ireturn, 1) := by decide +kernel
theorem dX0_lift_0 : decode cX0_lift 0 = .ok (.aload_n 0, 1) := by decide +kernel
theorem dX0_lift_1 : decode cX0_lift 1 = .ok (.getfield 11, 3) := by decide +kernel
theorem dX0_lift_4 : decode cX0_lift 4 = .ok (.iload_n 1, 1) := by decide +kernel
theorem dX0_lift_5 : decode cX0_lift 5 = .ok (.aaload, 1) := by decide +kernel
theorem dX0_lift_6 : decode cX0_lift 6 = .ok (.ifnonnull 5, 3) := by decide +kernel
theorem dX0_lift_9 : decode cX0_lift 9 = .ok (.iconst 1, 1) := by decide +kernel
theorem dX0_lift_10 : decode cX0_lift 10 = .ok (.ireturn, 1) := by decide +kernel
theorem dX0_lift_11 : decode cX0_lift 11 = .ok (.aload_n 0, 1) := by decide +kernel
theorem dX0_lift_12 : decode cX0_lift 12 = .ok (.getfield 11, 3) := by decide +kernel
theorem dX0_lift_15 : decode cX0_lift 15 = .ok (.iload_n 1, 1) := by decide +kernel
theorem dX0_lift_16 : decode cX0_lift 16 = .ok (.aaload, 1) := by decide +kernel
theorem dX0_lift_17 : decode cX0_lift 17 = .ok (.astore 4, 2) := by decide +kernel
theorem dX0_lift_19 : decode cX0_lift 19 = .ok (.aload 4, 2) := by decide +kernel
theorem dX0_lift_21 : decode cX0_lift 21 = .ok (.instanceof 67, 3) := by decide +kernel
theorem dX0_lift_24 : decode cX0_lift 24 = .ok (.ifCond .eq 16, 3) := by decide +kernel
theorem dX0_lift_27 : decode cX0_lift 27 = .ok (.aload 4, 2) := by decide +kernel
theorem dX0_lift_29 : decode cX0_lift 29 = .ok (.checkcast 67, 3) := by decide +kernel
theorem dX0_lift_32 : decode cX0_lift 32 = .ok (.astore_n 3, 1) := by decide +kernel
theorem dX0_lift_33 : decode cX0_lift 33 = .ok (.aload_n 3, 1) := by decide +kernel
theorem dX0_lift_34 : decode cX0_lift 34 = .ok (.invokevirtual 90, 3) := by decide +kernel
theorem dX0_lift_37 : decode cX0_lift 37 = .ok (.ifCond .ne 5, 3) := by decide +kernel
theorem dX0_lift_40 : decode cX0_lift 40 = .ok (.iconst 2, 1) := by decide +kernel
theorem dX0_lift_41 : decode cX0_lift 41 = .ok (.ireturn, 1) := by decide +kernel
theorem dX0_lift_42 : decode cX0_lift 42 = .ok (.aload_n 3, 1) := by decide +kernel
theorem dX0_lift_43 : decode cX0_lift 43 = .ok (.aload_n 0, 1) := by decide +kernel
theorem dX0_lift_44 : decode cX0_lift 44 = .ok (.getfield 17, 3) := by decide +kernel
theorem dX0_lift_47 : decode cX0_lift 47 = .ok (.iload_n 1, 1) := by decide +kernel
theorem dX0_lift_48 : decode cX0_lift 48 = .ok (.iaload, 1) := by decide +kernel
theorem dX0_lift_49 : decode cX0_lift 49 = .ok (.invokevirtual 138, 3) := by decide +kernel
theorem dX0_lift_52 : decode cX0_lift 52 = .ok (.ifCond .ne 5, 3) := by decide +kernel
theorem dX0_lift_55 : decode cX0_lift 55 = .ok (.iconst 3, 1) := by decide +kernel
theorem dX0_lift_56 : decode cX0_lift 56 = .ok (.ireturn, 1) := by decide +kernel
theorem dX0_lift_57 : decode cX0_lift 57 = .ok (.aload_n 0, 1) := by decide +kernel
theorem dX0_lift_58 : decode cX0_lift 58 = .ok (.getfield 11, 3) := by decide +kernel
theorem dX0_lift_61 : decode cX0_lift 61 = .ok (.iload_n 2, 1) := by decide +kernel
theorem dX0_lift_62 : decode cX0_lift 62 = .ok (.aload_n 0, 1) := by decide +kernel
theorem dX0_lift_63 : decode cX0_lift 63 = .ok (.getfield 28, 3) := by decide +kernel
theorem dX0_lift_66 : decode cX0_lift 66 = .ok (.aload_n 3, 1) := by decide +kernel
theorem dX0_lift_67 : decode cX0_lift 67 = .ok (.getfield 81, 3) := by decide +kernel
theorem dX0_lift_70 : decode cX0_lift 70 = .ok (.aload_n 0, 1) := by decide +kernel
theorem dX0_lift_71 : decode cX0_lift 71 = .ok (.getfield 17, 3) := by decide +kernel
theorem dX0_lift_74 : decode cX0_lift 74 = .ok (.iload_n 1, 1) := by decide +kernel
theorem dX0_lift_75 : decode cX0_lift 75 = .ok (.iaload, 1) := by decide +kernel
theorem dX0_lift_76 : decode cX0_lift 76 = .ok (.laload, 1) := by decide +kernel
theorem dX0_lift_77 : decode cX0_lift 77 = .ok (.invokevirtual 152, 3) := by decide +kernel
theorem dX0_lift_80 : decode cX0_lift 80 = .ok (.aastore, 1) := by decide +kernel
theorem dX0_lift_81 : decode cX0_lift 81 = .ok (.iconst 0, 1) := by decide +kernel
theorem dX0_lift_82 : decode cX0_lift 82 = .ok (.ireturn, 1) := by decide +kernel
theorem dX1_init_0 : decode cX1_init 0 = .ok (.aload_n 0, 1) := by decide +kernel
theorem dX1_init_1 : decode cX1_init 1 = .ok (.invokespecial 3, 3) := by decide +kernel
theorem dX1_init_4 : decode cX1_init 4 = .ok (.aload_n 0, 1) := by decide +kernel
theorem dX1_init_5 : decode cX1_init 5 = .ok (.bipush 20, 2) := by decide +kernel
theorem dX1_init_7 : decode cX1_init 7 = .ok (.anewarray 9, 3) := by decide +kernel
theorem dX1_init_10 : decode cX1_init 10 = .ok (.putfield 11, 3) := by decide +kernel
theorem dX1_init_13 : decode cX1_init 13 = .ok (.aload_n 0, 1) := by decide +kernel
theorem dX1_init_14 : decode cX1_init 14 = .ok (.sipush 1280, 3) := by decide +kernel
theorem dX1_init_17 : decode cX1_init 17 = .ok (.newarray .long, 2) := by decide +kernel
theorem dX1_init_19 : decode cX1_init 19 = .ok (.putfield 17, 3) := by decide +kernel
theorem dX1_init_22 : decode cX1_init 22 = .ok (.return_, 1) := by decide +kernel
theorem dX1_write_0 : decode cX1_write 0 = .ok (.aload_n 0, 1) := by decide +kernel
theorem dX1_write_1 : decode cX1_write 1 = .ok (.getfield 11, 3) := by decide +kernel
theorem dX1_write_4 : decode cX1_write 4 = .ok (.aload_n 0, 1) := by decide +kernel
theorem dX1_write_5 : decode cX1_write 5 = .ok (.getfield 21, 3) := by decide +kernel
theorem dX1_write_8 : decode cX1_write 8 = .ok (.aload_n 1, 1) := by decide +kernel
theorem dX1_write_9 : decode cX1_write 9 = .ok (.aastore, 1) := by decide +kernel
theorem dX1_write_10 : decode cX1_write 10 = .ok (.aload_n 2, 1) := by decide +kernel
theorem dX1_write_11 : decode cX1_write 11 = .ok (.iconst 0, 1) := by decide +kernel
theorem dX1_write_12 : decode cX1_write 12 = .ok (.aload_n 0, 1) := by decide +kernel
theorem dX1_write_13 : decode cX1_write 13 = .ok (.getfield 17, 3) := by decide +kernel
theorem dX1_write_16 : decode cX1_write 16 = .ok (.aload_n 0, 1) := by decide +kernel
theorem dX1_write_17 : decode cX1_write 17 = .ok (.getfield 21, 3) := by decide +kernel
theorem dX1_write_20 : decode cX1_write 20 = .ok (.bipush 64, 2) := by decide +kernel
theorem dX1_write_22 : decode cX1_write 22 = .ok (.imul, 1) := by decide +kernel
theorem dX1_write_23 : decode cX1_write 23 = .ok (.aload_n 1, 1) := by decide +kernel
theorem dX1_write_24 : decode cX1_write 24 = .ok (.getfield 25, 3) := by decide +kernel
theorem dX1_write_27 : decode cX1_write 27 = .ok (.arraylength, 1) := by decide +kernel
theorem dX1_write_28 : decode cX1_write 28 = .ok (.invokestatic 28, 3) := by decide +kernel
theorem dX1_write_31 : decode cX1_write 31 = .ok (.aload_n 0, 1) := by decide +kernel
theorem dX1_write_32 : decode cX1_write 32 = .ok (.aload_n 0, 1) := by decide +kernel
theorem dX1_write_33 : decode cX1_write 33 = .ok (.getfield 21, 3) := by decide +kernel
theorem dX1_write_36 : decode cX1_write 36 = .ok (.iconst 1, 1) := by decide +kernel
theorem dX1_write_37 : decode cX1_write 37 = .ok (.iadd, 1) := by decide +kernel
theorem dX1_write_38 : decode cX1_write 38 = .ok (.bipush 20, 2) := by decide +kernel
theorem dX1_write_40 : decode cX1_write 40 = .ok (.irem, 1) := by decide +kernel
theorem dX1_write_41 : decode cX1_write 41 = .ok (.putfield 21, 3) := by decide +kernel
theorem dX1_write_44 : decode cX1_write 44 = .ok (.aload_n 0, 1) := by decide +kernel
theorem dX1_write_45 : decode cX1_write 45 = .ok (.aload_n 0, 1) := by decide +kernel
theorem dX1_write_46 : decode cX1_write 46 = .ok (.getfield 34, 3) := by decide +kernel
theorem dX1_write_49 : decode cX1_write 49 = .ok (.iconst 1, 1) := by decide +kernel
theorem dX1_write_50 : decode cX1_write 50 = .ok (.iadd, 1) := by decide +kernel
theorem dX1_write_51 : decode cX1_write 51 = .ok (.bipush 20, 2) := by decide +kernel
theorem dX1_write_53 : decode cX1_write 53 = .ok (.invokestatic 37, 3) := by decide +kernel
theorem dX1_write_56 : decode cX1_write 56 = .ok (.putfield 34, 3) := by decide +kernel
theorem dX1_write_59 : decode cX1_write 59 = .ok (.return_, 1) := by decide +kernel
theorem dX1_takeBack_0 : decode cX1_takeBack 0 = .ok (.aload_n 0, 1) := by decide +kernel
theorem dX1_takeBack_1 : decode cX1_takeBack 1 = .ok (.getfield 21, 3) := by decide +kernel
theorem dX1_takeBack_4 : decode cX1_takeBack 4 = .ok (.bipush 20, 2) := by decide +kernel
theorem dX1_takeBack_6 : decode cX1_takeBack 6 = .ok (.iadd, 1) := by decide +kernel
theorem dX1_takeBack_7 : decode cX1_takeBack 7 = .ok (.iconst 1, 1) := by decide +kernel
theorem dX1_takeBack_8 : decode cX1_takeBack 8 = .ok (.isub, 1) := by decide +kernel
theorem dX1_takeBack_9 : decode cX1_takeBack 9 = .ok (.bipush 20, 2) := by decide +kernel
theorem dX1_takeBack_11 : decode cX1_takeBack 11 = .ok (.irem, 1) := by decide +kernel
theorem dX1_takeBack_12 : decode cX1_takeBack 12 = .ok (.istore_n 1, 1) := by decide +kernel
theorem dX1_takeBack_13 : decode cX1_takeBack 13 = .ok (.aload_n 0, 1) := by decide +kernel
theorem dX1_takeBack_14 : decode cX1_takeBack 14 = .ok (.getfield 11, 3) := by decide +kernel
theorem dX1_takeBack_17 : decode cX1_takeBack 17 = .ok (.iload_n 1, 1) := by decide +kernel
theorem dX1_takeBack_18 : decode cX1_takeBack 18 = .ok (.aaload, 1) := by decide +kernel
theorem dX1_takeBack_19 : decode cX1_takeBack 19 = .ok (.astore_n 2, 1) := by decide +kernel
theorem dX1_takeBack_20 : decode cX1_takeBack 20 = .ok (.aload_n 0, 1) := by decide +kernel
theorem dX1_takeBack_21 : decode cX1_takeBack 21 = .ok (.getfield 34, 3) := by decide +kernel
theorem dX1_takeBack_24 : decode cX1_takeBack 24 = .ok (.ifCond .eq 7, 3) := by decide +kernel
theorem dX1_takeBack_27 : decode cX1_takeBack 27 = .ok (.aload_n 2, 1) := by decide +kernel
theorem dX1_takeBack_28 : decode cX1_takeBack 28 = .ok (.ifnonnull 5, 3) := by decide +kernel
theorem dX1_takeBack_31 : decode cX1_takeBack 31 = .ok (.iconst 0, 1) := by decide +kernel
theorem dX1_takeBack_32 : decode cX1_takeBack 32 = .ok (.ireturn, 1) := by decide +kernel
theorem dX1_takeBack_33 : decode cX1_takeBack 33 = .ok (.aload_n 0, 1) := by decide +kernel
theorem dX1_takeBack_34 : decode cX1_takeBack 34 = .ok (.getfield 17, 3) := by decide +kernel
theorem dX1_takeBack_37 : decode cX1_takeBack 37 = .ok (.iload_n 1, 1) := by decide +kernel
theorem dX1_takeBack_38 : decode cX1_takeBack 38 = .ok (.bipush 64, 2) := by decide +kernel
theorem dX1_takeBack_40 : decode cX1_takeBack 40 = .ok (.imul, 1) := by decide +kernel
theorem dX1_takeBack_41 : decode cX1_takeBack 41 = .ok (.aload_n 2, 1) := by decide +kernel
theorem dX1_takeBack_42 : decode cX1_takeBack 42 = .ok (.getfield 25, 3) := by decide +kernel
theorem dX1_takeBack_45 : decode cX1_takeBack 45 = .ok (.iconst 0, 1) := by decide +kernel
theorem dX1_takeBack_46 : decode cX1_takeBack 46 = .ok (.aload_n 2, 1) := by decide +kernel
theorem dX1_takeBack_47 : decode cX1_takeBack 47 = .ok (.getfield 25, 3) := by decide +kernel
theorem dX1_takeBack_50 : decode cX1_takeBack 50 = .ok (.arraylength, 1) := by decide +kernel
theorem dX1_takeBack_51 : decode cX1_takeBack 51 = .ok (.invokestatic 28, 3) := by decide +kernel
theorem dX1_takeBack_54 : decode cX1_takeBack 54 = .ok (.aload_n 0, 1) := by decide +kernel
theorem dX1_takeBack_55 : decode cX1_takeBack 55 = .ok (.iload_n 1, 1) := by decide +kernel
theorem dX1_takeBack_56 : decode cX1_takeBack 56 = .ok (.putfield 21, 3) := by decide +kernel
theorem dX1_takeBack_59 : decode cX1_takeBack 59 = .ok (.aload_n 0, 1) := by decide +kernel
theorem dX1_takeBack_60 : decode cX1_takeBack 60 = .ok (.dup, 1) := by decide +kernel
theorem dX1_takeBack_61 : decode cX1_takeBack 61 = .ok (.getfield 34, 3) := by decide +kernel
theorem dX1_takeBack_64 : decode cX1_takeBack 64 = .ok (.iconst 1, 1) := by decide +kernel
theorem dX1_takeBack_65 : decode cX1_takeBack 65 = .ok (.isub, 1) := by decide +kernel
theorem dX1_takeBack_66 : decode cX1_takeBack 66 = .ok (.putfield 34, 3) := by decide +kernel
theorem dX1_takeBack_69 : decode cX1_takeBack 69 = .ok (.iconst 1, 1) := by decide +kernel
theorem dX1_takeBack_70 : decode cX1_takeBack 70 = .ok (.ireturn, 1) := by decide +kernel
theorem dX2_init_0 : decode cX2_init 0 = .ok (.aload_n 0, 1) := by decide +kernel
theorem dX2_init_1 : decode cX2_init 1 = .ok (.invokespecial 3, 3) := by decide +kernel
theorem dX2_init_4 : decode cX2_init 4 = .ok (.return_, 1) := by decide +kernel
theorem dX2_appearance_0 : decode cX2_appearance 0 = .ok (.bipush 12, 2) := by decide +kernel
theorem dX2_appearance_2 : decode cX2_appearance 2 = .ok (.ireturn, 1) := by decide +kernel
theorem dX2_measure_0 : decode cX2_measure 0 = .ok (.iconst (-1), 1) := by decide +kernel
theorem dX2_measure_1 : decode cX2_measure 1 = .ok (.ireturn, 1) := by decide +kernel
theorem dX3_init_0 : decode cX3_init 0 = .ok (.aload_n 0, 1) := by decide +kernel
theorem dX3_init_1 : decode cX3_init 1 = .ok (.invokespecial 3, 3) := by decide +kernel
theorem dX3_init_4 : decode cX3_init 4 = .ok (.aload_n 0, 1) := by decide +kernel
theorem dX3_init_5 : decode cX3_init 5 = .ok (.iload_n 1, 1) := by decide +kernel
theorem dX3_init_6 : decode cX3_init 6 = .ok (.putfield 9, 3) := by decide +kernel
theorem dX3_init_9 : decode cX3_init 9 = .ok (.aload_n 0, 1) := by decide +kernel
theorem dX3_init_10 : decode cX3_init 10 = .ok (.iload_n 2, 1) := by decide +kernel
theorem dX3_init_11 : decode cX3_init 11 = .ok (.putfield 15, 3) := by decide +kernel
theorem dX3_init_14 : decode cX3_init 14 = .ok (.return_, 1) := by decide +kernel
theorem dX3_appearance_0 : decode cX3_appearance 0 = .ok (.bipush 12, 2) := by decide +kernel
theorem dX3_appearance_2 : decode cX3_appearance 2 = .ok (.aload_n 0, 1) := by decide +kernel
theorem dX3_appearance_3 : decode cX3_appearance 3 = .ok (.getfield 9, 3) := by decide +kernel
theorem dX3_appearance_6 : decode cX3_appearance 6 = .ok (.iadd, 1) := by decide +kernel
theorem dX3_appearance_7 : decode cX3_appearance 7 = .ok (.ireturn, 1) := by decide +kernel
theorem dX3_measure_0 : decode cX3_measure 0 = .ok (.aload_n 0, 1) := by decide +kernel
theorem dX3_measure_1 : decode cX3_measure 1 = .ok (.getfield 15, 3) := by decide +kernel
theorem dX3_measure_4 : decode cX3_measure 4 = .ok (.ireturn, 1) := by decide +kernel
theorem dX4_cutToKind_0 : decode cX4_cutToKind 0 = .ok (.iload_n 0, 1) := by decide +kernel
theorem dX4_cutToKind_1 : decode cX4_cutToKind 1 = .ok (.tableswitch 80 0 7 #[47, 57, 61, 65, 80, 80, 69, 75], 47) := by decide +kernel
theorem dX4_cutToKind_48 : decode cX4_cutToKind 48 = .ok (.iload_n 1, 1) := by decide +kernel
theorem dX4_cutToKind_49 : decode cX4_cutToKind 49 = .ok (.ifCond .eq 7, 3) := by decide +kernel
theorem dX4_cutToKind_52 : decode cX4_cutToKind 52 = .ok (.lconst 1, 1) := by decide +kernel
theorem dX4_cutToKind_53 : decode cX4_cutToKind 53 = .ok (.goto 4, 3) := by decide +kernel
theorem dX4_cutToKind_56 : decode cX4_cutToKind 56 = .ok (.lconst 0, 1) := by decide +kernel
theorem dX4_cutToKind_57 : decode cX4_cutToKind 57 = .ok (.lreturn, 1) := by decide +kernel
theorem dX4_cutToKind_58 : decode cX4_cutToKind 58 = .ok (.iload_n 1, 1) := by decide +kernel
theorem dX4_cutToKind_59 : decode cX4_cutToKind 59 = .ok (.i2b, 1) := by decide +kernel
theorem dX4_cutToKind_60 : decode cX4_cutToKind 60 = .ok (.i2l, 1) := by decide +kernel
theorem dX4_cutToKind_61 : decode cX4_cutToKind 61 = .ok (.lreturn, 1) := by decide +kernel
theorem dX4_cutToKind_62 : decode cX4_cutToKind 62 = .ok (.iload_n 1, 1) := by decide +kernel
theorem dX4_cutToKind_63 : decode cX4_cutToKind 63 = .ok (.i2c, 1) := by decide +kernel
theorem dX4_cutToKind_64 : decode cX4_cutToKind 64 = .ok (.i2l, 1) := by decide +kernel
theorem dX4_cutToKind_65 : decode cX4_cutToKind 65 = .ok (.lreturn, 1) := by decide +kernel
theorem dX4_cutToKind_66 : decode cX4_cutToKind 66 = .ok (.iload_n 1, 1) := by decide +kernel
theorem dX4_cutToKind_67 : decode cX4_cutToKind 67 = .ok (.i2s, 1) := by decide +kernel
theorem dX4_cutToKind_68 : decode cX4_cutToKind 68 = .ok (.i2l, 1) := by decide +kernel
theorem dX4_cutToKind_69 : decode cX4_cutToKind 69 = .ok (.lreturn, 1) := by decide +kernel
theorem dX4_cutToKind_70 : decode cX4_cutToKind 70 = .ok (.iload_n 1, 1) := by decide +kernel
theorem dX4_cutToKind_71 : decode cX4_cutToKind 71 = .ok (.invokestatic 9, 3) := by decide +kernel
theorem dX4_cutToKind_74 : decode cX4_cutToKind 74 = .ok (.i2l, 1) := by decide +kernel
theorem dX4_cutToKind_75 : decode cX4_cutToKind 75 = .ok (.lreturn, 1) := by decide +kernel
theorem dX4_cutToKind_76 : decode cX4_cutToKind 76 = .ok (.iload_n 1, 1) := by decide +kernel
theorem dX4_cutToKind_77 : decode cX4_cutToKind 77 = .ok (.invokestatic 15, 3) := by decide +kernel
theorem dX4_cutToKind_80 : decode cX4_cutToKind 80 = .ok (.lreturn, 1) := by decide +kernel
theorem dX4_cutToKind_81 : decode cX4_cutToKind 81 = .ok (.iload_n 1, 1) := by decide +kernel
theorem dX4_cutToKind_82 : decode cX4_cutToKind 82 = .ok (.i2l, 1) := by decide +kernel
theorem dX4_cutToKind_83 : decode cX4_cutToKind 83 = .ok (.lreturn, 1) := by decide +kernel
theorem dX4_floatBits_0 : decode cX4_floatBits 0 = .ok (.iload_n 0, 1) := by decide +kernel
theorem dX4_floatBits_1 : decode cX4_floatBits 1 = .ok (.ifCond .ne 5, 3) := by decide +kernel
theorem dX4_floatBits_4 : decode cX4_floatBits 4 = .ok (.iconst 0, 1) := by decide +kernel
theorem dX4_floatBits_5 : decode cX4_floatBits 5 = .ok (.ireturn, 1) := by decide +kernel
theorem dX4_floatBits_6 : decode cX4_floatBits 6 = .ok (.iload_n 0, 1) := by decide +kernel
theorem dX4_floatBits_7 : decode cX4_floatBits 7 = .ok (.i2l, 1) := by decide +kernel
theorem dX4_floatBits_8 : decode cX4_floatBits 8 = .ok (.invokestatic 19, 3) := by decide +kernel
theorem dX4_floatBits_11 : decode cX4_floatBits 11 = .ok (.lstore_n 1, 1) := by decide +kernel
theorem dX4_floatBits_12 : decode cX4_floatBits 12 = .ok (.lload_n 1, 1) := by decide +kernel
theorem dX4_floatBits_13 : decode cX4_floatBits 13 = .ok (.invokestatic 25, 3) := by decide +kernel
theorem dX4_floatBits_16 : decode cX4_floatBits 16 = .ok (.istore_n 3, 1) := by decide +kernel
theorem dX4_floatBits_17 : decode cX4_floatBits 17 = .ok (.iload_n 3, 1) := by decide +kernel
theorem dX4_floatBits_18 : decode cX4_floatBits 18 = .ok (.bipush 23, 2) := by decide +kernel
theorem dX4_floatBits_20 : decode cX4_floatBits 20 = .ok (.if_icmp .gt 12, 3) := by decide +kernel
theorem dX4_floatBits_23 : decode cX4_floatBits 23 = .ok (.lload_n 1, 1) := by decide +kernel
theorem dX4_floatBits_24 : decode cX4_floatBits 24 = .ok (.bipush 23, 2) := by decide +kernel
theorem dX4_floatBits_26 : decode cX4_floatBits 26 = .ok (.iload_n 3, 1) := by decide +kernel
theorem dX4_floatBits_27 : decode cX4_floatBits 27 = .ok (.isub, 1) := by decide +kernel
theorem dX4_floatBits_28 : decode cX4_floatBits 28 = .ok (.lshl, 1) := by decide +kernel
theorem dX4_floatBits_29 : decode cX4_floatBits 29 = .ok (.goto 11, 3) := by decide +kernel
theorem dX4_floatBits_32 : decode cX4_floatBits 32 = .ok (.lload_n 1, 1) := by decide +kernel
theorem dX4_floatBits_33 : decode cX4_floatBits 33 = .ok (.iload_n 3, 1) := by decide +kernel
theorem dX4_floatBits_34 : decode cX4_floatBits 34 = .ok (.bipush 23, 2) := by decide +kernel
theorem dX4_floatBits_36 : decode cX4_floatBits 36 = .ok (.isub, 1) := by decide +kernel
theorem dX4_floatBits_37 : decode cX4_floatBits 37 = .ok (.invokestatic 29, 3) := by decide +kernel
theorem dX4_floatBits_40 : decode cX4_floatBits 40 = .ok (.lstore 4, 2) := by decide +kernel
theorem dX4_floatBits_42 : decode cX4_floatBits 42 = .ok (.iload_n 3, 1) := by decide +kernel
theorem dX4_floatBits_43 : decode cX4_floatBits 43 = .ok (.bipush 127, 2) := by decide +kernel
theorem dX4_floatBits_45 : decode cX4_floatBits 45 = .ok (.iadd, 1) := by decide +kernel
theorem dX4_floatBits_46 : decode cX4_floatBits 46 = .ok (.i2l, 1) := by decide +kernel
theorem dX4_floatBits_47 : decode cX4_floatBits 47 = .ok (.bipush 23, 2) := by decide +kernel
theorem dX4_floatBits_49 : decode cX4_floatBits 49 = .ok (.lshl, 1) := by decide +kernel
theorem dX4_floatBits_50 : decode cX4_floatBits 50 = .ok (.lload 4, 2) := by decide +kernel
theorem dX4_floatBits_52 : decode cX4_floatBits 52 = .ok (.ladd, 1) := by decide +kernel
theorem dX4_floatBits_53 : decode cX4_floatBits 53 = .ok (.ldc2_w 33, 3) := by decide +kernel
theorem dX4_floatBits_56 : decode cX4_floatBits 56 = .ok (.lsub, 1) := by decide +kernel
theorem dX4_floatBits_57 : decode cX4_floatBits 57 = .ok (.lstore 6, 2) := by decide +kernel
theorem dX4_floatBits_59 : decode cX4_floatBits 59 = .ok (.iload_n 0, 1) := by decide +kernel
theorem dX4_floatBits_60 : decode cX4_floatBits 60 = .ok (.ifCond .ge 12, 3) := by decide +kernel
theorem dX4_floatBits_63 : decode cX4_floatBits 63 = .ok (.lload 6, 2) := by decide +kernel
theorem dX4_floatBits_65 : decode cX4_floatBits 65 = .ok (.ldc2_w 35, 3) := by decide +kernel
theorem dX4_floatBits_68 : decode cX4_floatBits 68 = .ok (.lor, 1) := by decide +kernel
theorem dX4_floatBits_69 : decode cX4_floatBits 69 = .ok (.goto 5, 3) := by decide +kernel
theorem dX4_floatBits_72 : decode cX4_floatBits 72 = .ok (.lload 6, 2) := by decide +kernel
theorem dX4_floatBits_74 : decode cX4_floatBits 74 = .ok (.l2i, 1) := by decide +kernel
theorem dX4_floatBits_75 : decode cX4_floatBits 75 = .ok (.ireturn, 1) := by decide +kernel
theorem dX4_doubleBits_0 : decode cX4_doubleBits 0 = .ok (.iload_n 0, 1) := by decide +kernel
theorem dX4_doubleBits_1 : decode cX4_doubleBits 1 = .ok (.ifCond .ne 5, 3) := by decide +kernel
theorem dX4_doubleBits_4 : decode cX4_doubleBits 4 = .ok (.lconst 0, 1) := by decide +kernel
theorem dX4_doubleBits_5 : decode cX4_doubleBits 5 = .ok (.lreturn, 1) := by decide +kernel
theorem dX4_doubleBits_6 : decode cX4_doubleBits 6 = .ok (.iload_n 0, 1) := by decide +kernel
theorem dX4_doubleBits_7 : decode cX4_doubleBits 7 = .ok (.i2l, 1) := by decide +kernel
theorem dX4_doubleBits_8 : decode cX4_doubleBits 8 = .ok (.invokestatic 19, 3) := by decide +kernel
theorem dX4_doubleBits_11 : decode cX4_doubleBits 11 = .ok (.lstore_n 1, 1) := by decide +kernel
theorem dX4_doubleBits_12 : decode cX4_doubleBits 12 = .ok (.lload_n 1, 1) := by decide +kernel
theorem dX4_doubleBits_13 : decode cX4_doubleBits 13 = .ok (.invokestatic 25, 3) := by decide +kernel
theorem dX4_doubleBits_16 : decode cX4_doubleBits 16 = .ok (.istore_n 3, 1) := by decide +kernel
theorem dX4_doubleBits_17 : decode cX4_doubleBits 17 = .ok (.lload_n 1, 1) := by decide +kernel
theorem dX4_doubleBits_18 : decode cX4_doubleBits 18 = .ok (.bipush 52, 2) := by decide +kernel
theorem dX4_doubleBits_20 : decode cX4_doubleBits 20 = .ok (.iload_n 3, 1) := by decide +kernel
theorem dX4_doubleBits_21 : decode cX4_doubleBits 21 = .ok (.isub, 1) := by decide +kernel
theorem dX4_doubleBits_22 : decode cX4_doubleBits 22 = .ok (.lshl, 1) := by decide +kernel
theorem dX4_doubleBits_23 : decode cX4_doubleBits 23 = .ok (.lstore 4, 2) := by decide +kernel
theorem dX4_doubleBits_25 : decode cX4_doubleBits 25 = .ok (.iload_n 3, 1) := by decide +kernel
theorem dX4_doubleBits_26 : decode cX4_doubleBits 26 = .ok (.i2l, 1) := by decide +kernel
theorem dX4_doubleBits_27 : decode cX4_doubleBits 27 = .ok (.ldc2_w 37, 3) := by decide +kernel
theorem dX4_doubleBits_30 : decode cX4_doubleBits 30 = .ok (.ladd, 1) := by decide +kernel
theorem dX4_doubleBits_31 : decode cX4_doubleBits 31 = .ok (.bipush 52, 2) := by decide +kernel
theorem dX4_doubleBits_33 : decode cX4_doubleBits 33 = .ok (.lshl, 1) := by decide +kernel
theorem dX4_doubleBits_34 : decode cX4_doubleBits 34 = .ok (.lload 4, 2) := by decide +kernel
theorem dX4_doubleBits_36 : decode cX4_doubleBits 36 = .ok (.ladd, 1) := by decide +kernel
theorem dX4_doubleBits_37 : decode cX4_doubleBits 37 = .ok (.ldc2_w 39, 3) := by decide +kernel
theorem dX4_doubleBits_40 : decode cX4_doubleBits 40 = .ok (.lsub, 1) := by decide +kernel
theorem dX4_doubleBits_41 : decode cX4_doubleBits 41 = .ok (.lstore 6, 2) := by decide +kernel
theorem dX4_doubleBits_43 : decode cX4_doubleBits 43 = .ok (.iload_n 0, 1) := by decide +kernel
theorem dX4_doubleBits_44 : decode cX4_doubleBits 44 = .ok (.ifCond .ge 12, 3) := by decide +kernel
theorem dX4_doubleBits_47 : decode cX4_doubleBits 47 = .ok (.lload 6, 2) := by decide +kernel
theorem dX4_doubleBits_49 : decode cX4_doubleBits 49 = .ok (.ldc2_w 41, 3) := by decide +kernel
theorem dX4_doubleBits_52 : decode cX4_doubleBits 52 = .ok (.lor, 1) := by decide +kernel
theorem dX4_doubleBits_53 : decode cX4_doubleBits 53 = .ok (.goto 5, 3) := by decide +kernel
theorem dX4_doubleBits_56 : decode cX4_doubleBits 56 = .ok (.lload 6, 2) := by decide +kernel
theorem dX4_doubleBits_58 : decode cX4_doubleBits 58 = .ok (.lreturn, 1) := by decide +kernel
theorem dX4_topBit_0 : decode cX4_topBit 0 = .ok (.iconst 0, 1) := by decide +kernel
theorem dX4_topBit_1 : decode cX4_topBit 1 = .ok (.istore_n 2, 1) := by decide +kernel
theorem dX4_topBit_2 : decode cX4_topBit 2 = .ok (.iconst 1, 1) := by decide +kernel
theorem dX4_topBit_3 : decode cX4_topBit 3 = .ok (.istore_n 3, 1) := by decide +kernel
theorem dX4_topBit_4 : decode cX4_topBit 4 = .ok (.iload_n 3, 1) := by decide +kernel
theorem dX4_topBit_5 : decode cX4_topBit 5 = .ok (.bipush 32, 2) := by decide +kernel
theorem dX4_topBit_7 : decode cX4_topBit 7 = .ok (.if_icmp .ge 19, 3) := by decide +kernel
theorem dX4_topBit_10 : decode cX4_topBit 10 = .ok (.lload_n 0, 1) := by decide +kernel
theorem dX4_topBit_11 : decode cX4_topBit 11 = .ok (.iload_n 3, 1) := by decide +kernel
theorem dX4_topBit_12 : decode cX4_topBit 12 = .ok (.lshr, 1) := by decide +kernel
theorem dX4_topBit_13 : decode cX4_topBit 13 = .ok (.lconst 0, 1) := by decide +kernel
theorem dX4_topBit_14 : decode cX4_topBit 14 = .ok (.lcmp, 1) := by decide +kernel
theorem dX4_topBit_15 : decode cX4_topBit 15 = .ok (.ifCond .eq 5, 3) := by decide +kernel
theorem dX4_topBit_18 : decode cX4_topBit 18 = .ok (.iload_n 3, 1) := by decide +kernel
theorem dX4_topBit_19 : decode cX4_topBit 19 = .ok (.istore_n 2, 1) := by decide +kernel
theorem dX4_topBit_20 : decode cX4_topBit 20 = .ok (.iinc 3 1, 3) := by decide +kernel
theorem dX4_topBit_23 : decode cX4_topBit 23 = .ok (.goto (-19), 3) := by decide +kernel
theorem dX4_topBit_26 : decode cX4_topBit 26 = .ok (.iload_n 2, 1) := by decide +kernel
theorem dX4_topBit_27 : decode cX4_topBit 27 = .ok (.ireturn, 1) := by decide +kernel
theorem dX4_shiftedToNearest_0 : decode cX4_shiftedToNearest 0 = .ok (.lload_n 0, 1) := by decide +kernel
theorem dX4_shiftedToNearest_1 : decode cX4_shiftedToNearest 1 = .ok (.iload_n 2, 1) := by decide +kernel
theorem dX4_shiftedToNearest_2 : decode cX4_shiftedToNearest 2 = .ok (.lshr, 1) := by decide +kernel
theorem dX4_shiftedToNearest_3 : decode cX4_shiftedToNearest 3 = .ok (.lstore_n 3, 1) := by decide +kernel
theorem dX4_shiftedToNearest_4 : decode cX4_shiftedToNearest 4 = .ok (.lload_n 0, 1) := by decide +kernel
theorem dX4_shiftedToNearest_5 : decode cX4_shiftedToNearest 5 = .ok (.lload_n 3, 1) := by decide +kernel
theorem dX4_shiftedToNearest_6 : decode cX4_shiftedToNearest 6 = .ok (.iload_n 2, 1) := by decide +kernel
theorem dX4_shiftedToNearest_7 : decode cX4_shiftedToNearest 7 = .ok (.lshl, 1) := by decide +kernel
theorem dX4_shiftedToNearest_8 : decode cX4_shiftedToNearest 8 = .ok (.lsub, 1) := by decide +kernel
theorem dX4_shiftedToNearest_9 : decode cX4_shiftedToNearest 9 = .ok (.lstore 5, 2) := by decide +kernel
theorem dX4_shiftedToNearest_11 : decode cX4_shiftedToNearest 11 = .ok (.lconst 1, 1) := by decide +kernel
theorem dX4_shiftedToNearest_12 : decode cX4_shiftedToNearest 12 = .ok (.iload_n 2, 1) := by decide +kernel
theorem dX4_shiftedToNearest_13 : decode cX4_shiftedToNearest 13 = .ok (.iconst 1, 1) := by decide +kernel
theorem dX4_shiftedToNearest_14 : decode cX4_shiftedToNearest 14 = .ok (.isub, 1) := by decide +kernel
theorem dX4_shiftedToNearest_15 : decode cX4_shiftedToNearest 15 = .ok (.lshl, 1) := by decide +kernel
theorem dX4_shiftedToNearest_16 : decode cX4_shiftedToNearest 16 = .ok (.lstore 7, 2) := by decide +kernel
theorem dX4_shiftedToNearest_18 : decode cX4_shiftedToNearest 18 = .ok (.lload 5, 2) := by decide +kernel
theorem dX4_shiftedToNearest_20 : decode cX4_shiftedToNearest 20 = .ok (.lload 7, 2) := by decide +kernel
theorem dX4_shiftedToNearest_22 : decode cX4_shiftedToNearest 22 = .ok (.lcmp, 1) := by decide +kernel
theorem dX4_shiftedToNearest_23 : decode cX4_shiftedToNearest 23 = .ok (.ifCond .gt 19, 3) := by decide +kernel
theorem dX4_shiftedToNearest_26 : decode cX4_shiftedToNearest 26 = .ok (.lload 5, 2) := by decide +kernel
theorem dX4_shiftedToNearest_28 : decode cX4_shiftedToNearest 28 = .ok (.lload 7, 2) := by decide +kernel
theorem dX4_shiftedToNearest_30 : decode cX4_shiftedToNearest 30 = .ok (.lcmp, 1) := by decide +kernel
theorem dX4_shiftedToNearest_31 : decode cX4_shiftedToNearest 31 = .ok (.ifCond .ne 15, 3) := by decide +kernel
theorem dX4_shiftedToNearest_34 : decode cX4_shiftedToNearest 34 = .ok (.lload_n 3, 1) := by decide +kernel
theorem dX4_shiftedToNearest_35 : decode cX4_shiftedToNearest 35 = .ok (.lconst 1, 1) := by decide +kernel
theorem dX4_shiftedToNearest_36 : decode cX4_shiftedToNearest 36 = .ok (.land, 1) := by decide +kernel
theorem dX4_shiftedToNearest_37 : decode cX4_shiftedToNearest 37 = .ok (.lconst 1, 1) := by decide +kernel
theorem dX4_shiftedToNearest_38 : decode cX4_shiftedToNearest 38 = .ok (.lcmp, 1) := by decide +kernel
theorem dX4_shiftedToNearest_39 : decode cX4_shiftedToNearest 39 = .ok (.ifCond .ne 7, 3) := by decide +kernel
theorem dX4_shiftedToNearest_42 : decode cX4_shiftedToNearest 42 = .ok (.iconst 1, 1) := by decide +kernel
theorem dX4_shiftedToNearest_43 : decode cX4_shiftedToNearest 43 = .ok (.goto 4, 3) := by decide +kernel
theorem dX4_shiftedToNearest_46 : decode cX4_shiftedToNearest 46 = .ok (.iconst 0, 1) := by decide +kernel
theorem dX4_shiftedToNearest_47 : decode cX4_shiftedToNearest 47 = .ok (.istore 9, 2) := by decide +kernel
theorem dX4_shiftedToNearest_49 : decode cX4_shiftedToNearest 49 = .ok (.iload 9, 2) := by decide +kernel
theorem dX4_shiftedToNearest_51 : decode cX4_shiftedToNearest 51 = .ok (.ifCond .eq 9, 3) := by decide +kernel
theorem dX4_shiftedToNearest_54 : decode cX4_shiftedToNearest 54 = .ok (.lload_n 3, 1) := by decide +kernel
theorem dX4_shiftedToNearest_55 : decode cX4_shiftedToNearest 55 = .ok (.lconst 1, 1) := by decide +kernel
theorem dX4_shiftedToNearest_56 : decode cX4_shiftedToNearest 56 = .ok (.ladd, 1) := by decide +kernel
theorem dX4_shiftedToNearest_57 : decode cX4_shiftedToNearest 57 = .ok (.goto 4, 3) := by decide +kernel
theorem dX4_shiftedToNearest_60 : decode cX4_shiftedToNearest 60 = .ok (.lload_n 3, 1) := by decide +kernel
theorem dX4_shiftedToNearest_61 : decode cX4_shiftedToNearest 61 = .ok (.lreturn, 1) := by decide +kernel
theorem dX5_init_0 : decode cX5_init 0 = .ok (.aload_n 0, 1) := by decide +kernel
theorem dX5_init_1 : decode cX5_init 1 = .ok (.invokespecial 3, 3) := by decide +kernel
theorem dX5_init_4 : decode cX5_init 4 = .ok (.aload_n 0, 1) := by decide +kernel
theorem dX5_init_5 : decode cX5_init 5 = .ok (.iload_n 1, 1) := by decide +kernel
theorem dX5_init_6 : decode cX5_init 6 = .ok (.putfield 9, 3) := by decide +kernel
theorem dX5_init_9 : decode cX5_init 9 = .ok (.aload_n 0, 1) := by decide +kernel
theorem dX5_init_10 : decode cX5_init 10 = .ok (.iload_n 2, 1) := by decide +kernel
theorem dX5_init_11 : decode cX5_init 11 = .ok (.newarray .long, 2) := by decide +kernel
theorem dX5_init_13 : decode cX5_init 13 = .ok (.putfield 15, 3) := by decide +kernel
theorem dX5_init_16 : decode cX5_init 16 = .ok (.return_, 1) := by decide +kernel
theorem dX5_appearance_0 : decode cX5_appearance 0 = .ok (.aload_n 0, 1) := by decide +kernel
theorem dX5_appearance_1 : decode cX5_appearance 1 = .ok (.getfield 9, 3) := by decide +kernel
theorem dX5_appearance_4 : decode cX5_appearance 4 = .ok (.ireturn, 1) := by decide +kernel
theorem dX5_measure_0 : decode cX5_measure 0 = .ok (.aload_n 0, 1) := by decide +kernel
theorem dX5_measure_1 : decode cX5_measure 1 = .ok (.getfield 15, 3) := by decide +kernel
theorem dX5_measure_4 : decode cX5_measure 4 = .ok (.arraylength, 1) := by decide +kernel
theorem dX5_measure_5 : decode cX5_measure 5 = .ok (.ireturn, 1) := by decide +kernel
theorem dX5_isOfFigures_0 : decode cX5_isOfFigures 0 = .ok (.aload_n 0, 1) := by decide +kernel
theorem dX5_isOfFigures_1 : decode cX5_isOfFigures 1 = .ok (.getfield 9, 3) := by decide +kernel
theorem dX5_isOfFigures_4 : decode cX5_isOfFigures 4 = .ok (.bipush 8, 2) := by decide +kernel
theorem dX5_isOfFigures_6 : decode cX5_isOfFigures 6 = .ok (.if_icmp .lt 7, 3) := by decide +kernel
theorem dX5_isOfFigures_9 : decode cX5_isOfFigures 9 = .ok (.iconst 1, 1) := by decide +kernel
theorem dX5_isOfFigures_10 : decode cX5_isOfFigures 10 = .ok (.goto 4, 3) := by decide +kernel
theorem dX5_isOfFigures_13 : decode cX5_isOfFigures 13 = .ok (.iconst 0, 1) := by decide +kernel
theorem dX5_isOfFigures_14 : decode cX5_isOfFigures 14 = .ok (.ireturn, 1) := by decide +kernel
theorem dX5_isAlike_0 : decode cX5_isAlike 0 = .ok (.aload_n 0, 1) := by decide +kernel
theorem dX5_isAlike_1 : decode cX5_isAlike 1 = .ok (.getfield 9, 3) := by decide +kernel
theorem dX5_isAlike_4 : decode cX5_isAlike 4 = .ok (.aload_n 1, 1) := by decide +kernel
theorem dX5_isAlike_5 : decode cX5_isAlike 5 = .ok (.getfield 9, 3) := by decide +kernel
theorem dX5_isAlike_8 : decode cX5_isAlike 8 = .ok (.if_icmp .eq 17, 3) := by decide +kernel
theorem dX5_isAlike_11 : decode cX5_isAlike 11 = .ok (.aload_n 0, 1) := by decide +kernel
theorem dX5_isAlike_12 : decode cX5_isAlike 12 = .ok (.invokevirtual 19, 3) := by decide +kernel
theorem dX5_isAlike_15 : decode cX5_isAlike 15 = .ok (.ifCond .eq 14, 3) := by decide +kernel
theorem dX5_isAlike_18 : decode cX5_isAlike 18 = .ok (.aload_n 1, 1) := by decide +kernel
theorem dX5_isAlike_19 : decode cX5_isAlike 19 = .ok (.invokevirtual 19, 3) := by decide +kernel
theorem dX5_isAlike_22 : decode cX5_isAlike 22 = .ok (.ifCond .eq 7, 3) := by decide +kernel
theorem dX5_isAlike_25 : decode cX5_isAlike 25 = .ok (.iconst 1, 1) := by decide +kernel
theorem dX5_isAlike_26 : decode cX5_isAlike 26 = .ok (.goto 4, 3) := by decide +kernel
theorem dX5_isAlike_29 : decode cX5_isAlike 29 = .ok (.iconst 0, 1) := by decide +kernel
theorem dX5_isAlike_30 : decode cX5_isAlike 30 = .ok (.ireturn, 1) := by decide +kernel
theorem dX5_hasPlace_0 : decode cX5_hasPlace 0 = .ok (.iload_n 1, 1) := by decide +kernel
theorem dX5_hasPlace_1 : decode cX5_hasPlace 1 = .ok (.ifCond .lt 16, 3) := by decide +kernel
theorem dX5_hasPlace_4 : decode cX5_hasPlace 4 = .ok (.iload_n 1, 1) := by decide +kernel
theorem dX5_hasPlace_5 : decode cX5_hasPlace 5 = .ok (.aload_n 0, 1) := by decide +kernel
theorem dX5_hasPlace_6 : decode cX5_hasPlace 6 = .ok (.getfield 15, 3) := by decide +kernel
theorem dX5_hasPlace_9 : decode cX5_hasPlace 9 = .ok (.arraylength, 1) := by decide +kernel
theorem dX5_hasPlace_10 : decode cX5_hasPlace 10 = .ok (.if_icmp .ge 7, 3) := by decide +kernel
theorem dX5_hasPlace_13 : decode cX5_hasPlace 13 = .ok (.iconst 1, 1) := by decide +kernel
theorem dX5_hasPlace_14 : decode cX5_hasPlace 14 = .ok (.goto 4, 3) := by decide +kernel
theorem dX5_hasPlace_17 : decode cX5_hasPlace 17 = .ok (.iconst 0, 1) := by decide +kernel
theorem dX5_hasPlace_18 : decode cX5_hasPlace 18 = .ok (.ireturn, 1) := by decide +kernel
theorem dX5_hasPlaces_0 : decode cX5_hasPlaces 0 = .ok (.iload_n 1, 1) := by decide +kernel
theorem dX5_hasPlaces_1 : decode cX5_hasPlaces 1 = .ok (.ifCond .lt 26, 3) := by decide +kernel
theorem dX5_hasPlaces_4 : decode cX5_hasPlaces 4 = .ok (.iload_n 2, 1) := by decide +kernel
theorem dX5_hasPlaces_5 : decode cX5_hasPlaces 5 = .ok (.ifCond .lt 22, 3) := by decide +kernel
theorem dX5_hasPlaces_8 : decode cX5_hasPlaces 8 = .ok (.iload_n 1, 1) := by decide +kernel
theorem dX5_hasPlaces_9 : decode cX5_hasPlaces 9 = .ok (.i2l, 1) := by decide +kernel
theorem dX5_hasPlaces_10 : decode cX5_hasPlaces 10 = .ok (.iload_n 2, 1) := by decide +kernel
theorem dX5_hasPlaces_11 : decode cX5_hasPlaces 11 = .ok (.i2l, 1) := by decide +kernel
theorem dX5_hasPlaces_12 : decode cX5_hasPlaces 12 = .ok (.ladd, 1) := by decide +kernel
theorem dX5_hasPlaces_13 : decode cX5_hasPlaces 13 = .ok (.aload_n 0, 1) := by decide +kernel
theorem dX5_hasPlaces_14 : decode cX5_hasPlaces 14 = .ok (.getfield 15, 3) := by decide +kernel
theorem dX5_hasPlaces_17 : decode cX5_hasPlaces 17 = .ok (.arraylength, 1) := by decide +kernel
theorem dX5_hasPlaces_18 : decode cX5_hasPlaces 18 = .ok (.i2l, 1) := by decide +kernel
theorem dX5_hasPlaces_19 : decode cX5_hasPlaces 19 = .ok (.lcmp, 1) := by decide +kernel
theorem dX5_hasPlaces_20 : decode cX5_hasPlaces 20 = .ok (.ifCond .gt 7, 3) := by decide +kernel
theorem dX5_hasPlaces_23 : decode cX5_hasPlaces 23 = .ok (.iconst 1, 1) := by decide +kernel
theorem dX5_hasPlaces_24 : decode cX5_hasPlaces 24 = .ok (.goto 4, 3) := by decide +kernel
theorem dX5_hasPlaces_27 : decode cX5_hasPlaces 27 = .ok (.iconst 0, 1) := by decide +kernel
theorem dX5_hasPlaces_28 : decode cX5_hasPlaces 28 = .ok (.ireturn, 1) := by decide +kernel
theorem dX5_canHave_0 : decode cX5_canHave 0 = .ok (.aload_n 0, 1) := by decide +kernel
theorem dX5_canHave_1 : decode cX5_canHave 1 = .ok (.getfield 9, 3) := by decide +kernel
theorem dX5_canHave_4 : decode cX5_canHave 4 = .ok (.tableswitch 78 9 11 #[28, 48, 63], 28) := by decide +kernel
theorem dX5_canHave_32 : decode cX5_canHave 32 = .ok (.iload_n 1, 1) := by decide +kernel
theorem dX5_canHave_33 : decode cX5_canHave 33 = .ok (.ifCond .eq 13, 3) := by decide +kernel
theorem dX5_canHave_36 : decode cX5_canHave 36 = .ok (.iload_n 1, 1) := by decide +kernel
theorem dX5_canHave_37 : decode cX5_canHave 37 = .ok (.iconst 2, 1) := by decide +kernel
theorem dX5_canHave_38 : decode cX5_canHave 38 = .ok (.if_icmp .eq 8, 3) := by decide +kernel
theorem dX5_canHave_41 : decode cX5_canHave 41 = .ok (.iload_n 1, 1) := by decide +kernel
theorem dX5_canHave_42 : decode cX5_canHave 42 = .ok (.iconst 3, 1) := by decide +kernel
theorem dX5_canHave_43 : decode cX5_canHave 43 = .ok (.if_icmp .ne 7, 3) := by decide +kernel
theorem dX5_canHave_46 : decode cX5_canHave 46 = .ok (.iconst 1, 1) := by decide +kernel
theorem dX5_canHave_47 : decode cX5_canHave 47 = .ok (.goto 4, 3) := by decide +kernel
theorem dX5_canHave_50 : decode cX5_canHave 50 = .ok (.iconst 0, 1) := by decide +kernel
theorem dX5_canHave_51 : decode cX5_canHave 51 = .ok (.ireturn, 1) := by decide +kernel
theorem dX5_canHave_52 : decode cX5_canHave 52 = .ok (.iload_n 1, 1) := by decide +kernel
theorem dX5_canHave_53 : decode cX5_canHave 53 = .ok (.ifCond .eq 8, 3) := by decide +kernel
theorem dX5_canHave_56 : decode cX5_canHave 56 = .ok (.iload_n 1, 1) := by decide +kernel
theorem dX5_canHave_57 : decode cX5_canHave 57 = .ok (.iconst 3, 1) := by decide +kernel
theorem dX5_canHave_58 : decode cX5_canHave 58 = .ok (.if_icmp .ne 7, 3) := by decide +kernel
theorem dX5_canHave_61 : decode cX5_canHave 61 = .ok (.iconst 1, 1) := by decide +kernel
theorem dX5_canHave_62 : decode cX5_canHave 62 = .ok (.goto 4, 3) := by decide +kernel
theorem dX5_canHave_65 : decode cX5_canHave 65 = .ok (.iconst 0, 1) := by decide +kernel
theorem dX5_canHave_66 : decode cX5_canHave 66 = .ok (.ireturn, 1) := by decide +kernel
theorem dX5_canHave_67 : decode cX5_canHave 67 = .ok (.iload_n 1, 1) := by decide +kernel
theorem dX5_canHave_68 : decode cX5_canHave 68 = .ok (.ifCond .eq 8, 3) := by decide +kernel
theorem dX5_canHave_71 : decode cX5_canHave 71 = .ok (.iload_n 1, 1) := by decide +kernel
theorem dX5_canHave_72 : decode cX5_canHave 72 = .ok (.iconst 4, 1) := by decide +kernel
theorem dX5_canHave_73 : decode cX5_canHave 73 = .ok (.if_icmp .ne 7, 3) := by decide +kernel
theorem dX5_canHave_76 : decode cX5_canHave 76 = .ok (.iconst 1, 1) := by decide +kernel
theorem dX5_canHave_77 : decode cX5_canHave 77 = .ok (.goto 4, 3) := by decide +kernel
theorem dX5_canHave_80 : decode cX5_canHave 80 = .ok (.iconst 0, 1) := by decide +kernel
theorem dX5_canHave_81 : decode cX5_canHave 81 = .ok (.ireturn, 1) := by decide +kernel
theorem dX5_canHave_82 : decode cX5_canHave 82 = .ok (.iconst 1, 1) := by decide +kernel
theorem dX5_canHave_83 : decode cX5_canHave 83 = .ok (.ireturn, 1) := by decide +kernel
theorem dX5_turn_0 : decode cX5_turn 0 = .ok (.aload_n 0, 1) := by decide +kernel
theorem dX5_turn_1 : decode cX5_turn 1 = .ok (.getfield 15, 3) := by decide +kernel
theorem dX5_turn_4 : decode cX5_turn 4 = .ok (.arraylength, 1) := by decide +kernel
theorem dX5_turn_5 : decode cX5_turn 5 = .ok (.istore_n 3, 1) := by decide +kernel
theorem dX5_turn_6 : decode cX5_turn 6 = .ok (.iload_n 3, 1) := by decide +kernel
theorem dX5_turn_7 : decode cX5_turn 7 = .ok (.ifCond .ne 4, 3) := by decide +kernel
theorem dX5_turn_10 : decode cX5_turn 10 = .ok (.return_, 1) := by decide +kernel
theorem dX5_turn_11 : decode cX5_turn 11 = .ok (.iload_n 1, 1) := by decide +kernel
theorem dX5_turn_12 : decode cX5_turn 12 = .ok (.iload_n 3, 1) := by decide +kernel
theorem dX5_turn_13 : decode cX5_turn 13 = .ok (.invokestatic 23, 3) := by decide +kernel
theorem dX5_turn_16 : decode cX5_turn 16 = .ok (.istore 4, 2) := by decide +kernel
theorem dX5_turn_18 : decode cX5_turn 18 = .ok (.aload_n 0, 1) := by decide +kernel
theorem dX5_turn_19 : decode cX5_turn 19 = .ok (.aload_n 2, 1) := by decide +kernel
theorem dX5_turn_20 : decode cX5_turn 20 = .ok (.invokevirtual 29, 3) := by decide +kernel
theorem dX5_turn_23 : decode cX5_turn 23 = .ok (.iconst 0, 1) := by decide +kernel
theorem dX5_turn_24 : decode cX5_turn 24 = .ok (.istore 5, 2) := by decide +kernel
theorem dX5_turn_26 : decode cX5_turn 26 = .ok (.iload 5, 2) := by decide +kernel
theorem dX5_turn_28 : decode cX5_turn 28 = .ok (.iload_n 3, 1) := by decide +kernel
theorem dX5_turn_29 : decode cX5_turn 29 = .ok (.if_icmp .ge 25, 3) := by decide +kernel
theorem dX5_turn_32 : decode cX5_turn 32 = .ok (.aload_n 0, 1) := by decide +kernel
theorem dX5_turn_33 : decode cX5_turn 33 = .ok (.getfield 15, 3) := by decide +kernel
theorem dX5_turn_36 : decode cX5_turn 36 = .ok (.iload 5, 2) := by decide +kernel
theorem dX5_turn_38 : decode cX5_turn 38 = .ok (.aload_n 2, 1) := by decide +kernel
theorem dX5_turn_39 : decode cX5_turn 39 = .ok (.iload 5, 2) := by decide +kernel
theorem dX5_turn_41 : decode cX5_turn 41 = .ok (.iload 4, 2) := by decide +kernel
theorem dX5_turn_43 : decode cX5_turn 43 = .ok (.iadd, 1) := by decide +kernel
theorem dX5_turn_44 : decode cX5_turn 44 = .ok (.iload_n 3, 1) := by decide +kernel
theorem dX5_turn_45 : decode cX5_turn 45 = .ok (.irem, 1) := by decide +kernel
theorem dX5_turn_46 : decode cX5_turn 46 = .ok (.laload, 1) := by decide +kernel
theorem dX5_turn_47 : decode cX5_turn 47 = .ok (.lastore, 1) := by decide +kernel
theorem dX5_turn_48 : decode cX5_turn 48 = .ok (.iinc 5 1, 3) := by decide +kernel
theorem dX5_turn_51 : decode cX5_turn 51 = .ok (.goto (-25), 3) := by decide +kernel
theorem dX5_turn_54 : decode cX5_turn 54 = .ok (.return_, 1) := by decide +kernel
theorem dX5_open_0 : decode cX5_open 0 = .ok (.aload_n 0, 1) := by decide +kernel
theorem dX5_open_1 : decode cX5_open 1 = .ok (.getfield 15, 3) := by decide +kernel
theorem dX5_open_4 : decode cX5_open 4 = .ok (.iload_n 1, 1) := by decide +kernel
theorem dX5_open_5 : decode cX5_open 5 = .ok (.aload_n 0, 1) := by decide +kernel
theorem dX5_open_6 : decode cX5_open 6 = .ok (.getfield 15, 3) := by decide +kernel
theorem dX5_open_9 : decode cX5_open 9 = .ok (.iload_n 1, 1) := by decide +kernel
theorem dX5_open_10 : decode cX5_open 10 = .ok (.iload_n 2, 1) := by decide +kernel
theorem dX5_open_11 : decode cX5_open 11 = .ok (.iadd, 1) := by decide +kernel
theorem dX5_open_12 : decode cX5_open 12 = .ok (.aload_n 0, 1) := by decide +kernel
theorem dX5_open_13 : decode cX5_open 13 = .ok (.getfield 15, 3) := by decide +kernel
theorem dX5_open_16 : decode cX5_open 16 = .ok (.arraylength, 1) := by decide +kernel
theorem dX5_open_17 : decode cX5_open 17 = .ok (.iload_n 1, 1) := by decide +kernel
theorem dX5_open_18 : decode cX5_open 18 = .ok (.isub, 1) := by decide +kernel
theorem dX5_open_19 : decode cX5_open 19 = .ok (.iload_n 2, 1) := by decide +kernel
theorem dX5_open_20 : decode cX5_open 20 = .ok (.isub, 1) := by decide +kernel
theorem dX5_open_21 : decode cX5_open 21 = .ok (.invokestatic 33, 3) := by decide +kernel
theorem dX5_open_24 : decode cX5_open 24 = .ok (.aload_n 0, 1) := by decide +kernel
theorem dX5_open_25 : decode cX5_open 25 = .ok (.iload_n 1, 1) := by decide +kernel
theorem dX5_open_26 : decode cX5_open 26 = .ok (.iload_n 1, 1) := by decide +kernel
theorem dX5_open_27 : decode cX5_open 27 = .ok (.iload_n 2, 1) := by decide +kernel
theorem dX5_open_28 : decode cX5_open 28 = .ok (.iadd, 1) := by decide +kernel
theorem dX5_open_29 : decode cX5_open 29 = .ok (.invokevirtual 39, 3) := by decide +kernel
theorem dX5_open_32 : decode cX5_open 32 = .ok (.return_, 1) := by decide +kernel
theorem dX5_shut_0 : decode cX5_shut 0 = .ok (.aload_n 0, 1) := by decide +kernel
theorem dX5_shut_1 : decode cX5_shut 1 = .ok (.getfield 15, 3) := by decide +kernel
theorem dX5_shut_4 : decode cX5_shut 4 = .ok (.iload_n 1, 1) := by decide +kernel
theorem dX5_shut_5 : decode cX5_shut 5 = .ok (.iload_n 2, 1) := by decide +kernel
theorem dX5_shut_6 : decode cX5_shut 6 = .ok (.iadd, 1) := by decide +kernel
theorem dX5_shut_7 : decode cX5_shut 7 = .ok (.aload_n 0, 1) := by decide +kernel
theorem dX5_shut_8 : decode cX5_shut 8 = .ok (.getfield 15, 3) := by decide +kernel
theorem dX5_shut_11 : decode cX5_shut 11 = .ok (.iload_n 1, 1) := by decide +kernel
theorem dX5_shut_12 : decode cX5_shut 12 = .ok (.aload_n 0, 1) := by decide +kernel
theorem dX5_shut_13 : decode cX5_shut 13 = .ok (.getfield 15, 3) := by decide +kernel
theorem dX5_shut_16 : decode cX5_shut 16 = .ok (.arraylength, 1) := by decide +kernel
theorem dX5_shut_17 : decode cX5_shut 17 = .ok (.iload_n 1, 1) := by decide +kernel
theorem dX5_shut_18 : decode cX5_shut 18 = .ok (.isub, 1) := by decide +kernel
theorem dX5_shut_19 : decode cX5_shut 19 = .ok (.iload_n 2, 1) := by decide +kernel
theorem dX5_shut_20 : decode cX5_shut 20 = .ok (.isub, 1) := by decide +kernel
theorem dX5_shut_21 : decode cX5_shut 21 = .ok (.invokestatic 33, 3) := by decide +kernel
theorem dX5_shut_24 : decode cX5_shut 24 = .ok (.aload_n 0, 1) := by decide +kernel
theorem dX5_shut_25 : decode cX5_shut 25 = .ok (.aload_n 0, 1) := by decide +kernel
theorem dX5_shut_26 : decode cX5_shut 26 = .ok (.getfield 15, 3) := by decide +kernel
theorem dX5_shut_29 : decode cX5_shut 29 = .ok (.arraylength, 1) := by decide +kernel
theorem dX5_shut_30 : decode cX5_shut 30 = .ok (.iload_n 2, 1) := by decide +kernel
theorem dX5_shut_31 : decode cX5_shut 31 = .ok (.isub, 1) := by decide +kernel
theorem dX5_shut_32 : decode cX5_shut 32 = .ok (.aload_n 0, 1) := by decide +kernel
theorem dX5_shut_33 : decode cX5_shut 33 = .ok (.getfield 15, 3) := by decide +kernel
theorem dX5_shut_36 : decode cX5_shut 36 = .ok (.arraylength, 1) := by decide +kernel
theorem dX5_shut_37 : decode cX5_shut 37 = .ok (.invokevirtual 39, 3) := by decide +kernel
theorem dX5_shut_40 : decode cX5_shut 40 = .ok (.return_, 1) := by decide +kernel
theorem dX5_empty_0 : decode cX5_empty 0 = .ok (.iload_n 1, 1) := by decide +kernel
theorem dX5_empty_1 : decode cX5_empty 1 = .ok (.istore_n 3, 1) := by decide +kernel
theorem dX5_empty_2 : decode cX5_empty 2 = .ok (.iload_n 3, 1) := by decide +kernel
theorem dX5_empty_3 : decode cX5_empty 3 = .ok (.iload_n 2, 1) := by decide +kernel
theorem dX5_empty_4 : decode cX5_empty 4 = .ok (.if_icmp .ge 16, 3) := by decide +kernel
theorem dX5_empty_7 : decode cX5_empty 7 = .ok (.aload_n 0, 1) := by decide +kernel
theorem dX5_empty_8 : decode cX5_empty 8 = .ok (.getfield 15, 3) := by decide +kernel
theorem dX5_empty_11 : decode cX5_empty 11 = .ok (.iload_n 3, 1) := by decide +kernel
theorem dX5_empty_12 : decode cX5_empty 12 = .ok (.lconst 0, 1) := by decide +kernel
theorem dX5_empty_13 : decode cX5_empty 13 = .ok (.lastore, 1) := by decide +kernel
theorem dX5_empty_14 : decode cX5_empty 14 = .ok (.iinc 3 1, 3) := by decide +kernel
theorem dX5_empty_17 : decode cX5_empty 17 = .ok (.goto (-15), 3) := by decide +kernel
theorem dX5_empty_20 : decode cX5_empty 20 = .ok (.return_, 1) := by decide +kernel
theorem dX5_copyTo_0 : decode cX5_copyTo 0 = .ok (.aload_n 0, 1) := by decide +kernel
theorem dX5_copyTo_1 : decode cX5_copyTo 1 = .ok (.getfield 15, 3) := by decide +kernel
theorem dX5_copyTo_4 : decode cX5_copyTo 4 = .ok (.iconst 0, 1) := by decide +kernel
theorem dX5_copyTo_5 : decode cX5_copyTo 5 = .ok (.aload_n 1, 1) := by decide +kernel
theorem dX5_copyTo_6 : decode cX5_copyTo 6 = .ok (.iconst 0, 1) := by decide +kernel
theorem dX5_copyTo_7 : decode cX5_copyTo 7 = .ok (.aload_n 0, 1) := by decide +kernel
theorem dX5_copyTo_8 : decode cX5_copyTo 8 = .ok (.getfield 15, 3) := by decide +kernel
theorem dX5_copyTo_11 : decode cX5_copyTo 11 = .ok (.arraylength, 1) := by decide +kernel
theorem dX5_copyTo_12 : decode cX5_copyTo 12 = .ok (.invokestatic 33, 3) := by decide +kernel
theorem dX5_copyTo_15 : decode cX5_copyTo 15 = .ok (.return_, 1) := by decide +kernel
theorem dX5_differsFrom_0 : decode cX5_differsFrom 0 = .ok (.iconst 0, 1) := by decide +kernel
theorem dX5_differsFrom_1 : decode cX5_differsFrom 1 = .ok (.istore_n 2, 1) := by decide +kernel
theorem dX5_differsFrom_2 : decode cX5_differsFrom 2 = .ok (.iload_n 2, 1) := by decide +kernel
theorem dX5_differsFrom_3 : decode cX5_differsFrom 3 = .ok (.aload_n 0, 1) := by decide +kernel
theorem dX5_differsFrom_4 : decode cX5_differsFrom 4 = .ok (.getfield 15, 3) := by decide +kernel
theorem dX5_differsFrom_7 : decode cX5_differsFrom 7 = .ok (.arraylength, 1) := by decide +kernel
theorem dX5_differsFrom_8 : decode cX5_differsFrom 8 = .ok (.if_icmp .ge 24, 3) := by decide +kernel
theorem dX5_differsFrom_11 : decode cX5_differsFrom 11 = .ok (.aload_n 0, 1) := by decide +kernel
theorem dX5_differsFrom_12 : decode cX5_differsFrom 12 = .ok (.getfield 15, 3) := by decide +kernel
theorem dX5_differsFrom_15 : decode cX5_differsFrom 15 = .ok (.iload_n 2, 1) := by decide +kernel
theorem dX5_differsFrom_16 : decode cX5_differsFrom 16 = .ok (.laload, 1) := by decide +kernel
theorem dX5_differsFrom_17 : decode cX5_differsFrom 17 = .ok (.aload_n 1, 1) := by decide +kernel
theorem dX5_differsFrom_18 : decode cX5_differsFrom 18 = .ok (.iload_n 2, 1) := by decide +kernel
theorem dX5_differsFrom_19 : decode cX5_differsFrom 19 = .ok (.laload, 1) := by decide +kernel
theorem dX5_differsFrom_20 : decode cX5_differsFrom 20 = .ok (.lcmp, 1) := by decide +kernel
theorem dX5_differsFrom_21 : decode cX5_differsFrom 21 = .ok (.ifCond .eq 5, 3) := by decide +kernel
theorem dX5_differsFrom_24 : decode cX5_differsFrom 24 = .ok (.iconst 1, 1) := by decide +kernel
theorem dX5_differsFrom_25 : decode cX5_differsFrom 25 = .ok (.ireturn, 1) := by decide +kernel
theorem dX5_differsFrom_26 : decode cX5_differsFrom 26 = .ok (.iinc 2 1, 3) := by decide +kernel
theorem dX5_differsFrom_29 : decode cX5_differsFrom 29 = .ok (.goto (-27), 3) := by decide +kernel
theorem dX5_differsFrom_32 : decode cX5_differsFrom 32 = .ok (.iconst 0, 1) := by decide +kernel
theorem dX5_differsFrom_33 : decode cX5_differsFrom 33 = .ok (.ireturn, 1) := by decide +kernel
theorem dX6_init_0 : decode cX6_init 0 = .ok (.aload_n 0, 1) := by decide +kernel
theorem dX6_init_1 : decode cX6_init 1 = .ok (.invokespecial 3, 3) := by decide +kernel
theorem dX6_init_4 : decode cX6_init 4 = .ok (.aload_n 0, 1) := by decide +kernel
theorem dX6_init_5 : decode cX6_init 5 = .ok (.sipush 400, 3) := by decide +kernel
theorem dX6_init_8 : decode cX6_init 8 = .ok (.anewarray 9, 3) := by decide +kernel
theorem dX6_init_11 : decode cX6_init 11 = .ok (.putfield 11, 3) := by decide +kernel
theorem dX6_init_14 : decode cX6_init 14 = .ok (.return_, 1) := by decide +kernel
theorem dX6_hasRoomForRow_0 : decode cX6_hasRoomForRow 0 = .ok (.aload_n 0, 1) := by decide +kernel
theorem dX6_hasRoomForRow_1 : decode cX6_hasRoomForRow 1 = .ok (.getfield 17, 3) := by decide +kernel
theorem dX6_hasRoomForRow_4 : decode cX6_hasRoomForRow 4 = .ok (.bipush 120, 2) := by decide +kernel
theorem dX6_hasRoomForRow_6 : decode cX6_hasRoomForRow 6 = .ok (.if_icmp .ge 25, 3) := by decide +kernel
theorem dX6_hasRoomForRow_9 : decode cX6_hasRoomForRow 9 = .ok (.iload_n 1, 1) := by decide +kernel
theorem dX6_hasRoomForRow_10 : decode cX6_hasRoomForRow 10 = .ok (.bipush 64, 2) := by decide +kernel
theorem dX6_hasRoomForRow_12 : decode cX6_hasRoomForRow 12 = .ok (.if_icmp .gt 19, 3) := by decide +kernel
theorem dX6_hasRoomForRow_15 : decode cX6_hasRoomForRow 15 = .ok (.aload_n 0, 1) := by decide +kernel
theorem dX6_hasRoomForRow_16 : decode cX6_hasRoomForRow 16 = .ok (.getfield 21, 3) := by decide +kernel
theorem dX6_hasRoomForRow_19 : decode cX6_hasRoomForRow 19 = .ok (.iload_n 1, 1) := by decide +kernel
theorem dX6_hasRoomForRow_20 : decode cX6_hasRoomForRow 20 = .ok (.iadd, 1) := by decide +kernel
theorem dX6_hasRoomForRow_21 : decode cX6_hasRoomForRow 21 = .ok (.sipush 3000, 3) := by decide +kernel
theorem dX6_hasRoomForRow_24 : decode cX6_hasRoomForRow 24 = .ok (.if_icmp .gt 7, 3) := by decide +kernel
theorem dX6_hasRoomForRow_27 : decode cX6_hasRoomForRow 27 = .ok (.iconst 1, 1) := by decide +kernel
theorem dX6_hasRoomForRow_28 : decode cX6_hasRoomForRow 28 = .ok (.goto 4, 3) := by decide +kernel
theorem dX6_hasRoomForRow_31 : decode cX6_hasRoomForRow 31 = .ok (.iconst 0, 1) := by decide +kernel
theorem dX6_hasRoomForRow_32 : decode cX6_hasRoomForRow 32 = .ok (.ireturn, 1) := by decide +kernel
theorem dX6_hasRoomForFigure_0 : decode cX6_hasRoomForFigure 0 = .ok (.aload_n 0, 1) := by decide +kernel
theorem dX6_hasRoomForFigure_1 : decode cX6_hasRoomForFigure 1 = .ok (.getfield 24, 3) := by decide +kernel
theorem dX6_hasRoomForFigure_4 : decode cX6_hasRoomForFigure 4 = .ok (.sipush 400, 3) := by decide +kernel
theorem dX6_hasRoomForFigure_7 : decode cX6_hasRoomForFigure 7 = .ok (.if_icmp .ge 7, 3) := by decide +kernel
theorem dX6_hasRoomForFigure_10 : decode cX6_hasRoomForFigure 10 = .ok (.iconst 1, 1) := by decide +kernel
theorem dX6_hasRoomForFigure_11 : decode cX6_hasRoomForFigure 11 = .ok (.goto 4, 3) := by decide +kernel
theorem dX6_hasRoomForFigure_14 : decode cX6_hasRoomForFigure 14 = .ok (.iconst 0, 1) := by decide +kernel
theorem dX6_hasRoomForFigure_15 : decode cX6_hasRoomForFigure 15 = .ok (.ireturn, 1) := by decide +kernel
theorem dX6_makeRow_0 : decode cX6_makeRow 0 = .ok (.aload_n 0, 1) := by decide +kernel
theorem dX6_makeRow_1 : decode cX6_makeRow 1 = .ok (.dup, 1) := by decide +kernel
theorem dX6_makeRow_2 : decode cX6_makeRow 2 = .ok (.getfield 17, 3) := by decide +kernel
theorem dX6_makeRow_5 : decode cX6_makeRow 5 = .ok (.iconst 1, 1) := by decide +kernel
theorem dX6_makeRow_6 : decode cX6_makeRow 6 = .ok (.iadd, 1) := by decide +kernel
theorem dX6_makeRow_7 : decode cX6_makeRow 7 = .ok (.putfield 17, 3) := by decide +kernel
theorem dX6_makeRow_10 : decode cX6_makeRow 10 = .ok (.aload_n 0, 1) := by decide +kernel
theorem dX6_makeRow_11 : decode cX6_makeRow 11 = .ok (.dup, 1) := by decide +kernel
theorem dX6_makeRow_12 : decode cX6_makeRow 12 = .ok (.getfield 21, 3) := by decide +kernel
theorem dX6_makeRow_15 : decode cX6_makeRow 15 = .ok (.iload_n 2, 1) := by decide +kernel
theorem dX6_makeRow_16 : decode cX6_makeRow 16 = .ok (.iadd, 1) := by decide +kernel
theorem dX6_makeRow_17 : decode cX6_makeRow 17 = .ok (.putfield 21, 3) := by decide +kernel
theorem dX6_makeRow_20 : decode cX6_makeRow 20 = .ok (.new 27, 3) := by decide +kernel
theorem dX6_makeRow_23 : decode cX6_makeRow 23 = .ok (.dup, 1) := by decide +kernel
theorem dX6_makeRow_24 : decode cX6_makeRow 24 = .ok (.iload_n 1, 1) := by decide +kernel
theorem dX6_makeRow_25 : decode cX6_makeRow 25 = .ok (.iload_n 2, 1) := by decide +kernel
theorem dX6_makeRow_26 : decode cX6_makeRow 26 = .ok (.invokespecial 29, 3) := by decide +kernel
theorem dX6_makeRow_29 : decode cX6_makeRow 29 = .ok (.areturn, 1) := by decide +kernel
theorem dX6_makeFigure_0 : decode cX6_makeFigure 0 = .ok (.new 9, 3) := by decide +kernel
theorem dX6_makeFigure_3 : decode cX6_makeFigure 3 = .ok (.dup, 1) := by decide +kernel
theorem dX6_makeFigure_4 : decode cX6_makeFigure 4 = .ok (.iload_n 1, 1) := by decide +kernel
theorem dX6_makeFigure_5 : decode cX6_makeFigure 5 = .ok (.aload_n 0, 1) := by decide +kernel
theorem dX6_makeFigure_6 : decode cX6_makeFigure 6 = .ok (.getfield 24, 3) := by decide +kernel
theorem dX6_makeFigure_9 : decode cX6_makeFigure 9 = .ok (.iconst 1, 1) := by decide +kernel
theorem dX6_makeFigure_10 : decode cX6_makeFigure 10 = .ok (.iadd, 1) := by decide +kernel
theorem dX6_makeFigure_11 : decode cX6_makeFigure 11 = .ok (.invokespecial 32, 3) := by decide +kernel
theorem dX6_makeFigure_14 : decode cX6_makeFigure 14 = .ok (.astore_n 2, 1) := by decide +kernel
theorem dX6_makeFigure_15 : decode cX6_makeFigure 15 = .ok (.aload_n 0, 1) := by decide +kernel
theorem dX6_makeFigure_16 : decode cX6_makeFigure 16 = .ok (.getfield 11, 3) := by decide +kernel
theorem dX6_makeFigure_19 : decode cX6_makeFigure 19 = .ok (.aload_n 0, 1) := by decide +kernel
theorem dX6_makeFigure_20 : decode cX6_makeFigure 20 = .ok (.getfield 24, 3) := by decide +kernel
theorem dX6_makeFigure_23 : decode cX6_makeFigure 23 = .ok (.aload_n 2, 1) := by decide +kernel
theorem dX6_makeFigure_24 : decode cX6_makeFigure 24 = .ok (.aastore, 1) := by decide +kernel
theorem dX6_makeFigure_25 : decode cX6_makeFigure 25 = .ok (.aload_n 0, 1) := by decide +kernel
theorem dX6_makeFigure_26 : decode cX6_makeFigure 26 = .ok (.dup, 1) := by decide +kernel
theorem dX6_makeFigure_27 : decode cX6_makeFigure 27 = .ok (.getfield 24, 3) := by decide +kernel
theorem dX6_makeFigure_30 : decode cX6_makeFigure 30 = .ok (.iconst 1, 1) := by decide +kernel
theorem dX6_makeFigure_31 : decode cX6_makeFigure 31 = .ok (.iadd, 1) := by decide +kernel
theorem dX6_makeFigure_32 : decode cX6_makeFigure 32 = .ok (.putfield 24, 3) := by decide +kernel
theorem dX6_makeFigure_35 : decode cX6_makeFigure 35 = .ok (.aload_n 2, 1) := by decide +kernel
theorem dX6_makeFigure_36 : decode cX6_makeFigure 36 = .ok (.areturn, 1) := by decide +kernel
theorem dX6_figureOf_0 : decode cX6_figureOf 0 = .ok (.lload_n 1, 1) := by decide +kernel
theorem dX6_figureOf_1 : decode cX6_figureOf 1 = .ok (.lconst 1, 1) := by decide +kernel
theorem dX6_figureOf_2 : decode cX6_figureOf 2 = .ok (.lcmp, 1) := by decide +kernel
theorem dX6_figureOf_3 : decode cX6_figureOf 3 = .ok (.ifCond .lt 13, 3) := by decide +kernel
theorem dX6_figureOf_6 : decode cX6_figureOf 6 = .ok (.lload_n 1, 1) := by decide +kernel
theorem dX6_figureOf_7 : decode cX6_figureOf 7 = .ok (.aload_n 0, 1) := by decide +kernel
theorem dX6_figureOf_8 : decode cX6_figureOf 8 = .ok (.getfield 24, 3) := by decide +kernel
theorem dX6_figureOf_11 : decode cX6_figureOf 11 = .ok (.i2l, 1) := by decide +kernel
theorem dX6_figureOf_12 : decode cX6_figureOf 12 = .ok (.lcmp, 1) := by decide +kernel
theorem dX6_figureOf_13 : decode cX6_figureOf 13 = .ok (.ifCond .le 5, 3) := by decide +kernel
theorem dX6_figureOf_16 : decode cX6_figureOf 16 = .ok (.aconst_null, 1) := by decide +kernel
theorem dX6_figureOf_17 : decode cX6_figureOf 17 = .ok (.areturn, 1) := by decide +kernel
theorem dX6_figureOf_18 : decode cX6_figureOf 18 = .ok (.aload_n 0, 1) := by decide +kernel
theorem dX6_figureOf_19 : decode cX6_figureOf 19 = .ok (.getfield 11, 3) := by decide +kernel
theorem dX6_figureOf_22 : decode cX6_figureOf 22 = .ok (.lload_n 1, 1) := by decide +kernel
theorem dX6_figureOf_23 : decode cX6_figureOf 23 = .ok (.l2i, 1) := by decide +kernel
theorem dX6_figureOf_24 : decode cX6_figureOf 24 = .ok (.iconst 1, 1) := by decide +kernel
theorem dX6_figureOf_25 : decode cX6_figureOf 25 = .ok (.isub, 1) := by decide +kernel
theorem dX6_figureOf_26 : decode cX6_figureOf 26 = .ok (.aaload, 1) := by decide +kernel
theorem dX6_figureOf_27 : decode cX6_figureOf 27 = .ok (.areturn, 1) := by decide +kernel
theorem dX6_sortOf_0 : decode cX6_sortOf 0 = .ok (.aload_n 0, 1) := by decide +kernel
theorem dX6_sortOf_1 : decode cX6_sortOf 1 = .ok (.lload_n 1, 1) := by decide +kernel
theorem dX6_sortOf_2 : decode cX6_sortOf 2 = .ok (.invokevirtual 33, 3) := by decide +kernel
theorem dX6_sortOf_5 : decode cX6_sortOf 5 = .ok (.astore_n 3, 1) := by decide +kernel
theorem dX6_sortOf_6 : decode cX6_sortOf 6 = .ok (.aload_n 3, 1) := by decide +kernel
theorem dX6_sortOf_7 : decode cX6_sortOf 7 = .ok (.ifnonnull 7, 3) := by decide +kernel
theorem dX6_sortOf_10 : decode cX6_sortOf 10 = .ok (.iconst 0, 1) := by decide +kernel
theorem dX6_sortOf_11 : decode cX6_sortOf 11 = .ok (.goto 7, 3) := by decide +kernel
theorem dX6_sortOf_14 : decode cX6_sortOf 14 = .ok (.aload_n 3, 1) := by decide +kernel
theorem dX6_sortOf_15 : decode cX6_sortOf 15 = .ok (.getfield 37, 3) := by decide +kernel
theorem dX6_sortOf_18 : decode cX6_sortOf 18 = .ok (.ireturn, 1) := by decide +kernel
theorem dX7_init_0 : decode cX7_init 0 = .ok (.aload_n 0, 1) := by decide +kernel
theorem dX7_init_1 : decode cX7_init 1 = .ok (.invokespecial 1, 3) := by decide +kernel
theorem dX7_init_4 : decode cX7_init 4 = .ok (.return_, 1) := by decide +kernel
theorem dX8_init_0 : decode cX8_init 0 = .ok (.aload_n 0, 1) := by decide +kernel
theorem dX8_init_1 : decode cX8_init 1 = .ok (.invokespecial 3, 3) := by decide +kernel
theorem dX8_init_4 : decode cX8_init 4 = .ok (.aload_n 0, 1) := by decide +kernel
theorem dX8_init_5 : decode cX8_init 5 = .ok (.bipush 60, 2) := by decide +kernel
theorem dX8_init_7 : decode cX8_init 7 = .ok (.newarray .int, 2) := by decide +kernel
theorem dX8_init_9 : decode cX8_init 9 = .ok (.putfield 9, 3) := by decide +kernel
theorem dX8_init_12 : decode cX8_init 12 = .ok (.aload_n 0, 1) := by decide +kernel
theorem dX8_init_13 : decode cX8_init 13 = .ok (.bipush 60, 2) := by decide +kernel
theorem dX8_init_15 : decode cX8_init 15 = .ok (.newarray .int, 2) := by decide +kernel
theorem dX8_init_17 : decode cX8_init 17 = .ok (.putfield 15, 3) := by decide +kernel
theorem dX8_init_20 : decode cX8_init 20 = .ok (.aload_n 0, 1) := by decide +kernel
theorem dX8_init_21 : decode cX8_init 21 = .ok (.bipush 60, 2) := by decide +kernel
theorem dX8_init_23 : decode cX8_init 23 = .ok (.newarray .int, 2) := by decide +kernel
theorem dX8_init_25 : decode cX8_init 25 = .ok (.putfield 18, 3) := by decide +kernel
theorem dX8_init_28 : decode cX8_init 28 = .ok (.aload_n 0, 1) := by decide +kernel
theorem dX8_init_29 : decode cX8_init 29 = .ok (.bipush 60, 2) := by decide +kernel
theorem dX8_init_31 : decode cX8_init 31 = .ok (.newarray .int, 2) := by decide +kernel
theorem dX8_init_33 : decode cX8_init 33 = .ok (.putfield 21, 3) := by decide +kernel
theorem dX8_init_36 : decode cX8_init 36 = .ok (.aload_n 0, 1) := by decide +kernel
theorem dX8_init_37 : decode cX8_init 37 = .ok (.bipush 60, 2) := by decide +kernel
theorem dX8_init_39 : decode cX8_init 39 = .ok (.newarray .int, 2) := by decide +kernel
theorem dX8_init_41 : decode cX8_init 41 = .ok (.putfield 24, 3) := by decide +kernel
theorem dX8_init_44 : decode cX8_init 44 = .ok (.return_, 1) := by decide +kernel
theorem dX8_append_0 : decode cX8_append 0 = .ok (.aload_n 0, 1) := by decide +kernel
theorem dX8_append_1 : decode cX8_append 1 = .ok (.getfield 27, 3) := by decide +kernel
theorem dX8_append_4 : decode cX8_append 4 = .ok (.istore 5, 2) := by decide +kernel
theorem dX8_append_6 : decode cX8_append 6 = .ok (.aload_n 0, 1) := by decide +kernel
theorem dX8_append_7 : decode cX8_append 7 = .ok (.getfield 9, 3) := by decide +kernel
theorem dX8_append_10 : decode cX8_append 10 = .ok (.iload 5, 2) := by decide +kernel
theorem dX8_append_12 : decode cX8_append 12 = .ok (.iload_n 1, 1) := by decide +kernel
theorem dX8_append_13 : decode cX8_append 13 = .ok (.iastore, 1) := by decide +kernel
theorem dX8_append_14 : decode cX8_append 14 = .ok (.aload_n 0, 1) := by decide +kernel
theorem dX8_append_15 : decode cX8_append 15 = .ok (.getfield 15, 3) := by decide +kernel
theorem dX8_append_18 : decode cX8_append 18 = .ok (.iload 5, 2) := by decide +kernel
theorem dX8_append_20 : decode cX8_append 20 = .ok (.iload_n 2, 1) := by decide +kernel
theorem dX8_append_21 : decode cX8_append 21 = .ok (.iastore, 1) := by decide +kernel
theorem dX8_append_22 : decode cX8_append 22 = .ok (.aload_n 0, 1) := by decide +kernel
theorem dX8_append_23 : decode cX8_append 23 = .ok (.getfield 18, 3) := by decide +kernel
theorem dX8_append_26 : decode cX8_append 26 = .ok (.iload 5, 2) := by decide +kernel
theorem dX8_append_28 : decode cX8_append 28 = .ok (.iload_n 3, 1) := by decide +kernel
theorem dX8_append_29 : decode cX8_append 29 = .ok (.iastore, 1) := by decide +kernel
theorem dX8_append_30 : decode cX8_append 30 = .ok (.aload_n 0, 1) := by decide +kernel
theorem dX8_append_31 : decode cX8_append 31 = .ok (.getfield 21, 3) := by decide +kernel
theorem dX8_append_34 : decode cX8_append 34 = .ok (.iload 5, 2) := by decide +kernel
theorem dX8_append_36 : decode cX8_append 36 = .ok (.iload 4, 2) := by decide +kernel
theorem dX8_append_38 : decode cX8_append 38 = .ok (.iastore, 1) := by decide +kernel
theorem dX8_append_39 : decode cX8_append 39 = .ok (.aload_n 0, 1) := by decide +kernel
theorem dX8_append_40 : decode cX8_append 40 = .ok (.dup, 1) := by decide +kernel
theorem dX8_append_41 : decode cX8_append 41 = .ok (.getfield 27, 3) := by decide +kernel
theorem dX8_append_44 : decode cX8_append 44 = .ok (.iconst 1, 1) := by decide +kernel
theorem dX8_append_45 : decode cX8_append 45 = .ok (.iadd, 1) := by decide +kernel
theorem dX8_append_46 : decode cX8_append 46 = .ok (.putfield 27, 3) := by decide +kernel
theorem dX8_append_49 : decode cX8_append 49 = .ok (.iload 5, 2) := by decide +kernel
theorem dX8_append_51 : decode cX8_append 51 = .ok (.ireturn, 1) := by decide +kernel
theorem dX8_forgetAgains_0 : decode cX8_forgetAgains 0 = .ok (.iconst 0, 1) := by decide +kernel
theorem dX8_forgetAgains_1 : decode cX8_forgetAgains 1 = .ok (.istore_n 1, 1) := by decide +kernel
theorem dX8_forgetAgains_2 : decode cX8_forgetAgains 2 = .ok (.iload_n 1, 1) := by decide +kernel
theorem dX8_forgetAgains_3 : decode cX8_forgetAgains 3 = .ok (.bipush 60, 2) := by decide +kernel
theorem dX8_forgetAgains_5 : decode cX8_forgetAgains 5 = .ok (.if_icmp .ge 16, 3) := by decide +kernel
theorem dX8_forgetAgains_8 : decode cX8_forgetAgains 8 = .ok (.aload_n 0, 1) := by decide +kernel
theorem dX8_forgetAgains_9 : decode cX8_forgetAgains 9 = .ok (.getfield 24, 3) := by decide +kernel
theorem dX8_forgetAgains_12 : decode cX8_forgetAgains 12 = .ok (.iload_n 1, 1) := by decide +kernel
theorem dX8_forgetAgains_13 : decode cX8_forgetAgains 13 = .ok (.iconst 0, 1) := by decide +kernel
theorem dX8_forgetAgains_14 : decode cX8_forgetAgains 14 = .ok (.iastore, 1) := by decide +kernel
theorem dX8_forgetAgains_15 : decode cX8_forgetAgains 15 = .ok (.iinc 1 1, 3) := by decide +kernel
theorem dX8_forgetAgains_18 : decode cX8_forgetAgains 18 = .ok (.goto (-16), 3) := by decide +kernel
theorem dX8_forgetAgains_21 : decode cX8_forgetAgains 21 = .ok (.return_, 1) := by decide +kernel
theorem dX8_following_0 : decode cX8_following 0 = .ok (.aload_n 0, 1) := by decide +kernel
theorem dX8_following_1 : decode cX8_following 1 = .ok (.getfield 9, 3) := by decide +kernel
theorem dX8_following_4 : decode cX8_following 4 = .ok (.iload_n 1, 1) := by decide +kernel
theorem dX8_following_5 : decode cX8_following 5 = .ok (.iaload, 1) := by decide +kernel
theorem dX8_following_6 : decode cX8_following 6 = .ok (.bipush 13, 2) := by decide +kernel
theorem dX8_following_8 : decode cX8_following 8 = .ok (.if_icmp .ne 14, 3) := by decide +kernel
theorem dX8_following_11 : decode cX8_following 11 = .ok (.iload_n 1, 1) := by decide +kernel
theorem dX8_following_12 : decode cX8_following 12 = .ok (.iconst 1, 1) := by decide +kernel
theorem dX8_following_13 : decode cX8_following 13 = .ok (.iadd, 1) := by decide +kernel
theorem dX8_following_14 : decode cX8_following 14 = .ok (.aload_n 0, 1) := by decide +kernel
theorem dX8_following_15 : decode cX8_following 15 = .ok (.getfield 21, 3) := by decide +kernel
theorem dX8_following_18 : decode cX8_following 18 = .ok (.iload_n 1, 1) := by decide +kernel
theorem dX8_following_19 : decode cX8_following 19 = .ok (.iaload, 1) := by decide +kernel
theorem dX8_following_20 : decode cX8_following 20 = .ok (.iadd, 1) := by decide +kernel
theorem dX8_following_21 : decode cX8_following 21 = .ok (.ireturn, 1) := by decide +kernel
theorem dX8_following_22 : decode cX8_following 22 = .ok (.aload_n 0, 1) := by decide +kernel
theorem dX8_following_23 : decode cX8_following 23 = .ok (.getfield 9, 3) := by decide +kernel
theorem dX8_following_26 : decode cX8_following 26 = .ok (.iload_n 1, 1) := by decide +kernel
theorem dX8_following_27 : decode cX8_following 27 = .ok (.iaload, 1) := by decide +kernel
theorem dX8_following_28 : decode cX8_following 28 = .ok (.bipush 14, 2) := by decide +kernel
theorem dX8_following_30 : decode cX8_following 30 = .ok (.if_icmp .eq 7, 3) := by decide +kernel
theorem dX8_following_33 : decode cX8_following 33 = .ok (.iload_n 1, 1) := by decide +kernel
theorem dX8_following_34 : decode cX8_following 34 = .ok (.iconst 1, 1) := by decide +kernel
theorem dX8_following_35 : decode cX8_following 35 = .ok (.iadd, 1) := by decide +kernel
theorem dX8_following_36 : decode cX8_following 36 = .ok (.ireturn, 1) := by decide +kernel
theorem dX8_following_37 : decode cX8_following 37 = .ok (.aload_n 0, 1) := by decide +kernel
theorem dX8_following_38 : decode cX8_following 38 = .ok (.getfield 24, 3) := by decide +kernel
theorem dX8_following_41 : decode cX8_following 41 = .ok (.iload_n 1, 1) := by decide +kernel
theorem dX8_following_42 : decode cX8_following 42 = .ok (.iaload, 1) := by decide +kernel
theorem dX8_following_43 : decode cX8_following 43 = .ok (.aload_n 0, 1) := by decide +kernel
theorem dX8_following_44 : decode cX8_following 44 = .ok (.getfield 21, 3) := by decide +kernel
theorem dX8_following_47 : decode cX8_following 47 = .ok (.iload_n 1, 1) := by decide +kernel
theorem dX8_following_48 : decode cX8_following 48 = .ok (.iaload, 1) := by decide +kernel
theorem dX8_following_49 : decode cX8_following 49 = .ok (.if_icmp .ge 26, 3) := by decide +kernel
theorem dX8_following_52 : decode cX8_following 52 = .ok (.aload_n 0, 1) := by decide +kernel
theorem dX8_following_53 : decode cX8_following 53 = .ok (.getfield 24, 3) := by decide +kernel
theorem dX8_following_56 : decode cX8_following 56 = .ok (.iload_n 1, 1) := by decide +kernel
theorem dX8_following_57 : decode cX8_following 57 = .ok (.dup2, 1) := by decide +kernel
theorem dX8_following_58 : decode cX8_following 58 = .ok (.iaload, 1) := by decide +kernel
theorem dX8_following_59 : decode cX8_following 59 = .ok (.iconst 1, 1) := by decide +kernel
theorem dX8_following_60 : decode cX8_following 60 = .ok (.iadd, 1) := by decide +kernel
theorem dX8_following_61 : decode cX8_following 61 = .ok (.iastore, 1) := by decide +kernel
theorem dX8_following_62 : decode cX8_following 62 = .ok (.iconst 0, 1) := by decide +kernel
theorem dX8_following_63 : decode cX8_following 63 = .ok (.iload_n 1, 1) := by decide +kernel
theorem dX8_following_64 : decode cX8_following 64 = .ok (.aload_n 0, 1) := by decide +kernel
theorem dX8_following_65 : decode cX8_following 65 = .ok (.getfield 18, 3) := by decide +kernel
theorem dX8_following_68 : decode cX8_following 68 = .ok (.iload_n 1, 1) := by decide +kernel
theorem dX8_following_69 : decode cX8_following 69 = .ok (.iaload, 1) := by decide +kernel
theorem dX8_following_70 : decode cX8_following 70 = .ok (.isub, 1) := by decide +kernel
theorem dX8_following_71 : decode cX8_following 71 = .ok (.invokestatic 31, 3) := by decide +kernel
theorem dX8_following_74 : decode cX8_following 74 = .ok (.ireturn, 1) := by decide +kernel
theorem dX8_following_75 : decode cX8_following 75 = .ok (.aload_n 0, 1) := by decide +kernel
theorem dX8_following_76 : decode cX8_following 76 = .ok (.getfield 24, 3) := by decide +kernel
theorem dX8_following_79 : decode cX8_following 79 = .ok (.iload_n 1, 1) := by decide +kernel
theorem dX8_following_80 : decode cX8_following 80 = .ok (.iconst 0, 1) := by decide +kernel
theorem dX8_following_81 : decode cX8_following 81 = .ok (.iastore, 1) := by decide +kernel
theorem dX8_following_82 : decode cX8_following 82 = .ok (.iload_n 1, 1) := by decide +kernel
theorem dX8_following_83 : decode cX8_following 83 = .ok (.iconst 1, 1) := by decide +kernel
theorem dX8_following_84 : decode cX8_following 84 = .ok (.iadd, 1) := by decide +kernel
theorem dX8_following_85 : decode cX8_following 85 = .ok (.ireturn, 1) := by decide +kernel
theorem dX8_meeting_0 : decode cX8_meeting 0 = .ok (.iload_n 1, 1) := by decide +kernel
theorem dX8_meeting_1 : decode cX8_meeting 1 = .ok (.iconst 1, 1) := by decide +kernel
theorem dX8_meeting_2 : decode cX8_meeting 2 = .ok (.iadd, 1) := by decide +kernel
theorem dX8_meeting_3 : decode cX8_meeting 3 = .ok (.istore_n 3, 1) := by decide +kernel
theorem dX8_meeting_4 : decode cX8_meeting 4 = .ok (.iconst 0, 1) := by decide +kernel
theorem dX8_meeting_5 : decode cX8_meeting 5 = .ok (.istore 4, 2) := by decide +kernel
theorem dX8_meeting_7 : decode cX8_meeting 7 = .ok (.iload 4, 2) := by decide +kernel
theorem dX8_meeting_9 : decode cX8_meeting 9 = .ok (.bipush 60, 2) := by decide +kernel
theorem dX8_meeting_11 : decode cX8_meeting 11 = .ok (.if_icmp .ge 51, 3) := by decide +kernel
theorem dX8_meeting_14 : decode cX8_meeting 14 = .ok (.aload_n 0, 1) := by decide +kernel
theorem dX8_meeting_15 : decode cX8_meeting 15 = .ok (.iload_n 3, 1) := by decide +kernel
theorem dX8_meeting_16 : decode cX8_meeting 16 = .ok (.invokevirtual 37, 3) := by decide +kernel
theorem dX8_meeting_19 : decode cX8_meeting 19 = .ok (.ifCond .eq 43, 3) := by decide +kernel
theorem dX8_meeting_22 : decode cX8_meeting 22 = .ok (.aload_n 0, 1) := by decide +kernel
theorem dX8_meeting_23 : decode cX8_meeting 23 = .ok (.getfield 15, 3) := by decide +kernel
theorem dX8_meeting_26 : decode cX8_meeting 26 = .ok (.iload_n 3, 1) := by decide +kernel
theorem dX8_meeting_27 : decode cX8_meeting 27 = .ok (.iaload, 1) := by decide +kernel
theorem dX8_meeting_28 : decode cX8_meeting 28 = .ok (.ifCond .eq 13, 3) := by decide +kernel
theorem dX8_meeting_31 : decode cX8_meeting 31 = .ok (.aload_n 0, 1) := by decide +kernel
theorem dX8_meeting_32 : decode cX8_meeting 32 = .ok (.getfield 15, 3) := by decide +kernel
theorem dX8_meeting_35 : decode cX8_meeting 35 = .ok (.iload_n 3, 1) := by decide +kernel
theorem dX8_meeting_36 : decode cX8_meeting 36 = .ok (.iaload, 1) := by decide +kernel
theorem dX8_meeting_37 : decode cX8_meeting 37 = .ok (.iload_n 2, 1) := by decide +kernel
theorem dX8_meeting_38 : decode cX8_meeting 38 = .ok (.if_icmp .ne 7, 3) := by decide +kernel
theorem dX8_meeting_41 : decode cX8_meeting 41 = .ok (.iload_n 3, 1) := by decide +kernel
theorem dX8_meeting_42 : decode cX8_meeting 42 = .ok (.iconst 1, 1) := by decide +kernel
theorem dX8_meeting_43 : decode cX8_meeting 43 = .ok (.iadd, 1) := by decide +kernel
theorem dX8_meeting_44 : decode cX8_meeting 44 = .ok (.ireturn, 1) := by decide +kernel
theorem dX8_meeting_45 : decode cX8_meeting 45 = .ok (.iload_n 3, 1) := by decide +kernel
theorem dX8_meeting_46 : decode cX8_meeting 46 = .ok (.aload_n 0, 1) := by decide +kernel
theorem dX8_meeting_47 : decode cX8_meeting 47 = .ok (.getfield 21, 3) := by decide +kernel
theorem dX8_meeting_50 : decode cX8_meeting 50 = .ok (.iload_n 3, 1) := by decide +kernel
theorem dX8_meeting_51 : decode cX8_meeting 51 = .ok (.iaload, 1) := by decide +kernel
theorem dX8_meeting_52 : decode cX8_meeting 52 = .ok (.iconst 1, 1) := by decide +kernel
theorem dX8_meeting_53 : decode cX8_meeting 53 = .ok (.iadd, 1) := by decide +kernel
theorem dX8_meeting_54 : decode cX8_meeting 54 = .ok (.iadd, 1) := by decide +kernel
theorem dX8_meeting_55 : decode cX8_meeting 55 = .ok (.istore_n 3, 1) := by decide +kernel
theorem dX8_meeting_56 : decode cX8_meeting 56 = .ok (.iinc 4 1, 3) := by decide +kernel
theorem dX8_meeting_59 : decode cX8_meeting 59 = .ok (.goto (-52), 3) := by decide +kernel
theorem dX8_meeting_62 : decode cX8_meeting 62 = .ok (.iconst (-1), 1) := by decide +kernel
theorem dX8_meeting_63 : decode cX8_meeting 63 = .ok (.ireturn, 1) := by decide +kernel
theorem dX8_isWhen_0 : decode cX8_isWhen 0 = .ok (.iload_n 1, 1) := by decide +kernel
theorem dX8_isWhen_1 : decode cX8_isWhen 1 = .ok (.ifCond .lt 26, 3) := by decide +kernel
theorem dX8_isWhen_4 : decode cX8_isWhen 4 = .ok (.iload_n 1, 1) := by decide +kernel
theorem dX8_isWhen_5 : decode cX8_isWhen 5 = .ok (.aload_n 0, 1) := by decide +kernel
theorem dX8_isWhen_6 : decode cX8_isWhen 6 = .ok (.getfield 27, 3) := by decide +kernel
theorem dX8_isWhen_9 : decode cX8_isWhen 9 = .ok (.if_icmp .ge 18, 3) := by decide +kernel
theorem dX8_isWhen_12 : decode cX8_isWhen 12 = .ok (.aload_n 0, 1) := by decide +kernel
theorem dX8_isWhen_13 : decode cX8_isWhen 13 = .ok (.getfield 9, 3) := by decide +kernel
theorem dX8_isWhen_16 : decode cX8_isWhen 16 = .ok (.iload_n 1, 1) := by decide +kernel
theorem dX8_isWhen_17 : decode cX8_isWhen 17 = .ok (.iaload, 1) := by decide +kernel
theorem dX8_isWhen_18 : decode cX8_isWhen 18 = .ok (.bipush 13, 2) := by decide +kernel
theorem dX8_isWhen_20 : decode cX8_isWhen 20 = .ok (.if_icmp .ne 7, 3) := by decide +kernel
theorem dX8_isWhen_23 : decode cX8_isWhen 23 = .ok (.iconst 1, 1) := by decide +kernel
theorem dX8_isWhen_24 : decode cX8_isWhen 24 = .ok (.goto 4, 3) := by decide +kernel
theorem dX8_isWhen_27 : decode cX8_isWhen 27 = .ok (.iconst 0, 1) := by decide +kernel
theorem dX8_isWhen_28 : decode cX8_isWhen 28 = .ok (.ireturn, 1) := by decide +kernel
theorem dX9_init_0 : decode cX9_init 0 = .ok (.aload_n 0, 1) := by decide +kernel
theorem dX9_init_1 : decode cX9_init 1 = .ok (.invokespecial 3, 3) := by decide +kernel
theorem dX9_init_4 : decode cX9_init 4 = .ok (.aload_n 0, 1) := by decide +kernel
theorem dX9_init_5 : decode cX9_init 5 = .ok (.new 9, 3) := by decide +kernel
theorem dX9_init_8 : decode cX9_init 8 = .ok (.dup, 1) := by decide +kernel
theorem dX9_init_9 : decode cX9_init 9 = .ok (.invokespecial 11, 3) := by decide +kernel
theorem dX9_init_12 : decode cX9_init 12 = .ok (.putfield 12, 3) := by decide +kernel
theorem dX9_init_15 : decode cX9_init 15 = .ok (.aload_n 0, 1) := by decide +kernel
theorem dX9_init_16 : decode cX9_init 16 = .ok (.new 16, 3) := by decide +kernel
theorem dX9_init_19 : decode cX9_init 19 = .ok (.dup, 1) := by decide +kernel
theorem dX9_init_20 : decode cX9_init 20 = .ok (.invokespecial 18, 3) := by decide +kernel
theorem dX9_init_23 : decode cX9_init 23 = .ok (.putfield 19, 3) := by decide +kernel
theorem dX9_init_26 : decode cX9_init 26 = .ok (.aload_n 0, 1) := by decide +kernel
theorem dX9_init_27 : decode cX9_init 27 = .ok (.new 23, 3) := by decide +kernel
theorem dX9_init_30 : decode cX9_init 30 = .ok (.dup, 1) := by decide +kernel
theorem dX9_init_31 : decode cX9_init 31 = .ok (.invokespecial 25, 3) := by decide +kernel
theorem dX9_init_34 : decode cX9_init 34 = .ok (.putfield 26, 3) := by decide +kernel
theorem dX9_init_37 : decode cX9_init 37 = .ok (.aload_n 0, 1) := by decide +kernel
theorem dX9_init_38 : decode cX9_init 38 = .ok (.bipush 64, 2) := by decide +kernel
theorem dX9_init_40 : decode cX9_init 40 = .ok (.newarray .long, 2) := by decide +kernel
theorem dX9_init_42 : decode cX9_init 42 = .ok (.putfield 30, 3) := by decide +kernel
theorem dX9_init_45 : decode cX9_init 45 = .ok (.aload_n 0, 1) := by decide +kernel
theorem dX9_init_46 : decode cX9_init 46 = .ok (.iconst (-1), 1) := by decide +kernel
theorem dX9_init_47 : decode cX9_init 47 = .ok (.putfield 34, 3) := by decide +kernel
theorem dX9_init_50 : decode cX9_init 50 = .ok (.return_, 1) := by decide +kernel
theorem dX9_order_0 : decode cX9_order 0 = .ok (.iload_n 1, 1) := by decide +kernel
theorem dX9_order_1 : decode cX9_order 1 = .ok (.iload_n 2, 1) := by decide +kernel
theorem dX9_order_2 : decode cX9_order 2 = .ok (.iload_n 3, 1) := by decide +kernel
theorem dX9_order_3 : decode cX9_order 3 = .ok (.iload 4, 2) := by decide +kernel
theorem dX9_order_5 : decode cX9_order 5 = .ok (.invokestatic 38, 3) := by decide +kernel
theorem dX9_order_8 : decode cX9_order 8 = .ok (.ifCond .eq 15, 3) := by decide +kernel
theorem dX9_order_11 : decode cX9_order 11 = .ok (.aload_n 0, 1) := by decide +kernel
theorem dX9_order_12 : decode cX9_order 12 = .ok (.getfield 19, 3) := by decide +kernel
theorem dX9_order_15 : decode cX9_order 15 = .ok (.getfield 42, 3) := by decide +kernel
theorem dX9_order_18 : decode cX9_order 18 = .ok (.bipush 60, 2) := by decide +kernel
theorem dX9_order_20 : decode cX9_order 20 = .ok (.if_icmp .lt 5, 3) := by decide +kernel
theorem dX9_order_23 : decode cX9_order 23 = .ok (.iconst (-1), 1) := by decide +kernel
