theorem dX10_seat_108 : decode cX10_seat 108 = .ok (.invokevirtual 100, 3) := by decide +kernel
theorem dX10_seat_111 : decode cX10_seat 111 = .ok (.ifCond .ne 5, 3) := by decide +kernel
theorem dX10_seat_114 : decode cX10_seat 114 = .ok (.iconst 2, 1) := by decide +kernel
theorem dX10_seat_115 : decode cX10_seat 115 = .ok (.ireturn, 1) := by decide +kernel
theorem dX10_seat_116 : decode cX10_seat 116 = .ok (.aload_n 0, 1) := by decide +kernel
theorem dX10_seat_117 : decode cX10_seat 117 = .ok (.getfield 19, 3) := by decide +kernel
theorem dX10_seat_120 : decode cX10_seat 120 = .ok (.aload_n 0, 1) := by decide +kernel
theorem dX10_seat_121 : decode cX10_seat 121 = .ok (.getfield 16, 3) := by decide +kernel
theorem dX10_seat_124 : decode cX10_seat 124 = .ok (.iload_n 3, 1) := by decide +kernel
theorem dX10_seat_125 : decode cX10_seat 125 = .ok (.iaload, 1) := by decide +kernel
theorem dX10_seat_126 : decode cX10_seat 126 = .ok (.aload_n 0, 1) := by decide +kernel
theorem dX10_seat_127 : decode cX10_seat 127 = .ok (.getfield 32, 3) := by decide +kernel
theorem dX10_seat_130 : decode cX10_seat 130 = .ok (.iload_n 1, 1) := by decide +kernel
theorem dX10_seat_131 : decode cX10_seat 131 = .ok (.iaload, 1) := by decide +kernel
theorem dX10_seat_132 : decode cX10_seat 132 = .ok (.iadd, 1) := by decide +kernel
theorem dX10_seat_133 : decode cX10_seat 133 = .ok (.iload 4, 2) := by decide +kernel
theorem dX10_seat_135 : decode cX10_seat 135 = .ok (.i2l, 1) := by decide +kernel
theorem dX10_seat_136 : decode cX10_seat 136 = .ok (.lastore, 1) := by decide +kernel
theorem dX10_seat_137 : decode cX10_seat 137 = .ok (.iconst 0, 1) := by decide +kernel
theorem dX10_seat_138 : decode cX10_seat 138 = .ok (.ireturn, 1) := by decide +kernel
theorem dX10_lift_0 : decode cX10_lift 0 = .ok (.aload_n 0, 1) := by decide +kernel
theorem dX10_lift_1 : decode cX10_lift 1 = .ok (.getfield 26, 3) := by decide +kernel
theorem dX10_lift_4 : decode cX10_lift 4 = .ok (.iload_n 1, 1) := by decide +kernel
theorem dX10_lift_5 : decode cX10_lift 5 = .ok (.iaload, 1) := by decide +kernel
theorem dX10_lift_6 : decode cX10_lift 6 = .ok (.ifCond .ne 5, 3) := by decide +kernel
theorem dX10_lift_9 : decode cX10_lift 9 = .ok (.iconst 1, 1) := by decide +kernel
theorem dX10_lift_10 : decode cX10_lift 10 = .ok (.ireturn, 1) := by decide +kernel
theorem dX10_lift_11 : decode cX10_lift 11 = .ok (.aload_n 0, 1) := by decide +kernel
theorem dX10_lift_12 : decode cX10_lift 12 = .ok (.iload_n 1, 1) := by decide +kernel
theorem dX10_lift_13 : decode cX10_lift 13 = .ok (.invokevirtual 96, 3) := by decide +kernel
theorem dX10_lift_16 : decode cX10_lift 16 = .ok (.istore_n 3, 1) := by decide +kernel
theorem dX10_lift_17 : decode cX10_lift 17 = .ok (.iload_n 3, 1) := by decide +kernel
theorem dX10_lift_18 : decode cX10_lift 18 = .ok (.ifCond .lt 14, 3) := by decide +kernel
theorem dX10_lift_21 : decode cX10_lift 21 = .ok (.aload_n 0, 1) := by decide +kernel
theorem dX10_lift_22 : decode cX10_lift 22 = .ok (.getfield 7, 3) := by decide +kernel
theorem dX10_lift_25 : decode cX10_lift 25 = .ok (.iload_n 3, 1) := by decide +kernel
theorem dX10_lift_26 : decode cX10_lift 26 = .ok (.iaload, 1) := by decide +kernel
theorem dX10_lift_27 : decode cX10_lift 27 = .ok (.bipush 8, 2) := by decide +kernel
theorem dX10_lift_29 : decode cX10_lift 29 = .ok (.if_icmp .ge 5, 3) := by decide +kernel
theorem dX10_lift_32 : decode cX10_lift 32 = .ok (.iconst 2, 1) := by decide +kernel
theorem dX10_lift_33 : decode cX10_lift 33 = .ok (.ireturn, 1) := by decide +kernel
theorem dX10_lift_34 : decode cX10_lift 34 = .ok (.aload_n 0, 1) := by decide +kernel
theorem dX10_lift_35 : decode cX10_lift 35 = .ok (.getfield 32, 3) := by decide +kernel
theorem dX10_lift_38 : decode cX10_lift 38 = .ok (.iload_n 1, 1) := by decide +kernel
theorem dX10_lift_39 : decode cX10_lift 39 = .ok (.iaload, 1) := by decide +kernel
theorem dX10_lift_40 : decode cX10_lift 40 = .ok (.iconst 0, 1) := by decide +kernel
theorem dX10_lift_41 : decode cX10_lift 41 = .ok (.aload_n 0, 1) := by decide +kernel
theorem dX10_lift_42 : decode cX10_lift 42 = .ok (.getfield 13, 3) := by decide +kernel
theorem dX10_lift_45 : decode cX10_lift 45 = .ok (.iload_n 3, 1) := by decide +kernel
theorem dX10_lift_46 : decode cX10_lift 46 = .ok (.iaload, 1) := by decide +kernel
theorem dX10_lift_47 : decode cX10_lift 47 = .ok (.iconst 1, 1) := by decide +kernel
theorem dX10_lift_48 : decode cX10_lift 48 = .ok (.isub, 1) := by decide +kernel
theorem dX10_lift_49 : decode cX10_lift 49 = .ok (.invokestatic 66, 3) := by decide +kernel
theorem dX10_lift_52 : decode cX10_lift 52 = .ok (.ifCond .ne 5, 3) := by decide +kernel
theorem dX10_lift_55 : decode cX10_lift 55 = .ok (.iconst 3, 1) := by decide +kernel
theorem dX10_lift_56 : decode cX10_lift 56 = .ok (.ireturn, 1) := by decide +kernel
theorem dX10_lift_57 : decode cX10_lift 57 = .ok (.aload_n 0, 1) := by decide +kernel
theorem dX10_lift_58 : decode cX10_lift 58 = .ok (.getfield 19, 3) := by decide +kernel
theorem dX10_lift_61 : decode cX10_lift 61 = .ok (.aload_n 0, 1) := by decide +kernel
theorem dX10_lift_62 : decode cX10_lift 62 = .ok (.getfield 16, 3) := by decide +kernel
theorem dX10_lift_65 : decode cX10_lift 65 = .ok (.iload_n 3, 1) := by decide +kernel
theorem dX10_lift_66 : decode cX10_lift 66 = .ok (.iaload, 1) := by decide +kernel
theorem dX10_lift_67 : decode cX10_lift 67 = .ok (.aload_n 0, 1) := by decide +kernel
theorem dX10_lift_68 : decode cX10_lift 68 = .ok (.getfield 32, 3) := by decide +kernel
theorem dX10_lift_71 : decode cX10_lift 71 = .ok (.iload_n 1, 1) := by decide +kernel
theorem dX10_lift_72 : decode cX10_lift 72 = .ok (.iaload, 1) := by decide +kernel
theorem dX10_lift_73 : decode cX10_lift 73 = .ok (.iadd, 1) := by decide +kernel
theorem dX10_lift_74 : decode cX10_lift 74 = .ok (.laload, 1) := by decide +kernel
theorem dX10_lift_75 : decode cX10_lift 75 = .ok (.l2i, 1) := by decide +kernel
theorem dX10_lift_76 : decode cX10_lift 76 = .ok (.istore 4, 2) := by decide +kernel
theorem dX10_lift_78 : decode cX10_lift 78 = .ok (.aload_n 0, 1) := by decide +kernel
theorem dX10_lift_79 : decode cX10_lift 79 = .ok (.iload_n 2, 1) := by decide +kernel
theorem dX10_lift_80 : decode cX10_lift 80 = .ok (.iload 4, 2) := by decide +kernel
theorem dX10_lift_82 : decode cX10_lift 82 = .ok (.ifCond .ne 7, 3) := by decide +kernel
theorem dX10_lift_85 : decode cX10_lift 85 = .ok (.iconst 0, 1) := by decide +kernel
theorem dX10_lift_86 : decode cX10_lift 86 = .ok (.goto 4, 3) := by decide +kernel
theorem dX10_lift_89 : decode cX10_lift 89 = .ok (.iconst 3, 1) := by decide +kernel
theorem dX10_lift_90 : decode cX10_lift 90 = .ok (.iload 4, 2) := by decide +kernel
theorem dX10_lift_92 : decode cX10_lift 92 = .ok (.invokevirtual 112, 3) := by decide +kernel
theorem dX10_lift_95 : decode cX10_lift 95 = .ok (.iconst 0, 1) := by decide +kernel
theorem dX10_lift_96 : decode cX10_lift 96 = .ok (.ireturn, 1) := by decide +kernel
theorem dX10_does_0 : decode cX10_does 0 = .ok (.iload_n 1, 1) := by decide +kernel
theorem dX10_does_1 : decode cX10_does 1 = .ok (.tableswitch 173 0 11 #[63, 73, 82, 90, 99, 108, 117, 124, 143, 151, 158, 166], 63) := by decide +kernel
theorem dX10_does_64 : decode cX10_does 64 = .ok (.aload_n 0, 1) := by decide +kernel
theorem dX10_does_65 : decode cX10_does 65 = .ok (.getfield 32, 3) := by decide +kernel
theorem dX10_does_68 : decode cX10_does 68 = .ok (.iload_n 2, 1) := by decide +kernel
theorem dX10_does_69 : decode cX10_does 69 = .ok (.iload 4, 2) := by decide +kernel
theorem dX10_does_71 : decode cX10_does 71 = .ok (.iastore, 1) := by decide +kernel
theorem dX10_does_72 : decode cX10_does 72 = .ok (.iconst 0, 1) := by decide +kernel
theorem dX10_does_73 : decode cX10_does 73 = .ok (.ireturn, 1) := by decide +kernel
theorem dX10_does_74 : decode cX10_does 74 = .ok (.aload_n 0, 1) := by decide +kernel
theorem dX10_does_75 : decode cX10_does 75 = .ok (.iload_n 2, 1) := by decide +kernel
theorem dX10_does_76 : decode cX10_does 76 = .ok (.iload_n 3, 1) := by decide +kernel
theorem dX10_does_77 : decode cX10_does 77 = .ok (.iload 4, 2) := by decide +kernel
theorem dX10_does_79 : decode cX10_does 79 = .ok (.invokevirtual 126, 3) := by decide +kernel
theorem dX10_does_82 : decode cX10_does 82 = .ok (.ireturn, 1) := by decide +kernel
theorem dX10_does_83 : decode cX10_does 83 = .ok (.aload_n 0, 1) := by decide +kernel
theorem dX10_does_84 : decode cX10_does 84 = .ok (.iload_n 2, 1) := by decide +kernel
theorem dX10_does_85 : decode cX10_does 85 = .ok (.iload 4, 2) := by decide +kernel
theorem dX10_does_87 : decode cX10_does 87 = .ok (.invokevirtual 130, 3) := by decide +kernel
theorem dX10_does_90 : decode cX10_does 90 = .ok (.ireturn, 1) := by decide +kernel
theorem dX10_does_91 : decode cX10_does 91 = .ok (.aload_n 0, 1) := by decide +kernel
theorem dX10_does_92 : decode cX10_does 92 = .ok (.iload_n 2, 1) := by decide +kernel
theorem dX10_does_93 : decode cX10_does 93 = .ok (.iload 4, 2) := by decide +kernel
theorem dX10_does_95 : decode cX10_does 95 = .ok (.iconst 0, 1) := by decide +kernel
theorem dX10_does_96 : decode cX10_does 96 = .ok (.invokevirtual 133, 3) := by decide +kernel
theorem dX10_does_99 : decode cX10_does 99 = .ok (.ireturn, 1) := by decide +kernel
theorem dX10_does_100 : decode cX10_does 100 = .ok (.aload_n 0, 1) := by decide +kernel
theorem dX10_does_101 : decode cX10_does 101 = .ok (.iload_n 2, 1) := by decide +kernel
theorem dX10_does_102 : decode cX10_does 102 = .ok (.iload 4, 2) := by decide +kernel
theorem dX10_does_104 : decode cX10_does 104 = .ok (.iconst 1, 1) := by decide +kernel
theorem dX10_does_105 : decode cX10_does 105 = .ok (.invokevirtual 133, 3) := by decide +kernel
theorem dX10_does_108 : decode cX10_does 108 = .ok (.ireturn, 1) := by decide +kernel
theorem dX10_does_109 : decode cX10_does 109 = .ok (.aload_n 0, 1) := by decide +kernel
theorem dX10_does_110 : decode cX10_does 110 = .ok (.iload_n 2, 1) := by decide +kernel
theorem dX10_does_111 : decode cX10_does 111 = .ok (.iload_n 3, 1) := by decide +kernel
theorem dX10_does_112 : decode cX10_does 112 = .ok (.iload 4, 2) := by decide +kernel
theorem dX10_does_114 : decode cX10_does 114 = .ok (.invokevirtual 137, 3) := by decide +kernel
theorem dX10_does_117 : decode cX10_does 117 = .ok (.ireturn, 1) := by decide +kernel
theorem dX10_does_118 : decode cX10_does 118 = .ok (.aload_n 0, 1) := by decide +kernel
theorem dX10_does_119 : decode cX10_does 119 = .ok (.iload_n 2, 1) := by decide +kernel
theorem dX10_does_120 : decode cX10_does 120 = .ok (.iload_n 3, 1) := by decide +kernel
theorem dX10_does_121 : decode cX10_does 121 = .ok (.invokevirtual 140, 3) := by decide +kernel
theorem dX10_does_124 : decode cX10_does 124 = .ok (.ireturn, 1) := by decide +kernel
theorem dX10_does_125 : decode cX10_does 125 = .ok (.aload_n 0, 1) := by decide +kernel
theorem dX10_does_126 : decode cX10_does 126 = .ok (.iload_n 2, 1) := by decide +kernel
theorem dX10_does_127 : decode cX10_does 127 = .ok (.aload_n 0, 1) := by decide +kernel
theorem dX10_does_128 : decode cX10_does 128 = .ok (.getfield 26, 3) := by decide +kernel
theorem dX10_does_131 : decode cX10_does 131 = .ok (.iload_n 3, 1) := by decide +kernel
theorem dX10_does_132 : decode cX10_does 132 = .ok (.iaload, 1) := by decide +kernel
theorem dX10_does_133 : decode cX10_does 133 = .ok (.aload_n 0, 1) := by decide +kernel
theorem dX10_does_134 : decode cX10_does 134 = .ok (.getfield 29, 3) := by decide +kernel
theorem dX10_does_137 : decode cX10_does 137 = .ok (.iload_n 3, 1) := by decide +kernel
theorem dX10_does_138 : decode cX10_does 138 = .ok (.iaload, 1) := by decide +kernel
theorem dX10_does_139 : decode cX10_does 139 = .ok (.invokevirtual 112, 3) := by decide +kernel
theorem dX10_does_142 : decode cX10_does 142 = .ok (.iconst 0, 1) := by decide +kernel
theorem dX10_does_143 : decode cX10_does 143 = .ok (.ireturn, 1) := by decide +kernel
theorem dX10_does_144 : decode cX10_does 144 = .ok (.aload_n 0, 1) := by decide +kernel
theorem dX10_does_145 : decode cX10_does 145 = .ok (.iload_n 2, 1) := by decide +kernel
theorem dX10_does_146 : decode cX10_does 146 = .ok (.iload_n 3, 1) := by decide +kernel
theorem dX10_does_147 : decode cX10_does 147 = .ok (.invokevirtual 143, 3) := by decide +kernel
theorem dX10_does_150 : decode cX10_does 150 = .ok (.iconst 0, 1) := by decide +kernel
theorem dX10_does_151 : decode cX10_does 151 = .ok (.ireturn, 1) := by decide +kernel
theorem dX10_does_152 : decode cX10_does 152 = .ok (.aload_n 0, 1) := by decide +kernel
theorem dX10_does_153 : decode cX10_does 153 = .ok (.iload_n 2, 1) := by decide +kernel
theorem dX10_does_154 : decode cX10_does 154 = .ok (.iload_n 3, 1) := by decide +kernel
theorem dX10_does_155 : decode cX10_does 155 = .ok (.invokevirtual 147, 3) := by decide +kernel
theorem dX10_does_158 : decode cX10_does 158 = .ok (.ireturn, 1) := by decide +kernel
theorem dX10_does_159 : decode cX10_does 159 = .ok (.aload_n 0, 1) := by decide +kernel
theorem dX10_does_160 : decode cX10_does 160 = .ok (.iload_n 2, 1) := by decide +kernel
theorem dX10_does_161 : decode cX10_does 161 = .ok (.iload 4, 2) := by decide +kernel
theorem dX10_does_163 : decode cX10_does 163 = .ok (.invokevirtual 150, 3) := by decide +kernel
theorem dX10_does_166 : decode cX10_does 166 = .ok (.ireturn, 1) := by decide +kernel
theorem dX10_does_167 : decode cX10_does 167 = .ok (.aload_n 0, 1) := by decide +kernel
theorem dX10_does_168 : decode cX10_does 168 = .ok (.iload_n 2, 1) := by decide +kernel
theorem dX10_does_169 : decode cX10_does 169 = .ok (.iload_n 3, 1) := by decide +kernel
theorem dX10_does_170 : decode cX10_does 170 = .ok (.invokevirtual 153, 3) := by decide +kernel
theorem dX10_does_173 : decode cX10_does 173 = .ok (.ireturn, 1) := by decide +kernel
theorem dX10_does_174 : decode cX10_does 174 = .ok (.aload_n 0, 1) := by decide +kernel
theorem dX10_does_175 : decode cX10_does 175 = .ok (.iload_n 2, 1) := by decide +kernel
theorem dX10_does_176 : decode cX10_does 176 = .ok (.iload_n 3, 1) := by decide +kernel
theorem dX10_does_177 : decode cX10_does 177 = .ok (.invokevirtual 156, 3) := by decide +kernel
theorem dX10_does_180 : decode cX10_does 180 = .ok (.ireturn, 1) := by decide +kernel
theorem dX10_begin_0 : decode cX10_begin 0 = .ok (.aload_n 0, 1) := by decide +kernel
theorem dX10_begin_1 : decode cX10_begin 1 = .ok (.dup, 1) := by decide +kernel
theorem dX10_begin_2 : decode cX10_begin 2 = .ok (.getfield 159, 3) := by decide +kernel
theorem dX10_begin_5 : decode cX10_begin 5 = .ok (.iconst 1, 1) := by decide +kernel
theorem dX10_begin_6 : decode cX10_begin 6 = .ok (.iadd, 1) := by decide +kernel
theorem dX10_begin_7 : decode cX10_begin 7 = .ok (.putfield 159, 3) := by decide +kernel
theorem dX10_begin_10 : decode cX10_begin 10 = .ok (.iload_n 1, 1) := by decide +kernel
theorem dX10_begin_11 : decode cX10_begin 11 = .ok (.iconst 1, 1) := by decide +kernel
theorem dX10_begin_12 : decode cX10_begin 12 = .ok (.if_icmp .ne 11, 3) := by decide +kernel
theorem dX10_begin_15 : decode cX10_begin 15 = .ok (.aload_n 0, 1) := by decide +kernel
theorem dX10_begin_16 : decode cX10_begin 16 = .ok (.iload_n 3, 1) := by decide +kernel
theorem dX10_begin_17 : decode cX10_begin 17 = .ok (.invokevirtual 96, 3) := by decide +kernel
theorem dX10_begin_20 : decode cX10_begin 20 = .ok (.goto 39, 3) := by decide +kernel
theorem dX10_begin_23 : decode cX10_begin 23 = .ok (.iload_n 1, 1) := by decide +kernel
theorem dX10_begin_24 : decode cX10_begin 24 = .ok (.iconst 2, 1) := by decide +kernel
theorem dX10_begin_25 : decode cX10_begin 25 = .ok (.if_icmp .eq 25, 3) := by decide +kernel
theorem dX10_begin_28 : decode cX10_begin 28 = .ok (.iload_n 1, 1) := by decide +kernel
theorem dX10_begin_29 : decode cX10_begin 29 = .ok (.iconst 3, 1) := by decide +kernel
theorem dX10_begin_30 : decode cX10_begin 30 = .ok (.if_icmp .eq 20, 3) := by decide +kernel
theorem dX10_begin_33 : decode cX10_begin 33 = .ok (.iload_n 1, 1) := by decide +kernel
theorem dX10_begin_34 : decode cX10_begin 34 = .ok (.iconst 4, 1) := by decide +kernel
theorem dX10_begin_35 : decode cX10_begin 35 = .ok (.if_icmp .eq 15, 3) := by decide +kernel
theorem dX10_begin_38 : decode cX10_begin 38 = .ok (.iload_n 1, 1) := by decide +kernel
theorem dX10_begin_39 : decode cX10_begin 39 = .ok (.bipush 10, 2) := by decide +kernel
theorem dX10_begin_41 : decode cX10_begin 41 = .ok (.if_icmp .eq 9, 3) := by decide +kernel
theorem dX10_begin_44 : decode cX10_begin 44 = .ok (.iload_n 1, 1) := by decide +kernel
theorem dX10_begin_45 : decode cX10_begin 45 = .ok (.bipush 11, 2) := by decide +kernel
theorem dX10_begin_47 : decode cX10_begin 47 = .ok (.if_icmp .ne 11, 3) := by decide +kernel
theorem dX10_begin_50 : decode cX10_begin 50 = .ok (.aload_n 0, 1) := by decide +kernel
theorem dX10_begin_51 : decode cX10_begin 51 = .ok (.iload_n 2, 1) := by decide +kernel
theorem dX10_begin_52 : decode cX10_begin 52 = .ok (.invokevirtual 96, 3) := by decide +kernel
theorem dX10_begin_55 : decode cX10_begin 55 = .ok (.goto 4, 3) := by decide +kernel
theorem dX10_begin_58 : decode cX10_begin 58 = .ok (.iconst (-1), 1) := by decide +kernel
theorem dX10_begin_59 : decode cX10_begin 59 = .ok (.istore 5, 2) := by decide +kernel
theorem dX10_begin_61 : decode cX10_begin 61 = .ok (.iconst 0, 1) := by decide +kernel
theorem dX10_begin_62 : decode cX10_begin 62 = .ok (.istore 6, 2) := by decide +kernel
theorem dX10_begin_64 : decode cX10_begin 64 = .ok (.iload 5, 2) := by decide +kernel
theorem dX10_begin_66 : decode cX10_begin 66 = .ok (.ifCond .lt 43, 3) := by decide +kernel
theorem dX10_begin_69 : decode cX10_begin 69 = .ok (.iload 6, 2) := by decide +kernel
theorem dX10_begin_71 : decode cX10_begin 71 = .ok (.aload_n 0, 1) := by decide +kernel
theorem dX10_begin_72 : decode cX10_begin 72 = .ok (.getfield 13, 3) := by decide +kernel
theorem dX10_begin_75 : decode cX10_begin 75 = .ok (.iload 5, 2) := by decide +kernel
theorem dX10_begin_77 : decode cX10_begin 77 = .ok (.iaload, 1) := by decide +kernel
theorem dX10_begin_78 : decode cX10_begin 78 = .ok (.if_icmp .ge 31, 3) := by decide +kernel
theorem dX10_begin_81 : decode cX10_begin 81 = .ok (.aload_n 0, 1) := by decide +kernel
theorem dX10_begin_82 : decode cX10_begin 82 = .ok (.getfield 56, 3) := by decide +kernel
theorem dX10_begin_85 : decode cX10_begin 85 = .ok (.iload 6, 2) := by decide +kernel
theorem dX10_begin_87 : decode cX10_begin 87 = .ok (.aload_n 0, 1) := by decide +kernel
theorem dX10_begin_88 : decode cX10_begin 88 = .ok (.getfield 19, 3) := by decide +kernel
theorem dX10_begin_91 : decode cX10_begin 91 = .ok (.aload_n 0, 1) := by decide +kernel
theorem dX10_begin_92 : decode cX10_begin 92 = .ok (.getfield 16, 3) := by decide +kernel
theorem dX10_begin_95 : decode cX10_begin 95 = .ok (.iload 5, 2) := by decide +kernel
theorem dX10_begin_97 : decode cX10_begin 97 = .ok (.iaload, 1) := by decide +kernel
theorem dX10_begin_98 : decode cX10_begin 98 = .ok (.iload 6, 2) := by decide +kernel
theorem dX10_begin_100 : decode cX10_begin 100 = .ok (.iadd, 1) := by decide +kernel
theorem dX10_begin_101 : decode cX10_begin 101 = .ok (.laload, 1) := by decide +kernel
theorem dX10_begin_102 : decode cX10_begin 102 = .ok (.lastore, 1) := by decide +kernel
theorem dX10_begin_103 : decode cX10_begin 103 = .ok (.iinc 6 1, 3) := by decide +kernel
theorem dX10_begin_106 : decode cX10_begin 106 = .ok (.goto (-42), 3) := by decide +kernel
theorem dX10_begin_109 : decode cX10_begin 109 = .ok (.aload_n 0, 1) := by decide +kernel
theorem dX10_begin_110 : decode cX10_begin 110 = .ok (.iload_n 1, 1) := by decide +kernel
theorem dX10_begin_111 : decode cX10_begin 111 = .ok (.iload_n 2, 1) := by decide +kernel
theorem dX10_begin_112 : decode cX10_begin 112 = .ok (.iload_n 3, 1) := by decide +kernel
theorem dX10_begin_113 : decode cX10_begin 113 = .ok (.iload 4, 2) := by decide +kernel
theorem dX10_begin_115 : decode cX10_begin 115 = .ok (.invokevirtual 162, 3) := by decide +kernel
theorem dX10_begin_118 : decode cX10_begin 118 = .ok (.istore 6, 2) := by decide +kernel
theorem dX10_begin_120 : decode cX10_begin 120 = .ok (.iconst 0, 1) := by decide +kernel
theorem dX10_begin_121 : decode cX10_begin 121 = .ok (.istore 7, 2) := by decide +kernel
theorem dX10_begin_123 : decode cX10_begin 123 = .ok (.iconst 0, 1) := by decide +kernel
theorem dX10_begin_124 : decode cX10_begin 124 = .ok (.istore 8, 2) := by decide +kernel
theorem dX10_begin_126 : decode cX10_begin 126 = .ok (.iload 5, 2) := by decide +kernel
theorem dX10_begin_128 : decode cX10_begin 128 = .ok (.ifCond .lt 59, 3) := by decide +kernel
theorem dX10_begin_131 : decode cX10_begin 131 = .ok (.iload 8, 2) := by decide +kernel
theorem dX10_begin_133 : decode cX10_begin 133 = .ok (.aload_n 0, 1) := by decide +kernel
theorem dX10_begin_134 : decode cX10_begin 134 = .ok (.getfield 13, 3) := by decide +kernel
theorem dX10_begin_137 : decode cX10_begin 137 = .ok (.iload 5, 2) := by decide +kernel
theorem dX10_begin_139 : decode cX10_begin 139 = .ok (.iaload, 1) := by decide +kernel
theorem dX10_begin_140 : decode cX10_begin 140 = .ok (.if_icmp .ge 47, 3) := by decide +kernel
theorem dX10_begin_143 : decode cX10_begin 143 = .ok (.iload 7, 2) := by decide +kernel
theorem dX10_begin_145 : decode cX10_begin 145 = .ok (.ifCond .ne 29, 3) := by decide +kernel
theorem dX10_begin_148 : decode cX10_begin 148 = .ok (.aload_n 0, 1) := by decide +kernel
theorem dX10_begin_149 : decode cX10_begin 149 = .ok (.getfield 56, 3) := by decide +kernel
theorem dX10_begin_152 : decode cX10_begin 152 = .ok (.iload 8, 2) := by decide +kernel
theorem dX10_begin_154 : decode cX10_begin 154 = .ok (.laload, 1) := by decide +kernel
theorem dX10_begin_155 : decode cX10_begin 155 = .ok (.aload_n 0, 1) := by decide +kernel
theorem dX10_begin_156 : decode cX10_begin 156 = .ok (.getfield 19, 3) := by decide +kernel
theorem dX10_begin_159 : decode cX10_begin 159 = .ok (.aload_n 0, 1) := by decide +kernel
theorem dX10_begin_160 : decode cX10_begin 160 = .ok (.getfield 16, 3) := by decide +kernel
theorem dX10_begin_163 : decode cX10_begin 163 = .ok (.iload 5, 2) := by decide +kernel
theorem dX10_begin_165 : decode cX10_begin 165 = .ok (.iaload, 1) := by decide +kernel
theorem dX10_begin_166 : decode cX10_begin 166 = .ok (.iload 8, 2) := by decide +kernel
theorem dX10_begin_168 : decode cX10_begin 168 = .ok (.iadd, 1) := by decide +kernel
theorem dX10_begin_169 : decode cX10_begin 169 = .ok (.laload, 1) := by decide +kernel
theorem dX10_begin_170 : decode cX10_begin 170 = .ok (.lcmp, 1) := by decide +kernel
theorem dX10_begin_171 : decode cX10_begin 171 = .ok (.ifCond .eq 7, 3) := by decide +kernel
theorem dX10_begin_174 : decode cX10_begin 174 = .ok (.iconst 1, 1) := by decide +kernel
theorem dX10_begin_175 : decode cX10_begin 175 = .ok (.goto 4, 3) := by decide +kernel
theorem dX10_begin_178 : decode cX10_begin 178 = .ok (.iconst 0, 1) := by decide +kernel
theorem dX10_begin_179 : decode cX10_begin 179 = .ok (.istore 7, 2) := by decide +kernel
theorem dX10_begin_181 : decode cX10_begin 181 = .ok (.iinc 8 1, 3) := by decide +kernel
theorem dX10_begin_184 : decode cX10_begin 184 = .ok (.goto (-58), 3) := by decide +kernel
theorem dX10_begin_187 : decode cX10_begin 187 = .ok (.iload 7, 2) := by decide +kernel
theorem dX10_begin_189 : decode cX10_begin 189 = .ok (.ifCond .eq 9, 3) := by decide +kernel
theorem dX10_begin_192 : decode cX10_begin 192 = .ok (.aload_n 0, 1) := by decide +kernel
theorem dX10_begin_193 : decode cX10_begin 193 = .ok (.iload 5, 2) := by decide +kernel
theorem dX10_begin_195 : decode cX10_begin 195 = .ok (.invokevirtual 166, 3) := by decide +kernel
theorem dX10_begin_198 : decode cX10_begin 198 = .ok (.aload_n 0, 1) := by decide +kernel
theorem dX10_begin_199 : decode cX10_begin 199 = .ok (.iload 6, 2) := by decide +kernel
theorem dX10_begin_201 : decode cX10_begin 201 = .ok (.ifCond .le 12, 3) := by decide +kernel
theorem dX10_begin_204 : decode cX10_begin 204 = .ok (.aload_n 0, 1) := by decide +kernel
theorem dX10_begin_205 : decode cX10_begin 205 = .ok (.getfield 170, 3) := by decide +kernel
theorem dX10_begin_208 : decode cX10_begin 208 = .ok (.iconst 1, 1) := by decide +kernel
theorem dX10_begin_209 : decode cX10_begin 209 = .ok (.iadd, 1) := by decide +kernel
theorem dX10_begin_210 : decode cX10_begin 210 = .ok (.goto 7, 3) := by decide +kernel
theorem dX10_begin_213 : decode cX10_begin 213 = .ok (.aload_n 0, 1) := by decide +kernel
theorem dX10_begin_214 : decode cX10_begin 214 = .ok (.getfield 170, 3) := by decide +kernel
theorem dX10_begin_217 : decode cX10_begin 217 = .ok (.putfield 170, 3) := by decide +kernel
theorem dX10_begin_220 : decode cX10_begin 220 = .ok (.iload 6, 2) := by decide +kernel
theorem dX10_begin_222 : decode cX10_begin 222 = .ok (.ireturn, 1) := by decide +kernel
theorem dX10_write_0 : decode cX10_write 0 = .ok (.aload_n 0, 1) := by decide +kernel
theorem dX10_write_1 : decode cX10_write 1 = .ok (.getfield 173, 3) := by decide +kernel
theorem dX10_write_4 : decode cX10_write 4 = .ok (.bipush 20, 2) := by decide +kernel
theorem dX10_write_6 : decode cX10_write 6 = .ok (.if_icmp .ne 72, 3) := by decide +kernel
theorem dX10_write_9 : decode cX10_write 9 = .ok (.iconst 1, 1) := by decide +kernel
theorem dX10_write_10 : decode cX10_write 10 = .ok (.istore_n 2, 1) := by decide +kernel
theorem dX10_write_11 : decode cX10_write 11 = .ok (.iload_n 2, 1) := by decide +kernel
theorem dX10_write_12 : decode cX10_write 12 = .ok (.bipush 20, 2) := by decide +kernel
theorem dX10_write_14 : decode cX10_write 14 = .ok (.if_icmp .ge 23, 3) := by decide +kernel
theorem dX10_write_17 : decode cX10_write 17 = .ok (.aload_n 0, 1) := by decide +kernel
theorem dX10_write_18 : decode cX10_write 18 = .ok (.getfield 50, 3) := by decide +kernel
theorem dX10_write_21 : decode cX10_write 21 = .ok (.iload_n 2, 1) := by decide +kernel
theorem dX10_write_22 : decode cX10_write 22 = .ok (.iconst 1, 1) := by decide +kernel
theorem dX10_write_23 : decode cX10_write 23 = .ok (.isub, 1) := by decide +kernel
theorem dX10_write_24 : decode cX10_write 24 = .ok (.aload_n 0, 1) := by decide +kernel
theorem dX10_write_25 : decode cX10_write 25 = .ok (.getfield 50, 3) := by decide +kernel
theorem dX10_write_28 : decode cX10_write 28 = .ok (.iload_n 2, 1) := by decide +kernel
theorem dX10_write_29 : decode cX10_write 29 = .ok (.iaload, 1) := by decide +kernel
theorem dX10_write_30 : decode cX10_write 30 = .ok (.iastore, 1) := by decide +kernel
theorem dX10_write_31 : decode cX10_write 31 = .ok (.iinc 2 1, 3) := by decide +kernel
theorem dX10_write_34 : decode cX10_write 34 = .ok (.goto (-23), 3) := by decide +kernel
theorem dX10_write_37 : decode cX10_write 37 = .ok (.bipush 64, 2) := by decide +kernel
theorem dX10_write_39 : decode cX10_write 39 = .ok (.istore_n 2, 1) := by decide +kernel
theorem dX10_write_40 : decode cX10_write 40 = .ok (.iload_n 2, 1) := by decide +kernel
theorem dX10_write_41 : decode cX10_write 41 = .ok (.sipush 1280, 3) := by decide +kernel
theorem dX10_write_44 : decode cX10_write 44 = .ok (.if_icmp .ge 24, 3) := by decide +kernel
theorem dX10_write_47 : decode cX10_write 47 = .ok (.aload_n 0, 1) := by decide +kernel
theorem dX10_write_48 : decode cX10_write 48 = .ok (.getfield 53, 3) := by decide +kernel
theorem dX10_write_51 : decode cX10_write 51 = .ok (.iload_n 2, 1) := by decide +kernel
theorem dX10_write_52 : decode cX10_write 52 = .ok (.bipush 64, 2) := by decide +kernel
theorem dX10_write_54 : decode cX10_write 54 = .ok (.isub, 1) := by decide +kernel
theorem dX10_write_55 : decode cX10_write 55 = .ok (.aload_n 0, 1) := by decide +kernel
theorem dX10_write_56 : decode cX10_write 56 = .ok (.getfield 53, 3) := by decide +kernel
theorem dX10_write_59 : decode cX10_write 59 = .ok (.iload_n 2, 1) := by decide +kernel
theorem dX10_write_60 : decode cX10_write 60 = .ok (.laload, 1) := by decide +kernel
theorem dX10_write_61 : decode cX10_write 61 = .ok (.lastore, 1) := by decide +kernel
theorem dX10_write_62 : decode cX10_write 62 = .ok (.iinc 2 1, 3) := by decide +kernel
theorem dX10_write_65 : decode cX10_write 65 = .ok (.goto (-25), 3) := by decide +kernel
theorem dX10_write_68 : decode cX10_write 68 = .ok (.aload_n 0, 1) := by decide +kernel
theorem dX10_write_69 : decode cX10_write 69 = .ok (.dup, 1) := by decide +kernel
theorem dX10_write_70 : decode cX10_write 70 = .ok (.getfield 173, 3) := by decide +kernel
theorem dX10_write_73 : decode cX10_write 73 = .ok (.iconst 1, 1) := by decide +kernel
theorem dX10_write_74 : decode cX10_write 74 = .ok (.isub, 1) := by decide +kernel
theorem dX10_write_75 : decode cX10_write 75 = .ok (.putfield 173, 3) := by decide +kernel
theorem dX10_write_78 : decode cX10_write 78 = .ok (.aload_n 0, 1) := by decide +kernel
theorem dX10_write_79 : decode cX10_write 79 = .ok (.getfield 50, 3) := by decide +kernel
theorem dX10_write_82 : decode cX10_write 82 = .ok (.aload_n 0, 1) := by decide +kernel
theorem dX10_write_83 : decode cX10_write 83 = .ok (.getfield 173, 3) := by decide +kernel
theorem dX10_write_86 : decode cX10_write 86 = .ok (.iload_n 1, 1) := by decide +kernel
theorem dX10_write_87 : decode cX10_write 87 = .ok (.iastore, 1) := by decide +kernel
theorem dX10_write_88 : decode cX10_write 88 = .ok (.iconst 0, 1) := by decide +kernel
theorem dX10_write_89 : decode cX10_write 89 = .ok (.istore_n 2, 1) := by decide +kernel
theorem dX10_write_90 : decode cX10_write 90 = .ok (.iload_n 2, 1) := by decide +kernel
theorem dX10_write_91 : decode cX10_write 91 = .ok (.aload_n 0, 1) := by decide +kernel
theorem dX10_write_92 : decode cX10_write 92 = .ok (.getfield 13, 3) := by decide +kernel
theorem dX10_write_95 : decode cX10_write 95 = .ok (.iload_n 1, 1) := by decide +kernel
theorem dX10_write_96 : decode cX10_write 96 = .ok (.iaload, 1) := by decide +kernel
theorem dX10_write_97 : decode cX10_write 97 = .ok (.if_icmp .ge 29, 3) := by decide +kernel
theorem dX10_write_100 : decode cX10_write 100 = .ok (.aload_n 0, 1) := by decide +kernel
theorem dX10_write_101 : decode cX10_write 101 = .ok (.getfield 53, 3) := by decide +kernel
theorem dX10_write_104 : decode cX10_write 104 = .ok (.bipush 64, 2) := by decide +kernel
theorem dX10_write_106 : decode cX10_write 106 = .ok (.aload_n 0, 1) := by decide +kernel
theorem dX10_write_107 : decode cX10_write 107 = .ok (.getfield 173, 3) := by decide +kernel
theorem dX10_write_110 : decode cX10_write 110 = .ok (.imul, 1) := by decide +kernel
theorem dX10_write_111 : decode cX10_write 111 = .ok (.iload_n 2, 1) := by decide +kernel
theorem dX10_write_112 : decode cX10_write 112 = .ok (.iadd, 1) := by decide +kernel
theorem dX10_write_113 : decode cX10_write 113 = .ok (.aload_n 0, 1) := by decide +kernel
theorem dX10_write_114 : decode cX10_write 114 = .ok (.getfield 56, 3) := by decide +kernel
theorem dX10_write_117 : decode cX10_write 117 = .ok (.iload_n 2, 1) := by decide +kernel
theorem dX10_write_118 : decode cX10_write 118 = .ok (.laload, 1) := by decide +kernel
theorem dX10_write_119 : decode cX10_write 119 = .ok (.lastore, 1) := by decide +kernel
theorem dX10_write_120 : decode cX10_write 120 = .ok (.iinc 2 1, 3) := by decide +kernel
theorem dX10_write_123 : decode cX10_write 123 = .ok (.goto (-33), 3) := by decide +kernel
theorem dX10_write_126 : decode cX10_write 126 = .ok (.aload_n 0, 1) := by decide +kernel
theorem dX10_write_127 : decode cX10_write 127 = .ok (.dup, 1) := by decide +kernel
theorem dX10_write_128 : decode cX10_write 128 = .ok (.getfield 173, 3) := by decide +kernel
theorem dX10_write_131 : decode cX10_write 131 = .ok (.iconst 1, 1) := by decide +kernel
theorem dX10_write_132 : decode cX10_write 132 = .ok (.iadd, 1) := by decide +kernel
theorem dX10_write_133 : decode cX10_write 133 = .ok (.putfield 173, 3) := by decide +kernel
theorem dX10_write_136 : decode cX10_write 136 = .ok (.return_, 1) := by decide +kernel
theorem dX10_act_0 : decode cX10_act 0 = .ok (.iload_n 1, 1) := by decide +kernel
theorem dX10_act_1 : decode cX10_act 1 = .ok (.iconst 0, 1) := by decide +kernel
theorem dX10_act_2 : decode cX10_act 2 = .ok (.bipush 12, 2) := by decide +kernel
theorem dX10_act_4 : decode cX10_act 4 = .ok (.invokestatic 66, 3) := by decide +kernel
theorem dX10_act_7 : decode cX10_act 7 = .ok (.ifCond .eq 14, 3) := by decide +kernel
theorem dX10_act_10 : decode cX10_act 10 = .ok (.iload_n 1, 1) := by decide +kernel
theorem dX10_act_11 : decode cX10_act 11 = .ok (.iload_n 2, 1) := by decide +kernel
theorem dX10_act_12 : decode cX10_act 12 = .ok (.iload_n 3, 1) := by decide +kernel
theorem dX10_act_13 : decode cX10_act 13 = .ok (.iload 4, 2) := by decide +kernel
theorem dX10_act_15 : decode cX10_act 15 = .ok (.invokestatic 73, 3) := by decide +kernel
theorem dX10_act_18 : decode cX10_act 18 = .ok (.ifCond .ne 5, 3) := by decide +kernel
theorem dX10_act_21 : decode cX10_act 21 = .ok (.iconst (-1), 1) := by decide +kernel
theorem dX10_act_22 : decode cX10_act 22 = .ok (.ireturn, 1) := by decide +kernel
theorem dX10_act_23 : decode cX10_act 23 = .ok (.aload_n 0, 1) := by decide +kernel
theorem dX10_act_24 : decode cX10_act 24 = .ok (.getfield 159, 3) := by decide +kernel
theorem dX10_act_27 : decode cX10_act 27 = .ok (.sipush 4000, 3) := by decide +kernel
theorem dX10_act_30 : decode cX10_act 30 = .ok (.if_icmp .ne 8, 3) := by decide +kernel
theorem dX10_act_33 : decode cX10_act 33 = .ok (.bipush 6, 2) := by decide +kernel
theorem dX10_act_35 : decode cX10_act 35 = .ok (.goto 12, 3) := by decide +kernel
theorem dX10_act_38 : decode cX10_act 38 = .ok (.aload_n 0, 1) := by decide +kernel
theorem dX10_act_39 : decode cX10_act 39 = .ok (.iload_n 1, 1) := by decide +kernel
theorem dX10_act_40 : decode cX10_act 40 = .ok (.iload_n 2, 1) := by decide +kernel
theorem dX10_act_41 : decode cX10_act 41 = .ok (.iload_n 3, 1) := by decide +kernel
theorem dX10_act_42 : decode cX10_act 42 = .ok (.iload 4, 2) := by decide +kernel
theorem dX10_act_44 : decode cX10_act 44 = .ok (.invokevirtual 176, 3) := by decide +kernel
theorem dX10_act_47 : decode cX10_act 47 = .ok (.ireturn, 1) := by decide +kernel
theorem dX10_behind_0 : decode cX10_behind 0 = .ok (.iload_n 1, 1) := by decide +kernel
theorem dX10_behind_1 : decode cX10_behind 1 = .ok (.iconst 1, 1) := by decide +kernel
theorem dX10_behind_2 : decode cX10_behind 2 = .ok (.iadd, 1) := by decide +kernel
theorem dX10_behind_3 : decode cX10_behind 3 = .ok (.istore_n 3, 1) := by decide +kernel
theorem dX10_behind_4 : decode cX10_behind 4 = .ok (.iload_n 3, 1) := by decide +kernel
theorem dX10_behind_5 : decode cX10_behind 5 = .ok (.aload_n 0, 1) := by decide +kernel
theorem dX10_behind_6 : decode cX10_behind 6 = .ok (.getfield 70, 3) := by decide +kernel
theorem dX10_behind_9 : decode cX10_behind 9 = .ok (.if_icmp .ge 47, 3) := by decide +kernel
theorem dX10_behind_12 : decode cX10_behind 12 = .ok (.aload_n 0, 1) := by decide +kernel
theorem dX10_behind_13 : decode cX10_behind 13 = .ok (.getfield 35, 3) := by decide +kernel
theorem dX10_behind_16 : decode cX10_behind 16 = .ok (.iload_n 3, 1) := by decide +kernel
theorem dX10_behind_17 : decode cX10_behind 17 = .ok (.iaload, 1) := by decide +kernel
theorem dX10_behind_18 : decode cX10_behind 18 = .ok (.bipush 13, 2) := by decide +kernel
theorem dX10_behind_20 : decode cX10_behind 20 = .ok (.if_icmp .ne 36, 3) := by decide +kernel
theorem dX10_behind_23 : decode cX10_behind 23 = .ok (.aload_n 0, 1) := by decide +kernel
theorem dX10_behind_24 : decode cX10_behind 24 = .ok (.getfield 38, 3) := by decide +kernel
theorem dX10_behind_27 : decode cX10_behind 27 = .ok (.iload_n 3, 1) := by decide +kernel
theorem dX10_behind_28 : decode cX10_behind 28 = .ok (.iaload, 1) := by decide +kernel
theorem dX10_behind_29 : decode cX10_behind 29 = .ok (.ifCond .eq 27, 3) := by decide +kernel
theorem dX10_behind_32 : decode cX10_behind 32 = .ok (.aload_n 0, 1) := by decide +kernel
theorem dX10_behind_33 : decode cX10_behind 33 = .ok (.getfield 38, 3) := by decide +kernel
theorem dX10_behind_36 : decode cX10_behind 36 = .ok (.iload_n 3, 1) := by decide +kernel
theorem dX10_behind_37 : decode cX10_behind 37 = .ok (.iaload, 1) := by decide +kernel
theorem dX10_behind_38 : decode cX10_behind 38 = .ok (.iload_n 2, 1) := by decide +kernel
theorem dX10_behind_39 : decode cX10_behind 39 = .ok (.if_icmp .eq 17, 3) := by decide +kernel
theorem dX10_behind_42 : decode cX10_behind 42 = .ok (.iload_n 3, 1) := by decide +kernel
theorem dX10_behind_43 : decode cX10_behind 43 = .ok (.aload_n 0, 1) := by decide +kernel
theorem dX10_behind_44 : decode cX10_behind 44 = .ok (.getfield 44, 3) := by decide +kernel
theorem dX10_behind_47 : decode cX10_behind 47 = .ok (.iload_n 3, 1) := by decide +kernel
theorem dX10_behind_48 : decode cX10_behind 48 = .ok (.iaload, 1) := by decide +kernel
theorem dX10_behind_49 : decode cX10_behind 49 = .ok (.iadd, 1) := by decide +kernel
theorem dX10_behind_50 : decode cX10_behind 50 = .ok (.iconst 1, 1) := by decide +kernel
theorem dX10_behind_51 : decode cX10_behind 51 = .ok (.iadd, 1) := by decide +kernel
theorem dX10_behind_52 : decode cX10_behind 52 = .ok (.istore_n 3, 1) := by decide +kernel
theorem dX10_behind_53 : decode cX10_behind 53 = .ok (.goto (-49), 3) := by decide +kernel
theorem dX10_behind_56 : decode cX10_behind 56 = .ok (.iload_n 3, 1) := by decide +kernel
theorem dX10_behind_57 : decode cX10_behind 57 = .ok (.aload_n 0, 1) := by decide +kernel
theorem dX10_behind_58 : decode cX10_behind 58 = .ok (.getfield 70, 3) := by decide +kernel
theorem dX10_behind_61 : decode cX10_behind 61 = .ok (.if_icmp .ge 20, 3) := by decide +kernel
theorem dX10_behind_64 : decode cX10_behind 64 = .ok (.aload_n 0, 1) := by decide +kernel
theorem dX10_behind_65 : decode cX10_behind 65 = .ok (.getfield 35, 3) := by decide +kernel
theorem dX10_behind_68 : decode cX10_behind 68 = .ok (.iload_n 3, 1) := by decide +kernel
theorem dX10_behind_69 : decode cX10_behind 69 = .ok (.iaload, 1) := by decide +kernel
theorem dX10_behind_70 : decode cX10_behind 70 = .ok (.bipush 13, 2) := by decide +kernel
theorem dX10_behind_72 : decode cX10_behind 72 = .ok (.if_icmp .ne 9, 3) := by decide +kernel
theorem dX10_behind_75 : decode cX10_behind 75 = .ok (.iload_n 3, 1) := by decide +kernel
theorem dX10_behind_76 : decode cX10_behind 76 = .ok (.iconst 1, 1) := by decide +kernel
theorem dX10_behind_77 : decode cX10_behind 77 = .ok (.iadd, 1) := by decide +kernel
theorem dX10_behind_78 : decode cX10_behind 78 = .ok (.goto 4, 3) := by decide +kernel
theorem dX10_behind_81 : decode cX10_behind 81 = .ok (.iconst (-1), 1) := by decide +kernel
theorem dX10_behind_82 : decode cX10_behind 82 = .ok (.ireturn, 1) := by decide +kernel
theorem dX10_again_0 : decode cX10_again 0 = .ok (.aload_n 0, 1) := by decide +kernel
theorem dX10_again_1 : decode cX10_again 1 = .ok (.getfield 47, 3) := by decide +kernel
theorem dX10_again_4 : decode cX10_again 4 = .ok (.iload_n 1, 1) := by decide +kernel
theorem dX10_again_5 : decode cX10_again 5 = .ok (.iaload, 1) := by decide +kernel
theorem dX10_again_6 : decode cX10_again 6 = .ok (.aload_n 0, 1) := by decide +kernel
theorem dX10_again_7 : decode cX10_again 7 = .ok (.getfield 44, 3) := by decide +kernel
theorem dX10_again_10 : decode cX10_again 10 = .ok (.iload_n 1, 1) := by decide +kernel
theorem dX10_again_11 : decode cX10_again 11 = .ok (.iaload, 1) := by decide +kernel
theorem dX10_again_12 : decode cX10_again 12 = .ok (.if_icmp .ge 36, 3) := by decide +kernel
theorem dX10_again_15 : decode cX10_again 15 = .ok (.aload_n 0, 1) := by decide +kernel
theorem dX10_again_16 : decode cX10_again 16 = .ok (.getfield 47, 3) := by decide +kernel
theorem dX10_again_19 : decode cX10_again 19 = .ok (.iload_n 1, 1) := by decide +kernel
theorem dX10_again_20 : decode cX10_again 20 = .ok (.dup2, 1) := by decide +kernel
theorem dX10_again_21 : decode cX10_again 21 = .ok (.iaload, 1) := by decide +kernel
theorem dX10_again_22 : decode cX10_again 22 = .ok (.iconst 1, 1) := by decide +kernel
theorem dX10_again_23 : decode cX10_again 23 = .ok (.iadd, 1) := by decide +kernel
theorem dX10_again_24 : decode cX10_again 24 = .ok (.iastore, 1) := by decide +kernel
theorem dX10_again_25 : decode cX10_again 25 = .ok (.iload_n 1, 1) := by decide +kernel
theorem dX10_again_26 : decode cX10_again 26 = .ok (.aload_n 0, 1) := by decide +kernel
theorem dX10_again_27 : decode cX10_again 27 = .ok (.getfield 41, 3) := by decide +kernel
theorem dX10_again_30 : decode cX10_again 30 = .ok (.iload_n 1, 1) := by decide +kernel
theorem dX10_again_31 : decode cX10_again 31 = .ok (.iaload, 1) := by decide +kernel
theorem dX10_again_32 : decode cX10_again 32 = .ok (.if_icmp .ge 7, 3) := by decide +kernel
theorem dX10_again_35 : decode cX10_again 35 = .ok (.iconst 0, 1) := by decide +kernel
theorem dX10_again_36 : decode cX10_again 36 = .ok (.goto 11, 3) := by decide +kernel
theorem dX10_again_39 : decode cX10_again 39 = .ok (.iload_n 1, 1) := by decide +kernel
theorem dX10_again_40 : decode cX10_again 40 = .ok (.aload_n 0, 1) := by decide +kernel
theorem dX10_again_41 : decode cX10_again 41 = .ok (.getfield 41, 3) := by decide +kernel
theorem dX10_again_44 : decode cX10_again 44 = .ok (.iload_n 1, 1) := by decide +kernel
theorem dX10_again_45 : decode cX10_again 45 = .ok (.iaload, 1) := by decide +kernel
theorem dX10_again_46 : decode cX10_again 46 = .ok (.isub, 1) := by decide +kernel
theorem dX10_again_47 : decode cX10_again 47 = .ok (.ireturn, 1) := by decide +kernel
theorem dX10_again_48 : decode cX10_again 48 = .ok (.aload_n 0, 1) := by decide +kernel
theorem dX10_again_49 : decode cX10_again 49 = .ok (.getfield 47, 3) := by decide +kernel
theorem dX10_again_52 : decode cX10_again 52 = .ok (.iload_n 1, 1) := by decide +kernel
theorem dX10_again_53 : decode cX10_again 53 = .ok (.iconst 0, 1) := by decide +kernel
theorem dX10_again_54 : decode cX10_again 54 = .ok (.iastore, 1) := by decide +kernel
theorem dX10_again_55 : decode cX10_again 55 = .ok (.iload_n 1, 1) := by decide +kernel
theorem dX10_again_56 : decode cX10_again 56 = .ok (.iconst 1, 1) := by decide +kernel
theorem dX10_again_57 : decode cX10_again 57 = .ok (.iadd, 1) := by decide +kernel
theorem dX10_again_58 : decode cX10_again 58 = .ok (.ireturn, 1) := by decide +kernel
theorem dX10_run_0 : decode cX10_run 0 = .ok (.iload_n 1, 1) := by decide +kernel
theorem dX10_run_1 : decode cX10_run 1 = .ok (.iconst 0, 1) := by decide +kernel
theorem dX10_run_2 : decode cX10_run 2 = .ok (.sipush 300, 3) := by decide +kernel
theorem dX10_run_5 : decode cX10_run 5 = .ok (.invokestatic 66, 3) := by decide +kernel
theorem dX10_run_8 : decode cX10_run 8 = .ok (.ifCond .ne 5, 3) := by decide +kernel
theorem dX10_run_11 : decode cX10_run 11 = .ok (.iconst (-1), 1) := by decide +kernel
theorem dX10_run_12 : decode cX10_run 12 = .ok (.ireturn, 1) := by decide +kernel
theorem dX10_run_13 : decode cX10_run 13 = .ok (.aload_n 0, 1) := by decide +kernel
theorem dX10_run_14 : decode cX10_run 14 = .ok (.iconst 0, 1) := by decide +kernel
theorem dX10_run_15 : decode cX10_run 15 = .ok (.putfield 179, 3) := by decide +kernel
theorem dX10_run_18 : decode cX10_run 18 = .ok (.aload_n 0, 1) := by decide +kernel
theorem dX10_run_19 : decode cX10_run 19 = .ok (.iconst (-1), 1) := by decide +kernel
theorem dX10_run_20 : decode cX10_run 20 = .ok (.putfield 62, 3) := by decide +kernel
theorem dX10_run_23 : decode cX10_run 23 = .ok (.iconst 0, 1) := by decide +kernel
theorem dX10_run_24 : decode cX10_run 24 = .ok (.istore_n 2, 1) := by decide +kernel
theorem dX10_run_25 : decode cX10_run 25 = .ok (.iload_n 2, 1) := by decide +kernel
theorem dX10_run_26 : decode cX10_run 26 = .ok (.bipush 60, 2) := by decide +kernel
theorem dX10_run_28 : decode cX10_run 28 = .ok (.if_icmp .ge 16, 3) := by decide +kernel
theorem dX10_run_31 : decode cX10_run 31 = .ok (.aload_n 0, 1) := by decide +kernel
theorem dX10_run_32 : decode cX10_run 32 = .ok (.getfield 47, 3) := by decide +kernel
theorem dX10_run_35 : decode cX10_run 35 = .ok (.iload_n 2, 1) := by decide +kernel
theorem dX10_run_36 : decode cX10_run 36 = .ok (.iconst 0, 1) := by decide +kernel
theorem dX10_run_37 : decode cX10_run 37 = .ok (.iastore, 1) := by decide +kernel
theorem dX10_run_38 : decode cX10_run 38 = .ok (.iinc 2 1, 3) := by decide +kernel
theorem dX10_run_41 : decode cX10_run 41 = .ok (.goto (-16), 3) := by decide +kernel
theorem dX10_run_44 : decode cX10_run 44 = .ok (.iconst 0, 1) := by decide +kernel
theorem dX10_run_45 : decode cX10_run 45 = .ok (.istore_n 2, 1) := by decide +kernel
theorem dX10_run_46 : decode cX10_run 46 = .ok (.iload_n 2, 1) := by decide +kernel
theorem dX10_run_47 : decode cX10_run 47 = .ok (.aload_n 0, 1) := by decide +kernel
theorem dX10_run_48 : decode cX10_run 48 = .ok (.getfield 70, 3) := by decide +kernel
theorem dX10_run_51 : decode cX10_run 51 = .ok (.if_icmp .ge 193, 3) := by decide +kernel
theorem dX10_run_54 : decode cX10_run 54 = .ok (.aload_n 0, 1) := by decide +kernel
theorem dX10_run_55 : decode cX10_run 55 = .ok (.getfield 159, 3) := by decide +kernel
theorem dX10_run_58 : decode cX10_run 58 = .ok (.sipush 4000, 3) := by decide +kernel
theorem dX10_run_61 : decode cX10_run 61 = .ok (.if_icmp .ne 11, 3) := by decide +kernel
theorem dX10_run_64 : decode cX10_run 64 = .ok (.aload_n 0, 1) := by decide +kernel
theorem dX10_run_65 : decode cX10_run 65 = .ok (.iload_n 2, 1) := by decide +kernel
theorem dX10_run_66 : decode cX10_run 66 = .ok (.putfield 62, 3) := by decide +kernel
theorem dX10_run_69 : decode cX10_run 69 = .ok (.bipush 6, 2) := by decide +kernel
theorem dX10_run_71 : decode cX10_run 71 = .ok (.ireturn, 1) := by decide +kernel
theorem dX10_run_72 : decode cX10_run 72 = .ok (.aload_n 0, 1) := by decide +kernel
theorem dX10_run_73 : decode cX10_run 73 = .ok (.getfield 179, 3) := by decide +kernel
theorem dX10_run_76 : decode cX10_run 76 = .ok (.iload_n 1, 1) := by decide +kernel
theorem dX10_run_77 : decode cX10_run 77 = .ok (.if_icmp .ne 6, 3) := by decide +kernel
theorem dX10_run_80 : decode cX10_run 80 = .ok (.bipush 7, 2) := by decide +kernel
theorem dX10_run_82 : decode cX10_run 82 = .ok (.ireturn, 1) := by decide +kernel
theorem dX10_run_83 : decode cX10_run 83 = .ok (.aload_n 0, 1) := by decide +kernel
theorem dX10_run_84 : decode cX10_run 84 = .ok (.dup, 1) := by decide +kernel
theorem dX10_run_85 : decode cX10_run 85 = .ok (.getfield 179, 3) := by decide +kernel
theorem dX10_run_88 : decode cX10_run 88 = .ok (.iconst 1, 1) := by decide +kernel
theorem dX10_run_89 : decode cX10_run 89 = .ok (.iadd, 1) := by decide +kernel
theorem dX10_run_90 : decode cX10_run 90 = .ok (.putfield 179, 3) := by decide +kernel
theorem dX10_run_93 : decode cX10_run 93 = .ok (.aload_n 0, 1) := by decide +kernel
theorem dX10_run_94 : decode cX10_run 94 = .ok (.getfield 35, 3) := by decide +kernel
theorem dX10_run_97 : decode cX10_run 97 = .ok (.iload_n 2, 1) := by decide +kernel
theorem dX10_run_98 : decode cX10_run 98 = .ok (.iaload, 1) := by decide +kernel
theorem dX10_run_99 : decode cX10_run 99 = .ok (.bipush 13, 2) := by decide +kernel
theorem dX10_run_101 : decode cX10_run 101 = .ok (.if_icmp .ne 27, 3) := by decide +kernel
theorem dX10_run_104 : decode cX10_run 104 = .ok (.aload_n 0, 1) := by decide +kernel
theorem dX10_run_105 : decode cX10_run 105 = .ok (.dup, 1) := by decide +kernel
theorem dX10_run_106 : decode cX10_run 106 = .ok (.getfield 159, 3) := by decide +kernel
theorem dX10_run_109 : decode cX10_run 109 = .ok (.iconst 1, 1) := by decide +kernel
theorem dX10_run_110 : decode cX10_run 110 = .ok (.iadd, 1) := by decide +kernel
theorem dX10_run_111 : decode cX10_run 111 = .ok (.putfield 159, 3) := by decide +kernel
theorem dX10_run_114 : decode cX10_run 114 = .ok (.iload_n 2, 1) := by decide +kernel
theorem dX10_run_115 : decode cX10_run 115 = .ok (.iconst 1, 1) := by decide +kernel
theorem dX10_run_116 : decode cX10_run 116 = .ok (.iadd, 1) := by decide +kernel
theorem dX10_run_117 : decode cX10_run 117 = .ok (.aload_n 0, 1) := by decide +kernel
theorem dX10_run_118 : decode cX10_run 118 = .ok (.getfield 44, 3) := by decide +kernel
theorem dX10_run_121 : decode cX10_run 121 = .ok (.iload_n 2, 1) := by decide +kernel
theorem dX10_run_122 : decode cX10_run 122 = .ok (.iaload, 1) := by decide +kernel
theorem dX10_run_123 : decode cX10_run 123 = .ok (.iadd, 1) := by decide +kernel
theorem dX10_run_124 : decode cX10_run 124 = .ok (.istore_n 2, 1) := by decide +kernel
theorem dX10_run_125 : decode cX10_run 125 = .ok (.goto (-79), 3) := by decide +kernel
theorem dX10_run_128 : decode cX10_run 128 = .ok (.aload_n 0, 1) := by decide +kernel
theorem dX10_run_129 : decode cX10_run 129 = .ok (.getfield 35, 3) := by decide +kernel
theorem dX10_run_132 : decode cX10_run 132 = .ok (.iload_n 2, 1) := by decide +kernel
theorem dX10_run_133 : decode cX10_run 133 = .ok (.iaload, 1) := by decide +kernel
theorem dX10_run_134 : decode cX10_run 134 = .ok (.bipush 14, 2) := by decide +kernel
theorem dX10_run_136 : decode cX10_run 136 = .ok (.if_icmp .ne 22, 3) := by decide +kernel
theorem dX10_run_139 : decode cX10_run 139 = .ok (.aload_n 0, 1) := by decide +kernel
theorem dX10_run_140 : decode cX10_run 140 = .ok (.dup, 1) := by decide +kernel
theorem dX10_run_141 : decode cX10_run 141 = .ok (.getfield 159, 3) := by decide +kernel
theorem dX10_run_144 : decode cX10_run 144 = .ok (.iconst 1, 1) := by decide +kernel
theorem dX10_run_145 : decode cX10_run 145 = .ok (.iadd, 1) := by decide +kernel
theorem dX10_run_146 : decode cX10_run 146 = .ok (.putfield 159, 3) := by decide +kernel
theorem dX10_run_149 : decode cX10_run 149 = .ok (.aload_n 0, 1) := by decide +kernel
theorem dX10_run_150 : decode cX10_run 150 = .ok (.iload_n 2, 1) := by decide +kernel
theorem dX10_run_151 : decode cX10_run 151 = .ok (.invokevirtual 182, 3) := by decide +kernel
theorem dX10_run_154 : decode cX10_run 154 = .ok (.istore_n 2, 1) := by decide +kernel
theorem dX10_run_155 : decode cX10_run 155 = .ok (.goto (-109), 3) := by decide +kernel
theorem dX10_run_158 : decode cX10_run 158 = .ok (.aload_n 0, 1) := by decide +kernel
theorem dX10_run_159 : decode cX10_run 159 = .ok (.aload_n 0, 1) := by decide +kernel
theorem dX10_run_160 : decode cX10_run 160 = .ok (.getfield 35, 3) := by decide +kernel
theorem dX10_run_163 : decode cX10_run 163 = .ok (.iload_n 2, 1) := by decide +kernel
theorem dX10_run_164 : decode cX10_run 164 = .ok (.iaload, 1) := by decide +kernel
theorem dX10_run_165 : decode cX10_run 165 = .ok (.aload_n 0, 1) := by decide +kernel
theorem dX10_run_166 : decode cX10_run 166 = .ok (.getfield 38, 3) := by decide +kernel
theorem dX10_run_169 : decode cX10_run 169 = .ok (.iload_n 2, 1) := by decide +kernel
theorem dX10_run_170 : decode cX10_run 170 = .ok (.iaload, 1) := by decide +kernel
theorem dX10_run_171 : decode cX10_run 171 = .ok (.aload_n 0, 1) := by decide +kernel
theorem dX10_run_172 : decode cX10_run 172 = .ok (.getfield 41, 3) := by decide +kernel
theorem dX10_run_175 : decode cX10_run 175 = .ok (.iload_n 2, 1) := by decide +kernel
theorem dX10_run_176 : decode cX10_run 176 = .ok (.iaload, 1) := by decide +kernel
theorem dX10_run_177 : decode cX10_run 177 = .ok (.aload_n 0, 1) := by decide +kernel
theorem dX10_run_178 : decode cX10_run 178 = .ok (.getfield 44, 3) := by decide +kernel
theorem dX10_run_181 : decode cX10_run 181 = .ok (.iload_n 2, 1) := by decide +kernel
theorem dX10_run_182 : decode cX10_run 182 = .ok (.iaload, 1) := by decide +kernel
theorem dX10_run_183 : decode cX10_run 183 = .ok (.invokevirtual 176, 3) := by decide +kernel
theorem dX10_run_186 : decode cX10_run 186 = .ok (.istore_n 3, 1) := by decide +kernel
theorem dX10_run_187 : decode cX10_run 187 = .ok (.iload_n 3, 1) := by decide +kernel
theorem dX10_run_188 : decode cX10_run 188 = .ok (.ifCond .ne 9, 3) := by decide +kernel
theorem dX10_run_191 : decode cX10_run 191 = .ok (.iload_n 2, 1) := by decide +kernel
theorem dX10_run_192 : decode cX10_run 192 = .ok (.iconst 1, 1) := by decide +kernel
theorem dX10_run_193 : decode cX10_run 193 = .ok (.iadd, 1) := by decide +kernel
theorem dX10_run_194 : decode cX10_run 194 = .ok (.goto 9, 3) := by decide +kernel
theorem dX10_run_197 : decode cX10_run 197 = .ok (.aload_n 0, 1) := by decide +kernel
theorem dX10_run_198 : decode cX10_run 198 = .ok (.iload_n 2, 1) := by decide +kernel
theorem dX10_run_199 : decode cX10_run 199 = .ok (.iload_n 3, 1) := by decide +kernel
theorem dX10_run_200 : decode cX10_run 200 = .ok (.invokevirtual 185, 3) := by decide +kernel
theorem dX10_run_203 : decode cX10_run 203 = .ok (.istore 4, 2) := by decide +kernel
theorem dX10_run_205 : decode cX10_run 205 = .ok (.iload 4, 2) := by decide +kernel
theorem dX10_run_207 : decode cX10_run 207 = .ok (.ifCond .ge 10, 3) := by decide +kernel
theorem dX10_run_210 : decode cX10_run 210 = .ok (.aload_n 0, 1) := by decide +kernel
theorem dX10_run_211 : decode cX10_run 211 = .ok (.iload_n 2, 1) := by decide +kernel
theorem dX10_run_212 : decode cX10_run 212 = .ok (.putfield 62, 3) := by decide +kernel
theorem dX10_run_215 : decode cX10_run 215 = .ok (.iload_n 3, 1) := by decide +kernel
theorem dX10_run_216 : decode cX10_run 216 = .ok (.ireturn, 1) := by decide +kernel
theorem dX10_run_217 : decode cX10_run 217 = .ok (.aload_n 0, 1) := by decide +kernel
theorem dX10_run_218 : decode cX10_run 218 = .ok (.iload_n 3, 1) := by decide +kernel
theorem dX10_run_219 : decode cX10_run 219 = .ok (.ifCond .le 12, 3) := by decide +kernel
theorem dX10_run_222 : decode cX10_run 222 = .ok (.aload_n 0, 1) := by decide +kernel
theorem dX10_run_223 : decode cX10_run 223 = .ok (.getfield 188, 3) := by decide +kernel
theorem dX10_run_226 : decode cX10_run 226 = .ok (.iconst 1, 1) := by decide +kernel
theorem dX10_run_227 : decode cX10_run 227 = .ok (.iadd, 1) := by decide +kernel
theorem dX10_run_228 : decode cX10_run 228 = .ok (.goto 7, 3) := by decide +kernel
theorem dX10_run_231 : decode cX10_run 231 = .ok (.aload_n 0, 1) := by decide +kernel
theorem dX10_run_232 : decode cX10_run 232 = .ok (.getfield 188, 3) := by decide +kernel
theorem dX10_run_235 : decode cX10_run 235 = .ok (.putfield 188, 3) := by decide +kernel
theorem dX10_run_238 : decode cX10_run 238 = .ok (.iload 4, 2) := by decide +kernel
theorem dX10_run_240 : decode cX10_run 240 = .ok (.istore_n 2, 1) := by decide +kernel
theorem dX10_run_241 : decode cX10_run 241 = .ok (.goto (-195), 3) := by decide +kernel
theorem dX10_run_244 : decode cX10_run 244 = .ok (.iconst 0, 1) := by decide +kernel
theorem dX10_run_245 : decode cX10_run 245 = .ok (.ireturn, 1) := by decide +kernel
theorem dX10_back_0 : decode cX10_back 0 = .ok (.aload_n 0, 1) := by decide +kernel
theorem dX10_back_1 : decode cX10_back 1 = .ok (.getfield 173, 3) := by decide +kernel
theorem dX10_back_4 : decode cX10_back 4 = .ok (.ifCond .ne 5, 3) := by decide +kernel
theorem dX10_back_7 : decode cX10_back 7 = .ok (.iconst 0, 1) := by decide +kernel
theorem dX10_back_8 : decode cX10_back 8 = .ok (.ireturn, 1) := by decide +kernel
theorem dX10_back_9 : decode cX10_back 9 = .ok (.aload_n 0, 1) := by decide +kernel
theorem dX10_back_10 : decode cX10_back 10 = .ok (.dup, 1) := by decide +kernel
theorem dX10_back_11 : decode cX10_back 11 = .ok (.getfield 173, 3) := by decide +kernel
theorem dX10_back_14 : decode cX10_back 14 = .ok (.iconst 1, 1) := by decide +kernel
theorem dX10_back_15 : decode cX10_back 15 = .ok (.isub, 1) := by decide +kernel
theorem dX10_back_16 : decode cX10_back 16 = .ok (.putfield 173, 3) := by decide +kernel
theorem dX10_back_19 : decode cX10_back 19 = .ok (.aload_n 0, 1) := by decide +kernel
theorem dX10_back_20 : decode cX10_back 20 = .ok (.getfield 50, 3) := by decide +kernel
theorem dX10_back_23 : decode cX10_back 23 = .ok (.aload_n 0, 1) := by decide +kernel
theorem dX10_back_24 : decode cX10_back 24 = .ok (.getfield 173, 3) := by decide +kernel
theorem dX10_back_27 : decode cX10_back 27 = .ok (.iaload, 1) := by decide +kernel
theorem dX10_back_28 : decode cX10_back 28 = .ok (.istore_n 1, 1) := by decide +kernel
theorem dX10_back_29 : decode cX10_back 29 = .ok (.iconst 0, 1) := by decide +kernel
theorem dX10_back_30 : decode cX10_back 30 = .ok (.istore_n 2, 1) := by decide +kernel
theorem dX10_back_31 : decode cX10_back 31 = .ok (.iload_n 2, 1) := by decide +kernel
theorem dX10_back_32 : decode cX10_back 32 = .ok (.aload_n 0, 1) := by decide +kernel
theorem dX10_back_33 : decode cX10_back 33 = .ok (.getfield 13, 3) := by decide +kernel
theorem dX10_back_36 : decode cX10_back 36 = .ok (.iload_n 1, 1) := by decide +kernel
theorem dX10_back_37 : decode cX10_back 37 = .ok (.iaload, 1) := by decide +kernel
theorem dX10_back_38 : decode cX10_back 38 = .ok (.if_icmp .ge 36, 3) := by decide +kernel
theorem dX10_back_41 : decode cX10_back 41 = .ok (.aload_n 0, 1) := by decide +kernel
theorem dX10_back_42 : decode cX10_back 42 = .ok (.getfield 19, 3) := by decide +kernel
theorem dX10_back_45 : decode cX10_back 45 = .ok (.aload_n 0, 1) := by decide +kernel
theorem dX10_back_46 : decode cX10_back 46 = .ok (.getfield 16, 3) := by decide +kernel
theorem dX10_back_49 : decode cX10_back 49 = .ok (.iload_n 1, 1) := by decide +kernel
theorem dX10_back_50 : decode cX10_back 50 = .ok (.iaload, 1) := by decide +kernel
theorem dX10_back_51 : decode cX10_back 51 = .ok (.iload_n 2, 1) := by decide +kernel
theorem dX10_back_52 : decode cX10_back 52 = .ok (.iadd, 1) := by decide +kernel
theorem dX10_back_53 : decode cX10_back 53 = .ok (.aload_n 0, 1) := by decide +kernel
theorem dX10_back_54 : decode cX10_back 54 = .ok (.getfield 53, 3) := by decide +kernel
theorem dX10_back_57 : decode cX10_back 57 = .ok (.bipush 64, 2) := by decide +kernel
theorem dX10_back_59 : decode cX10_back 59 = .ok (.aload_n 0, 1) := by decide +kernel
theorem dX10_back_60 : decode cX10_back 60 = .ok (.getfield 173, 3) := by decide +kernel
theorem dX10_back_63 : decode cX10_back 63 = .ok (.imul, 1) := by decide +kernel
theorem dX10_back_64 : decode cX10_back 64 = .ok (.iload_n 2, 1) := by decide +kernel
theorem dX10_back_65 : decode cX10_back 65 = .ok (.iadd, 1) := by decide +kernel
theorem dX10_back_66 : decode cX10_back 66 = .ok (.laload, 1) := by decide +kernel
theorem dX10_back_67 : decode cX10_back 67 = .ok (.lastore, 1) := by decide +kernel
theorem dX10_back_68 : decode cX10_back 68 = .ok (.iinc 2 1, 3) := by decide +kernel
theorem dX10_back_71 : decode cX10_back 71 = .ok (.goto (-40), 3) := by decide +kernel
theorem dX10_back_74 : decode cX10_back 74 = .ok (.iconst 1, 1) := by decide +kernel
theorem dX10_back_75 : decode cX10_back 75 = .ok (.ireturn, 1) := by decide +kernel
theorem dX10_look_0 : decode cX10_look 0 = .ok (.iload_n 1, 1) := by decide +kernel
theorem dX10_look_1 : decode cX10_look 1 = .ok (.iconst 0, 1) := by decide +kernel
theorem dX10_look_2 : decode cX10_look 2 = .ok (.bipush 9, 2) := by decide +kernel
theorem dX10_look_4 : decode cX10_look 4 = .ok (.invokestatic 66, 3) := by decide +kernel
theorem dX10_look_7 : decode cX10_look 7 = .ok (.ifCond .ne 5, 3) := by decide +kernel
theorem dX10_look_10 : decode cX10_look 10 = .ok (.iconst (-1), 1) := by decide +kernel
theorem dX10_look_11 : decode cX10_look 11 = .ok (.ireturn, 1) := by decide +kernel
theorem dX10_look_12 : decode cX10_look 12 = .ok (.iload_n 2, 1) := by decide +kernel
theorem dX10_look_13 : decode cX10_look 13 = .ok (.tableswitch 169 0 3 #[31, 98, 143, 150], 31) := by decide +kernel
theorem dX10_look_44 : decode cX10_look 44 = .ok (.aload_n 0, 1) := by decide +kernel
theorem dX10_look_45 : decode cX10_look 45 = .ok (.getfield 26, 3) := by decide +kernel
theorem dX10_look_48 : decode cX10_look 48 = .ok (.iload_n 1, 1) := by decide +kernel
theorem dX10_look_49 : decode cX10_look 49 = .ok (.iaload, 1) := by decide +kernel
theorem dX10_look_50 : decode cX10_look 50 = .ok (.ifCond .ne 7, 3) := by decide +kernel
theorem dX10_look_53 : decode cX10_look 53 = .ok (.iconst (-1), 1) := by decide +kernel
theorem dX10_look_54 : decode cX10_look 54 = .ok (.goto 56, 3) := by decide +kernel
theorem dX10_look_57 : decode cX10_look 57 = .ok (.aload_n 0, 1) := by decide +kernel
theorem dX10_look_58 : decode cX10_look 58 = .ok (.getfield 26, 3) := by decide +kernel
theorem dX10_look_61 : decode cX10_look 61 = .ok (.iload_n 1, 1) := by decide +kernel
theorem dX10_look_62 : decode cX10_look 62 = .ok (.iaload, 1) := by decide +kernel
theorem dX10_look_63 : decode cX10_look 63 = .ok (.iconst 1, 1) := by decide +kernel
theorem dX10_look_64 : decode cX10_look 64 = .ok (.if_icmp .ne 17, 3) := by decide +kernel
theorem dX10_look_67 : decode cX10_look 67 = .ok (.aload_n 0, 1) := by decide +kernel
theorem dX10_look_68 : decode cX10_look 68 = .ok (.getfield 7, 3) := by decide +kernel
theorem dX10_look_71 : decode cX10_look 71 = .ok (.aload_n 0, 1) := by decide +kernel
theorem dX10_look_72 : decode cX10_look 72 = .ok (.getfield 29, 3) := by decide +kernel
theorem dX10_look_75 : decode cX10_look 75 = .ok (.iload_n 1, 1) := by decide +kernel
theorem dX10_look_76 : decode cX10_look 76 = .ok (.iaload, 1) := by decide +kernel
theorem dX10_look_77 : decode cX10_look 77 = .ok (.iaload, 1) := by decide +kernel
theorem dX10_look_78 : decode cX10_look 78 = .ok (.goto 32, 3) := by decide +kernel
theorem dX10_look_81 : decode cX10_look 81 = .ok (.aload_n 0, 1) := by decide +kernel
theorem dX10_look_82 : decode cX10_look 82 = .ok (.getfield 26, 3) := by decide +kernel
theorem dX10_look_85 : decode cX10_look 85 = .ok (.iload_n 1, 1) := by decide +kernel
theorem dX10_look_86 : decode cX10_look 86 = .ok (.iaload, 1) := by decide +kernel
theorem dX10_look_87 : decode cX10_look 87 = .ok (.iconst 2, 1) := by decide +kernel
theorem dX10_look_88 : decode cX10_look 88 = .ok (.if_icmp .ne 8, 3) := by decide +kernel
theorem dX10_look_91 : decode cX10_look 91 = .ok (.bipush 12, 2) := by decide +kernel
theorem dX10_look_93 : decode cX10_look 93 = .ok (.goto 17, 3) := by decide +kernel
theorem dX10_look_96 : decode cX10_look 96 = .ok (.bipush 12, 2) := by decide +kernel
theorem dX10_look_98 : decode cX10_look 98 = .ok (.aload_n 0, 1) := by decide +kernel
theorem dX10_look_99 : decode cX10_look 99 = .ok (.getfield 23, 3) := by decide +kernel
theorem dX10_look_102 : decode cX10_look 102 = .ok (.aload_n 0, 1) := by decide +kernel
theorem dX10_look_103 : decode cX10_look 103 = .ok (.getfield 29, 3) := by decide +kernel
theorem dX10_look_106 : decode cX10_look 106 = .ok (.iload_n 1, 1) := by decide +kernel
theorem dX10_look_107 : decode cX10_look 107 = .ok (.iaload, 1) := by decide +kernel
theorem dX10_look_108 : decode cX10_look 108 = .ok (.iaload, 1) := by decide +kernel
theorem dX10_look_109 : decode cX10_look 109 = .ok (.iadd, 1) := by decide +kernel
theorem dX10_look_110 : decode cX10_look 110 = .ok (.ireturn, 1) := by decide +kernel
theorem dX10_look_111 : decode cX10_look 111 = .ok (.aload_n 0, 1) := by decide +kernel
theorem dX10_look_112 : decode cX10_look 112 = .ok (.getfield 26, 3) := by decide +kernel
theorem dX10_look_115 : decode cX10_look 115 = .ok (.iload_n 1, 1) := by decide +kernel
theorem dX10_look_116 : decode cX10_look 116 = .ok (.iaload, 1) := by decide +kernel
theorem dX10_look_117 : decode cX10_look 117 = .ok (.iconst 1, 1) := by decide +kernel
theorem dX10_look_118 : decode cX10_look 118 = .ok (.if_icmp .ne 17, 3) := by decide +kernel
theorem dX10_look_121 : decode cX10_look 121 = .ok (.aload_n 0, 1) := by decide +kernel
theorem dX10_look_122 : decode cX10_look 122 = .ok (.getfield 13, 3) := by decide +kernel
theorem dX10_look_125 : decode cX10_look 125 = .ok (.aload_n 0, 1) := by decide +kernel
theorem dX10_look_126 : decode cX10_look 126 = .ok (.getfield 29, 3) := by decide +kernel
theorem dX10_look_129 : decode cX10_look 129 = .ok (.iload_n 1, 1) := by decide +kernel
theorem dX10_look_130 : decode cX10_look 130 = .ok (.iaload, 1) := by decide +kernel
theorem dX10_look_131 : decode cX10_look 131 = .ok (.iaload, 1) := by decide +kernel
theorem dX10_look_132 : decode cX10_look 132 = .ok (.goto 23, 3) := by decide +kernel
theorem dX10_look_135 : decode cX10_look 135 = .ok (.aload_n 0, 1) := by decide +kernel
theorem dX10_look_136 : decode cX10_look 136 = .ok (.getfield 26, 3) := by decide +kernel
theorem dX10_look_139 : decode cX10_look 139 = .ok (.iload_n 1, 1) := by decide +kernel
theorem dX10_look_140 : decode cX10_look 140 = .ok (.iaload, 1) := by decide +kernel
theorem dX10_look_141 : decode cX10_look 141 = .ok (.iconst 3, 1) := by decide +kernel
theorem dX10_look_142 : decode cX10_look 142 = .ok (.if_icmp .ne 12, 3) := by decide +kernel
theorem dX10_look_145 : decode cX10_look 145 = .ok (.aload_n 0, 1) := by decide +kernel
theorem dX10_look_146 : decode cX10_look 146 = .ok (.getfield 29, 3) := by decide +kernel
theorem dX10_look_149 : decode cX10_look 149 = .ok (.iload_n 1, 1) := by decide +kernel
theorem dX10_look_150 : decode cX10_look 150 = .ok (.iaload, 1) := by decide +kernel
theorem dX10_look_151 : decode cX10_look 151 = .ok (.goto 4, 3) := by decide +kernel
theorem dX10_look_154 : decode cX10_look 154 = .ok (.iconst (-1), 1) := by decide +kernel
theorem dX10_look_155 : decode cX10_look 155 = .ok (.ireturn, 1) := by decide +kernel
theorem dX10_look_156 : decode cX10_look 156 = .ok (.aload_n 0, 1) := by decide +kernel
theorem dX10_look_157 : decode cX10_look 157 = .ok (.getfield 32, 3) := by decide +kernel
theorem dX10_look_160 : decode cX10_look 160 = .ok (.iload_n 1, 1) := by decide +kernel
theorem dX10_look_161 : decode cX10_look 161 = .ok (.iaload, 1) := by decide +kernel
theorem dX10_look_162 : decode cX10_look 162 = .ok (.ireturn, 1) := by decide +kernel
theorem dX10_look_163 : decode cX10_look 163 = .ok (.aload_n 0, 1) := by decide +kernel
theorem dX10_look_164 : decode cX10_look 164 = .ok (.getfield 26, 3) := by decide +kernel
theorem dX10_look_167 : decode cX10_look 167 = .ok (.iload_n 1, 1) := by decide +kernel
theorem dX10_look_168 : decode cX10_look 168 = .ok (.iaload, 1) := by decide +kernel
theorem dX10_look_169 : decode cX10_look 169 = .ok (.ifCond .ne 7, 3) := by decide +kernel
theorem dX10_look_172 : decode cX10_look 172 = .ok (.iconst (-1), 1) := by decide +kernel
theorem dX10_look_173 : decode cX10_look 173 = .ok (.goto 8, 3) := by decide +kernel
theorem dX10_look_176 : decode cX10_look 176 = .ok (.aload_n 0, 1) := by decide +kernel
theorem dX10_look_177 : decode cX10_look 177 = .ok (.iload_n 1, 1) := by decide +kernel
theorem dX10_look_178 : decode cX10_look 178 = .ok (.invokevirtual 191, 3) := by decide +kernel
theorem dX10_look_181 : decode cX10_look 181 = .ok (.ireturn, 1) := by decide +kernel
theorem dX10_look_182 : decode cX10_look 182 = .ok (.iconst (-1), 1) := by decide +kernel
theorem dX10_look_183 : decode cX10_look 183 = .ok (.ireturn, 1) := by decide +kernel
theorem dX10_first_0 : decode cX10_first 0 = .ok (.iconst 0, 1) := by decide +kernel
theorem dX10_first_1 : decode cX10_first 1 = .ok (.istore_n 2, 1) := by decide +kernel
theorem dX10_first_2 : decode cX10_first 2 = .ok (.aload_n 0, 1) := by decide +kernel
theorem dX10_first_3 : decode cX10_first 3 = .ok (.getfield 26, 3) := by decide +kernel
theorem dX10_first_6 : decode cX10_first 6 = .ok (.iload_n 2, 1) := by decide +kernel
theorem dX10_first_7 : decode cX10_first 7 = .ok (.iaload, 1) := by decide +kernel
theorem dX10_first_8 : decode cX10_first 8 = .ok (.aload_n 0, 1) := by decide +kernel
theorem dX10_first_9 : decode cX10_first 9 = .ok (.getfield 26, 3) := by decide +kernel
theorem dX10_first_12 : decode cX10_first 12 = .ok (.iload_n 1, 1) := by decide +kernel
theorem dX10_first_13 : decode cX10_first 13 = .ok (.iaload, 1) := by decide +kernel
theorem dX10_first_14 : decode cX10_first 14 = .ok (.if_icmp .ne 18, 3) := by decide +kernel
theorem dX10_first_17 : decode cX10_first 17 = .ok (.aload_n 0, 1) := by decide +kernel
theorem dX10_first_18 : decode cX10_first 18 = .ok (.getfield 29, 3) := by decide +kernel
theorem dX10_first_21 : decode cX10_first 21 = .ok (.iload_n 2, 1) := by decide +kernel
theorem dX10_first_22 : decode cX10_first 22 = .ok (.iaload, 1) := by decide +kernel
theorem dX10_first_23 : decode cX10_first 23 = .ok (.aload_n 0, 1) := by decide +kernel
theorem dX10_first_24 : decode cX10_first 24 = .ok (.getfield 29, 3) := by decide +kernel
theorem dX10_first_27 : decode cX10_first 27 = .ok (.iload_n 1, 1) := by decide +kernel
theorem dX10_first_28 : decode cX10_first 28 = .ok (.iaload, 1) := by decide +kernel
theorem dX10_first_29 : decode cX10_first 29 = .ok (.if_icmp .eq 9, 3) := by decide +kernel
theorem dX10_first_32 : decode cX10_first 32 = .ok (.iinc 2 1, 3) := by decide +kernel
theorem dX10_first_35 : decode cX10_first 35 = .ok (.goto (-33), 3) := by decide +kernel
theorem dX10_first_38 : decode cX10_first 38 = .ok (.iload_n 2, 1) := by decide +kernel
theorem dX10_first_39 : decode cX10_first 39 = .ok (.ireturn, 1) := by decide +kernel
theorem dX10_cell_0 : decode cX10_cell 0 = .ok (.iload_n 1, 1) := by decide +kernel
theorem dX10_cell_1 : decode cX10_cell 1 = .ok (.iconst 0, 1) := by decide +kernel
theorem dX10_cell_2 : decode cX10_cell 2 = .ok (.bipush 9, 2) := by decide +kernel
theorem dX10_cell_4 : decode cX10_cell 4 = .ok (.invokestatic 66, 3) := by decide +kernel
theorem dX10_cell_7 : decode cX10_cell 7 = .ok (.ifCond .eq 11, 3) := by decide +kernel
theorem dX10_cell_10 : decode cX10_cell 10 = .ok (.aload_n 0, 1) := by decide +kernel
theorem dX10_cell_11 : decode cX10_cell 11 = .ok (.iload_n 1, 1) := by decide +kernel
theorem dX10_cell_12 : decode cX10_cell 12 = .ok (.invokevirtual 96, 3) := by decide +kernel
theorem dX10_cell_15 : decode cX10_cell 15 = .ok (.goto 4, 3) := by decide +kernel
theorem dX10_cell_18 : decode cX10_cell 18 = .ok (.iconst (-1), 1) := by decide +kernel
theorem dX10_cell_19 : decode cX10_cell 19 = .ok (.istore_n 3, 1) := by decide +kernel
theorem dX10_cell_20 : decode cX10_cell 20 = .ok (.iload_n 3, 1) := by decide +kernel
theorem dX10_cell_21 : decode cX10_cell 21 = .ok (.ifCond .lt 35, 3) := by decide +kernel
theorem dX10_cell_24 : decode cX10_cell 24 = .ok (.iload_n 2, 1) := by decide +kernel
theorem dX10_cell_25 : decode cX10_cell 25 = .ok (.iconst 0, 1) := by decide +kernel
theorem dX10_cell_26 : decode cX10_cell 26 = .ok (.aload_n 0, 1) := by decide +kernel
theorem dX10_cell_27 : decode cX10_cell 27 = .ok (.getfield 13, 3) := by decide +kernel
theorem dX10_cell_30 : decode cX10_cell 30 = .ok (.iload_n 3, 1) := by decide +kernel
theorem dX10_cell_31 : decode cX10_cell 31 = .ok (.iaload, 1) := by decide +kernel
theorem dX10_cell_32 : decode cX10_cell 32 = .ok (.iconst 1, 1) := by decide +kernel
theorem dX10_cell_33 : decode cX10_cell 33 = .ok (.isub, 1) := by decide +kernel
theorem dX10_cell_34 : decode cX10_cell 34 = .ok (.invokestatic 66, 3) := by decide +kernel
theorem dX10_cell_37 : decode cX10_cell 37 = .ok (.ifCond .eq 19, 3) := by decide +kernel
theorem dX10_cell_40 : decode cX10_cell 40 = .ok (.aload_n 0, 1) := by decide +kernel
theorem dX10_cell_41 : decode cX10_cell 41 = .ok (.getfield 19, 3) := by decide +kernel
theorem dX10_cell_44 : decode cX10_cell 44 = .ok (.aload_n 0, 1) := by decide +kernel
theorem dX10_cell_45 : decode cX10_cell 45 = .ok (.getfield 16, 3) := by decide +kernel
theorem dX10_cell_48 : decode cX10_cell 48 = .ok (.iload_n 3, 1) := by decide +kernel
theorem dX10_cell_49 : decode cX10_cell 49 = .ok (.iaload, 1) := by decide +kernel
theorem dX10_cell_50 : decode cX10_cell 50 = .ok (.iload_n 2, 1) := by decide +kernel
theorem dX10_cell_51 : decode cX10_cell 51 = .ok (.iadd, 1) := by decide +kernel
theorem dX10_cell_52 : decode cX10_cell 52 = .ok (.laload, 1) := by decide +kernel
theorem dX10_cell_53 : decode cX10_cell 53 = .ok (.goto 4, 3) := by decide +kernel
theorem dX10_cell_56 : decode cX10_cell 56 = .ok (.lconst 0, 1) := by decide +kernel
theorem dX10_cell_57 : decode cX10_cell 57 = .ok (.lreturn, 1) := by decide +kernel
theorem dX10_sort_0 : decode cX10_sort 0 = .ok (.iload_n 1, 1) := by decide +kernel
theorem dX10_sort_1 : decode cX10_sort 1 = .ok (.iconst 1, 1) := by decide +kernel
theorem dX10_sort_2 : decode cX10_sort 2 = .ok (.aload_n 0, 1) := by decide +kernel
theorem dX10_sort_3 : decode cX10_sort 3 = .ok (.getfield 116, 3) := by decide +kernel
theorem dX10_sort_6 : decode cX10_sort 6 = .ok (.invokestatic 66, 3) := by decide +kernel
theorem dX10_sort_9 : decode cX10_sort 9 = .ok (.ifCond .eq 12, 3) := by decide +kernel
theorem dX10_sort_12 : decode cX10_sort 12 = .ok (.aload_n 0, 1) := by decide +kernel
theorem dX10_sort_13 : decode cX10_sort 13 = .ok (.getfield 23, 3) := by decide +kernel
theorem dX10_sort_16 : decode cX10_sort 16 = .ok (.iload_n 1, 1) := by decide +kernel
theorem dX10_sort_17 : decode cX10_sort 17 = .ok (.iaload, 1) := by decide +kernel
theorem dX10_sort_18 : decode cX10_sort 18 = .ok (.goto 4, 3) := by decide +kernel
theorem dX10_sort_21 : decode cX10_sort 21 = .ok (.iconst (-1), 1) := by decide +kernel
theorem dX10_sort_22 : decode cX10_sort 22 = .ok (.ireturn, 1) := by decide +kernel
theorem dX10_count_0 : decode cX10_count 0 = .ok (.iload_n 1, 1) := by decide +kernel
theorem dX10_count_1 : decode cX10_count 1 = .ok (.tableswitch 105 0 9 #[55, 60, 65, 70, 75, 80, 85, 90, 95, 100], 55) := by decide +kernel
theorem dX10_count_56 : decode cX10_count 56 = .ok (.aload_n 0, 1) := by decide +kernel
theorem dX10_count_57 : decode cX10_count 57 = .ok (.getfield 70, 3) := by decide +kernel
theorem dX10_count_60 : decode cX10_count 60 = .ok (.ireturn, 1) := by decide +kernel
theorem dX10_count_61 : decode cX10_count 61 = .ok (.aload_n 0, 1) := by decide +kernel
theorem dX10_count_62 : decode cX10_count 62 = .ok (.getfield 159, 3) := by decide +kernel
theorem dX10_count_65 : decode cX10_count 65 = .ok (.ireturn, 1) := by decide +kernel
theorem dX10_count_66 : decode cX10_count 66 = .ok (.aload_n 0, 1) := by decide +kernel
theorem dX10_count_67 : decode cX10_count 67 = .ok (.getfield 77, 3) := by decide +kernel
theorem dX10_count_70 : decode cX10_count 70 = .ok (.ireturn, 1) := by decide +kernel
theorem dX10_count_71 : decode cX10_count 71 = .ok (.aload_n 0, 1) := by decide +kernel
theorem dX10_count_72 : decode cX10_count 72 = .ok (.getfield 80, 3) := by decide +kernel
theorem dX10_count_75 : decode cX10_count 75 = .ok (.ireturn, 1) := by decide +kernel
theorem dX10_count_76 : decode cX10_count 76 = .ok (.aload_n 0, 1) := by decide +kernel
theorem dX10_count_77 : decode cX10_count 77 = .ok (.getfield 116, 3) := by decide +kernel
theorem dX10_count_80 : decode cX10_count 80 = .ok (.ireturn, 1) := by decide +kernel
theorem dX10_count_81 : decode cX10_count 81 = .ok (.aload_n 0, 1) := by decide +kernel
theorem dX10_count_82 : decode cX10_count 82 = .ok (.getfield 173, 3) := by decide +kernel
theorem dX10_count_85 : decode cX10_count 85 = .ok (.ireturn, 1) := by decide +kernel
theorem dX10_count_86 : decode cX10_count 86 = .ok (.aload_n 0, 1) := by decide +kernel
theorem dX10_count_87 : decode cX10_count 87 = .ok (.getfield 170, 3) := by decide +kernel
theorem dX10_count_90 : decode cX10_count 90 = .ok (.ireturn, 1) := by decide +kernel
theorem dX10_count_91 : decode cX10_count 91 = .ok (.aload_n 0, 1) := by decide +kernel
theorem dX10_count_92 : decode cX10_count 92 = .ok (.getfield 188, 3) := by decide +kernel
theorem dX10_count_95 : decode cX10_count 95 = .ok (.ireturn, 1) := by decide +kernel
theorem dX10_count_96 : decode cX10_count 96 = .ok (.aload_n 0, 1) := by decide +kernel
theorem dX10_count_97 : decode cX10_count 97 = .ok (.getfield 179, 3) := by decide +kernel
theorem dX10_count_100 : decode cX10_count 100 = .ok (.ireturn, 1) := by decide +kernel
theorem dX10_count_101 : decode cX10_count 101 = .ok (.aload_n 0, 1) := by decide +kernel
theorem dX10_count_102 : decode cX10_count 102 = .ok (.getfield 62, 3) := by decide +kernel
theorem dX10_count_105 : decode cX10_count 105 = .ok (.ireturn, 1) := by decide +kernel
theorem dX10_count_106 : decode cX10_count 106 = .ok (.iconst (-1), 1) := by decide +kernel
theorem dX10_count_107 : decode cX10_count 107 = .ok (.ireturn, 1) := by decide +kernel
theorem dJxe99ae_isNaN_b9ae7_0 : decode cJxe99ae_isNaN_b9ae7 0 = .ok (.dload_n 0, 1) := by decide +kernel
theorem dJxe99ae_isNaN_b9ae7_1 : decode cJxe99ae_isNaN_b9ae7 1 = .ok (.dload_n 0, 1) := by decide +kernel
theorem dJxe99ae_isNaN_b9ae7_2 : decode cJxe99ae_isNaN_b9ae7 2 = .ok (.dcmp .l, 1) := by decide +kernel
theorem dJxe99ae_isNaN_b9ae7_3 : decode cJxe99ae_isNaN_b9ae7 3 = .ok (.ifCond .eq 7, 3) := by decide +kernel
theorem dJxe99ae_isNaN_b9ae7_6 : decode cJxe99ae_isNaN_b9ae7 6 = .ok (.iconst 1, 1) := by decide +kernel
theorem dJxe99ae_isNaN_b9ae7_7 : decode cJxe99ae_isNaN_b9ae7 7 = .ok (.goto 4, 3) := by decide +kernel
theorem dJxe99ae_isNaN_b9ae7_10 : decode cJxe99ae_isNaN_b9ae7 10 = .ok (.iconst 0, 1) := by decide +kernel
theorem dJxe99ae_isNaN_b9ae7_11 : decode cJxe99ae_isNaN_b9ae7 11 = .ok (.ireturn, 1) := by decide +kernel
theorem dJxe99ae_doubleToLongBits_ccdee_0 : decode cJxe99ae_doubleToLongBits_ccdee 0 = .ok (.dload_n 0, 1) := by decide +kernel
theorem dJxe99ae_doubleToLongBits_ccdee_1 : decode cJxe99ae_doubleToLongBits_ccdee 1 = .ok (.invokestatic 122, 3) := by decide +kernel
theorem dJxe99ae_doubleToLongBits_ccdee_4 : decode cJxe99ae_doubleToLongBits_ccdee 4 = .ok (.ifCond .ne 8, 3) := by decide +kernel
theorem dJxe99ae_doubleToLongBits_ccdee_7 : decode cJxe99ae_doubleToLongBits_ccdee 7 = .ok (.dload_n 0, 1) := by decide +kernel
theorem dJxe99ae_doubleToLongBits_ccdee_8 : decode cJxe99ae_doubleToLongBits_ccdee 8 = .ok (.invokestatic 134, 3) := by decide +kernel
theorem dJxe99ae_doubleToLongBits_ccdee_11 : decode cJxe99ae_doubleToLongBits_ccdee 11 = .ok (.lreturn, 1) := by decide +kernel
theorem dJxe99ae_doubleToLongBits_ccdee_12 : decode cJxe99ae_doubleToLongBits_ccdee 12 = .ok (.ldc2_w 137, 3) := by decide +kernel
theorem dJxe99ae_doubleToLongBits_ccdee_15 : decode cJxe99ae_doubleToLongBits_ccdee 15 = .ok (.lreturn, 1) := by decide +kernel
theorem dJxf58ca_isNaN_12338_0 : decode cJxf58ca_isNaN_12338 0 = .ok (.fload_n 0, 1) := by decide +kernel
theorem dJxf58ca_isNaN_12338_1 : decode cJxf58ca_isNaN_12338 1 = .ok (.fload_n 0, 1) := by decide +kernel
theorem dJxf58ca_isNaN_12338_2 : decode cJxf58ca_isNaN_12338 2 = .ok (.fcmp .l, 1) := by decide +kernel
theorem dJxf58ca_isNaN_12338_3 : decode cJxf58ca_isNaN_12338 3 = .ok (.ifCond .eq 7, 3) := by decide +kernel
theorem dJxf58ca_isNaN_12338_6 : decode cJxf58ca_isNaN_12338 6 = .ok (.iconst 1, 1) := by decide +kernel
theorem dJxf58ca_isNaN_12338_7 : decode cJxf58ca_isNaN_12338 7 = .ok (.goto 4, 3) := by decide +kernel
theorem dJxf58ca_isNaN_12338_10 : decode cJxf58ca_isNaN_12338 10 = .ok (.iconst 0, 1) := by decide +kernel
theorem dJxf58ca_isNaN_12338_11 : decode cJxf58ca_isNaN_12338 11 = .ok (.ireturn, 1) := by decide +kernel
theorem dJxf58ca_floatToIntBits_5c35a_0 : decode cJxf58ca_floatToIntBits_5c35a 0 = .ok (.fload_n 0, 1) := by decide +kernel
theorem dJxf58ca_floatToIntBits_5c35a_1 : decode cJxf58ca_floatToIntBits_5c35a 1 = .ok (.invokestatic 59, 3) := by decide +kernel
theorem dJxf58ca_floatToIntBits_5c35a_4 : decode cJxf58ca_floatToIntBits_5c35a 4 = .ok (.ifCond .ne 8, 3) := by decide +kernel
theorem dJxf58ca_floatToIntBits_5c35a_7 : decode cJxf58ca_floatToIntBits_5c35a 7 = .ok (.fload_n 0, 1) := by decide +kernel
theorem dJxf58ca_floatToIntBits_5c35a_8 : decode cJxf58ca_floatToIntBits_5c35a 8 = .ok (.invokestatic 74, 3) := by decide +kernel
theorem dJxf58ca_floatToIntBits_5c35a_11 : decode cJxf58ca_floatToIntBits_5c35a 11 = .ok (.ireturn, 1) := by decide +kernel
theorem dJxf58ca_floatToIntBits_5c35a_12 : decode cJxf58ca_floatToIntBits_5c35a 12 = .ok (.ldc 77, 2) := by decide +kernel
theorem dJxf58ca_floatToIntBits_5c35a_14 : decode cJxf58ca_floatToIntBits_5c35a 14 = .ok (.ireturn, 1) := by decide +kernel
theorem dJ9_floorMod_7cf53_0 : decode cJ9_floorMod_7cf53 0 = .ok (.iload_n 0, 1) := by decide +kernel
theorem dJ9_floorMod_7cf53_1 : decode cJ9_floorMod_7cf53 1 = .ok (.iload_n 1, 1) := by decide +kernel
theorem dJ9_floorMod_7cf53_2 : decode cJ9_floorMod_7cf53 2 = .ok (.irem, 1) := by decide +kernel
theorem dJ9_floorMod_7cf53_3 : decode cJ9_floorMod_7cf53 3 = .ok (.istore_n 2, 1) := by decide +kernel
theorem dJ9_floorMod_7cf53_4 : decode cJ9_floorMod_7cf53 4 = .ok (.iload_n 0, 1) := by decide +kernel
theorem dJ9_floorMod_7cf53_5 : decode cJ9_floorMod_7cf53 5 = .ok (.iload_n 1, 1) := by decide +kernel
theorem dJ9_floorMod_7cf53_6 : decode cJ9_floorMod_7cf53 6 = .ok (.ixor, 1) := by decide +kernel
theorem dJ9_floorMod_7cf53_7 : decode cJ9_floorMod_7cf53 7 = .ok (.ifCond .ge 11, 3) := by decide +kernel
theorem dJ9_floorMod_7cf53_10 : decode cJ9_floorMod_7cf53 10 = .ok (.iload_n 2, 1) := by decide +kernel
theorem dJ9_floorMod_7cf53_11 : decode cJ9_floorMod_7cf53 11 = .ok (.ifCond .eq 7, 3) := by decide +kernel
theorem dJ9_floorMod_7cf53_14 : decode cJ9_floorMod_7cf53 14 = .ok (.iload_n 2, 1) := by decide +kernel
theorem dJ9_floorMod_7cf53_15 : decode cJ9_floorMod_7cf53 15 = .ok (.iload_n 1, 1) := by decide +kernel
theorem dJ9_floorMod_7cf53_16 : decode cJ9_floorMod_7cf53 16 = .ok (.iadd, 1) := by decide +kernel
theorem dJ9_floorMod_7cf53_17 : decode cJ9_floorMod_7cf53 17 = .ok (.ireturn, 1) := by decide +kernel
theorem dJ9_floorMod_7cf53_18 : decode cJ9_floorMod_7cf53 18 = .ok (.iload_n 2, 1) := by decide +kernel
theorem dJ9_floorMod_7cf53_19 : decode cJ9_floorMod_7cf53 19 = .ok (.ireturn, 1) := by decide +kernel
theorem dJ9_abs_067f4_0 : decode cJ9_abs_067f4 0 = .ok (.lload_n 0, 1) := by decide +kernel
theorem dJ9_abs_067f4_1 : decode cJ9_abs_067f4 1 = .ok (.lconst 0, 1) := by decide +kernel
theorem dJ9_abs_067f4_2 : decode cJ9_abs_067f4 2 = .ok (.lcmp, 1) := by decide +kernel
theorem dJ9_abs_067f4_3 : decode cJ9_abs_067f4 3 = .ok (.ifCond .ge 8, 3) := by decide +kernel
theorem dJ9_abs_067f4_6 : decode cJ9_abs_067f4 6 = .ok (.lload_n 0, 1) := by decide +kernel
theorem dJ9_abs_067f4_7 : decode cJ9_abs_067f4 7 = .ok (.lneg, 1) := by decide +kernel
theorem dJ9_abs_067f4_8 : decode cJ9_abs_067f4 8 = .ok (.goto 4, 3) := by decide +kernel
theorem dJ9_abs_067f4_11 : decode cJ9_abs_067f4 11 = .ok (.lload_n 0, 1) := by decide +kernel
theorem dJ9_abs_067f4_12 : decode cJ9_abs_067f4 12 = .ok (.lreturn, 1) := by decide +kernel
theorem dJ9_max_7cf53_0 : decode cJ9_max_7cf53 0 = .ok (.iload_n 0, 1) := by decide +kernel
theorem dJ9_max_7cf53_1 : decode cJ9_max_7cf53 1 = .ok (.iload_n 1, 1) := by decide +kernel
theorem dJ9_max_7cf53_2 : decode cJ9_max_7cf53 2 = .ok (.if_icmp .lt 7, 3) := by decide +kernel
theorem dJ9_max_7cf53_5 : decode cJ9_max_7cf53 5 = .ok (.iload_n 0, 1) := by decide +kernel
theorem dJ9_max_7cf53_6 : decode cJ9_max_7cf53 6 = .ok (.goto 4, 3) := by decide +kernel
theorem dJ9_max_7cf53_9 : decode cJ9_max_7cf53 9 = .ok (.iload_n 1, 1) := by decide +kernel
theorem dJ9_max_7cf53_10 : decode cJ9_max_7cf53 10 = .ok (.ireturn, 1) := by decide +kernel
theorem dJ9_min_7cf53_0 : decode cJ9_min_7cf53 0 = .ok (.iload_n 0, 1) := by decide +kernel
theorem dJ9_min_7cf53_1 : decode cJ9_min_7cf53 1 = .ok (.iload_n 1, 1) := by decide +kernel
theorem dJ9_min_7cf53_2 : decode cJ9_min_7cf53 2 = .ok (.if_icmp .gt 7, 3) := by decide +kernel
theorem dJ9_min_7cf53_5 : decode cJ9_min_7cf53 5 = .ok (.iload_n 0, 1) := by decide +kernel
theorem dJ9_min_7cf53_6 : decode cJ9_min_7cf53 6 = .ok (.goto 4, 3) := by decide +kernel
theorem dJ9_min_7cf53_9 : decode cJ9_min_7cf53 9 = .ok (.iload_n 1, 1) := by decide +kernel
theorem dJ9_min_7cf53_10 : decode cJ9_min_7cf53 10 = .ok (.ireturn, 1) := by decide +kernel
theorem dL_law_0 : decode cL_law 0 = .ok (.new 7, 3) := by decide +kernel
theorem dL_law_3 : decode cL_law 3 = .ok (.dup, 1) := by decide +kernel
theorem dL_law_4 : decode cL_law 4 = .ok (.invokespecial 9, 3) := by decide +kernel
theorem dL_law_7 : decode cL_law 7 = .ok (.astore_n 1, 1) := by decide +kernel
theorem dL_law_8 : decode cL_law 8 = .ok (.new 10, 3) := by decide +kernel
theorem dL_law_11 : decode cL_law 11 = .ok (.dup, 1) := by decide +kernel
theorem dL_law_12 : decode cL_law 12 = .ok (.invokespecial 12, 3) := by decide +kernel
theorem dL_law_15 : decode cL_law 15 = .ok (.astore_n 2, 1) := by decide +kernel
theorem dL_law_16 : decode cL_law 16 = .ok (.iconst 0, 1) := by decide +kernel
theorem dL_law_17 : decode cL_law 17 = .ok (.istore_n 3, 1) := by decide +kernel
theorem dL_law_18 : decode cL_law 18 = .ok (.iload_n 3, 1) := by decide +kernel
theorem dL_law_19 : decode cL_law 19 = .ok (.aload_n 0, 1) := by decide +kernel
theorem dL_law_20 : decode cL_law 20 = .ok (.arraylength, 1) := by decide +kernel
theorem dL_law_21 : decode cL_law 21 = .ok (.iconst 5, 1) := by decide +kernel
theorem dL_law_22 : decode cL_law 22 = .ok (.isub, 1) := by decide +kernel
theorem dL_law_23 : decode cL_law 23 = .ok (.if_icmp .gt 345, 3) := by decide +kernel
theorem dL_law_26 : decode cL_law 26 = .ok (.aload_n 0, 1) := by decide +kernel
theorem dL_law_27 : decode cL_law 27 = .ok (.iload_n 3, 1) := by decide +kernel
theorem dL_law_28 : decode cL_law 28 = .ok (.iaload, 1) := by decide +kernel
theorem dL_law_29 : decode cL_law 29 = .ok (.bipush 15, 2) := by decide +kernel
theorem dL_law_31 : decode cL_law 31 = .ok (.iand, 1) := by decide +kernel
theorem dL_law_32 : decode cL_law 32 = .ok (.tableswitch 330 0 8 #[52, 105, 128, 181, 204, 217, 250, 284, 307], 52) := by decide +kernel
theorem dL_law_84 : decode cL_law 84 = .ok (.aload_n 1, 1) := by decide +kernel
theorem dL_law_85 : decode cL_law 85 = .ok (.aload_n 0, 1) := by decide +kernel
theorem dL_law_86 : decode cL_law 86 = .ok (.iload_n 3, 1) := by decide +kernel
theorem dL_law_87 : decode cL_law 87 = .ok (.iconst 1, 1) := by decide +kernel
theorem dL_law_88 : decode cL_law 88 = .ok (.iadd, 1) := by decide +kernel
theorem dL_law_89 : decode cL_law 89 = .ok (.iaload, 1) := by decide +kernel
theorem dL_law_90 : decode cL_law 90 = .ok (.aload_n 0, 1) := by decide +kernel
theorem dL_law_91 : decode cL_law 91 = .ok (.iload_n 3, 1) := by decide +kernel
theorem dL_law_92 : decode cL_law 92 = .ok (.iconst 2, 1) := by decide +kernel
theorem dL_law_93 : decode cL_law 93 = .ok (.iadd, 1) := by decide +kernel
theorem dL_law_94 : decode cL_law 94 = .ok (.iaload, 1) := by decide +kernel
theorem dL_law_95 : decode cL_law 95 = .ok (.aload_n 0, 1) := by decide +kernel
theorem dL_law_96 : decode cL_law 96 = .ok (.iload_n 3, 1) := by decide +kernel
theorem dL_law_97 : decode cL_law 97 = .ok (.iconst 3, 1) := by decide +kernel
theorem dL_law_98 : decode cL_law 98 = .ok (.iadd, 1) := by decide +kernel
theorem dL_law_99 : decode cL_law 99 = .ok (.iaload, 1) := by decide +kernel
theorem dL_law_100 : decode cL_law 100 = .ok (.aload_n 0, 1) := by decide +kernel
theorem dL_law_101 : decode cL_law 101 = .ok (.iload_n 3, 1) := by decide +kernel
theorem dL_law_102 : decode cL_law 102 = .ok (.iconst 4, 1) := by decide +kernel
theorem dL_law_103 : decode cL_law 103 = .ok (.iadd, 1) := by decide +kernel
theorem dL_law_104 : decode cL_law 104 = .ok (.iaload, 1) := by decide +kernel
theorem dL_law_105 : decode cL_law 105 = .ok (.invokevirtual 13, 3) := by decide +kernel
theorem dL_law_108 : decode cL_law 108 = .ok (.aload_n 2, 1) := by decide +kernel
theorem dL_law_109 : decode cL_law 109 = .ok (.aload_n 0, 1) := by decide +kernel
theorem dL_law_110 : decode cL_law 110 = .ok (.iload_n 3, 1) := by decide +kernel
theorem dL_law_111 : decode cL_law 111 = .ok (.iconst 1, 1) := by decide +kernel
theorem dL_law_112 : decode cL_law 112 = .ok (.iadd, 1) := by decide +kernel
theorem dL_law_113 : decode cL_law 113 = .ok (.iaload, 1) := by decide +kernel
theorem dL_law_114 : decode cL_law 114 = .ok (.aload_n 0, 1) := by decide +kernel
theorem dL_law_115 : decode cL_law 115 = .ok (.iload_n 3, 1) := by decide +kernel
theorem dL_law_116 : decode cL_law 116 = .ok (.iconst 2, 1) := by decide +kernel
theorem dL_law_117 : decode cL_law 117 = .ok (.iadd, 1) := by decide +kernel
theorem dL_law_118 : decode cL_law 118 = .ok (.iaload, 1) := by decide +kernel
theorem dL_law_119 : decode cL_law 119 = .ok (.aload_n 0, 1) := by decide +kernel
theorem dL_law_120 : decode cL_law 120 = .ok (.iload_n 3, 1) := by decide +kernel
theorem dL_law_121 : decode cL_law 121 = .ok (.iconst 3, 1) := by decide +kernel
theorem dL_law_122 : decode cL_law 122 = .ok (.iadd, 1) := by decide +kernel
theorem dL_law_123 : decode cL_law 123 = .ok (.iaload, 1) := by decide +kernel
theorem dL_law_124 : decode cL_law 124 = .ok (.aload_n 0, 1) := by decide +kernel
theorem dL_law_125 : decode cL_law 125 = .ok (.iload_n 3, 1) := by decide +kernel
theorem dL_law_126 : decode cL_law 126 = .ok (.iconst 4, 1) := by decide +kernel
theorem dL_law_127 : decode cL_law 127 = .ok (.iadd, 1) := by decide +kernel
theorem dL_law_128 : decode cL_law 128 = .ok (.iaload, 1) := by decide +kernel
theorem dL_law_129 : decode cL_law 129 = .ok (.invokevirtual 17, 3) := by decide +kernel
theorem dL_law_132 : decode cL_law 132 = .ok (.if_icmp .eq 230, 3) := by decide +kernel
theorem dL_law_135 : decode cL_law 135 = .ok (.iconst 0, 1) := by decide +kernel
theorem dL_law_136 : decode cL_law 136 = .ok (.ireturn, 1) := by decide +kernel
theorem dL_law_137 : decode cL_law 137 = .ok (.aload_n 1, 1) := by decide +kernel
theorem dL_law_138 : decode cL_law 138 = .ok (.aload_n 0, 1) := by decide +kernel
theorem dL_law_139 : decode cL_law 139 = .ok (.iload_n 3, 1) := by decide +kernel
theorem dL_law_140 : decode cL_law 140 = .ok (.iconst 1, 1) := by decide +kernel
theorem dL_law_141 : decode cL_law 141 = .ok (.iadd, 1) := by decide +kernel
theorem dL_law_142 : decode cL_law 142 = .ok (.iaload, 1) := by decide +kernel
theorem dL_law_143 : decode cL_law 143 = .ok (.invokevirtual 18, 3) := by decide +kernel
theorem dL_law_146 : decode cL_law 146 = .ok (.aload_n 2, 1) := by decide +kernel
theorem dL_law_147 : decode cL_law 147 = .ok (.aload_n 0, 1) := by decide +kernel
theorem dL_law_148 : decode cL_law 148 = .ok (.iload_n 3, 1) := by decide +kernel
theorem dL_law_149 : decode cL_law 149 = .ok (.iconst 1, 1) := by decide +kernel
theorem dL_law_150 : decode cL_law 150 = .ok (.iadd, 1) := by decide +kernel
theorem dL_law_151 : decode cL_law 151 = .ok (.iaload, 1) := by decide +kernel
theorem dL_law_152 : decode cL_law 152 = .ok (.invokevirtual 22, 3) := by decide +kernel
theorem dL_law_155 : decode cL_law 155 = .ok (.if_icmp .eq 207, 3) := by decide +kernel
theorem dL_law_158 : decode cL_law 158 = .ok (.iconst 0, 1) := by decide +kernel
theorem dL_law_159 : decode cL_law 159 = .ok (.ireturn, 1) := by decide +kernel
theorem dL_law_160 : decode cL_law 160 = .ok (.aload_n 1, 1) := by decide +kernel
theorem dL_law_161 : decode cL_law 161 = .ok (.aload_n 0, 1) := by decide +kernel
theorem dL_law_162 : decode cL_law 162 = .ok (.iload_n 3, 1) := by decide +kernel
theorem dL_law_163 : decode cL_law 163 = .ok (.iconst 1, 1) := by decide +kernel
theorem dL_law_164 : decode cL_law 164 = .ok (.iadd, 1) := by decide +kernel
theorem dL_law_165 : decode cL_law 165 = .ok (.iaload, 1) := by decide +kernel
theorem dL_law_166 : decode cL_law 166 = .ok (.aload_n 0, 1) := by decide +kernel
theorem dL_law_167 : decode cL_law 167 = .ok (.iload_n 3, 1) := by decide +kernel
theorem dL_law_168 : decode cL_law 168 = .ok (.iconst 2, 1) := by decide +kernel
theorem dL_law_169 : decode cL_law 169 = .ok (.iadd, 1) := by decide +kernel
theorem dL_law_170 : decode cL_law 170 = .ok (.iaload, 1) := by decide +kernel
theorem dL_law_171 : decode cL_law 171 = .ok (.aload_n 0, 1) := by decide +kernel
theorem dL_law_172 : decode cL_law 172 = .ok (.iload_n 3, 1) := by decide +kernel
theorem dL_law_173 : decode cL_law 173 = .ok (.iconst 3, 1) := by decide +kernel
theorem dL_law_174 : decode cL_law 174 = .ok (.iadd, 1) := by decide +kernel
theorem dL_law_175 : decode cL_law 175 = .ok (.iaload, 1) := by decide +kernel
theorem dL_law_176 : decode cL_law 176 = .ok (.aload_n 0, 1) := by decide +kernel
theorem dL_law_177 : decode cL_law 177 = .ok (.iload_n 3, 1) := by decide +kernel
theorem dL_law_178 : decode cL_law 178 = .ok (.iconst 4, 1) := by decide +kernel
theorem dL_law_179 : decode cL_law 179 = .ok (.iadd, 1) := by decide +kernel
theorem dL_law_180 : decode cL_law 180 = .ok (.iaload, 1) := by decide +kernel
theorem dL_law_181 : decode cL_law 181 = .ok (.invokevirtual 23, 3) := by decide +kernel
theorem dL_law_184 : decode cL_law 184 = .ok (.aload_n 2, 1) := by decide +kernel
theorem dL_law_185 : decode cL_law 185 = .ok (.aload_n 0, 1) := by decide +kernel
theorem dL_law_186 : decode cL_law 186 = .ok (.iload_n 3, 1) := by decide +kernel
theorem dL_law_187 : decode cL_law 187 = .ok (.iconst 1, 1) := by decide +kernel
theorem dL_law_188 : decode cL_law 188 = .ok (.iadd, 1) := by decide +kernel
theorem dL_law_189 : decode cL_law 189 = .ok (.iaload, 1) := by decide +kernel
theorem dL_law_190 : decode cL_law 190 = .ok (.aload_n 0, 1) := by decide +kernel
theorem dL_law_191 : decode cL_law 191 = .ok (.iload_n 3, 1) := by decide +kernel
theorem dL_law_192 : decode cL_law 192 = .ok (.iconst 2, 1) := by decide +kernel
theorem dL_law_193 : decode cL_law 193 = .ok (.iadd, 1) := by decide +kernel
theorem dL_law_194 : decode cL_law 194 = .ok (.iaload, 1) := by decide +kernel
theorem dL_law_195 : decode cL_law 195 = .ok (.aload_n 0, 1) := by decide +kernel
theorem dL_law_196 : decode cL_law 196 = .ok (.iload_n 3, 1) := by decide +kernel
theorem dL_law_197 : decode cL_law 197 = .ok (.iconst 3, 1) := by decide +kernel
theorem dL_law_198 : decode cL_law 198 = .ok (.iadd, 1) := by decide +kernel
theorem dL_law_199 : decode cL_law 199 = .ok (.iaload, 1) := by decide +kernel
theorem dL_law_200 : decode cL_law 200 = .ok (.aload_n 0, 1) := by decide +kernel
theorem dL_law_201 : decode cL_law 201 = .ok (.iload_n 3, 1) := by decide +kernel
theorem dL_law_202 : decode cL_law 202 = .ok (.iconst 4, 1) := by decide +kernel
theorem dL_law_203 : decode cL_law 203 = .ok (.iadd, 1) := by decide +kernel
theorem dL_law_204 : decode cL_law 204 = .ok (.iaload, 1) := by decide +kernel
theorem dL_law_205 : decode cL_law 205 = .ok (.invokevirtual 26, 3) := by decide +kernel
theorem dL_law_208 : decode cL_law 208 = .ok (.if_icmp .eq 154, 3) := by decide +kernel
theorem dL_law_211 : decode cL_law 211 = .ok (.iconst 0, 1) := by decide +kernel
theorem dL_law_212 : decode cL_law 212 = .ok (.ireturn, 1) := by decide +kernel
theorem dL_law_213 : decode cL_law 213 = .ok (.aload_n 1, 1) := by decide +kernel
theorem dL_law_214 : decode cL_law 214 = .ok (.aload_n 0, 1) := by decide +kernel
theorem dL_law_215 : decode cL_law 215 = .ok (.iload_n 3, 1) := by decide +kernel
theorem dL_law_216 : decode cL_law 216 = .ok (.iconst 1, 1) := by decide +kernel
theorem dL_law_217 : decode cL_law 217 = .ok (.iadd, 1) := by decide +kernel
theorem dL_law_218 : decode cL_law 218 = .ok (.iaload, 1) := by decide +kernel
theorem dL_law_219 : decode cL_law 219 = .ok (.invokevirtual 27, 3) := by decide +kernel
theorem dL_law_222 : decode cL_law 222 = .ok (.aload_n 2, 1) := by decide +kernel
theorem dL_law_223 : decode cL_law 223 = .ok (.aload_n 0, 1) := by decide +kernel
theorem dL_law_224 : decode cL_law 224 = .ok (.iload_n 3, 1) := by decide +kernel
theorem dL_law_225 : decode cL_law 225 = .ok (.iconst 1, 1) := by decide +kernel
theorem dL_law_226 : decode cL_law 226 = .ok (.iadd, 1) := by decide +kernel
theorem dL_law_227 : decode cL_law 227 = .ok (.iaload, 1) := by decide +kernel
theorem dL_law_228 : decode cL_law 228 = .ok (.invokevirtual 31, 3) := by decide +kernel
theorem dL_law_231 : decode cL_law 231 = .ok (.if_icmp .eq 131, 3) := by decide +kernel
theorem dL_law_234 : decode cL_law 234 = .ok (.iconst 0, 1) := by decide +kernel
theorem dL_law_235 : decode cL_law 235 = .ok (.ireturn, 1) := by decide +kernel
theorem dL_law_236 : decode cL_law 236 = .ok (.aload_n 1, 1) := by decide +kernel
theorem dL_law_237 : decode cL_law 237 = .ok (.invokevirtual 32, 3) := by decide +kernel
theorem dL_law_240 : decode cL_law 240 = .ok (.aload_n 2, 1) := by decide +kernel
theorem dL_law_241 : decode cL_law 241 = .ok (.invokevirtual 36, 3) := by decide +kernel
theorem dL_law_244 : decode cL_law 244 = .ok (.if_icmp .eq 118, 3) := by decide +kernel
theorem dL_law_247 : decode cL_law 247 = .ok (.iconst 0, 1) := by decide +kernel
theorem dL_law_248 : decode cL_law 248 = .ok (.ireturn, 1) := by decide +kernel
theorem dL_law_249 : decode cL_law 249 = .ok (.aload_n 1, 1) := by decide +kernel
theorem dL_law_250 : decode cL_law 250 = .ok (.aload_n 0, 1) := by decide +kernel
theorem dL_law_251 : decode cL_law 251 = .ok (.iload_n 3, 1) := by decide +kernel
theorem dL_law_252 : decode cL_law 252 = .ok (.iconst 1, 1) := by decide +kernel
theorem dL_law_253 : decode cL_law 253 = .ok (.iadd, 1) := by decide +kernel
theorem dL_law_254 : decode cL_law 254 = .ok (.iaload, 1) := by decide +kernel
theorem dL_law_255 : decode cL_law 255 = .ok (.aload_n 0, 1) := by decide +kernel
theorem dL_law_256 : decode cL_law 256 = .ok (.iload_n 3, 1) := by decide +kernel
theorem dL_law_257 : decode cL_law 257 = .ok (.iconst 2, 1) := by decide +kernel
theorem dL_law_258 : decode cL_law 258 = .ok (.iadd, 1) := by decide +kernel
theorem dL_law_259 : decode cL_law 259 = .ok (.iaload, 1) := by decide +kernel
theorem dL_law_260 : decode cL_law 260 = .ok (.invokevirtual 37, 3) := by decide +kernel
theorem dL_law_263 : decode cL_law 263 = .ok (.aload_n 2, 1) := by decide +kernel
theorem dL_law_264 : decode cL_law 264 = .ok (.aload_n 0, 1) := by decide +kernel
theorem dL_law_265 : decode cL_law 265 = .ok (.iload_n 3, 1) := by decide +kernel
theorem dL_law_266 : decode cL_law 266 = .ok (.iconst 1, 1) := by decide +kernel
theorem dL_law_267 : decode cL_law 267 = .ok (.iadd, 1) := by decide +kernel
theorem dL_law_268 : decode cL_law 268 = .ok (.iaload, 1) := by decide +kernel
theorem dL_law_269 : decode cL_law 269 = .ok (.aload_n 0, 1) := by decide +kernel
theorem dL_law_270 : decode cL_law 270 = .ok (.iload_n 3, 1) := by decide +kernel
theorem dL_law_271 : decode cL_law 271 = .ok (.iconst 2, 1) := by decide +kernel
theorem dL_law_272 : decode cL_law 272 = .ok (.iadd, 1) := by decide +kernel
theorem dL_law_273 : decode cL_law 273 = .ok (.iaload, 1) := by decide +kernel
theorem dL_law_274 : decode cL_law 274 = .ok (.invokevirtual 41, 3) := by decide +kernel
theorem dL_law_277 : decode cL_law 277 = .ok (.if_icmp .eq 85, 3) := by decide +kernel
theorem dL_law_280 : decode cL_law 280 = .ok (.iconst 0, 1) := by decide +kernel
theorem dL_law_281 : decode cL_law 281 = .ok (.ireturn, 1) := by decide +kernel
theorem dL_law_282 : decode cL_law 282 = .ok (.aload_n 1, 1) := by decide +kernel
theorem dL_law_283 : decode cL_law 283 = .ok (.aload_n 0, 1) := by decide +kernel
theorem dL_law_284 : decode cL_law 284 = .ok (.iload_n 3, 1) := by decide +kernel
theorem dL_law_285 : decode cL_law 285 = .ok (.iconst 1, 1) := by decide +kernel
theorem dL_law_286 : decode cL_law 286 = .ok (.iadd, 1) := by decide +kernel
theorem dL_law_287 : decode cL_law 287 = .ok (.iaload, 1) := by decide +kernel
theorem dL_law_288 : decode cL_law 288 = .ok (.aload_n 0, 1) := by decide +kernel
theorem dL_law_289 : decode cL_law 289 = .ok (.iload_n 3, 1) := by decide +kernel
theorem dL_law_290 : decode cL_law 290 = .ok (.iconst 2, 1) := by decide +kernel
theorem dL_law_291 : decode cL_law 291 = .ok (.iadd, 1) := by decide +kernel
theorem dL_law_292 : decode cL_law 292 = .ok (.iaload, 1) := by decide +kernel
theorem dL_law_293 : decode cL_law 293 = .ok (.invokevirtual 42, 3) := by decide +kernel
theorem dL_law_296 : decode cL_law 296 = .ok (.aload_n 2, 1) := by decide +kernel
theorem dL_law_297 : decode cL_law 297 = .ok (.aload_n 0, 1) := by decide +kernel
theorem dL_law_298 : decode cL_law 298 = .ok (.iload_n 3, 1) := by decide +kernel
theorem dL_law_299 : decode cL_law 299 = .ok (.iconst 1, 1) := by decide +kernel
theorem dL_law_300 : decode cL_law 300 = .ok (.iadd, 1) := by decide +kernel
theorem dL_law_301 : decode cL_law 301 = .ok (.iaload, 1) := by decide +kernel
theorem dL_law_302 : decode cL_law 302 = .ok (.aload_n 0, 1) := by decide +kernel
theorem dL_law_303 : decode cL_law 303 = .ok (.iload_n 3, 1) := by decide +kernel
theorem dL_law_304 : decode cL_law 304 = .ok (.iconst 2, 1) := by decide +kernel
theorem dL_law_305 : decode cL_law 305 = .ok (.iadd, 1) := by decide +kernel
theorem dL_law_306 : decode cL_law 306 = .ok (.iaload, 1) := by decide +kernel
theorem dL_law_307 : decode cL_law 307 = .ok (.invokevirtual 46, 3) := by decide +kernel
theorem dL_law_310 : decode cL_law 310 = .ok (.lcmp, 1) := by decide +kernel
theorem dL_law_311 : decode cL_law 311 = .ok (.ifCond .eq 51, 3) := by decide +kernel
theorem dL_law_314 : decode cL_law 314 = .ok (.iconst 0, 1) := by decide +kernel
theorem dL_law_315 : decode cL_law 315 = .ok (.ireturn, 1) := by decide +kernel
theorem dL_law_316 : decode cL_law 316 = .ok (.aload_n 1, 1) := by decide +kernel
theorem dL_law_317 : decode cL_law 317 = .ok (.aload_n 0, 1) := by decide +kernel
theorem dL_law_318 : decode cL_law 318 = .ok (.iload_n 3, 1) := by decide +kernel
theorem dL_law_319 : decode cL_law 319 = .ok (.iconst 1, 1) := by decide +kernel
theorem dL_law_320 : decode cL_law 320 = .ok (.iadd, 1) := by decide +kernel
theorem dL_law_321 : decode cL_law 321 = .ok (.iaload, 1) := by decide +kernel
theorem dL_law_322 : decode cL_law 322 = .ok (.invokevirtual 47, 3) := by decide +kernel
theorem dL_law_325 : decode cL_law 325 = .ok (.aload_n 2, 1) := by decide +kernel
theorem dL_law_326 : decode cL_law 326 = .ok (.aload_n 0, 1) := by decide +kernel
theorem dL_law_327 : decode cL_law 327 = .ok (.iload_n 3, 1) := by decide +kernel
theorem dL_law_328 : decode cL_law 328 = .ok (.iconst 1, 1) := by decide +kernel
theorem dL_law_329 : decode cL_law 329 = .ok (.iadd, 1) := by decide +kernel
theorem dL_law_330 : decode cL_law 330 = .ok (.iaload, 1) := by decide +kernel
theorem dL_law_331 : decode cL_law 331 = .ok (.invokevirtual 50, 3) := by decide +kernel
theorem dL_law_334 : decode cL_law 334 = .ok (.if_icmp .eq 28, 3) := by decide +kernel
theorem dL_law_337 : decode cL_law 337 = .ok (.iconst 0, 1) := by decide +kernel
theorem dL_law_338 : decode cL_law 338 = .ok (.ireturn, 1) := by decide +kernel
theorem dL_law_339 : decode cL_law 339 = .ok (.aload_n 1, 1) := by decide +kernel
theorem dL_law_340 : decode cL_law 340 = .ok (.aload_n 0, 1) := by decide +kernel
theorem dL_law_341 : decode cL_law 341 = .ok (.iload_n 3, 1) := by decide +kernel
theorem dL_law_342 : decode cL_law 342 = .ok (.iconst 1, 1) := by decide +kernel
theorem dL_law_343 : decode cL_law 343 = .ok (.iadd, 1) := by decide +kernel
theorem dL_law_344 : decode cL_law 344 = .ok (.iaload, 1) := by decide +kernel
theorem dL_law_345 : decode cL_law 345 = .ok (.invokevirtual 51, 3) := by decide +kernel
theorem dL_law_348 : decode cL_law 348 = .ok (.aload_n 2, 1) := by decide +kernel
theorem dL_law_349 : decode cL_law 349 = .ok (.aload_n 0, 1) := by decide +kernel
theorem dL_law_350 : decode cL_law 350 = .ok (.iload_n 3, 1) := by decide +kernel
theorem dL_law_351 : decode cL_law 351 = .ok (.iconst 1, 1) := by decide +kernel
theorem dL_law_352 : decode cL_law 352 = .ok (.iadd, 1) := by decide +kernel
theorem dL_law_353 : decode cL_law 353 = .ok (.iaload, 1) := by decide +kernel
theorem dL_law_354 : decode cL_law 354 = .ok (.invokevirtual 54, 3) := by decide +kernel
theorem dL_law_357 : decode cL_law 357 = .ok (.if_icmp .eq 5, 3) := by decide +kernel
theorem dL_law_360 : decode cL_law 360 = .ok (.iconst 0, 1) := by decide +kernel
theorem dL_law_361 : decode cL_law 361 = .ok (.ireturn, 1) := by decide +kernel
theorem dL_law_362 : decode cL_law 362 = .ok (.iinc 3 5, 3) := by decide +kernel
theorem dL_law_365 : decode cL_law 365 = .ok (.goto (-347), 3) := by decide +kernel
theorem dL_law_368 : decode cL_law 368 = .ok (.iconst 1, 1) := by decide +kernel
theorem dL_law_369 : decode cL_law 369 = .ok (.ireturn, 1) := by decide +kernel
