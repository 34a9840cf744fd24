theorem dX9_order_24 : decode cX9_order 24 = .ok (.ireturn, 1) := by decide +kernel
theorem dX9_order_25 : decode cX9_order 25 = .ok (.aload_n 0, 1) := by decide +kernel
theorem dX9_order_26 : decode cX9_order 26 = .ok (.getfield 19, 3) := by decide +kernel
theorem dX9_order_29 : decode cX9_order 29 = .ok (.iload_n 1, 1) := by decide +kernel
theorem dX9_order_30 : decode cX9_order 30 = .ok (.iload_n 2, 1) := by decide +kernel
theorem dX9_order_31 : decode cX9_order 31 = .ok (.iload_n 3, 1) := by decide +kernel
theorem dX9_order_32 : decode cX9_order 32 = .ok (.iload 4, 2) := by decide +kernel
theorem dX9_order_34 : decode cX9_order 34 = .ok (.invokevirtual 45, 3) := by decide +kernel
theorem dX9_order_37 : decode cX9_order 37 = .ok (.ireturn, 1) := by decide +kernel
theorem dX9_cut_0 : decode cX9_cut 0 = .ok (.iload_n 1, 1) := by decide +kernel
theorem dX9_cut_1 : decode cX9_cut 1 = .ok (.ifCond .lt 14, 3) := by decide +kernel
theorem dX9_cut_4 : decode cX9_cut 4 = .ok (.iload_n 1, 1) := by decide +kernel
theorem dX9_cut_5 : decode cX9_cut 5 = .ok (.aload_n 0, 1) := by decide +kernel
theorem dX9_cut_6 : decode cX9_cut 6 = .ok (.getfield 19, 3) := by decide +kernel
theorem dX9_cut_9 : decode cX9_cut 9 = .ok (.getfield 42, 3) := by decide +kernel
theorem dX9_cut_12 : decode cX9_cut 12 = .ok (.if_icmp .le 5, 3) := by decide +kernel
theorem dX9_cut_15 : decode cX9_cut 15 = .ok (.iconst 0, 1) := by decide +kernel
theorem dX9_cut_16 : decode cX9_cut 16 = .ok (.ireturn, 1) := by decide +kernel
theorem dX9_cut_17 : decode cX9_cut 17 = .ok (.aload_n 0, 1) := by decide +kernel
theorem dX9_cut_18 : decode cX9_cut 18 = .ok (.getfield 19, 3) := by decide +kernel
theorem dX9_cut_21 : decode cX9_cut 21 = .ok (.iload_n 1, 1) := by decide +kernel
theorem dX9_cut_22 : decode cX9_cut 22 = .ok (.putfield 42, 3) := by decide +kernel
theorem dX9_cut_25 : decode cX9_cut 25 = .ok (.iconst 1, 1) := by decide +kernel
theorem dX9_cut_26 : decode cX9_cut 26 = .ok (.ireturn, 1) := by decide +kernel
theorem dX9_act_0 : decode cX9_act 0 = .ok (.iload_n 1, 1) := by decide +kernel
theorem dX9_act_1 : decode cX9_act 1 = .ok (.bipush 12, 2) := by decide +kernel
theorem dX9_act_3 : decode cX9_act 3 = .ok (.if_icmp .gt 14, 3) := by decide +kernel
theorem dX9_act_6 : decode cX9_act 6 = .ok (.iload_n 1, 1) := by decide +kernel
theorem dX9_act_7 : decode cX9_act 7 = .ok (.iload_n 2, 1) := by decide +kernel
theorem dX9_act_8 : decode cX9_act 8 = .ok (.iload_n 3, 1) := by decide +kernel
theorem dX9_act_9 : decode cX9_act 9 = .ok (.iload 4, 2) := by decide +kernel
theorem dX9_act_11 : decode cX9_act 11 = .ok (.invokestatic 38, 3) := by decide +kernel
theorem dX9_act_14 : decode cX9_act 14 = .ok (.ifCond .ne 5, 3) := by decide +kernel
theorem dX9_act_17 : decode cX9_act 17 = .ok (.iconst (-1), 1) := by decide +kernel
theorem dX9_act_18 : decode cX9_act 18 = .ok (.ireturn, 1) := by decide +kernel
theorem dX9_act_19 : decode cX9_act 19 = .ok (.aload_n 0, 1) := by decide +kernel
theorem dX9_act_20 : decode cX9_act 20 = .ok (.getfield 49, 3) := by decide +kernel
theorem dX9_act_23 : decode cX9_act 23 = .ok (.sipush 4000, 3) := by decide +kernel
theorem dX9_act_26 : decode cX9_act 26 = .ok (.if_icmp .lt 6, 3) := by decide +kernel
theorem dX9_act_29 : decode cX9_act 29 = .ok (.bipush 6, 2) := by decide +kernel
theorem dX9_act_31 : decode cX9_act 31 = .ok (.ireturn, 1) := by decide +kernel
theorem dX9_act_32 : decode cX9_act 32 = .ok (.aload_n 0, 1) := by decide +kernel
theorem dX9_act_33 : decode cX9_act 33 = .ok (.iload_n 1, 1) := by decide +kernel
theorem dX9_act_34 : decode cX9_act 34 = .ok (.iload_n 2, 1) := by decide +kernel
theorem dX9_act_35 : decode cX9_act 35 = .ok (.iload_n 3, 1) := by decide +kernel
theorem dX9_act_36 : decode cX9_act 36 = .ok (.iload 4, 2) := by decide +kernel
theorem dX9_act_38 : decode cX9_act 38 = .ok (.invokevirtual 52, 3) := by decide +kernel
theorem dX9_act_41 : decode cX9_act 41 = .ok (.ireturn, 1) := by decide +kernel
theorem dX9_run_0 : decode cX9_run 0 = .ok (.iload_n 1, 1) := by decide +kernel
theorem dX9_run_1 : decode cX9_run 1 = .ok (.ifCond .lt 10, 3) := by decide +kernel
theorem dX9_run_4 : decode cX9_run 4 = .ok (.iload_n 1, 1) := by decide +kernel
theorem dX9_run_5 : decode cX9_run 5 = .ok (.sipush 300, 3) := by decide +kernel
theorem dX9_run_8 : decode cX9_run 8 = .ok (.if_icmp .le 5, 3) := by decide +kernel
theorem dX9_run_11 : decode cX9_run 11 = .ok (.iconst (-1), 1) := by decide +kernel
theorem dX9_run_12 : decode cX9_run 12 = .ok (.ireturn, 1) := by decide +kernel
theorem dX9_run_13 : decode cX9_run 13 = .ok (.aload_n 0, 1) := by decide +kernel
theorem dX9_run_14 : decode cX9_run 14 = .ok (.getfield 19, 3) := by decide +kernel
theorem dX9_run_17 : decode cX9_run 17 = .ok (.invokevirtual 55, 3) := by decide +kernel
theorem dX9_run_20 : decode cX9_run 20 = .ok (.aload_n 0, 1) := by decide +kernel
theorem dX9_run_21 : decode cX9_run 21 = .ok (.iconst 0, 1) := by decide +kernel
theorem dX9_run_22 : decode cX9_run 22 = .ok (.putfield 58, 3) := by decide +kernel
theorem dX9_run_25 : decode cX9_run 25 = .ok (.aload_n 0, 1) := by decide +kernel
theorem dX9_run_26 : decode cX9_run 26 = .ok (.iconst (-1), 1) := by decide +kernel
theorem dX9_run_27 : decode cX9_run 27 = .ok (.putfield 34, 3) := by decide +kernel
theorem dX9_run_30 : decode cX9_run 30 = .ok (.iconst 0, 1) := by decide +kernel
theorem dX9_run_31 : decode cX9_run 31 = .ok (.istore_n 2, 1) := by decide +kernel
theorem dX9_run_32 : decode cX9_run 32 = .ok (.iconst 0, 1) := by decide +kernel
theorem dX9_run_33 : decode cX9_run 33 = .ok (.istore_n 3, 1) := by decide +kernel
theorem dX9_run_34 : decode cX9_run 34 = .ok (.iload_n 3, 1) := by decide +kernel
theorem dX9_run_35 : decode cX9_run 35 = .ok (.iload_n 1, 1) := by decide +kernel
theorem dX9_run_36 : decode cX9_run 36 = .ok (.if_icmp .gt 158, 3) := by decide +kernel
theorem dX9_run_39 : decode cX9_run 39 = .ok (.iload_n 2, 1) := by decide +kernel
theorem dX9_run_40 : decode cX9_run 40 = .ok (.aload_n 0, 1) := by decide +kernel
theorem dX9_run_41 : decode cX9_run 41 = .ok (.getfield 19, 3) := by decide +kernel
theorem dX9_run_44 : decode cX9_run 44 = .ok (.getfield 42, 3) := by decide +kernel
theorem dX9_run_47 : decode cX9_run 47 = .ok (.if_icmp .ge 147, 3) := by decide +kernel
theorem dX9_run_50 : decode cX9_run 50 = .ok (.aload_n 0, 1) := by decide +kernel
theorem dX9_run_51 : decode cX9_run 51 = .ok (.getfield 49, 3) := by decide +kernel
theorem dX9_run_54 : decode cX9_run 54 = .ok (.sipush 4000, 3) := by decide +kernel
theorem dX9_run_57 : decode cX9_run 57 = .ok (.if_icmp .lt 11, 3) := by decide +kernel
theorem dX9_run_60 : decode cX9_run 60 = .ok (.aload_n 0, 1) := by decide +kernel
theorem dX9_run_61 : decode cX9_run 61 = .ok (.iload_n 2, 1) := by decide +kernel
theorem dX9_run_62 : decode cX9_run 62 = .ok (.putfield 34, 3) := by decide +kernel
theorem dX9_run_65 : decode cX9_run 65 = .ok (.bipush 6, 2) := by decide +kernel
theorem dX9_run_67 : decode cX9_run 67 = .ok (.ireturn, 1) := by decide +kernel
theorem dX9_run_68 : decode cX9_run 68 = .ok (.iload_n 3, 1) := by decide +kernel
theorem dX9_run_69 : decode cX9_run 69 = .ok (.iload_n 1, 1) := by decide +kernel
theorem dX9_run_70 : decode cX9_run 70 = .ok (.if_icmp .ne 6, 3) := by decide +kernel
theorem dX9_run_73 : decode cX9_run 73 = .ok (.bipush 7, 2) := by decide +kernel
theorem dX9_run_75 : decode cX9_run 75 = .ok (.ireturn, 1) := by decide +kernel
theorem dX9_run_76 : decode cX9_run 76 = .ok (.aload_n 0, 1) := by decide +kernel
theorem dX9_run_77 : decode cX9_run 77 = .ok (.dup, 1) := by decide +kernel
theorem dX9_run_78 : decode cX9_run 78 = .ok (.getfield 58, 3) := by decide +kernel
theorem dX9_run_81 : decode cX9_run 81 = .ok (.iconst 1, 1) := by decide +kernel
theorem dX9_run_82 : decode cX9_run 82 = .ok (.iadd, 1) := by decide +kernel
theorem dX9_run_83 : decode cX9_run 83 = .ok (.putfield 58, 3) := by decide +kernel
theorem dX9_run_86 : decode cX9_run 86 = .ok (.aload_n 0, 1) := by decide +kernel
theorem dX9_run_87 : decode cX9_run 87 = .ok (.aload_n 0, 1) := by decide +kernel
theorem dX9_run_88 : decode cX9_run 88 = .ok (.getfield 19, 3) := by decide +kernel
theorem dX9_run_91 : decode cX9_run 91 = .ok (.getfield 61, 3) := by decide +kernel
theorem dX9_run_94 : decode cX9_run 94 = .ok (.iload_n 2, 1) := by decide +kernel
theorem dX9_run_95 : decode cX9_run 95 = .ok (.iaload, 1) := by decide +kernel
theorem dX9_run_96 : decode cX9_run 96 = .ok (.aload_n 0, 1) := by decide +kernel
theorem dX9_run_97 : decode cX9_run 97 = .ok (.getfield 19, 3) := by decide +kernel
theorem dX9_run_100 : decode cX9_run 100 = .ok (.getfield 65, 3) := by decide +kernel
theorem dX9_run_103 : decode cX9_run 103 = .ok (.iload_n 2, 1) := by decide +kernel
theorem dX9_run_104 : decode cX9_run 104 = .ok (.iaload, 1) := by decide +kernel
theorem dX9_run_105 : decode cX9_run 105 = .ok (.aload_n 0, 1) := by decide +kernel
theorem dX9_run_106 : decode cX9_run 106 = .ok (.getfield 19, 3) := by decide +kernel
theorem dX9_run_109 : decode cX9_run 109 = .ok (.getfield 68, 3) := by decide +kernel
theorem dX9_run_112 : decode cX9_run 112 = .ok (.iload_n 2, 1) := by decide +kernel
theorem dX9_run_113 : decode cX9_run 113 = .ok (.iaload, 1) := by decide +kernel
theorem dX9_run_114 : decode cX9_run 114 = .ok (.aload_n 0, 1) := by decide +kernel
theorem dX9_run_115 : decode cX9_run 115 = .ok (.getfield 19, 3) := by decide +kernel
theorem dX9_run_118 : decode cX9_run 118 = .ok (.getfield 71, 3) := by decide +kernel
theorem dX9_run_121 : decode cX9_run 121 = .ok (.iload_n 2, 1) := by decide +kernel
theorem dX9_run_122 : decode cX9_run 122 = .ok (.iaload, 1) := by decide +kernel
theorem dX9_run_123 : decode cX9_run 123 = .ok (.invokevirtual 52, 3) := by decide +kernel
theorem dX9_run_126 : decode cX9_run 126 = .ok (.istore 4, 2) := by decide +kernel
theorem dX9_run_128 : decode cX9_run 128 = .ok (.iload 4, 2) := by decide +kernel
theorem dX9_run_130 : decode cX9_run 130 = .ok (.ifCond .ne 14, 3) := by decide +kernel
theorem dX9_run_133 : decode cX9_run 133 = .ok (.aload_n 0, 1) := by decide +kernel
theorem dX9_run_134 : decode cX9_run 134 = .ok (.getfield 19, 3) := by decide +kernel
theorem dX9_run_137 : decode cX9_run 137 = .ok (.iload_n 2, 1) := by decide +kernel
theorem dX9_run_138 : decode cX9_run 138 = .ok (.invokevirtual 74, 3) := by decide +kernel
theorem dX9_run_141 : decode cX9_run 141 = .ok (.goto 13, 3) := by decide +kernel
theorem dX9_run_144 : decode cX9_run 144 = .ok (.aload_n 0, 1) := by decide +kernel
theorem dX9_run_145 : decode cX9_run 145 = .ok (.getfield 19, 3) := by decide +kernel
theorem dX9_run_148 : decode cX9_run 148 = .ok (.iload_n 2, 1) := by decide +kernel
theorem dX9_run_149 : decode cX9_run 149 = .ok (.iload 4, 2) := by decide +kernel
theorem dX9_run_151 : decode cX9_run 151 = .ok (.invokevirtual 78, 3) := by decide +kernel
theorem dX9_run_154 : decode cX9_run 154 = .ok (.istore 5, 2) := by decide +kernel
theorem dX9_run_156 : decode cX9_run 156 = .ok (.iload 5, 2) := by decide +kernel
theorem dX9_run_158 : decode cX9_run 158 = .ok (.iconst (-1), 1) := by decide +kernel
theorem dX9_run_159 : decode cX9_run 159 = .ok (.if_icmp .ne 11, 3) := by decide +kernel
theorem dX9_run_162 : decode cX9_run 162 = .ok (.aload_n 0, 1) := by decide +kernel
theorem dX9_run_163 : decode cX9_run 163 = .ok (.iload_n 2, 1) := by decide +kernel
theorem dX9_run_164 : decode cX9_run 164 = .ok (.putfield 34, 3) := by decide +kernel
theorem dX9_run_167 : decode cX9_run 167 = .ok (.iload 4, 2) := by decide +kernel
theorem dX9_run_169 : decode cX9_run 169 = .ok (.ireturn, 1) := by decide +kernel
theorem dX9_run_170 : decode cX9_run 170 = .ok (.iload 4, 2) := by decide +kernel
theorem dX9_run_172 : decode cX9_run 172 = .ok (.ifCond .eq 13, 3) := by decide +kernel
theorem dX9_run_175 : decode cX9_run 175 = .ok (.aload_n 0, 1) := by decide +kernel
theorem dX9_run_176 : decode cX9_run 176 = .ok (.dup, 1) := by decide +kernel
theorem dX9_run_177 : decode cX9_run 177 = .ok (.getfield 82, 3) := by decide +kernel
theorem dX9_run_180 : decode cX9_run 180 = .ok (.iconst 1, 1) := by decide +kernel
theorem dX9_run_181 : decode cX9_run 181 = .ok (.iadd, 1) := by decide +kernel
theorem dX9_run_182 : decode cX9_run 182 = .ok (.putfield 82, 3) := by decide +kernel
theorem dX9_run_185 : decode cX9_run 185 = .ok (.iload 5, 2) := by decide +kernel
theorem dX9_run_187 : decode cX9_run 187 = .ok (.istore_n 2, 1) := by decide +kernel
theorem dX9_run_188 : decode cX9_run 188 = .ok (.iinc 3 1, 3) := by decide +kernel
theorem dX9_run_191 : decode cX9_run 191 = .ok (.goto (-157), 3) := by decide +kernel
theorem dX9_run_194 : decode cX9_run 194 = .ok (.iconst 0, 1) := by decide +kernel
theorem dX9_run_195 : decode cX9_run 195 = .ok (.ireturn, 1) := by decide +kernel
theorem dX9_back_0 : decode cX9_back 0 = .ok (.aload_n 0, 1) := by decide +kernel
theorem dX9_back_1 : decode cX9_back 1 = .ok (.getfield 26, 3) := by decide +kernel
theorem dX9_back_4 : decode cX9_back 4 = .ok (.invokevirtual 85, 3) := by decide +kernel
theorem dX9_back_7 : decode cX9_back 7 = .ok (.ireturn, 1) := by decide +kernel
theorem dX9_look_0 : decode cX9_look 0 = .ok (.iload_n 1, 1) := by decide +kernel
theorem dX9_look_1 : decode cX9_look 1 = .ok (.invokestatic 89, 3) := by decide +kernel
theorem dX9_look_4 : decode cX9_look 4 = .ok (.ifCond .ne 5, 3) := by decide +kernel
theorem dX9_look_7 : decode cX9_look 7 = .ok (.iconst (-1), 1) := by decide +kernel
theorem dX9_look_8 : decode cX9_look 8 = .ok (.ireturn, 1) := by decide +kernel
theorem dX9_look_9 : decode cX9_look 9 = .ok (.aload_n 0, 1) := by decide +kernel
theorem dX9_look_10 : decode cX9_look 10 = .ok (.getfield 12, 3) := by decide +kernel
theorem dX9_look_13 : decode cX9_look 13 = .ok (.getfield 93, 3) := by decide +kernel
theorem dX9_look_16 : decode cX9_look 16 = .ok (.iload_n 1, 1) := by decide +kernel
theorem dX9_look_17 : decode cX9_look 17 = .ok (.aaload, 1) := by decide +kernel
theorem dX9_look_18 : decode cX9_look 18 = .ok (.astore_n 3, 1) := by decide +kernel
theorem dX9_look_19 : decode cX9_look 19 = .ok (.iload_n 2, 1) := by decide +kernel
theorem dX9_look_20 : decode cX9_look 20 = .ok (.tableswitch 77 0 3 #[32, 45, 58, 68], 32) := by decide +kernel
theorem dX9_look_52 : decode cX9_look 52 = .ok (.aload_n 3, 1) := by decide +kernel
theorem dX9_look_53 : decode cX9_look 53 = .ok (.ifnonnull 7, 3) := by decide +kernel
theorem dX9_look_56 : decode cX9_look 56 = .ok (.iconst (-1), 1) := by decide +kernel
theorem dX9_look_57 : decode cX9_look 57 = .ok (.goto 7, 3) := by decide +kernel
theorem dX9_look_60 : decode cX9_look 60 = .ok (.aload_n 3, 1) := by decide +kernel
theorem dX9_look_61 : decode cX9_look 61 = .ok (.invokevirtual 97, 3) := by decide +kernel
theorem dX9_look_64 : decode cX9_look 64 = .ok (.ireturn, 1) := by decide +kernel
theorem dX9_look_65 : decode cX9_look 65 = .ok (.aload_n 3, 1) := by decide +kernel
theorem dX9_look_66 : decode cX9_look 66 = .ok (.ifnonnull 7, 3) := by decide +kernel
theorem dX9_look_69 : decode cX9_look 69 = .ok (.iconst (-1), 1) := by decide +kernel
theorem dX9_look_70 : decode cX9_look 70 = .ok (.goto 7, 3) := by decide +kernel
theorem dX9_look_73 : decode cX9_look 73 = .ok (.aload_n 3, 1) := by decide +kernel
theorem dX9_look_74 : decode cX9_look 74 = .ok (.invokevirtual 103, 3) := by decide +kernel
theorem dX9_look_77 : decode cX9_look 77 = .ok (.ireturn, 1) := by decide +kernel
theorem dX9_look_78 : decode cX9_look 78 = .ok (.aload_n 0, 1) := by decide +kernel
theorem dX9_look_79 : decode cX9_look 79 = .ok (.getfield 12, 3) := by decide +kernel
theorem dX9_look_82 : decode cX9_look 82 = .ok (.getfield 106, 3) := by decide +kernel
theorem dX9_look_85 : decode cX9_look 85 = .ok (.iload_n 1, 1) := by decide +kernel
theorem dX9_look_86 : decode cX9_look 86 = .ok (.iaload, 1) := by decide +kernel
theorem dX9_look_87 : decode cX9_look 87 = .ok (.ireturn, 1) := by decide +kernel
theorem dX9_look_88 : decode cX9_look 88 = .ok (.aload_n 0, 1) := by decide +kernel
theorem dX9_look_89 : decode cX9_look 89 = .ok (.getfield 12, 3) := by decide +kernel
theorem dX9_look_92 : decode cX9_look 92 = .ok (.aload_n 3, 1) := by decide +kernel
theorem dX9_look_93 : decode cX9_look 93 = .ok (.invokevirtual 109, 3) := by decide +kernel
theorem dX9_look_96 : decode cX9_look 96 = .ok (.ireturn, 1) := by decide +kernel
theorem dX9_look_97 : decode cX9_look 97 = .ok (.iconst (-1), 1) := by decide +kernel
theorem dX9_look_98 : decode cX9_look 98 = .ok (.ireturn, 1) := by decide +kernel
theorem dX9_cell_0 : decode cX9_cell 0 = .ok (.iload_n 1, 1) := by decide +kernel
theorem dX9_cell_1 : decode cX9_cell 1 = .ok (.invokestatic 89, 3) := by decide +kernel
theorem dX9_cell_4 : decode cX9_cell 4 = .ok (.ifCond .eq 43, 3) := by decide +kernel
theorem dX9_cell_7 : decode cX9_cell 7 = .ok (.aload_n 0, 1) := by decide +kernel
theorem dX9_cell_8 : decode cX9_cell 8 = .ok (.getfield 12, 3) := by decide +kernel
theorem dX9_cell_11 : decode cX9_cell 11 = .ok (.getfield 93, 3) := by decide +kernel
theorem dX9_cell_14 : decode cX9_cell 14 = .ok (.iload_n 1, 1) := by decide +kernel
theorem dX9_cell_15 : decode cX9_cell 15 = .ok (.aaload, 1) := by decide +kernel
theorem dX9_cell_16 : decode cX9_cell 16 = .ok (.astore 4, 2) := by decide +kernel
theorem dX9_cell_18 : decode cX9_cell 18 = .ok (.aload 4, 2) := by decide +kernel
theorem dX9_cell_20 : decode cX9_cell 20 = .ok (.instanceof 113, 3) := by decide +kernel
theorem dX9_cell_23 : decode cX9_cell 23 = .ok (.ifCond .eq 24, 3) := by decide +kernel
theorem dX9_cell_26 : decode cX9_cell 26 = .ok (.aload 4, 2) := by decide +kernel
theorem dX9_cell_28 : decode cX9_cell 28 = .ok (.checkcast 113, 3) := by decide +kernel
theorem dX9_cell_31 : decode cX9_cell 31 = .ok (.astore_n 3, 1) := by decide +kernel
theorem dX9_cell_32 : decode cX9_cell 32 = .ok (.aload_n 3, 1) := by decide +kernel
theorem dX9_cell_33 : decode cX9_cell 33 = .ok (.iload_n 2, 1) := by decide +kernel
theorem dX9_cell_34 : decode cX9_cell 34 = .ok (.invokevirtual 115, 3) := by decide +kernel
theorem dX9_cell_37 : decode cX9_cell 37 = .ok (.ifCond .eq 10, 3) := by decide +kernel
theorem dX9_cell_40 : decode cX9_cell 40 = .ok (.aload_n 3, 1) := by decide +kernel
theorem dX9_cell_41 : decode cX9_cell 41 = .ok (.getfield 118, 3) := by decide +kernel
theorem dX9_cell_44 : decode cX9_cell 44 = .ok (.iload_n 2, 1) := by decide +kernel
theorem dX9_cell_45 : decode cX9_cell 45 = .ok (.laload, 1) := by decide +kernel
theorem dX9_cell_46 : decode cX9_cell 46 = .ok (.lreturn, 1) := by decide +kernel
theorem dX9_cell_47 : decode cX9_cell 47 = .ok (.lconst 0, 1) := by decide +kernel
theorem dX9_cell_48 : decode cX9_cell 48 = .ok (.lreturn, 1) := by decide +kernel
theorem dX9_sort_0 : decode cX9_sort 0 = .ok (.aload_n 0, 1) := by decide +kernel
theorem dX9_sort_1 : decode cX9_sort 1 = .ok (.getfield 12, 3) := by decide +kernel
theorem dX9_sort_4 : decode cX9_sort 4 = .ok (.getfield 121, 3) := by decide +kernel
theorem dX9_sort_7 : decode cX9_sort 7 = .ok (.iload_n 1, 1) := by decide +kernel
theorem dX9_sort_8 : decode cX9_sort 8 = .ok (.i2l, 1) := by decide +kernel
theorem dX9_sort_9 : decode cX9_sort 9 = .ok (.invokevirtual 125, 3) := by decide +kernel
theorem dX9_sort_12 : decode cX9_sort 12 = .ok (.astore_n 2, 1) := by decide +kernel
theorem dX9_sort_13 : decode cX9_sort 13 = .ok (.aload_n 2, 1) := by decide +kernel
theorem dX9_sort_14 : decode cX9_sort 14 = .ok (.ifnonnull 7, 3) := by decide +kernel
theorem dX9_sort_17 : decode cX9_sort 17 = .ok (.iconst (-1), 1) := by decide +kernel
theorem dX9_sort_18 : decode cX9_sort 18 = .ok (.goto 7, 3) := by decide +kernel
theorem dX9_sort_21 : decode cX9_sort 21 = .ok (.aload_n 2, 1) := by decide +kernel
theorem dX9_sort_22 : decode cX9_sort 22 = .ok (.getfield 131, 3) := by decide +kernel
theorem dX9_sort_25 : decode cX9_sort 25 = .ok (.ireturn, 1) := by decide +kernel
theorem dX9_count_0 : decode cX9_count 0 = .ok (.iload_n 1, 1) := by decide +kernel
theorem dX9_count_1 : decode cX9_count 1 = .ok (.tableswitch 129 0 9 #[55, 63, 68, 79, 90, 101, 109, 114, 119, 124], 55) := by decide +kernel
theorem dX9_count_56 : decode cX9_count 56 = .ok (.aload_n 0, 1) := by decide +kernel
theorem dX9_count_57 : decode cX9_count 57 = .ok (.getfield 19, 3) := by decide +kernel
theorem dX9_count_60 : decode cX9_count 60 = .ok (.getfield 42, 3) := by decide +kernel
theorem dX9_count_63 : decode cX9_count 63 = .ok (.ireturn, 1) := by decide +kernel
theorem dX9_count_64 : decode cX9_count 64 = .ok (.aload_n 0, 1) := by decide +kernel
theorem dX9_count_65 : decode cX9_count 65 = .ok (.getfield 49, 3) := by decide +kernel
theorem dX9_count_68 : decode cX9_count 68 = .ok (.ireturn, 1) := by decide +kernel
theorem dX9_count_69 : decode cX9_count 69 = .ok (.aload_n 0, 1) := by decide +kernel
theorem dX9_count_70 : decode cX9_count 70 = .ok (.getfield 12, 3) := by decide +kernel
theorem dX9_count_73 : decode cX9_count 73 = .ok (.getfield 121, 3) := by decide +kernel
theorem dX9_count_76 : decode cX9_count 76 = .ok (.getfield 136, 3) := by decide +kernel
theorem dX9_count_79 : decode cX9_count 79 = .ok (.ireturn, 1) := by decide +kernel
theorem dX9_count_80 : decode cX9_count 80 = .ok (.aload_n 0, 1) := by decide +kernel
theorem dX9_count_81 : decode cX9_count 81 = .ok (.getfield 12, 3) := by decide +kernel
theorem dX9_count_84 : decode cX9_count 84 = .ok (.getfield 121, 3) := by decide +kernel
theorem dX9_count_87 : decode cX9_count 87 = .ok (.getfield 139, 3) := by decide +kernel
theorem dX9_count_90 : decode cX9_count 90 = .ok (.ireturn, 1) := by decide +kernel
theorem dX9_count_91 : decode cX9_count 91 = .ok (.aload_n 0, 1) := by decide +kernel
theorem dX9_count_92 : decode cX9_count 92 = .ok (.getfield 12, 3) := by decide +kernel
theorem dX9_count_95 : decode cX9_count 95 = .ok (.getfield 121, 3) := by decide +kernel
theorem dX9_count_98 : decode cX9_count 98 = .ok (.getfield 142, 3) := by decide +kernel
theorem dX9_count_101 : decode cX9_count 101 = .ok (.ireturn, 1) := by decide +kernel
theorem dX9_count_102 : decode cX9_count 102 = .ok (.aload_n 0, 1) := by decide +kernel
theorem dX9_count_103 : decode cX9_count 103 = .ok (.getfield 26, 3) := by decide +kernel
theorem dX9_count_106 : decode cX9_count 106 = .ok (.getfield 145, 3) := by decide +kernel
theorem dX9_count_109 : decode cX9_count 109 = .ok (.ireturn, 1) := by decide +kernel
theorem dX9_count_110 : decode cX9_count 110 = .ok (.aload_n 0, 1) := by decide +kernel
theorem dX9_count_111 : decode cX9_count 111 = .ok (.getfield 148, 3) := by decide +kernel
theorem dX9_count_114 : decode cX9_count 114 = .ok (.ireturn, 1) := by decide +kernel
theorem dX9_count_115 : decode cX9_count 115 = .ok (.aload_n 0, 1) := by decide +kernel
theorem dX9_count_116 : decode cX9_count 116 = .ok (.getfield 82, 3) := by decide +kernel
theorem dX9_count_119 : decode cX9_count 119 = .ok (.ireturn, 1) := by decide +kernel
theorem dX9_count_120 : decode cX9_count 120 = .ok (.aload_n 0, 1) := by decide +kernel
theorem dX9_count_121 : decode cX9_count 121 = .ok (.getfield 58, 3) := by decide +kernel
theorem dX9_count_124 : decode cX9_count 124 = .ok (.ireturn, 1) := by decide +kernel
theorem dX9_count_125 : decode cX9_count 125 = .ok (.aload_n 0, 1) := by decide +kernel
theorem dX9_count_126 : decode cX9_count 126 = .ok (.getfield 34, 3) := by decide +kernel
theorem dX9_count_129 : decode cX9_count 129 = .ok (.ireturn, 1) := by decide +kernel
theorem dX9_count_130 : decode cX9_count 130 = .ok (.iconst (-1), 1) := by decide +kernel
theorem dX9_count_131 : decode cX9_count 131 = .ok (.ireturn, 1) := by decide +kernel
theorem dX9_isWithin_0 : decode cX9_isWithin 0 = .ok (.iload_n 0, 1) := by decide +kernel
theorem dX9_isWithin_1 : decode cX9_isWithin 1 = .ok (.iload_n 1, 1) := by decide +kernel
theorem dX9_isWithin_2 : decode cX9_isWithin 2 = .ok (.if_icmp .lt 12, 3) := by decide +kernel
theorem dX9_isWithin_5 : decode cX9_isWithin 5 = .ok (.iload_n 0, 1) := by decide +kernel
theorem dX9_isWithin_6 : decode cX9_isWithin 6 = .ok (.iload_n 2, 1) := by decide +kernel
theorem dX9_isWithin_7 : decode cX9_isWithin 7 = .ok (.if_icmp .gt 7, 3) := by decide +kernel
theorem dX9_isWithin_10 : decode cX9_isWithin 10 = .ok (.iconst 1, 1) := by decide +kernel
theorem dX9_isWithin_11 : decode cX9_isWithin 11 = .ok (.goto 4, 3) := by decide +kernel
theorem dX9_isWithin_14 : decode cX9_isWithin 14 = .ok (.iconst 0, 1) := by decide +kernel
theorem dX9_isWithin_15 : decode cX9_isWithin 15 = .ok (.ireturn, 1) := by decide +kernel
theorem dX9_isSpindle_0 : decode cX9_isSpindle 0 = .ok (.iload_n 0, 1) := by decide +kernel
theorem dX9_isSpindle_1 : decode cX9_isSpindle 1 = .ok (.iconst 0, 1) := by decide +kernel
theorem dX9_isSpindle_2 : decode cX9_isSpindle 2 = .ok (.bipush 9, 2) := by decide +kernel
theorem dX9_isSpindle_4 : decode cX9_isSpindle 4 = .ok (.invokestatic 151, 3) := by decide +kernel
theorem dX9_isSpindle_7 : decode cX9_isSpindle 7 = .ok (.ireturn, 1) := by decide +kernel
theorem dX9_isAsTold_0 : decode cX9_isAsTold 0 = .ok (.iload_n 0, 1) := by decide +kernel
theorem dX9_isAsTold_1 : decode cX9_isAsTold 1 = .ok (.tableswitch 196 0 14 #[75, 80, 75, 75, 75, 100, 80, 80, 80, 123, 75, 80, 80, 145, 170], 75) := by decide +kernel
theorem dX9_isAsTold_76 : decode cX9_isAsTold 76 = .ok (.iload_n 1, 1) := by decide +kernel
theorem dX9_isAsTold_77 : decode cX9_isAsTold 77 = .ok (.invokestatic 89, 3) := by decide +kernel
theorem dX9_isAsTold_80 : decode cX9_isAsTold 80 = .ok (.ireturn, 1) := by decide +kernel
theorem dX9_isAsTold_81 : decode cX9_isAsTold 81 = .ok (.iload_n 1, 1) := by decide +kernel
theorem dX9_isAsTold_82 : decode cX9_isAsTold 82 = .ok (.invokestatic 89, 3) := by decide +kernel
theorem dX9_isAsTold_85 : decode cX9_isAsTold 85 = .ok (.ifCond .eq 14, 3) := by decide +kernel
theorem dX9_isAsTold_88 : decode cX9_isAsTold 88 = .ok (.iload_n 2, 1) := by decide +kernel
theorem dX9_isAsTold_89 : decode cX9_isAsTold 89 = .ok (.invokestatic 89, 3) := by decide +kernel
theorem dX9_isAsTold_92 : decode cX9_isAsTold 92 = .ok (.ifCond .eq 7, 3) := by decide +kernel
theorem dX9_isAsTold_95 : decode cX9_isAsTold 95 = .ok (.iconst 1, 1) := by decide +kernel
theorem dX9_isAsTold_96 : decode cX9_isAsTold 96 = .ok (.goto 4, 3) := by decide +kernel
theorem dX9_isAsTold_99 : decode cX9_isAsTold 99 = .ok (.iconst 0, 1) := by decide +kernel
theorem dX9_isAsTold_100 : decode cX9_isAsTold 100 = .ok (.ireturn, 1) := by decide +kernel
theorem dX9_isAsTold_101 : decode cX9_isAsTold 101 = .ok (.iload_n 1, 1) := by decide +kernel
theorem dX9_isAsTold_102 : decode cX9_isAsTold 102 = .ok (.invokestatic 89, 3) := by decide +kernel
theorem dX9_isAsTold_105 : decode cX9_isAsTold 105 = .ok (.ifCond .eq 17, 3) := by decide +kernel
theorem dX9_isAsTold_108 : decode cX9_isAsTold 108 = .ok (.iload_n 2, 1) := by decide +kernel
theorem dX9_isAsTold_109 : decode cX9_isAsTold 109 = .ok (.iconst 0, 1) := by decide +kernel
theorem dX9_isAsTold_110 : decode cX9_isAsTold 110 = .ok (.bipush 11, 2) := by decide +kernel
theorem dX9_isAsTold_112 : decode cX9_isAsTold 112 = .ok (.invokestatic 151, 3) := by decide +kernel
theorem dX9_isAsTold_115 : decode cX9_isAsTold 115 = .ok (.ifCond .eq 7, 3) := by decide +kernel
theorem dX9_isAsTold_118 : decode cX9_isAsTold 118 = .ok (.iconst 1, 1) := by decide +kernel
theorem dX9_isAsTold_119 : decode cX9_isAsTold 119 = .ok (.goto 4, 3) := by decide +kernel
theorem dX9_isAsTold_122 : decode cX9_isAsTold 122 = .ok (.iconst 0, 1) := by decide +kernel
theorem dX9_isAsTold_123 : decode cX9_isAsTold 123 = .ok (.ireturn, 1) := by decide +kernel
theorem dX9_isAsTold_124 : decode cX9_isAsTold 124 = .ok (.iload_n 1, 1) := by decide +kernel
theorem dX9_isAsTold_125 : decode cX9_isAsTold 125 = .ok (.invokestatic 89, 3) := by decide +kernel
theorem dX9_isAsTold_128 : decode cX9_isAsTold 128 = .ok (.ifCond .eq 16, 3) := by decide +kernel
theorem dX9_isAsTold_131 : decode cX9_isAsTold 131 = .ok (.iload_n 2, 1) := by decide +kernel
theorem dX9_isAsTold_132 : decode cX9_isAsTold 132 = .ok (.iconst 0, 1) := by decide +kernel
theorem dX9_isAsTold_133 : decode cX9_isAsTold 133 = .ok (.iconst 5, 1) := by decide +kernel
theorem dX9_isAsTold_134 : decode cX9_isAsTold 134 = .ok (.invokestatic 151, 3) := by decide +kernel
theorem dX9_isAsTold_137 : decode cX9_isAsTold 137 = .ok (.ifCond .eq 7, 3) := by decide +kernel
theorem dX9_isAsTold_140 : decode cX9_isAsTold 140 = .ok (.iconst 1, 1) := by decide +kernel
theorem dX9_isAsTold_141 : decode cX9_isAsTold 141 = .ok (.goto 4, 3) := by decide +kernel
theorem dX9_isAsTold_144 : decode cX9_isAsTold 144 = .ok (.iconst 0, 1) := by decide +kernel
theorem dX9_isAsTold_145 : decode cX9_isAsTold 145 = .ok (.ireturn, 1) := by decide +kernel
theorem dX9_isAsTold_146 : decode cX9_isAsTold 146 = .ok (.iload_n 1, 1) := by decide +kernel
theorem dX9_isAsTold_147 : decode cX9_isAsTold 147 = .ok (.iconst 0, 1) := by decide +kernel
theorem dX9_isAsTold_148 : decode cX9_isAsTold 148 = .ok (.iconst 5, 1) := by decide +kernel
theorem dX9_isAsTold_149 : decode cX9_isAsTold 149 = .ok (.invokestatic 151, 3) := by decide +kernel
theorem dX9_isAsTold_152 : decode cX9_isAsTold 152 = .ok (.ifCond .eq 17, 3) := by decide +kernel
theorem dX9_isAsTold_155 : decode cX9_isAsTold 155 = .ok (.iload_n 3, 1) := by decide +kernel
theorem dX9_isAsTold_156 : decode cX9_isAsTold 156 = .ok (.iconst 0, 1) := by decide +kernel
theorem dX9_isAsTold_157 : decode cX9_isAsTold 157 = .ok (.bipush 60, 2) := by decide +kernel
theorem dX9_isAsTold_159 : decode cX9_isAsTold 159 = .ok (.invokestatic 151, 3) := by decide +kernel
theorem dX9_isAsTold_162 : decode cX9_isAsTold 162 = .ok (.ifCond .eq 7, 3) := by decide +kernel
theorem dX9_isAsTold_165 : decode cX9_isAsTold 165 = .ok (.iconst 1, 1) := by decide +kernel
theorem dX9_isAsTold_166 : decode cX9_isAsTold 166 = .ok (.goto 4, 3) := by decide +kernel
theorem dX9_isAsTold_169 : decode cX9_isAsTold 169 = .ok (.iconst 0, 1) := by decide +kernel
theorem dX9_isAsTold_170 : decode cX9_isAsTold 170 = .ok (.ireturn, 1) := by decide +kernel
theorem dX9_isAsTold_171 : decode cX9_isAsTold 171 = .ok (.iload_n 2, 1) := by decide +kernel
theorem dX9_isAsTold_172 : decode cX9_isAsTold 172 = .ok (.iconst 1, 1) := by decide +kernel
theorem dX9_isAsTold_173 : decode cX9_isAsTold 173 = .ok (.bipush 60, 2) := by decide +kernel
theorem dX9_isAsTold_175 : decode cX9_isAsTold 175 = .ok (.invokestatic 151, 3) := by decide +kernel
theorem dX9_isAsTold_178 : decode cX9_isAsTold 178 = .ok (.ifCond .eq 17, 3) := by decide +kernel
theorem dX9_isAsTold_181 : decode cX9_isAsTold 181 = .ok (.iload_n 3, 1) := by decide +kernel
theorem dX9_isAsTold_182 : decode cX9_isAsTold 182 = .ok (.iconst 0, 1) := by decide +kernel
theorem dX9_isAsTold_183 : decode cX9_isAsTold 183 = .ok (.bipush 20, 2) := by decide +kernel
theorem dX9_isAsTold_185 : decode cX9_isAsTold 185 = .ok (.invokestatic 151, 3) := by decide +kernel
theorem dX9_isAsTold_188 : decode cX9_isAsTold 188 = .ok (.ifCond .eq 7, 3) := by decide +kernel
theorem dX9_isAsTold_191 : decode cX9_isAsTold 191 = .ok (.iconst 1, 1) := by decide +kernel
theorem dX9_isAsTold_192 : decode cX9_isAsTold 192 = .ok (.goto 4, 3) := by decide +kernel
theorem dX9_isAsTold_195 : decode cX9_isAsTold 195 = .ok (.iconst 0, 1) := by decide +kernel
theorem dX9_isAsTold_196 : decode cX9_isAsTold 196 = .ok (.ireturn, 1) := by decide +kernel
theorem dX9_isAsTold_197 : decode cX9_isAsTold 197 = .ok (.iconst 0, 1) := by decide +kernel
theorem dX9_isAsTold_198 : decode cX9_isAsTold 198 = .ok (.ireturn, 1) := by decide +kernel
theorem dX9_begin_0 : decode cX9_begin 0 = .ok (.aload_n 0, 1) := by decide +kernel
theorem dX9_begin_1 : decode cX9_begin 1 = .ok (.dup, 1) := by decide +kernel
theorem dX9_begin_2 : decode cX9_begin 2 = .ok (.getfield 49, 3) := by decide +kernel
theorem dX9_begin_5 : decode cX9_begin 5 = .ok (.iconst 1, 1) := by decide +kernel
theorem dX9_begin_6 : decode cX9_begin 6 = .ok (.iadd, 1) := by decide +kernel
theorem dX9_begin_7 : decode cX9_begin 7 = .ok (.putfield 49, 3) := by decide +kernel
theorem dX9_begin_10 : decode cX9_begin 10 = .ok (.aload_n 0, 1) := by decide +kernel
theorem dX9_begin_11 : decode cX9_begin 11 = .ok (.iload_n 1, 1) := by decide +kernel
theorem dX9_begin_12 : decode cX9_begin 12 = .ok (.iload_n 2, 1) := by decide +kernel
theorem dX9_begin_13 : decode cX9_begin 13 = .ok (.iload_n 3, 1) := by decide +kernel
theorem dX9_begin_14 : decode cX9_begin 14 = .ok (.invokevirtual 155, 3) := by decide +kernel
theorem dX9_begin_17 : decode cX9_begin 17 = .ok (.astore 5, 2) := by decide +kernel
theorem dX9_begin_19 : decode cX9_begin 19 = .ok (.aload 5, 2) := by decide +kernel
theorem dX9_begin_21 : decode cX9_begin 21 = .ok (.ifnull 12, 3) := by decide +kernel
theorem dX9_begin_24 : decode cX9_begin 24 = .ok (.aload 5, 2) := by decide +kernel
theorem dX9_begin_26 : decode cX9_begin 26 = .ok (.aload_n 0, 1) := by decide +kernel
theorem dX9_begin_27 : decode cX9_begin 27 = .ok (.getfield 30, 3) := by decide +kernel
theorem dX9_begin_30 : decode cX9_begin 30 = .ok (.invokevirtual 159, 3) := by decide +kernel
theorem dX9_begin_33 : decode cX9_begin 33 = .ok (.aload_n 0, 1) := by decide +kernel
theorem dX9_begin_34 : decode cX9_begin 34 = .ok (.getfield 12, 3) := by decide +kernel
theorem dX9_begin_37 : decode cX9_begin 37 = .ok (.iload_n 1, 1) := by decide +kernel
theorem dX9_begin_38 : decode cX9_begin 38 = .ok (.iload_n 2, 1) := by decide +kernel
theorem dX9_begin_39 : decode cX9_begin 39 = .ok (.iload_n 3, 1) := by decide +kernel
theorem dX9_begin_40 : decode cX9_begin 40 = .ok (.iload 4, 2) := by decide +kernel
theorem dX9_begin_42 : decode cX9_begin 42 = .ok (.invokevirtual 163, 3) := by decide +kernel
theorem dX9_begin_45 : decode cX9_begin 45 = .ok (.istore 6, 2) := by decide +kernel
theorem dX9_begin_47 : decode cX9_begin 47 = .ok (.aload 5, 2) := by decide +kernel
theorem dX9_begin_49 : decode cX9_begin 49 = .ok (.ifnull 28, 3) := by decide +kernel
theorem dX9_begin_52 : decode cX9_begin 52 = .ok (.aload 5, 2) := by decide +kernel
theorem dX9_begin_54 : decode cX9_begin 54 = .ok (.aload_n 0, 1) := by decide +kernel
theorem dX9_begin_55 : decode cX9_begin 55 = .ok (.getfield 30, 3) := by decide +kernel
theorem dX9_begin_58 : decode cX9_begin 58 = .ok (.invokevirtual 166, 3) := by decide +kernel
theorem dX9_begin_61 : decode cX9_begin 61 = .ok (.ifCond .eq 16, 3) := by decide +kernel
theorem dX9_begin_64 : decode cX9_begin 64 = .ok (.aload_n 0, 1) := by decide +kernel
theorem dX9_begin_65 : decode cX9_begin 65 = .ok (.getfield 26, 3) := by decide +kernel
theorem dX9_begin_68 : decode cX9_begin 68 = .ok (.aload 5, 2) := by decide +kernel
theorem dX9_begin_70 : decode cX9_begin 70 = .ok (.aload_n 0, 1) := by decide +kernel
theorem dX9_begin_71 : decode cX9_begin 71 = .ok (.getfield 30, 3) := by decide +kernel
theorem dX9_begin_74 : decode cX9_begin 74 = .ok (.invokevirtual 170, 3) := by decide +kernel
theorem dX9_begin_77 : decode cX9_begin 77 = .ok (.iload 6, 2) := by decide +kernel
theorem dX9_begin_79 : decode cX9_begin 79 = .ok (.ifCond .eq 13, 3) := by decide +kernel
theorem dX9_begin_82 : decode cX9_begin 82 = .ok (.aload_n 0, 1) := by decide +kernel
theorem dX9_begin_83 : decode cX9_begin 83 = .ok (.dup, 1) := by decide +kernel
theorem dX9_begin_84 : decode cX9_begin 84 = .ok (.getfield 148, 3) := by decide +kernel
theorem dX9_begin_87 : decode cX9_begin 87 = .ok (.iconst 1, 1) := by decide +kernel
theorem dX9_begin_88 : decode cX9_begin 88 = .ok (.iadd, 1) := by decide +kernel
theorem dX9_begin_89 : decode cX9_begin 89 = .ok (.putfield 148, 3) := by decide +kernel
theorem dX9_begin_92 : decode cX9_begin 92 = .ok (.iload 6, 2) := by decide +kernel
theorem dX9_begin_94 : decode cX9_begin 94 = .ok (.ireturn, 1) := by decide +kernel
theorem dX9_rowAtRisk_0 : decode cX9_rowAtRisk 0 = .ok (.iload_n 1, 1) := by decide +kernel
theorem dX9_rowAtRisk_1 : decode cX9_rowAtRisk 1 = .ok (.iconst 1, 1) := by decide +kernel
theorem dX9_rowAtRisk_2 : decode cX9_rowAtRisk 2 = .ok (.if_icmp .ne 7, 3) := by decide +kernel
theorem dX9_rowAtRisk_5 : decode cX9_rowAtRisk 5 = .ok (.iload_n 3, 1) := by decide +kernel
theorem dX9_rowAtRisk_6 : decode cX9_rowAtRisk 6 = .ok (.goto 4, 3) := by decide +kernel
theorem dX9_rowAtRisk_9 : decode cX9_rowAtRisk 9 = .ok (.iload_n 2, 1) := by decide +kernel
theorem dX9_rowAtRisk_10 : decode cX9_rowAtRisk 10 = .ok (.istore 4, 2) := by decide +kernel
theorem dX9_rowAtRisk_12 : decode cX9_rowAtRisk 12 = .ok (.iload_n 1, 1) := by decide +kernel
theorem dX9_rowAtRisk_13 : decode cX9_rowAtRisk 13 = .ok (.bipush 12, 2) := by decide +kernel
theorem dX9_rowAtRisk_15 : decode cX9_rowAtRisk 15 = .ok (.if_icmp .gt 41, 3) := by decide +kernel
theorem dX9_rowAtRisk_18 : decode cX9_rowAtRisk 18 = .ok (.iload 4, 2) := by decide +kernel
theorem dX9_rowAtRisk_20 : decode cX9_rowAtRisk 20 = .ok (.invokestatic 89, 3) := by decide +kernel
theorem dX9_rowAtRisk_23 : decode cX9_rowAtRisk 23 = .ok (.ifCond .eq 33, 3) := by decide +kernel
theorem dX9_rowAtRisk_26 : decode cX9_rowAtRisk 26 = .ok (.aload_n 0, 1) := by decide +kernel
theorem dX9_rowAtRisk_27 : decode cX9_rowAtRisk 27 = .ok (.getfield 12, 3) := by decide +kernel
theorem dX9_rowAtRisk_30 : decode cX9_rowAtRisk 30 = .ok (.getfield 93, 3) := by decide +kernel
theorem dX9_rowAtRisk_33 : decode cX9_rowAtRisk 33 = .ok (.iload 4, 2) := by decide +kernel
theorem dX9_rowAtRisk_35 : decode cX9_rowAtRisk 35 = .ok (.aaload, 1) := by decide +kernel
theorem dX9_rowAtRisk_36 : decode cX9_rowAtRisk 36 = .ok (.astore 6, 2) := by decide +kernel
theorem dX9_rowAtRisk_38 : decode cX9_rowAtRisk 38 = .ok (.aload 6, 2) := by decide +kernel
theorem dX9_rowAtRisk_40 : decode cX9_rowAtRisk 40 = .ok (.instanceof 113, 3) := by decide +kernel
theorem dX9_rowAtRisk_43 : decode cX9_rowAtRisk 43 = .ok (.ifCond .eq 13, 3) := by decide +kernel
theorem dX9_rowAtRisk_46 : decode cX9_rowAtRisk 46 = .ok (.aload 6, 2) := by decide +kernel
theorem dX9_rowAtRisk_48 : decode cX9_rowAtRisk 48 = .ok (.checkcast 113, 3) := by decide +kernel
theorem dX9_rowAtRisk_51 : decode cX9_rowAtRisk 51 = .ok (.astore 5, 2) := by decide +kernel
theorem dX9_rowAtRisk_53 : decode cX9_rowAtRisk 53 = .ok (.aload 5, 2) := by decide +kernel
theorem dX9_rowAtRisk_55 : decode cX9_rowAtRisk 55 = .ok (.areturn, 1) := by decide +kernel
theorem dX9_rowAtRisk_56 : decode cX9_rowAtRisk 56 = .ok (.aconst_null, 1) := by decide +kernel
theorem dX9_rowAtRisk_57 : decode cX9_rowAtRisk 57 = .ok (.areturn, 1) := by decide +kernel
theorem dX10_init_0 : decode cX10_init 0 = .ok (.aload_n 0, 1) := by decide +kernel
theorem dX10_init_1 : decode cX10_init 1 = .ok (.invokespecial 1, 3) := by decide +kernel
theorem dX10_init_4 : decode cX10_init 4 = .ok (.aload_n 0, 1) := by decide +kernel
theorem dX10_init_5 : decode cX10_init 5 = .ok (.bipush 120, 2) := by decide +kernel
theorem dX10_init_7 : decode cX10_init 7 = .ok (.newarray .int, 2) := by decide +kernel
theorem dX10_init_9 : decode cX10_init 9 = .ok (.putfield 7, 3) := by decide +kernel
theorem dX10_init_12 : decode cX10_init 12 = .ok (.aload_n 0, 1) := by decide +kernel
theorem dX10_init_13 : decode cX10_init 13 = .ok (.bipush 120, 2) := by decide +kernel
theorem dX10_init_15 : decode cX10_init 15 = .ok (.newarray .int, 2) := by decide +kernel
theorem dX10_init_17 : decode cX10_init 17 = .ok (.putfield 13, 3) := by decide +kernel
theorem dX10_init_20 : decode cX10_init 20 = .ok (.aload_n 0, 1) := by decide +kernel
theorem dX10_init_21 : decode cX10_init 21 = .ok (.bipush 120, 2) := by decide +kernel
theorem dX10_init_23 : decode cX10_init 23 = .ok (.newarray .int, 2) := by decide +kernel
theorem dX10_init_25 : decode cX10_init 25 = .ok (.putfield 16, 3) := by decide +kernel
theorem dX10_init_28 : decode cX10_init 28 = .ok (.aload_n 0, 1) := by decide +kernel
theorem dX10_init_29 : decode cX10_init 29 = .ok (.sipush 3000, 3) := by decide +kernel
theorem dX10_init_32 : decode cX10_init 32 = .ok (.newarray .long, 2) := by decide +kernel
theorem dX10_init_34 : decode cX10_init 34 = .ok (.putfield 19, 3) := by decide +kernel
theorem dX10_init_37 : decode cX10_init 37 = .ok (.aload_n 0, 1) := by decide +kernel
theorem dX10_init_38 : decode cX10_init 38 = .ok (.sipush 401, 3) := by decide +kernel
theorem dX10_init_41 : decode cX10_init 41 = .ok (.newarray .int, 2) := by decide +kernel
theorem dX10_init_43 : decode cX10_init 43 = .ok (.putfield 23, 3) := by decide +kernel
theorem dX10_init_46 : decode cX10_init 46 = .ok (.aload_n 0, 1) := by decide +kernel
theorem dX10_init_47 : decode cX10_init 47 = .ok (.bipush 10, 2) := by decide +kernel
theorem dX10_init_49 : decode cX10_init 49 = .ok (.newarray .int, 2) := by decide +kernel
theorem dX10_init_51 : decode cX10_init 51 = .ok (.putfield 26, 3) := by decide +kernel
theorem dX10_init_54 : decode cX10_init 54 = .ok (.aload_n 0, 1) := by decide +kernel
theorem dX10_init_55 : decode cX10_init 55 = .ok (.bipush 10, 2) := by decide +kernel
theorem dX10_init_57 : decode cX10_init 57 = .ok (.newarray .int, 2) := by decide +kernel
theorem dX10_init_59 : decode cX10_init 59 = .ok (.putfield 29, 3) := by decide +kernel
theorem dX10_init_62 : decode cX10_init 62 = .ok (.aload_n 0, 1) := by decide +kernel
theorem dX10_init_63 : decode cX10_init 63 = .ok (.bipush 10, 2) := by decide +kernel
theorem dX10_init_65 : decode cX10_init 65 = .ok (.newarray .int, 2) := by decide +kernel
theorem dX10_init_67 : decode cX10_init 67 = .ok (.putfield 32, 3) := by decide +kernel
theorem dX10_init_70 : decode cX10_init 70 = .ok (.aload_n 0, 1) := by decide +kernel
theorem dX10_init_71 : decode cX10_init 71 = .ok (.bipush 60, 2) := by decide +kernel
theorem dX10_init_73 : decode cX10_init 73 = .ok (.newarray .int, 2) := by decide +kernel
theorem dX10_init_75 : decode cX10_init 75 = .ok (.putfield 35, 3) := by decide +kernel
theorem dX10_init_78 : decode cX10_init 78 = .ok (.aload_n 0, 1) := by decide +kernel
theorem dX10_init_79 : decode cX10_init 79 = .ok (.bipush 60, 2) := by decide +kernel
theorem dX10_init_81 : decode cX10_init 81 = .ok (.newarray .int, 2) := by decide +kernel
theorem dX10_init_83 : decode cX10_init 83 = .ok (.putfield 38, 3) := by decide +kernel
theorem dX10_init_86 : decode cX10_init 86 = .ok (.aload_n 0, 1) := by decide +kernel
theorem dX10_init_87 : decode cX10_init 87 = .ok (.bipush 60, 2) := by decide +kernel
theorem dX10_init_89 : decode cX10_init 89 = .ok (.newarray .int, 2) := by decide +kernel
theorem dX10_init_91 : decode cX10_init 91 = .ok (.putfield 41, 3) := by decide +kernel
theorem dX10_init_94 : decode cX10_init 94 = .ok (.aload_n 0, 1) := by decide +kernel
theorem dX10_init_95 : decode cX10_init 95 = .ok (.bipush 60, 2) := by decide +kernel
theorem dX10_init_97 : decode cX10_init 97 = .ok (.newarray .int, 2) := by decide +kernel
theorem dX10_init_99 : decode cX10_init 99 = .ok (.putfield 44, 3) := by decide +kernel
theorem dX10_init_102 : decode cX10_init 102 = .ok (.aload_n 0, 1) := by decide +kernel
theorem dX10_init_103 : decode cX10_init 103 = .ok (.bipush 60, 2) := by decide +kernel
theorem dX10_init_105 : decode cX10_init 105 = .ok (.newarray .int, 2) := by decide +kernel
theorem dX10_init_107 : decode cX10_init 107 = .ok (.putfield 47, 3) := by decide +kernel
theorem dX10_init_110 : decode cX10_init 110 = .ok (.aload_n 0, 1) := by decide +kernel
theorem dX10_init_111 : decode cX10_init 111 = .ok (.bipush 20, 2) := by decide +kernel
theorem dX10_init_113 : decode cX10_init 113 = .ok (.newarray .int, 2) := by decide +kernel
theorem dX10_init_115 : decode cX10_init 115 = .ok (.putfield 50, 3) := by decide +kernel
theorem dX10_init_118 : decode cX10_init 118 = .ok (.aload_n 0, 1) := by decide +kernel
theorem dX10_init_119 : decode cX10_init 119 = .ok (.sipush 1280, 3) := by decide +kernel
theorem dX10_init_122 : decode cX10_init 122 = .ok (.newarray .long, 2) := by decide +kernel
theorem dX10_init_124 : decode cX10_init 124 = .ok (.putfield 53, 3) := by decide +kernel
theorem dX10_init_127 : decode cX10_init 127 = .ok (.aload_n 0, 1) := by decide +kernel
theorem dX10_init_128 : decode cX10_init 128 = .ok (.bipush 64, 2) := by decide +kernel
theorem dX10_init_130 : decode cX10_init 130 = .ok (.newarray .long, 2) := by decide +kernel
theorem dX10_init_132 : decode cX10_init 132 = .ok (.putfield 56, 3) := by decide +kernel
theorem dX10_init_135 : decode cX10_init 135 = .ok (.aload_n 0, 1) := by decide +kernel
theorem dX10_init_136 : decode cX10_init 136 = .ok (.bipush 64, 2) := by decide +kernel
theorem dX10_init_138 : decode cX10_init 138 = .ok (.newarray .long, 2) := by decide +kernel
theorem dX10_init_140 : decode cX10_init 140 = .ok (.putfield 59, 3) := by decide +kernel
theorem dX10_init_143 : decode cX10_init 143 = .ok (.aload_n 0, 1) := by decide +kernel
theorem dX10_init_144 : decode cX10_init 144 = .ok (.iconst (-1), 1) := by decide +kernel
theorem dX10_init_145 : decode cX10_init 145 = .ok (.putfield 62, 3) := by decide +kernel
theorem dX10_init_148 : decode cX10_init 148 = .ok (.return_, 1) := by decide +kernel
theorem dX10_in_0 : decode cX10_in 0 = .ok (.iload_n 0, 1) := by decide +kernel
theorem dX10_in_1 : decode cX10_in 1 = .ok (.iload_n 1, 1) := by decide +kernel
theorem dX10_in_2 : decode cX10_in 2 = .ok (.if_icmp .lt 12, 3) := by decide +kernel
theorem dX10_in_5 : decode cX10_in 5 = .ok (.iload_n 0, 1) := by decide +kernel
theorem dX10_in_6 : decode cX10_in 6 = .ok (.iload_n 2, 1) := by decide +kernel
theorem dX10_in_7 : decode cX10_in 7 = .ok (.if_icmp .gt 7, 3) := by decide +kernel
theorem dX10_in_10 : decode cX10_in 10 = .ok (.iconst 1, 1) := by decide +kernel
theorem dX10_in_11 : decode cX10_in 11 = .ok (.goto 4, 3) := by decide +kernel
theorem dX10_in_14 : decode cX10_in 14 = .ok (.iconst 0, 1) := by decide +kernel
theorem dX10_in_15 : decode cX10_in 15 = .ok (.ireturn, 1) := by decide +kernel
theorem dX10_isOrder_0 : decode cX10_isOrder 0 = .ok (.iload_n 0, 1) := by decide +kernel
theorem dX10_isOrder_1 : decode cX10_isOrder 1 = .ok (.bipush 13, 2) := by decide +kernel
theorem dX10_isOrder_3 : decode cX10_isOrder 3 = .ok (.if_icmp .ne 28, 3) := by decide +kernel
theorem dX10_isOrder_6 : decode cX10_isOrder 6 = .ok (.iload_n 1, 1) := by decide +kernel
theorem dX10_isOrder_7 : decode cX10_isOrder 7 = .ok (.iconst 0, 1) := by decide +kernel
theorem dX10_isOrder_8 : decode cX10_isOrder 8 = .ok (.iconst 5, 1) := by decide +kernel
theorem dX10_isOrder_9 : decode cX10_isOrder 9 = .ok (.invokestatic 66, 3) := by decide +kernel
theorem dX10_isOrder_12 : decode cX10_isOrder 12 = .ok (.ifCond .eq 17, 3) := by decide +kernel
theorem dX10_isOrder_15 : decode cX10_isOrder 15 = .ok (.iload_n 3, 1) := by decide +kernel
theorem dX10_isOrder_16 : decode cX10_isOrder 16 = .ok (.iconst 0, 1) := by decide +kernel
theorem dX10_isOrder_17 : decode cX10_isOrder 17 = .ok (.bipush 60, 2) := by decide +kernel
theorem dX10_isOrder_19 : decode cX10_isOrder 19 = .ok (.invokestatic 66, 3) := by decide +kernel
theorem dX10_isOrder_22 : decode cX10_isOrder 22 = .ok (.ifCond .eq 7, 3) := by decide +kernel
theorem dX10_isOrder_25 : decode cX10_isOrder 25 = .ok (.iconst 1, 1) := by decide +kernel
theorem dX10_isOrder_26 : decode cX10_isOrder 26 = .ok (.goto 4, 3) := by decide +kernel
theorem dX10_isOrder_29 : decode cX10_isOrder 29 = .ok (.iconst 0, 1) := by decide +kernel
theorem dX10_isOrder_30 : decode cX10_isOrder 30 = .ok (.ireturn, 1) := by decide +kernel
theorem dX10_isOrder_31 : decode cX10_isOrder 31 = .ok (.iload_n 0, 1) := by decide +kernel
theorem dX10_isOrder_32 : decode cX10_isOrder 32 = .ok (.bipush 14, 2) := by decide +kernel
theorem dX10_isOrder_34 : decode cX10_isOrder 34 = .ok (.if_icmp .ne 29, 3) := by decide +kernel
theorem dX10_isOrder_37 : decode cX10_isOrder 37 = .ok (.iload_n 2, 1) := by decide +kernel
theorem dX10_isOrder_38 : decode cX10_isOrder 38 = .ok (.iconst 1, 1) := by decide +kernel
theorem dX10_isOrder_39 : decode cX10_isOrder 39 = .ok (.bipush 60, 2) := by decide +kernel
theorem dX10_isOrder_41 : decode cX10_isOrder 41 = .ok (.invokestatic 66, 3) := by decide +kernel
theorem dX10_isOrder_44 : decode cX10_isOrder 44 = .ok (.ifCond .eq 17, 3) := by decide +kernel
theorem dX10_isOrder_47 : decode cX10_isOrder 47 = .ok (.iload_n 3, 1) := by decide +kernel
theorem dX10_isOrder_48 : decode cX10_isOrder 48 = .ok (.iconst 0, 1) := by decide +kernel
theorem dX10_isOrder_49 : decode cX10_isOrder 49 = .ok (.bipush 20, 2) := by decide +kernel
theorem dX10_isOrder_51 : decode cX10_isOrder 51 = .ok (.invokestatic 66, 3) := by decide +kernel
theorem dX10_isOrder_54 : decode cX10_isOrder 54 = .ok (.ifCond .eq 7, 3) := by decide +kernel
theorem dX10_isOrder_57 : decode cX10_isOrder 57 = .ok (.iconst 1, 1) := by decide +kernel
theorem dX10_isOrder_58 : decode cX10_isOrder 58 = .ok (.goto 4, 3) := by decide +kernel
theorem dX10_isOrder_61 : decode cX10_isOrder 61 = .ok (.iconst 0, 1) := by decide +kernel
theorem dX10_isOrder_62 : decode cX10_isOrder 62 = .ok (.ireturn, 1) := by decide +kernel
theorem dX10_isOrder_63 : decode cX10_isOrder 63 = .ok (.iload_n 0, 1) := by decide +kernel
theorem dX10_isOrder_64 : decode cX10_isOrder 64 = .ok (.iconst 1, 1) := by decide +kernel
theorem dX10_isOrder_65 : decode cX10_isOrder 65 = .ok (.if_icmp .eq 33, 3) := by decide +kernel
theorem dX10_isOrder_68 : decode cX10_isOrder 68 = .ok (.iload_n 0, 1) := by decide +kernel
theorem dX10_isOrder_69 : decode cX10_isOrder 69 = .ok (.bipush 6, 2) := by decide +kernel
theorem dX10_isOrder_71 : decode cX10_isOrder 71 = .ok (.if_icmp .eq 27, 3) := by decide +kernel
theorem dX10_isOrder_74 : decode cX10_isOrder 74 = .ok (.iload_n 0, 1) := by decide +kernel
theorem dX10_isOrder_75 : decode cX10_isOrder 75 = .ok (.bipush 7, 2) := by decide +kernel
theorem dX10_isOrder_77 : decode cX10_isOrder 77 = .ok (.if_icmp .eq 21, 3) := by decide +kernel
theorem dX10_isOrder_80 : decode cX10_isOrder 80 = .ok (.iload_n 0, 1) := by decide +kernel
theorem dX10_isOrder_81 : decode cX10_isOrder 81 = .ok (.bipush 8, 2) := by decide +kernel
theorem dX10_isOrder_83 : decode cX10_isOrder 83 = .ok (.if_icmp .eq 15, 3) := by decide +kernel
theorem dX10_isOrder_86 : decode cX10_isOrder 86 = .ok (.iload_n 0, 1) := by decide +kernel
theorem dX10_isOrder_87 : decode cX10_isOrder 87 = .ok (.bipush 11, 2) := by decide +kernel
theorem dX10_isOrder_89 : decode cX10_isOrder 89 = .ok (.if_icmp .eq 9, 3) := by decide +kernel
theorem dX10_isOrder_92 : decode cX10_isOrder 92 = .ok (.iload_n 0, 1) := by decide +kernel
theorem dX10_isOrder_93 : decode cX10_isOrder 93 = .ok (.bipush 12, 2) := by decide +kernel
theorem dX10_isOrder_95 : decode cX10_isOrder 95 = .ok (.if_icmp .ne 7, 3) := by decide +kernel
theorem dX10_isOrder_98 : decode cX10_isOrder 98 = .ok (.iconst 1, 1) := by decide +kernel
theorem dX10_isOrder_99 : decode cX10_isOrder 99 = .ok (.goto 4, 3) := by decide +kernel
theorem dX10_isOrder_102 : decode cX10_isOrder 102 = .ok (.iconst 0, 1) := by decide +kernel
theorem dX10_isOrder_103 : decode cX10_isOrder 103 = .ok (.istore 4, 2) := by decide +kernel
theorem dX10_isOrder_105 : decode cX10_isOrder 105 = .ok (.iload 4, 2) := by decide +kernel
theorem dX10_isOrder_107 : decode cX10_isOrder 107 = .ok (.ifCond .eq 13, 3) := by decide +kernel
theorem dX10_isOrder_110 : decode cX10_isOrder 110 = .ok (.iload_n 2, 1) := by decide +kernel
theorem dX10_isOrder_111 : decode cX10_isOrder 111 = .ok (.iconst 0, 1) := by decide +kernel
theorem dX10_isOrder_112 : decode cX10_isOrder 112 = .ok (.bipush 9, 2) := by decide +kernel
theorem dX10_isOrder_114 : decode cX10_isOrder 114 = .ok (.invokestatic 66, 3) := by decide +kernel
theorem dX10_isOrder_117 : decode cX10_isOrder 117 = .ok (.goto 38, 3) := by decide +kernel
theorem dX10_isOrder_120 : decode cX10_isOrder 120 = .ok (.iload_n 0, 1) := by decide +kernel
theorem dX10_isOrder_121 : decode cX10_isOrder 121 = .ok (.iconst 5, 1) := by decide +kernel
theorem dX10_isOrder_122 : decode cX10_isOrder 122 = .ok (.if_icmp .ne 13, 3) := by decide +kernel
theorem dX10_isOrder_125 : decode cX10_isOrder 125 = .ok (.iload_n 2, 1) := by decide +kernel
theorem dX10_isOrder_126 : decode cX10_isOrder 126 = .ok (.iconst 0, 1) := by decide +kernel
theorem dX10_isOrder_127 : decode cX10_isOrder 127 = .ok (.bipush 11, 2) := by decide +kernel
theorem dX10_isOrder_129 : decode cX10_isOrder 129 = .ok (.invokestatic 66, 3) := by decide +kernel
theorem dX10_isOrder_132 : decode cX10_isOrder 132 = .ok (.goto 23, 3) := by decide +kernel
theorem dX10_isOrder_135 : decode cX10_isOrder 135 = .ok (.iload_n 0, 1) := by decide +kernel
theorem dX10_isOrder_136 : decode cX10_isOrder 136 = .ok (.bipush 9, 2) := by decide +kernel
theorem dX10_isOrder_138 : decode cX10_isOrder 138 = .ok (.if_icmp .ne 12, 3) := by decide +kernel
theorem dX10_isOrder_141 : decode cX10_isOrder 141 = .ok (.iload_n 2, 1) := by decide +kernel
theorem dX10_isOrder_142 : decode cX10_isOrder 142 = .ok (.iconst 0, 1) := by decide +kernel
theorem dX10_isOrder_143 : decode cX10_isOrder 143 = .ok (.iconst 5, 1) := by decide +kernel
theorem dX10_isOrder_144 : decode cX10_isOrder 144 = .ok (.invokestatic 66, 3) := by decide +kernel
theorem dX10_isOrder_147 : decode cX10_isOrder 147 = .ok (.ifCond .eq 7, 3) := by decide +kernel
theorem dX10_isOrder_150 : decode cX10_isOrder 150 = .ok (.iconst 1, 1) := by decide +kernel
theorem dX10_isOrder_151 : decode cX10_isOrder 151 = .ok (.goto 4, 3) := by decide +kernel
theorem dX10_isOrder_154 : decode cX10_isOrder 154 = .ok (.iconst 0, 1) := by decide +kernel
theorem dX10_isOrder_155 : decode cX10_isOrder 155 = .ok (.istore 5, 2) := by decide +kernel
theorem dX10_isOrder_157 : decode cX10_isOrder 157 = .ok (.iload_n 0, 1) := by decide +kernel
theorem dX10_isOrder_158 : decode cX10_isOrder 158 = .ok (.iconst 0, 1) := by decide +kernel
theorem dX10_isOrder_159 : decode cX10_isOrder 159 = .ok (.bipush 12, 2) := by decide +kernel
theorem dX10_isOrder_161 : decode cX10_isOrder 161 = .ok (.invokestatic 66, 3) := by decide +kernel
theorem dX10_isOrder_164 : decode cX10_isOrder 164 = .ok (.ifCond .eq 22, 3) := by decide +kernel
theorem dX10_isOrder_167 : decode cX10_isOrder 167 = .ok (.iload_n 1, 1) := by decide +kernel
theorem dX10_isOrder_168 : decode cX10_isOrder 168 = .ok (.iconst 0, 1) := by decide +kernel
theorem dX10_isOrder_169 : decode cX10_isOrder 169 = .ok (.bipush 9, 2) := by decide +kernel
theorem dX10_isOrder_171 : decode cX10_isOrder 171 = .ok (.invokestatic 66, 3) := by decide +kernel
theorem dX10_isOrder_174 : decode cX10_isOrder 174 = .ok (.ifCond .eq 12, 3) := by decide +kernel
theorem dX10_isOrder_177 : decode cX10_isOrder 177 = .ok (.iload 5, 2) := by decide +kernel
theorem dX10_isOrder_179 : decode cX10_isOrder 179 = .ok (.ifCond .eq 7, 3) := by decide +kernel
theorem dX10_isOrder_182 : decode cX10_isOrder 182 = .ok (.iconst 1, 1) := by decide +kernel
theorem dX10_isOrder_183 : decode cX10_isOrder 183 = .ok (.goto 4, 3) := by decide +kernel
theorem dX10_isOrder_186 : decode cX10_isOrder 186 = .ok (.iconst 0, 1) := by decide +kernel
theorem dX10_isOrder_187 : decode cX10_isOrder 187 = .ok (.ireturn, 1) := by decide +kernel
theorem dX10_order_0 : decode cX10_order 0 = .ok (.aload_n 0, 1) := by decide +kernel
theorem dX10_order_1 : decode cX10_order 1 = .ok (.getfield 70, 3) := by decide +kernel
theorem dX10_order_4 : decode cX10_order 4 = .ok (.bipush 60, 2) := by decide +kernel
theorem dX10_order_6 : decode cX10_order 6 = .ok (.if_icmp .eq 14, 3) := by decide +kernel
theorem dX10_order_9 : decode cX10_order 9 = .ok (.iload_n 1, 1) := by decide +kernel
theorem dX10_order_10 : decode cX10_order 10 = .ok (.iload_n 2, 1) := by decide +kernel
theorem dX10_order_11 : decode cX10_order 11 = .ok (.iload_n 3, 1) := by decide +kernel
theorem dX10_order_12 : decode cX10_order 12 = .ok (.iload 4, 2) := by decide +kernel
theorem dX10_order_14 : decode cX10_order 14 = .ok (.invokestatic 73, 3) := by decide +kernel
theorem dX10_order_17 : decode cX10_order 17 = .ok (.ifCond .ne 5, 3) := by decide +kernel
theorem dX10_order_20 : decode cX10_order 20 = .ok (.iconst (-1), 1) := by decide +kernel
theorem dX10_order_21 : decode cX10_order 21 = .ok (.ireturn, 1) := by decide +kernel
theorem dX10_order_22 : decode cX10_order 22 = .ok (.aload_n 0, 1) := by decide +kernel
theorem dX10_order_23 : decode cX10_order 23 = .ok (.getfield 35, 3) := by decide +kernel
theorem dX10_order_26 : decode cX10_order 26 = .ok (.aload_n 0, 1) := by decide +kernel
theorem dX10_order_27 : decode cX10_order 27 = .ok (.getfield 70, 3) := by decide +kernel
theorem dX10_order_30 : decode cX10_order 30 = .ok (.iload_n 1, 1) := by decide +kernel
theorem dX10_order_31 : decode cX10_order 31 = .ok (.iastore, 1) := by decide +kernel
theorem dX10_order_32 : decode cX10_order 32 = .ok (.aload_n 0, 1) := by decide +kernel
theorem dX10_order_33 : decode cX10_order 33 = .ok (.getfield 38, 3) := by decide +kernel
theorem dX10_order_36 : decode cX10_order 36 = .ok (.aload_n 0, 1) := by decide +kernel
theorem dX10_order_37 : decode cX10_order 37 = .ok (.getfield 70, 3) := by decide +kernel
theorem dX10_order_40 : decode cX10_order 40 = .ok (.iload_n 2, 1) := by decide +kernel
theorem dX10_order_41 : decode cX10_order 41 = .ok (.iastore, 1) := by decide +kernel
theorem dX10_order_42 : decode cX10_order 42 = .ok (.aload_n 0, 1) := by decide +kernel
theorem dX10_order_43 : decode cX10_order 43 = .ok (.getfield 41, 3) := by decide +kernel
theorem dX10_order_46 : decode cX10_order 46 = .ok (.aload_n 0, 1) := by decide +kernel
theorem dX10_order_47 : decode cX10_order 47 = .ok (.getfield 70, 3) := by decide +kernel
theorem dX10_order_50 : decode cX10_order 50 = .ok (.iload_n 3, 1) := by decide +kernel
theorem dX10_order_51 : decode cX10_order 51 = .ok (.iastore, 1) := by decide +kernel
theorem dX10_order_52 : decode cX10_order 52 = .ok (.aload_n 0, 1) := by decide +kernel
theorem dX10_order_53 : decode cX10_order 53 = .ok (.getfield 44, 3) := by decide +kernel
theorem dX10_order_56 : decode cX10_order 56 = .ok (.aload_n 0, 1) := by decide +kernel
theorem dX10_order_57 : decode cX10_order 57 = .ok (.getfield 70, 3) := by decide +kernel
theorem dX10_order_60 : decode cX10_order 60 = .ok (.iload 4, 2) := by decide +kernel
theorem dX10_order_62 : decode cX10_order 62 = .ok (.iastore, 1) := by decide +kernel
theorem dX10_order_63 : decode cX10_order 63 = .ok (.aload_n 0, 1) := by decide +kernel
theorem dX10_order_64 : decode cX10_order 64 = .ok (.dup, 1) := by decide +kernel
theorem dX10_order_65 : decode cX10_order 65 = .ok (.getfield 70, 3) := by decide +kernel
theorem dX10_order_68 : decode cX10_order 68 = .ok (.iconst 1, 1) := by decide +kernel
theorem dX10_order_69 : decode cX10_order 69 = .ok (.iadd, 1) := by decide +kernel
theorem dX10_order_70 : decode cX10_order 70 = .ok (.putfield 70, 3) := by decide +kernel
theorem dX10_order_73 : decode cX10_order 73 = .ok (.aload_n 0, 1) := by decide +kernel
theorem dX10_order_74 : decode cX10_order 74 = .ok (.getfield 70, 3) := by decide +kernel
theorem dX10_order_77 : decode cX10_order 77 = .ok (.iconst 1, 1) := by decide +kernel
theorem dX10_order_78 : decode cX10_order 78 = .ok (.isub, 1) := by decide +kernel
theorem dX10_order_79 : decode cX10_order 79 = .ok (.ireturn, 1) := by decide +kernel
theorem dX10_cut_0 : decode cX10_cut 0 = .ok (.iload_n 1, 1) := by decide +kernel
theorem dX10_cut_1 : decode cX10_cut 1 = .ok (.iconst 0, 1) := by decide +kernel
theorem dX10_cut_2 : decode cX10_cut 2 = .ok (.aload_n 0, 1) := by decide +kernel
theorem dX10_cut_3 : decode cX10_cut 3 = .ok (.getfield 70, 3) := by decide +kernel
theorem dX10_cut_6 : decode cX10_cut 6 = .ok (.invokestatic 66, 3) := by decide +kernel
theorem dX10_cut_9 : decode cX10_cut 9 = .ok (.ifCond .ne 5, 3) := by decide +kernel
theorem dX10_cut_12 : decode cX10_cut 12 = .ok (.iconst 0, 1) := by decide +kernel
theorem dX10_cut_13 : decode cX10_cut 13 = .ok (.ireturn, 1) := by decide +kernel
theorem dX10_cut_14 : decode cX10_cut 14 = .ok (.aload_n 0, 1) := by decide +kernel
theorem dX10_cut_15 : decode cX10_cut 15 = .ok (.iload_n 1, 1) := by decide +kernel
theorem dX10_cut_16 : decode cX10_cut 16 = .ok (.putfield 70, 3) := by decide +kernel
theorem dX10_cut_19 : decode cX10_cut 19 = .ok (.iconst 1, 1) := by decide +kernel
theorem dX10_cut_20 : decode cX10_cut 20 = .ok (.ireturn, 1) := by decide +kernel
theorem dX10_rowOn_0 : decode cX10_rowOn 0 = .ok (.aload_n 0, 1) := by decide +kernel
theorem dX10_rowOn_1 : decode cX10_rowOn 1 = .ok (.getfield 26, 3) := by decide +kernel
theorem dX10_rowOn_4 : decode cX10_rowOn 4 = .ok (.iload_n 1, 1) := by decide +kernel
theorem dX10_rowOn_5 : decode cX10_rowOn 5 = .ok (.iaload, 1) := by decide +kernel
theorem dX10_rowOn_6 : decode cX10_rowOn 6 = .ok (.iconst 1, 1) := by decide +kernel
theorem dX10_rowOn_7 : decode cX10_rowOn 7 = .ok (.if_icmp .ne 12, 3) := by decide +kernel
theorem dX10_rowOn_10 : decode cX10_rowOn 10 = .ok (.aload_n 0, 1) := by decide +kernel
theorem dX10_rowOn_11 : decode cX10_rowOn 11 = .ok (.getfield 29, 3) := by decide +kernel
theorem dX10_rowOn_14 : decode cX10_rowOn 14 = .ok (.iload_n 1, 1) := by decide +kernel
theorem dX10_rowOn_15 : decode cX10_rowOn 15 = .ok (.iaload, 1) := by decide +kernel
theorem dX10_rowOn_16 : decode cX10_rowOn 16 = .ok (.goto 4, 3) := by decide +kernel
theorem dX10_rowOn_19 : decode cX10_rowOn 19 = .ok (.iconst (-1), 1) := by decide +kernel
theorem dX10_rowOn_20 : decode cX10_rowOn 20 = .ok (.ireturn, 1) := by decide +kernel
theorem dX10_roomFor_0 : decode cX10_roomFor 0 = .ok (.aload_n 0, 1) := by decide +kernel
theorem dX10_roomFor_1 : decode cX10_roomFor 1 = .ok (.getfield 77, 3) := by decide +kernel
theorem dX10_roomFor_4 : decode cX10_roomFor 4 = .ok (.bipush 120, 2) := by decide +kernel
theorem dX10_roomFor_6 : decode cX10_roomFor 6 = .ok (.if_icmp .ge 25, 3) := by decide +kernel
theorem dX10_roomFor_9 : decode cX10_roomFor 9 = .ok (.iload_n 1, 1) := by decide +kernel
theorem dX10_roomFor_10 : decode cX10_roomFor 10 = .ok (.bipush 64, 2) := by decide +kernel
theorem dX10_roomFor_12 : decode cX10_roomFor 12 = .ok (.if_icmp .gt 19, 3) := by decide +kernel
theorem dX10_roomFor_15 : decode cX10_roomFor 15 = .ok (.aload_n 0, 1) := by decide +kernel
theorem dX10_roomFor_16 : decode cX10_roomFor 16 = .ok (.getfield 80, 3) := by decide +kernel
theorem dX10_roomFor_19 : decode cX10_roomFor 19 = .ok (.iload_n 1, 1) := by decide +kernel
theorem dX10_roomFor_20 : decode cX10_roomFor 20 = .ok (.iadd, 1) := by decide +kernel
theorem dX10_roomFor_21 : decode cX10_roomFor 21 = .ok (.sipush 3000, 3) := by decide +kernel
theorem dX10_roomFor_24 : decode cX10_roomFor 24 = .ok (.if_icmp .gt 7, 3) := by decide +kernel
theorem dX10_roomFor_27 : decode cX10_roomFor 27 = .ok (.iconst 1, 1) := by decide +kernel
theorem dX10_roomFor_28 : decode cX10_roomFor 28 = .ok (.goto 4, 3) := by decide +kernel
theorem dX10_roomFor_31 : decode cX10_roomFor 31 = .ok (.iconst 0, 1) := by decide +kernel
theorem dX10_roomFor_32 : decode cX10_roomFor 32 = .ok (.ireturn, 1) := by decide +kernel
theorem dX10_make_0 : decode cX10_make 0 = .ok (.aload_n 0, 1) := by decide +kernel
theorem dX10_make_1 : decode cX10_make 1 = .ok (.getfield 7, 3) := by decide +kernel
theorem dX10_make_4 : decode cX10_make 4 = .ok (.aload_n 0, 1) := by decide +kernel
theorem dX10_make_5 : decode cX10_make 5 = .ok (.getfield 77, 3) := by decide +kernel
theorem dX10_make_8 : decode cX10_make 8 = .ok (.iload_n 1, 1) := by decide +kernel
theorem dX10_make_9 : decode cX10_make 9 = .ok (.iastore, 1) := by decide +kernel
theorem dX10_make_10 : decode cX10_make 10 = .ok (.aload_n 0, 1) := by decide +kernel
theorem dX10_make_11 : decode cX10_make 11 = .ok (.getfield 13, 3) := by decide +kernel
theorem dX10_make_14 : decode cX10_make 14 = .ok (.aload_n 0, 1) := by decide +kernel
theorem dX10_make_15 : decode cX10_make 15 = .ok (.getfield 77, 3) := by decide +kernel
theorem dX10_make_18 : decode cX10_make 18 = .ok (.iload_n 2, 1) := by decide +kernel
theorem dX10_make_19 : decode cX10_make 19 = .ok (.iastore, 1) := by decide +kernel
theorem dX10_make_20 : decode cX10_make 20 = .ok (.aload_n 0, 1) := by decide +kernel
theorem dX10_make_21 : decode cX10_make 21 = .ok (.getfield 16, 3) := by decide +kernel
theorem dX10_make_24 : decode cX10_make 24 = .ok (.aload_n 0, 1) := by decide +kernel
theorem dX10_make_25 : decode cX10_make 25 = .ok (.getfield 77, 3) := by decide +kernel
theorem dX10_make_28 : decode cX10_make 28 = .ok (.aload_n 0, 1) := by decide +kernel
theorem dX10_make_29 : decode cX10_make 29 = .ok (.getfield 80, 3) := by decide +kernel
theorem dX10_make_32 : decode cX10_make 32 = .ok (.iastore, 1) := by decide +kernel
theorem dX10_make_33 : decode cX10_make 33 = .ok (.aload_n 0, 1) := by decide +kernel
theorem dX10_make_34 : decode cX10_make 34 = .ok (.dup, 1) := by decide +kernel
theorem dX10_make_35 : decode cX10_make 35 = .ok (.getfield 80, 3) := by decide +kernel
theorem dX10_make_38 : decode cX10_make 38 = .ok (.iload_n 2, 1) := by decide +kernel
theorem dX10_make_39 : decode cX10_make 39 = .ok (.iadd, 1) := by decide +kernel
theorem dX10_make_40 : decode cX10_make 40 = .ok (.putfield 80, 3) := by decide +kernel
theorem dX10_make_43 : decode cX10_make 43 = .ok (.aload_n 0, 1) := by decide +kernel
theorem dX10_make_44 : decode cX10_make 44 = .ok (.dup, 1) := by decide +kernel
theorem dX10_make_45 : decode cX10_make 45 = .ok (.getfield 77, 3) := by decide +kernel
theorem dX10_make_48 : decode cX10_make 48 = .ok (.iconst 1, 1) := by decide +kernel
theorem dX10_make_49 : decode cX10_make 49 = .ok (.iadd, 1) := by decide +kernel
theorem dX10_make_50 : decode cX10_make 50 = .ok (.putfield 77, 3) := by decide +kernel
theorem dX10_make_53 : decode cX10_make 53 = .ok (.aload_n 0, 1) := by decide +kernel
theorem dX10_make_54 : decode cX10_make 54 = .ok (.getfield 77, 3) := by decide +kernel
theorem dX10_make_57 : decode cX10_make 57 = .ok (.iconst 1, 1) := by decide +kernel
theorem dX10_make_58 : decode cX10_make 58 = .ok (.isub, 1) := by decide +kernel
theorem dX10_make_59 : decode cX10_make 59 = .ok (.ireturn, 1) := by decide +kernel
theorem dX10_hold_0 : decode cX10_hold 0 = .ok (.aload_n 0, 1) := by decide +kernel
theorem dX10_hold_1 : decode cX10_hold 1 = .ok (.getfield 26, 3) := by decide +kernel
theorem dX10_hold_4 : decode cX10_hold 4 = .ok (.iload_n 1, 1) := by decide +kernel
theorem dX10_hold_5 : decode cX10_hold 5 = .ok (.iload_n 2, 1) := by decide +kernel
theorem dX10_hold_6 : decode cX10_hold 6 = .ok (.iastore, 1) := by decide +kernel
theorem dX10_hold_7 : decode cX10_hold 7 = .ok (.aload_n 0, 1) := by decide +kernel
theorem dX10_hold_8 : decode cX10_hold 8 = .ok (.getfield 29, 3) := by decide +kernel
theorem dX10_hold_11 : decode cX10_hold 11 = .ok (.iload_n 1, 1) := by decide +kernel
theorem dX10_hold_12 : decode cX10_hold 12 = .ok (.iload_n 3, 1) := by decide +kernel
theorem dX10_hold_13 : decode cX10_hold 13 = .ok (.iastore, 1) := by decide +kernel
theorem dX10_hold_14 : decode cX10_hold 14 = .ok (.return_, 1) := by decide +kernel
theorem dX10_canHave_0 : decode cX10_canHave 0 = .ok (.iload_n 2, 1) := by decide +kernel
theorem dX10_canHave_1 : decode cX10_canHave 1 = .ok (.ifCond .eq 9, 3) := by decide +kernel
theorem dX10_canHave_4 : decode cX10_canHave 4 = .ok (.iload_n 1, 1) := by decide +kernel
theorem dX10_canHave_5 : decode cX10_canHave 5 = .ok (.bipush 8, 2) := by decide +kernel
theorem dX10_canHave_7 : decode cX10_canHave 7 = .ok (.if_icmp .ne 5, 3) := by decide +kernel
theorem dX10_canHave_10 : decode cX10_canHave 10 = .ok (.iconst 1, 1) := by decide +kernel
theorem dX10_canHave_11 : decode cX10_canHave 11 = .ok (.ireturn, 1) := by decide +kernel
theorem dX10_canHave_12 : decode cX10_canHave 12 = .ok (.aload_n 0, 1) := by decide +kernel
theorem dX10_canHave_13 : decode cX10_canHave 13 = .ok (.getfield 23, 3) := by decide +kernel
theorem dX10_canHave_16 : decode cX10_canHave 16 = .ok (.iload_n 2, 1) := by decide +kernel
theorem dX10_canHave_17 : decode cX10_canHave 17 = .ok (.iaload, 1) := by decide +kernel
theorem dX10_canHave_18 : decode cX10_canHave 18 = .ok (.istore_n 3, 1) := by decide +kernel
theorem dX10_canHave_19 : decode cX10_canHave 19 = .ok (.iload_n 1, 1) := by decide +kernel
theorem dX10_canHave_20 : decode cX10_canHave 20 = .ok (.bipush 9, 2) := by decide +kernel
theorem dX10_canHave_22 : decode cX10_canHave 22 = .ok (.if_icmp .ne 21, 3) := by decide +kernel
theorem dX10_canHave_25 : decode cX10_canHave 25 = .ok (.iload_n 3, 1) := by decide +kernel
theorem dX10_canHave_26 : decode cX10_canHave 26 = .ok (.iconst 2, 1) := by decide +kernel
theorem dX10_canHave_27 : decode cX10_canHave 27 = .ok (.if_icmp .eq 8, 3) := by decide +kernel
theorem dX10_canHave_30 : decode cX10_canHave 30 = .ok (.iload_n 3, 1) := by decide +kernel
theorem dX10_canHave_31 : decode cX10_canHave 31 = .ok (.iconst 3, 1) := by decide +kernel
theorem dX10_canHave_32 : decode cX10_canHave 32 = .ok (.if_icmp .ne 7, 3) := by decide +kernel
theorem dX10_canHave_35 : decode cX10_canHave 35 = .ok (.iconst 1, 1) := by decide +kernel
theorem dX10_canHave_36 : decode cX10_canHave 36 = .ok (.goto 36, 3) := by decide +kernel
theorem dX10_canHave_39 : decode cX10_canHave 39 = .ok (.iconst 0, 1) := by decide +kernel
theorem dX10_canHave_40 : decode cX10_canHave 40 = .ok (.goto 32, 3) := by decide +kernel
theorem dX10_canHave_43 : decode cX10_canHave 43 = .ok (.iload_n 1, 1) := by decide +kernel
theorem dX10_canHave_44 : decode cX10_canHave 44 = .ok (.bipush 10, 2) := by decide +kernel
theorem dX10_canHave_46 : decode cX10_canHave 46 = .ok (.if_icmp .ne 16, 3) := by decide +kernel
theorem dX10_canHave_49 : decode cX10_canHave 49 = .ok (.iload_n 3, 1) := by decide +kernel
theorem dX10_canHave_50 : decode cX10_canHave 50 = .ok (.iconst 3, 1) := by decide +kernel
theorem dX10_canHave_51 : decode cX10_canHave 51 = .ok (.if_icmp .ne 7, 3) := by decide +kernel
theorem dX10_canHave_54 : decode cX10_canHave 54 = .ok (.iconst 1, 1) := by decide +kernel
theorem dX10_canHave_55 : decode cX10_canHave 55 = .ok (.goto 17, 3) := by decide +kernel
theorem dX10_canHave_58 : decode cX10_canHave 58 = .ok (.iconst 0, 1) := by decide +kernel
theorem dX10_canHave_59 : decode cX10_canHave 59 = .ok (.goto 13, 3) := by decide +kernel
theorem dX10_canHave_62 : decode cX10_canHave 62 = .ok (.iload_n 3, 1) := by decide +kernel
theorem dX10_canHave_63 : decode cX10_canHave 63 = .ok (.iconst 4, 1) := by decide +kernel
theorem dX10_canHave_64 : decode cX10_canHave 64 = .ok (.if_icmp .ne 7, 3) := by decide +kernel
theorem dX10_canHave_67 : decode cX10_canHave 67 = .ok (.iconst 1, 1) := by decide +kernel
theorem dX10_canHave_68 : decode cX10_canHave 68 = .ok (.goto 4, 3) := by decide +kernel
theorem dX10_canHave_71 : decode cX10_canHave 71 = .ok (.iconst 0, 1) := by decide +kernel
theorem dX10_canHave_72 : decode cX10_canHave 72 = .ok (.ireturn, 1) := by decide +kernel
theorem dX10_cutTo_0 : decode cX10_cutTo 0 = .ok (.iload_n 0, 1) := by decide +kernel
theorem dX10_cutTo_1 : decode cX10_cutTo 1 = .ok (.tableswitch 77 0 6 #[43, 53, 57, 63, 67, 67, 70], 43) := by decide +kernel
theorem dX10_cutTo_44 : decode cX10_cutTo 44 = .ok (.iload_n 1, 1) := by decide +kernel
theorem dX10_cutTo_45 : decode cX10_cutTo 45 = .ok (.ifCond .eq 7, 3) := by decide +kernel
theorem dX10_cutTo_48 : decode cX10_cutTo 48 = .ok (.lconst 1, 1) := by decide +kernel
theorem dX10_cutTo_49 : decode cX10_cutTo 49 = .ok (.goto 4, 3) := by decide +kernel
theorem dX10_cutTo_52 : decode cX10_cutTo 52 = .ok (.lconst 0, 1) := by decide +kernel
theorem dX10_cutTo_53 : decode cX10_cutTo 53 = .ok (.lreturn, 1) := by decide +kernel
theorem dX10_cutTo_54 : decode cX10_cutTo 54 = .ok (.iload_n 1, 1) := by decide +kernel
theorem dX10_cutTo_55 : decode cX10_cutTo 55 = .ok (.i2b, 1) := by decide +kernel
theorem dX10_cutTo_56 : decode cX10_cutTo 56 = .ok (.i2l, 1) := by decide +kernel
theorem dX10_cutTo_57 : decode cX10_cutTo 57 = .ok (.lreturn, 1) := by decide +kernel
theorem dX10_cutTo_58 : decode cX10_cutTo 58 = .ok (.iload_n 1, 1) := by decide +kernel
theorem dX10_cutTo_59 : decode cX10_cutTo 59 = .ok (.ldc 83, 2) := by decide +kernel
theorem dX10_cutTo_61 : decode cX10_cutTo 61 = .ok (.iand, 1) := by decide +kernel
theorem dX10_cutTo_62 : decode cX10_cutTo 62 = .ok (.i2l, 1) := by decide +kernel
theorem dX10_cutTo_63 : decode cX10_cutTo 63 = .ok (.lreturn, 1) := by decide +kernel
theorem dX10_cutTo_64 : decode cX10_cutTo 64 = .ok (.iload_n 1, 1) := by decide +kernel
theorem dX10_cutTo_65 : decode cX10_cutTo 65 = .ok (.i2s, 1) := by decide +kernel
theorem dX10_cutTo_66 : decode cX10_cutTo 66 = .ok (.i2l, 1) := by decide +kernel
theorem dX10_cutTo_67 : decode cX10_cutTo 67 = .ok (.lreturn, 1) := by decide +kernel
theorem dX10_cutTo_68 : decode cX10_cutTo 68 = .ok (.iload_n 1, 1) := by decide +kernel
theorem dX10_cutTo_69 : decode cX10_cutTo 69 = .ok (.i2l, 1) := by decide +kernel
theorem dX10_cutTo_70 : decode cX10_cutTo 70 = .ok (.lreturn, 1) := by decide +kernel
theorem dX10_cutTo_71 : decode cX10_cutTo 71 = .ok (.iload_n 1, 1) := by decide +kernel
theorem dX10_cutTo_72 : decode cX10_cutTo 72 = .ok (.i2f, 1) := by decide +kernel
theorem dX10_cutTo_73 : decode cX10_cutTo 73 = .ok (.invokestatic 84, 3) := by decide +kernel
theorem dX10_cutTo_76 : decode cX10_cutTo 76 = .ok (.i2l, 1) := by decide +kernel
theorem dX10_cutTo_77 : decode cX10_cutTo 77 = .ok (.lreturn, 1) := by decide +kernel
theorem dX10_cutTo_78 : decode cX10_cutTo 78 = .ok (.iload_n 1, 1) := by decide +kernel
theorem dX10_cutTo_79 : decode cX10_cutTo 79 = .ok (.i2d, 1) := by decide +kernel
theorem dX10_cutTo_80 : decode cX10_cutTo 80 = .ok (.invokestatic 90, 3) := by decide +kernel
theorem dX10_cutTo_83 : decode cX10_cutTo 83 = .ok (.lreturn, 1) := by decide +kernel
theorem dX10_splice_0 : decode cX10_splice 0 = .ok (.aload_n 0, 1) := by decide +kernel
theorem dX10_splice_1 : decode cX10_splice 1 = .ok (.getfield 26, 3) := by decide +kernel
theorem dX10_splice_4 : decode cX10_splice 4 = .ok (.iload_n 1, 1) := by decide +kernel
theorem dX10_splice_5 : decode cX10_splice 5 = .ok (.iaload, 1) := by decide +kernel
theorem dX10_splice_6 : decode cX10_splice 6 = .ok (.ifCond .eq 12, 3) := by decide +kernel
theorem dX10_splice_9 : decode cX10_splice 9 = .ok (.aload_n 0, 1) := by decide +kernel
theorem dX10_splice_10 : decode cX10_splice 10 = .ok (.getfield 26, 3) := by decide +kernel
theorem dX10_splice_13 : decode cX10_splice 13 = .ok (.iload_n 2, 1) := by decide +kernel
theorem dX10_splice_14 : decode cX10_splice 14 = .ok (.iaload, 1) := by decide +kernel
theorem dX10_splice_15 : decode cX10_splice 15 = .ok (.ifCond .ne 5, 3) := by decide +kernel
theorem dX10_splice_18 : decode cX10_splice 18 = .ok (.iconst 1, 1) := by decide +kernel
theorem dX10_splice_19 : decode cX10_splice 19 = .ok (.ireturn, 1) := by decide +kernel
theorem dX10_splice_20 : decode cX10_splice 20 = .ok (.aload_n 0, 1) := by decide +kernel
theorem dX10_splice_21 : decode cX10_splice 21 = .ok (.iload_n 1, 1) := by decide +kernel
theorem dX10_splice_22 : decode cX10_splice 22 = .ok (.invokevirtual 96, 3) := by decide +kernel
theorem dX10_splice_25 : decode cX10_splice 25 = .ok (.istore 4, 2) := by decide +kernel
theorem dX10_splice_27 : decode cX10_splice 27 = .ok (.aload_n 0, 1) := by decide +kernel
theorem dX10_splice_28 : decode cX10_splice 28 = .ok (.iload_n 2, 1) := by decide +kernel
theorem dX10_splice_29 : decode cX10_splice 29 = .ok (.invokevirtual 96, 3) := by decide +kernel
theorem dX10_splice_32 : decode cX10_splice 32 = .ok (.istore 5, 2) := by decide +kernel
theorem dX10_splice_34 : decode cX10_splice 34 = .ok (.iload 4, 2) := by decide +kernel
theorem dX10_splice_36 : decode cX10_splice 36 = .ok (.ifCond .lt 8, 3) := by decide +kernel
theorem dX10_splice_39 : decode cX10_splice 39 = .ok (.iload 5, 2) := by decide +kernel
theorem dX10_splice_41 : decode cX10_splice 41 = .ok (.ifCond .ge 5, 3) := by decide +kernel
theorem dX10_splice_44 : decode cX10_splice 44 = .ok (.iconst 2, 1) := by decide +kernel
theorem dX10_splice_45 : decode cX10_splice 45 = .ok (.ireturn, 1) := by decide +kernel
theorem dX10_splice_46 : decode cX10_splice 46 = .ok (.aload_n 0, 1) := by decide +kernel
theorem dX10_splice_47 : decode cX10_splice 47 = .ok (.getfield 7, 3) := by decide +kernel
theorem dX10_splice_50 : decode cX10_splice 50 = .ok (.iload 4, 2) := by decide +kernel
theorem dX10_splice_52 : decode cX10_splice 52 = .ok (.iaload, 1) := by decide +kernel
theorem dX10_splice_53 : decode cX10_splice 53 = .ok (.bipush 8, 2) := by decide +kernel
theorem dX10_splice_55 : decode cX10_splice 55 = .ok (.if_icmp .lt 7, 3) := by decide +kernel
theorem dX10_splice_58 : decode cX10_splice 58 = .ok (.iconst 1, 1) := by decide +kernel
theorem dX10_splice_59 : decode cX10_splice 59 = .ok (.goto 4, 3) := by decide +kernel
theorem dX10_splice_62 : decode cX10_splice 62 = .ok (.iconst 0, 1) := by decide +kernel
theorem dX10_splice_63 : decode cX10_splice 63 = .ok (.istore 6, 2) := by decide +kernel
theorem dX10_splice_65 : decode cX10_splice 65 = .ok (.iload 6, 2) := by decide +kernel
theorem dX10_splice_67 : decode cX10_splice 67 = .ok (.aload_n 0, 1) := by decide +kernel
theorem dX10_splice_68 : decode cX10_splice 68 = .ok (.getfield 7, 3) := by decide +kernel
theorem dX10_splice_71 : decode cX10_splice 71 = .ok (.iload 5, 2) := by decide +kernel
theorem dX10_splice_73 : decode cX10_splice 73 = .ok (.iaload, 1) := by decide +kernel
theorem dX10_splice_74 : decode cX10_splice 74 = .ok (.bipush 8, 2) := by decide +kernel
theorem dX10_splice_76 : decode cX10_splice 76 = .ok (.if_icmp .lt 7, 3) := by decide +kernel
theorem dX10_splice_79 : decode cX10_splice 79 = .ok (.iconst 1, 1) := by decide +kernel
theorem dX10_splice_80 : decode cX10_splice 80 = .ok (.goto 4, 3) := by decide +kernel
theorem dX10_splice_83 : decode cX10_splice 83 = .ok (.iconst 0, 1) := by decide +kernel
theorem dX10_splice_84 : decode cX10_splice 84 = .ok (.if_icmp .ne 25, 3) := by decide +kernel
theorem dX10_splice_87 : decode cX10_splice 87 = .ok (.iload 6, 2) := by decide +kernel
theorem dX10_splice_89 : decode cX10_splice 89 = .ok (.ifCond .ne 22, 3) := by decide +kernel
theorem dX10_splice_92 : decode cX10_splice 92 = .ok (.aload_n 0, 1) := by decide +kernel
theorem dX10_splice_93 : decode cX10_splice 93 = .ok (.getfield 7, 3) := by decide +kernel
theorem dX10_splice_96 : decode cX10_splice 96 = .ok (.iload 4, 2) := by decide +kernel
theorem dX10_splice_98 : decode cX10_splice 98 = .ok (.iaload, 1) := by decide +kernel
theorem dX10_splice_99 : decode cX10_splice 99 = .ok (.aload_n 0, 1) := by decide +kernel
theorem dX10_splice_100 : decode cX10_splice 100 = .ok (.getfield 7, 3) := by decide +kernel
theorem dX10_splice_103 : decode cX10_splice 103 = .ok (.iload 5, 2) := by decide +kernel
theorem dX10_splice_105 : decode cX10_splice 105 = .ok (.iaload, 1) := by decide +kernel
theorem dX10_splice_106 : decode cX10_splice 106 = .ok (.if_icmp .eq 5, 3) := by decide +kernel
theorem dX10_splice_109 : decode cX10_splice 109 = .ok (.iconst 2, 1) := by decide +kernel
theorem dX10_splice_110 : decode cX10_splice 110 = .ok (.ireturn, 1) := by decide +kernel
theorem dX10_splice_111 : decode cX10_splice 111 = .ok (.aload_n 0, 1) := by decide +kernel
theorem dX10_splice_112 : decode cX10_splice 112 = .ok (.getfield 32, 3) := by decide +kernel
theorem dX10_splice_115 : decode cX10_splice 115 = .ok (.iload_n 1, 1) := by decide +kernel
theorem dX10_splice_116 : decode cX10_splice 116 = .ok (.iaload, 1) := by decide +kernel
theorem dX10_splice_117 : decode cX10_splice 117 = .ok (.i2l, 1) := by decide +kernel
theorem dX10_splice_118 : decode cX10_splice 118 = .ok (.iload_n 3, 1) := by decide +kernel
theorem dX10_splice_119 : decode cX10_splice 119 = .ok (.i2l, 1) := by decide +kernel
theorem dX10_splice_120 : decode cX10_splice 120 = .ok (.ladd, 1) := by decide +kernel
theorem dX10_splice_121 : decode cX10_splice 121 = .ok (.lstore 7, 2) := by decide +kernel
theorem dX10_splice_123 : decode cX10_splice 123 = .ok (.aload_n 0, 1) := by decide +kernel
theorem dX10_splice_124 : decode cX10_splice 124 = .ok (.getfield 32, 3) := by decide +kernel
theorem dX10_splice_127 : decode cX10_splice 127 = .ok (.iload_n 2, 1) := by decide +kernel
theorem dX10_splice_128 : decode cX10_splice 128 = .ok (.iaload, 1) := by decide +kernel
theorem dX10_splice_129 : decode cX10_splice 129 = .ok (.i2l, 1) := by decide +kernel
theorem dX10_splice_130 : decode cX10_splice 130 = .ok (.iload_n 3, 1) := by decide +kernel
theorem dX10_splice_131 : decode cX10_splice 131 = .ok (.i2l, 1) := by decide +kernel
theorem dX10_splice_132 : decode cX10_splice 132 = .ok (.ladd, 1) := by decide +kernel
theorem dX10_splice_133 : decode cX10_splice 133 = .ok (.lstore 9, 2) := by decide +kernel
theorem dX10_splice_135 : decode cX10_splice 135 = .ok (.aload_n 0, 1) := by decide +kernel
theorem dX10_splice_136 : decode cX10_splice 136 = .ok (.getfield 32, 3) := by decide +kernel
theorem dX10_splice_139 : decode cX10_splice 139 = .ok (.iload_n 1, 1) := by decide +kernel
theorem dX10_splice_140 : decode cX10_splice 140 = .ok (.iaload, 1) := by decide +kernel
theorem dX10_splice_141 : decode cX10_splice 141 = .ok (.ifCond .lt 44, 3) := by decide +kernel
theorem dX10_splice_144 : decode cX10_splice 144 = .ok (.aload_n 0, 1) := by decide +kernel
theorem dX10_splice_145 : decode cX10_splice 145 = .ok (.getfield 32, 3) := by decide +kernel
theorem dX10_splice_148 : decode cX10_splice 148 = .ok (.iload_n 2, 1) := by decide +kernel
theorem dX10_splice_149 : decode cX10_splice 149 = .ok (.iaload, 1) := by decide +kernel
theorem dX10_splice_150 : decode cX10_splice 150 = .ok (.ifCond .lt 35, 3) := by decide +kernel
theorem dX10_splice_153 : decode cX10_splice 153 = .ok (.iload_n 3, 1) := by decide +kernel
theorem dX10_splice_154 : decode cX10_splice 154 = .ok (.ifCond .lt 31, 3) := by decide +kernel
theorem dX10_splice_157 : decode cX10_splice 157 = .ok (.lload 7, 2) := by decide +kernel
theorem dX10_splice_159 : decode cX10_splice 159 = .ok (.aload_n 0, 1) := by decide +kernel
theorem dX10_splice_160 : decode cX10_splice 160 = .ok (.getfield 13, 3) := by decide +kernel
theorem dX10_splice_163 : decode cX10_splice 163 = .ok (.iload 4, 2) := by decide +kernel
theorem dX10_splice_165 : decode cX10_splice 165 = .ok (.iaload, 1) := by decide +kernel
theorem dX10_splice_166 : decode cX10_splice 166 = .ok (.i2l, 1) := by decide +kernel
theorem dX10_splice_167 : decode cX10_splice 167 = .ok (.lcmp, 1) := by decide +kernel
theorem dX10_splice_168 : decode cX10_splice 168 = .ok (.ifCond .gt 17, 3) := by decide +kernel
theorem dX10_splice_171 : decode cX10_splice 171 = .ok (.lload 9, 2) := by decide +kernel
theorem dX10_splice_173 : decode cX10_splice 173 = .ok (.aload_n 0, 1) := by decide +kernel
theorem dX10_splice_174 : decode cX10_splice 174 = .ok (.getfield 13, 3) := by decide +kernel
theorem dX10_splice_177 : decode cX10_splice 177 = .ok (.iload 5, 2) := by decide +kernel
theorem dX10_splice_179 : decode cX10_splice 179 = .ok (.iaload, 1) := by decide +kernel
theorem dX10_splice_180 : decode cX10_splice 180 = .ok (.i2l, 1) := by decide +kernel
theorem dX10_splice_181 : decode cX10_splice 181 = .ok (.lcmp, 1) := by decide +kernel
theorem dX10_splice_182 : decode cX10_splice 182 = .ok (.ifCond .le 5, 3) := by decide +kernel
theorem dX10_splice_185 : decode cX10_splice 185 = .ok (.iconst 3, 1) := by decide +kernel
theorem dX10_splice_186 : decode cX10_splice 186 = .ok (.ireturn, 1) := by decide +kernel
theorem dX10_splice_187 : decode cX10_splice 187 = .ok (.iconst 0, 1) := by decide +kernel
theorem dX10_splice_188 : decode cX10_splice 188 = .ok (.istore 11, 2) := by decide +kernel
theorem dX10_splice_190 : decode cX10_splice 190 = .ok (.iload 11, 2) := by decide +kernel
theorem dX10_splice_192 : decode cX10_splice 192 = .ok (.iload_n 3, 1) := by decide +kernel
theorem dX10_splice_193 : decode cX10_splice 193 = .ok (.if_icmp .ge 38, 3) := by decide +kernel
theorem dX10_splice_196 : decode cX10_splice 196 = .ok (.aload_n 0, 1) := by decide +kernel
theorem dX10_splice_197 : decode cX10_splice 197 = .ok (.getfield 59, 3) := by decide +kernel
theorem dX10_splice_200 : decode cX10_splice 200 = .ok (.iload 11, 2) := by decide +kernel
theorem dX10_splice_202 : decode cX10_splice 202 = .ok (.aload_n 0, 1) := by decide +kernel
theorem dX10_splice_203 : decode cX10_splice 203 = .ok (.getfield 19, 3) := by decide +kernel
theorem dX10_splice_206 : decode cX10_splice 206 = .ok (.aload_n 0, 1) := by decide +kernel
theorem dX10_splice_207 : decode cX10_splice 207 = .ok (.getfield 16, 3) := by decide +kernel
theorem dX10_splice_210 : decode cX10_splice 210 = .ok (.iload 4, 2) := by decide +kernel
theorem dX10_splice_212 : decode cX10_splice 212 = .ok (.iaload, 1) := by decide +kernel
theorem dX10_splice_213 : decode cX10_splice 213 = .ok (.aload_n 0, 1) := by decide +kernel
theorem dX10_splice_214 : decode cX10_splice 214 = .ok (.getfield 32, 3) := by decide +kernel
theorem dX10_splice_217 : decode cX10_splice 217 = .ok (.iload_n 1, 1) := by decide +kernel
theorem dX10_splice_218 : decode cX10_splice 218 = .ok (.iaload, 1) := by decide +kernel
theorem dX10_splice_219 : decode cX10_splice 219 = .ok (.iadd, 1) := by decide +kernel
theorem dX10_splice_220 : decode cX10_splice 220 = .ok (.iload 11, 2) := by decide +kernel
theorem dX10_splice_222 : decode cX10_splice 222 = .ok (.iadd, 1) := by decide +kernel
theorem dX10_splice_223 : decode cX10_splice 223 = .ok (.laload, 1) := by decide +kernel
theorem dX10_splice_224 : decode cX10_splice 224 = .ok (.lastore, 1) := by decide +kernel
theorem dX10_splice_225 : decode cX10_splice 225 = .ok (.iinc 11 1, 3) := by decide +kernel
theorem dX10_splice_228 : decode cX10_splice 228 = .ok (.goto (-38), 3) := by decide +kernel
theorem dX10_splice_231 : decode cX10_splice 231 = .ok (.iconst 0, 1) := by decide +kernel
theorem dX10_splice_232 : decode cX10_splice 232 = .ok (.istore 11, 2) := by decide +kernel
theorem dX10_splice_234 : decode cX10_splice 234 = .ok (.iload 11, 2) := by decide +kernel
theorem dX10_splice_236 : decode cX10_splice 236 = .ok (.iload_n 3, 1) := by decide +kernel
theorem dX10_splice_237 : decode cX10_splice 237 = .ok (.if_icmp .ge 67, 3) := by decide +kernel
theorem dX10_splice_240 : decode cX10_splice 240 = .ok (.iload 6, 2) := by decide +kernel
theorem dX10_splice_242 : decode cX10_splice 242 = .ok (.ifCond .eq 27, 3) := by decide +kernel
theorem dX10_splice_245 : decode cX10_splice 245 = .ok (.aload_n 0, 1) := by decide +kernel
theorem dX10_splice_246 : decode cX10_splice 246 = .ok (.aload_n 0, 1) := by decide +kernel
theorem dX10_splice_247 : decode cX10_splice 247 = .ok (.getfield 7, 3) := by decide +kernel
theorem dX10_splice_250 : decode cX10_splice 250 = .ok (.iload 5, 2) := by decide +kernel
theorem dX10_splice_252 : decode cX10_splice 252 = .ok (.iaload, 1) := by decide +kernel
theorem dX10_splice_253 : decode cX10_splice 253 = .ok (.aload_n 0, 1) := by decide +kernel
theorem dX10_splice_254 : decode cX10_splice 254 = .ok (.getfield 59, 3) := by decide +kernel
theorem dX10_splice_257 : decode cX10_splice 257 = .ok (.iload 11, 2) := by decide +kernel
theorem dX10_splice_259 : decode cX10_splice 259 = .ok (.laload, 1) := by decide +kernel
theorem dX10_splice_260 : decode cX10_splice 260 = .ok (.l2i, 1) := by decide +kernel
theorem dX10_splice_261 : decode cX10_splice 261 = .ok (.invokevirtual 100, 3) := by decide +kernel
theorem dX10_splice_264 : decode cX10_splice 264 = .ok (.ifCond .ne 5, 3) := by decide +kernel
theorem dX10_splice_267 : decode cX10_splice 267 = .ok (.iconst 2, 1) := by decide +kernel
theorem dX10_splice_268 : decode cX10_splice 268 = .ok (.ireturn, 1) := by decide +kernel
theorem dX10_splice_269 : decode cX10_splice 269 = .ok (.aload_n 0, 1) := by decide +kernel
theorem dX10_splice_270 : decode cX10_splice 270 = .ok (.getfield 19, 3) := by decide +kernel
theorem dX10_splice_273 : decode cX10_splice 273 = .ok (.aload_n 0, 1) := by decide +kernel
theorem dX10_splice_274 : decode cX10_splice 274 = .ok (.getfield 16, 3) := by decide +kernel
theorem dX10_splice_277 : decode cX10_splice 277 = .ok (.iload 5, 2) := by decide +kernel
theorem dX10_splice_279 : decode cX10_splice 279 = .ok (.iaload, 1) := by decide +kernel
theorem dX10_splice_280 : decode cX10_splice 280 = .ok (.aload_n 0, 1) := by decide +kernel
theorem dX10_splice_281 : decode cX10_splice 281 = .ok (.getfield 32, 3) := by decide +kernel
theorem dX10_splice_284 : decode cX10_splice 284 = .ok (.iload_n 2, 1) := by decide +kernel
theorem dX10_splice_285 : decode cX10_splice 285 = .ok (.iaload, 1) := by decide +kernel
theorem dX10_splice_286 : decode cX10_splice 286 = .ok (.iadd, 1) := by decide +kernel
theorem dX10_splice_287 : decode cX10_splice 287 = .ok (.iload 11, 2) := by decide +kernel
theorem dX10_splice_289 : decode cX10_splice 289 = .ok (.iadd, 1) := by decide +kernel
theorem dX10_splice_290 : decode cX10_splice 290 = .ok (.aload_n 0, 1) := by decide +kernel
theorem dX10_splice_291 : decode cX10_splice 291 = .ok (.getfield 59, 3) := by decide +kernel
theorem dX10_splice_294 : decode cX10_splice 294 = .ok (.iload 11, 2) := by decide +kernel
theorem dX10_splice_296 : decode cX10_splice 296 = .ok (.laload, 1) := by decide +kernel
theorem dX10_splice_297 : decode cX10_splice 297 = .ok (.lastore, 1) := by decide +kernel
theorem dX10_splice_298 : decode cX10_splice 298 = .ok (.iinc 11 1, 3) := by decide +kernel
theorem dX10_splice_301 : decode cX10_splice 301 = .ok (.goto (-67), 3) := by decide +kernel
theorem dX10_splice_304 : decode cX10_splice 304 = .ok (.iconst 0, 1) := by decide +kernel
theorem dX10_splice_305 : decode cX10_splice 305 = .ok (.ireturn, 1) := by decide +kernel
theorem dX10_turn_0 : decode cX10_turn 0 = .ok (.aload_n 0, 1) := by decide +kernel
theorem dX10_turn_1 : decode cX10_turn 1 = .ok (.getfield 26, 3) := by decide +kernel
theorem dX10_turn_4 : decode cX10_turn 4 = .ok (.iload_n 1, 1) := by decide +kernel
theorem dX10_turn_5 : decode cX10_turn 5 = .ok (.iaload, 1) := by decide +kernel
theorem dX10_turn_6 : decode cX10_turn 6 = .ok (.ifCond .ne 5, 3) := by decide +kernel
theorem dX10_turn_9 : decode cX10_turn 9 = .ok (.iconst 1, 1) := by decide +kernel
theorem dX10_turn_10 : decode cX10_turn 10 = .ok (.ireturn, 1) := by decide +kernel
theorem dX10_turn_11 : decode cX10_turn 11 = .ok (.aload_n 0, 1) := by decide +kernel
theorem dX10_turn_12 : decode cX10_turn 12 = .ok (.iload_n 1, 1) := by decide +kernel
theorem dX10_turn_13 : decode cX10_turn 13 = .ok (.invokevirtual 96, 3) := by decide +kernel
theorem dX10_turn_16 : decode cX10_turn 16 = .ok (.istore_n 3, 1) := by decide +kernel
theorem dX10_turn_17 : decode cX10_turn 17 = .ok (.iload_n 3, 1) := by decide +kernel
theorem dX10_turn_18 : decode cX10_turn 18 = .ok (.ifCond .ge 5, 3) := by decide +kernel
theorem dX10_turn_21 : decode cX10_turn 21 = .ok (.iconst 2, 1) := by decide +kernel
theorem dX10_turn_22 : decode cX10_turn 22 = .ok (.ireturn, 1) := by decide +kernel
theorem dX10_turn_23 : decode cX10_turn 23 = .ok (.aload_n 0, 1) := by decide +kernel
theorem dX10_turn_24 : decode cX10_turn 24 = .ok (.getfield 13, 3) := by decide +kernel
theorem dX10_turn_27 : decode cX10_turn 27 = .ok (.iload_n 3, 1) := by decide +kernel
theorem dX10_turn_28 : decode cX10_turn 28 = .ok (.iaload, 1) := by decide +kernel
theorem dX10_turn_29 : decode cX10_turn 29 = .ok (.istore 4, 2) := by decide +kernel
theorem dX10_turn_31 : decode cX10_turn 31 = .ok (.iconst 0, 1) := by decide +kernel
theorem dX10_turn_32 : decode cX10_turn 32 = .ok (.istore 5, 2) := by decide +kernel
theorem dX10_turn_34 : decode cX10_turn 34 = .ok (.iload 5, 2) := by decide +kernel
theorem dX10_turn_36 : decode cX10_turn 36 = .ok (.iload 4, 2) := by decide +kernel
theorem dX10_turn_38 : decode cX10_turn 38 = .ok (.if_icmp .ge 60, 3) := by decide +kernel
theorem dX10_turn_41 : decode cX10_turn 41 = .ok (.iload 5, 2) := by decide +kernel
theorem dX10_turn_43 : decode cX10_turn 43 = .ok (.i2l, 1) := by decide +kernel
theorem dX10_turn_44 : decode cX10_turn 44 = .ok (.iload_n 2, 1) := by decide +kernel
theorem dX10_turn_45 : decode cX10_turn 45 = .ok (.i2l, 1) := by decide +kernel
theorem dX10_turn_46 : decode cX10_turn 46 = .ok (.ladd, 1) := by decide +kernel
theorem dX10_turn_47 : decode cX10_turn 47 = .ok (.iload 4, 2) := by decide +kernel
theorem dX10_turn_49 : decode cX10_turn 49 = .ok (.i2l, 1) := by decide +kernel
theorem dX10_turn_50 : decode cX10_turn 50 = .ok (.lrem, 1) := by decide +kernel
theorem dX10_turn_51 : decode cX10_turn 51 = .ok (.l2i, 1) := by decide +kernel
theorem dX10_turn_52 : decode cX10_turn 52 = .ok (.istore 6, 2) := by decide +kernel
theorem dX10_turn_54 : decode cX10_turn 54 = .ok (.iload 6, 2) := by decide +kernel
theorem dX10_turn_56 : decode cX10_turn 56 = .ok (.ifCond .ge 11, 3) := by decide +kernel
theorem dX10_turn_59 : decode cX10_turn 59 = .ok (.iload 6, 2) := by decide +kernel
theorem dX10_turn_61 : decode cX10_turn 61 = .ok (.iload 4, 2) := by decide +kernel
theorem dX10_turn_63 : decode cX10_turn 63 = .ok (.iadd, 1) := by decide +kernel
theorem dX10_turn_64 : decode cX10_turn 64 = .ok (.goto 5, 3) := by decide +kernel
theorem dX10_turn_67 : decode cX10_turn 67 = .ok (.iload 6, 2) := by decide +kernel
theorem dX10_turn_69 : decode cX10_turn 69 = .ok (.istore 6, 2) := by decide +kernel
theorem dX10_turn_71 : decode cX10_turn 71 = .ok (.aload_n 0, 1) := by decide +kernel
theorem dX10_turn_72 : decode cX10_turn 72 = .ok (.getfield 59, 3) := by decide +kernel
theorem dX10_turn_75 : decode cX10_turn 75 = .ok (.iload 5, 2) := by decide +kernel
theorem dX10_turn_77 : decode cX10_turn 77 = .ok (.aload_n 0, 1) := by decide +kernel
theorem dX10_turn_78 : decode cX10_turn 78 = .ok (.getfield 19, 3) := by decide +kernel
theorem dX10_turn_81 : decode cX10_turn 81 = .ok (.aload_n 0, 1) := by decide +kernel
theorem dX10_turn_82 : decode cX10_turn 82 = .ok (.getfield 16, 3) := by decide +kernel
theorem dX10_turn_85 : decode cX10_turn 85 = .ok (.iload_n 3, 1) := by decide +kernel
theorem dX10_turn_86 : decode cX10_turn 86 = .ok (.iaload, 1) := by decide +kernel
theorem dX10_turn_87 : decode cX10_turn 87 = .ok (.iload 6, 2) := by decide +kernel
theorem dX10_turn_89 : decode cX10_turn 89 = .ok (.iadd, 1) := by decide +kernel
theorem dX10_turn_90 : decode cX10_turn 90 = .ok (.laload, 1) := by decide +kernel
theorem dX10_turn_91 : decode cX10_turn 91 = .ok (.lastore, 1) := by decide +kernel
theorem dX10_turn_92 : decode cX10_turn 92 = .ok (.iinc 5 1, 3) := by decide +kernel
theorem dX10_turn_95 : decode cX10_turn 95 = .ok (.goto (-61), 3) := by decide +kernel
theorem dX10_turn_98 : decode cX10_turn 98 = .ok (.iconst 0, 1) := by decide +kernel
theorem dX10_turn_99 : decode cX10_turn 99 = .ok (.istore 5, 2) := by decide +kernel
theorem dX10_turn_101 : decode cX10_turn 101 = .ok (.iload 5, 2) := by decide +kernel
theorem dX10_turn_103 : decode cX10_turn 103 = .ok (.iload 4, 2) := by decide +kernel
theorem dX10_turn_105 : decode cX10_turn 105 = .ok (.if_icmp .ge 30, 3) := by decide +kernel
theorem dX10_turn_108 : decode cX10_turn 108 = .ok (.aload_n 0, 1) := by decide +kernel
theorem dX10_turn_109 : decode cX10_turn 109 = .ok (.getfield 19, 3) := by decide +kernel
theorem dX10_turn_112 : decode cX10_turn 112 = .ok (.aload_n 0, 1) := by decide +kernel
theorem dX10_turn_113 : decode cX10_turn 113 = .ok (.getfield 16, 3) := by decide +kernel
theorem dX10_turn_116 : decode cX10_turn 116 = .ok (.iload_n 3, 1) := by decide +kernel
theorem dX10_turn_117 : decode cX10_turn 117 = .ok (.iaload, 1) := by decide +kernel
theorem dX10_turn_118 : decode cX10_turn 118 = .ok (.iload 5, 2) := by decide +kernel
theorem dX10_turn_120 : decode cX10_turn 120 = .ok (.iadd, 1) := by decide +kernel
theorem dX10_turn_121 : decode cX10_turn 121 = .ok (.aload_n 0, 1) := by decide +kernel
theorem dX10_turn_122 : decode cX10_turn 122 = .ok (.getfield 59, 3) := by decide +kernel
theorem dX10_turn_125 : decode cX10_turn 125 = .ok (.iload 5, 2) := by decide +kernel
theorem dX10_turn_127 : decode cX10_turn 127 = .ok (.laload, 1) := by decide +kernel
theorem dX10_turn_128 : decode cX10_turn 128 = .ok (.lastore, 1) := by decide +kernel
theorem dX10_turn_129 : decode cX10_turn 129 = .ok (.iinc 5 1, 3) := by decide +kernel
theorem dX10_turn_132 : decode cX10_turn 132 = .ok (.goto (-31), 3) := by decide +kernel
theorem dX10_turn_135 : decode cX10_turn 135 = .ok (.iconst 0, 1) := by decide +kernel
theorem dX10_turn_136 : decode cX10_turn 136 = .ok (.ireturn, 1) := by decide +kernel
theorem dX10_open_0 : decode cX10_open 0 = .ok (.aload_n 0, 1) := by decide +kernel
theorem dX10_open_1 : decode cX10_open 1 = .ok (.getfield 26, 3) := by decide +kernel
theorem dX10_open_4 : decode cX10_open 4 = .ok (.iload_n 1, 1) := by decide +kernel
theorem dX10_open_5 : decode cX10_open 5 = .ok (.iaload, 1) := by decide +kernel
theorem dX10_open_6 : decode cX10_open 6 = .ok (.ifCond .ne 5, 3) := by decide +kernel
theorem dX10_open_9 : decode cX10_open 9 = .ok (.iconst 1, 1) := by decide +kernel
theorem dX10_open_10 : decode cX10_open 10 = .ok (.ireturn, 1) := by decide +kernel
theorem dX10_open_11 : decode cX10_open 11 = .ok (.aload_n 0, 1) := by decide +kernel
theorem dX10_open_12 : decode cX10_open 12 = .ok (.iload_n 1, 1) := by decide +kernel
theorem dX10_open_13 : decode cX10_open 13 = .ok (.invokevirtual 96, 3) := by decide +kernel
theorem dX10_open_16 : decode cX10_open 16 = .ok (.istore 4, 2) := by decide +kernel
theorem dX10_open_18 : decode cX10_open 18 = .ok (.iload 4, 2) := by decide +kernel
theorem dX10_open_20 : decode cX10_open 20 = .ok (.ifCond .ge 5, 3) := by decide +kernel
theorem dX10_open_23 : decode cX10_open 23 = .ok (.iconst 2, 1) := by decide +kernel
theorem dX10_open_24 : decode cX10_open 24 = .ok (.ireturn, 1) := by decide +kernel
theorem dX10_open_25 : decode cX10_open 25 = .ok (.aload_n 0, 1) := by decide +kernel
theorem dX10_open_26 : decode cX10_open 26 = .ok (.getfield 32, 3) := by decide +kernel
theorem dX10_open_29 : decode cX10_open 29 = .ok (.iload_n 1, 1) := by decide +kernel
theorem dX10_open_30 : decode cX10_open 30 = .ok (.iaload, 1) := by decide +kernel
theorem dX10_open_31 : decode cX10_open 31 = .ok (.istore 5, 2) := by decide +kernel
theorem dX10_open_33 : decode cX10_open 33 = .ok (.aload_n 0, 1) := by decide +kernel
theorem dX10_open_34 : decode cX10_open 34 = .ok (.getfield 13, 3) := by decide +kernel
theorem dX10_open_37 : decode cX10_open 37 = .ok (.iload 4, 2) := by decide +kernel
theorem dX10_open_39 : decode cX10_open 39 = .ok (.iaload, 1) := by decide +kernel
theorem dX10_open_40 : decode cX10_open 40 = .ok (.istore 6, 2) := by decide +kernel
theorem dX10_open_42 : decode cX10_open 42 = .ok (.iload 5, 2) := by decide +kernel
theorem dX10_open_44 : decode cX10_open 44 = .ok (.ifCond .lt 20, 3) := by decide +kernel
theorem dX10_open_47 : decode cX10_open 47 = .ok (.iload_n 2, 1) := by decide +kernel
theorem dX10_open_48 : decode cX10_open 48 = .ok (.ifCond .lt 16, 3) := by decide +kernel
theorem dX10_open_51 : decode cX10_open 51 = .ok (.iload 5, 2) := by decide +kernel
theorem dX10_open_53 : decode cX10_open 53 = .ok (.i2l, 1) := by decide +kernel
theorem dX10_open_54 : decode cX10_open 54 = .ok (.iload_n 2, 1) := by decide +kernel
theorem dX10_open_55 : decode cX10_open 55 = .ok (.i2l, 1) := by decide +kernel
theorem dX10_open_56 : decode cX10_open 56 = .ok (.ladd, 1) := by decide +kernel
theorem dX10_open_57 : decode cX10_open 57 = .ok (.iload 6, 2) := by decide +kernel
theorem dX10_open_59 : decode cX10_open 59 = .ok (.i2l, 1) := by decide +kernel
theorem dX10_open_60 : decode cX10_open 60 = .ok (.lcmp, 1) := by decide +kernel
theorem dX10_open_61 : decode cX10_open 61 = .ok (.ifCond .le 5, 3) := by decide +kernel
theorem dX10_open_64 : decode cX10_open 64 = .ok (.iconst 3, 1) := by decide +kernel
theorem dX10_open_65 : decode cX10_open 65 = .ok (.ireturn, 1) := by decide +kernel
theorem dX10_open_66 : decode cX10_open 66 = .ok (.iconst 0, 1) := by decide +kernel
theorem dX10_open_67 : decode cX10_open 67 = .ok (.istore 7, 2) := by decide +kernel
theorem dX10_open_69 : decode cX10_open 69 = .ok (.iload 7, 2) := by decide +kernel
theorem dX10_open_71 : decode cX10_open 71 = .ok (.iload 6, 2) := by decide +kernel
theorem dX10_open_73 : decode cX10_open 73 = .ok (.if_icmp .ge 31, 3) := by decide +kernel
theorem dX10_open_76 : decode cX10_open 76 = .ok (.aload_n 0, 1) := by decide +kernel
theorem dX10_open_77 : decode cX10_open 77 = .ok (.getfield 59, 3) := by decide +kernel
theorem dX10_open_80 : decode cX10_open 80 = .ok (.iload 7, 2) := by decide +kernel
theorem dX10_open_82 : decode cX10_open 82 = .ok (.aload_n 0, 1) := by decide +kernel
theorem dX10_open_83 : decode cX10_open 83 = .ok (.getfield 19, 3) := by decide +kernel
theorem dX10_open_86 : decode cX10_open 86 = .ok (.aload_n 0, 1) := by decide +kernel
theorem dX10_open_87 : decode cX10_open 87 = .ok (.getfield 16, 3) := by decide +kernel
theorem dX10_open_90 : decode cX10_open 90 = .ok (.iload 4, 2) := by decide +kernel
theorem dX10_open_92 : decode cX10_open 92 = .ok (.iaload, 1) := by decide +kernel
theorem dX10_open_93 : decode cX10_open 93 = .ok (.iload 7, 2) := by decide +kernel
theorem dX10_open_95 : decode cX10_open 95 = .ok (.iadd, 1) := by decide +kernel
theorem dX10_open_96 : decode cX10_open 96 = .ok (.laload, 1) := by decide +kernel
theorem dX10_open_97 : decode cX10_open 97 = .ok (.lastore, 1) := by decide +kernel
theorem dX10_open_98 : decode cX10_open 98 = .ok (.iinc 7 1, 3) := by decide +kernel
theorem dX10_open_101 : decode cX10_open 101 = .ok (.goto (-32), 3) := by decide +kernel
theorem dX10_open_104 : decode cX10_open 104 = .ok (.iload 5, 2) := by decide +kernel
theorem dX10_open_106 : decode cX10_open 106 = .ok (.istore 7, 2) := by decide +kernel
theorem dX10_open_108 : decode cX10_open 108 = .ok (.iload 7, 2) := by decide +kernel
theorem dX10_open_110 : decode cX10_open 110 = .ok (.iload 6, 2) := by decide +kernel
theorem dX10_open_112 : decode cX10_open 112 = .ok (.if_icmp .ge 90, 3) := by decide +kernel
theorem dX10_open_115 : decode cX10_open 115 = .ok (.iload_n 3, 1) := by decide +kernel
theorem dX10_open_116 : decode cX10_open 116 = .ok (.ifCond .eq 10, 3) := by decide +kernel
theorem dX10_open_119 : decode cX10_open 119 = .ok (.iload 7, 2) := by decide +kernel
theorem dX10_open_121 : decode cX10_open 121 = .ok (.iload_n 2, 1) := by decide +kernel
theorem dX10_open_122 : decode cX10_open 122 = .ok (.iadd, 1) := by decide +kernel
theorem dX10_open_123 : decode cX10_open 123 = .ok (.goto 7, 3) := by decide +kernel
theorem dX10_open_126 : decode cX10_open 126 = .ok (.iload 7, 2) := by decide +kernel
theorem dX10_open_128 : decode cX10_open 128 = .ok (.iload_n 2, 1) := by decide +kernel
theorem dX10_open_129 : decode cX10_open 129 = .ok (.isub, 1) := by decide +kernel
theorem dX10_open_130 : decode cX10_open 130 = .ok (.istore 8, 2) := by decide +kernel
theorem dX10_open_132 : decode cX10_open 132 = .ok (.iload_n 3, 1) := by decide +kernel
theorem dX10_open_133 : decode cX10_open 133 = .ok (.ifCond .eq 18, 3) := by decide +kernel
theorem dX10_open_136 : decode cX10_open 136 = .ok (.iload 8, 2) := by decide +kernel
theorem dX10_open_138 : decode cX10_open 138 = .ok (.iload 6, 2) := by decide +kernel
theorem dX10_open_140 : decode cX10_open 140 = .ok (.if_icmp .ge 7, 3) := by decide +kernel
theorem dX10_open_143 : decode cX10_open 143 = .ok (.iconst 1, 1) := by decide +kernel
theorem dX10_open_144 : decode cX10_open 144 = .ok (.goto 19, 3) := by decide +kernel
theorem dX10_open_147 : decode cX10_open 147 = .ok (.iconst 0, 1) := by decide +kernel
theorem dX10_open_148 : decode cX10_open 148 = .ok (.goto 15, 3) := by decide +kernel
theorem dX10_open_151 : decode cX10_open 151 = .ok (.iload 8, 2) := by decide +kernel
theorem dX10_open_153 : decode cX10_open 153 = .ok (.iload 5, 2) := by decide +kernel
theorem dX10_open_155 : decode cX10_open 155 = .ok (.if_icmp .lt 7, 3) := by decide +kernel
theorem dX10_open_158 : decode cX10_open 158 = .ok (.iconst 1, 1) := by decide +kernel
theorem dX10_open_159 : decode cX10_open 159 = .ok (.goto 4, 3) := by decide +kernel
theorem dX10_open_162 : decode cX10_open 162 = .ok (.iconst 0, 1) := by decide +kernel
theorem dX10_open_163 : decode cX10_open 163 = .ok (.istore 9, 2) := by decide +kernel
theorem dX10_open_165 : decode cX10_open 165 = .ok (.aload_n 0, 1) := by decide +kernel
theorem dX10_open_166 : decode cX10_open 166 = .ok (.getfield 19, 3) := by decide +kernel
theorem dX10_open_169 : decode cX10_open 169 = .ok (.aload_n 0, 1) := by decide +kernel
theorem dX10_open_170 : decode cX10_open 170 = .ok (.getfield 16, 3) := by decide +kernel
theorem dX10_open_173 : decode cX10_open 173 = .ok (.iload 4, 2) := by decide +kernel
theorem dX10_open_175 : decode cX10_open 175 = .ok (.iaload, 1) := by decide +kernel
theorem dX10_open_176 : decode cX10_open 176 = .ok (.iload 7, 2) := by decide +kernel
theorem dX10_open_178 : decode cX10_open 178 = .ok (.iadd, 1) := by decide +kernel
theorem dX10_open_179 : decode cX10_open 179 = .ok (.iload 9, 2) := by decide +kernel
theorem dX10_open_181 : decode cX10_open 181 = .ok (.ifCond .eq 13, 3) := by decide +kernel
theorem dX10_open_184 : decode cX10_open 184 = .ok (.aload_n 0, 1) := by decide +kernel
theorem dX10_open_185 : decode cX10_open 185 = .ok (.getfield 59, 3) := by decide +kernel
theorem dX10_open_188 : decode cX10_open 188 = .ok (.iload 8, 2) := by decide +kernel
theorem dX10_open_190 : decode cX10_open 190 = .ok (.laload, 1) := by decide +kernel
theorem dX10_open_191 : decode cX10_open 191 = .ok (.goto 4, 3) := by decide +kernel
theorem dX10_open_194 : decode cX10_open 194 = .ok (.lconst 0, 1) := by decide +kernel
theorem dX10_open_195 : decode cX10_open 195 = .ok (.lastore, 1) := by decide +kernel
theorem dX10_open_196 : decode cX10_open 196 = .ok (.iinc 7 1, 3) := by decide +kernel
theorem dX10_open_199 : decode cX10_open 199 = .ok (.goto (-91), 3) := by decide +kernel
theorem dX10_open_202 : decode cX10_open 202 = .ok (.iconst 0, 1) := by decide +kernel
theorem dX10_open_203 : decode cX10_open 203 = .ok (.ireturn, 1) := by decide +kernel
theorem dX10_makeOn_0 : decode cX10_makeOn 0 = .ok (.iload_n 3, 1) := by decide +kernel
theorem dX10_makeOn_1 : decode cX10_makeOn 1 = .ok (.ifCond .ge 5, 3) := by decide +kernel
theorem dX10_makeOn_4 : decode cX10_makeOn 4 = .ok (.iconst 5, 1) := by decide +kernel
theorem dX10_makeOn_5 : decode cX10_makeOn 5 = .ok (.ireturn, 1) := by decide +kernel
theorem dX10_makeOn_6 : decode cX10_makeOn 6 = .ok (.aload_n 0, 1) := by decide +kernel
theorem dX10_makeOn_7 : decode cX10_makeOn 7 = .ok (.iload_n 3, 1) := by decide +kernel
theorem dX10_makeOn_8 : decode cX10_makeOn 8 = .ok (.invokevirtual 104, 3) := by decide +kernel
theorem dX10_makeOn_11 : decode cX10_makeOn 11 = .ok (.ifCond .ne 5, 3) := by decide +kernel
theorem dX10_makeOn_14 : decode cX10_makeOn 14 = .ok (.iconst 4, 1) := by decide +kernel
theorem dX10_makeOn_15 : decode cX10_makeOn 15 = .ok (.ireturn, 1) := by decide +kernel
theorem dX10_makeOn_16 : decode cX10_makeOn 16 = .ok (.aload_n 0, 1) := by decide +kernel
theorem dX10_makeOn_17 : decode cX10_makeOn 17 = .ok (.iload_n 1, 1) := by decide +kernel
theorem dX10_makeOn_18 : decode cX10_makeOn 18 = .ok (.iconst 1, 1) := by decide +kernel
theorem dX10_makeOn_19 : decode cX10_makeOn 19 = .ok (.aload_n 0, 1) := by decide +kernel
theorem dX10_makeOn_20 : decode cX10_makeOn 20 = .ok (.iload_n 2, 1) := by decide +kernel
theorem dX10_makeOn_21 : decode cX10_makeOn 21 = .ok (.iload_n 3, 1) := by decide +kernel
theorem dX10_makeOn_22 : decode cX10_makeOn 22 = .ok (.invokevirtual 108, 3) := by decide +kernel
theorem dX10_makeOn_25 : decode cX10_makeOn 25 = .ok (.invokevirtual 112, 3) := by decide +kernel
theorem dX10_makeOn_28 : decode cX10_makeOn 28 = .ok (.iconst 0, 1) := by decide +kernel
theorem dX10_makeOn_29 : decode cX10_makeOn 29 = .ok (.ireturn, 1) := by decide +kernel
theorem dX10_twin_0 : decode cX10_twin 0 = .ok (.aload_n 0, 1) := by decide +kernel
theorem dX10_twin_1 : decode cX10_twin 1 = .ok (.getfield 26, 3) := by decide +kernel
theorem dX10_twin_4 : decode cX10_twin 4 = .ok (.iload_n 2, 1) := by decide +kernel
theorem dX10_twin_5 : decode cX10_twin 5 = .ok (.iaload, 1) := by decide +kernel
theorem dX10_twin_6 : decode cX10_twin 6 = .ok (.ifCond .ne 5, 3) := by decide +kernel
theorem dX10_twin_9 : decode cX10_twin 9 = .ok (.iconst 1, 1) := by decide +kernel
theorem dX10_twin_10 : decode cX10_twin 10 = .ok (.ireturn, 1) := by decide +kernel
theorem dX10_twin_11 : decode cX10_twin 11 = .ok (.aload_n 0, 1) := by decide +kernel
theorem dX10_twin_12 : decode cX10_twin 12 = .ok (.iload_n 2, 1) := by decide +kernel
theorem dX10_twin_13 : decode cX10_twin 13 = .ok (.invokevirtual 96, 3) := by decide +kernel
theorem dX10_twin_16 : decode cX10_twin 16 = .ok (.istore_n 3, 1) := by decide +kernel
theorem dX10_twin_17 : decode cX10_twin 17 = .ok (.iload_n 3, 1) := by decide +kernel
theorem dX10_twin_18 : decode cX10_twin 18 = .ok (.ifCond .ge 5, 3) := by decide +kernel
theorem dX10_twin_21 : decode cX10_twin 21 = .ok (.iconst 2, 1) := by decide +kernel
theorem dX10_twin_22 : decode cX10_twin 22 = .ok (.ireturn, 1) := by decide +kernel
theorem dX10_twin_23 : decode cX10_twin 23 = .ok (.aload_n 0, 1) := by decide +kernel
theorem dX10_twin_24 : decode cX10_twin 24 = .ok (.aload_n 0, 1) := by decide +kernel
theorem dX10_twin_25 : decode cX10_twin 25 = .ok (.getfield 13, 3) := by decide +kernel
theorem dX10_twin_28 : decode cX10_twin 28 = .ok (.iload_n 3, 1) := by decide +kernel
theorem dX10_twin_29 : decode cX10_twin 29 = .ok (.iaload, 1) := by decide +kernel
theorem dX10_twin_30 : decode cX10_twin 30 = .ok (.invokevirtual 104, 3) := by decide +kernel
theorem dX10_twin_33 : decode cX10_twin 33 = .ok (.ifCond .ne 5, 3) := by decide +kernel
theorem dX10_twin_36 : decode cX10_twin 36 = .ok (.iconst 4, 1) := by decide +kernel
theorem dX10_twin_37 : decode cX10_twin 37 = .ok (.ireturn, 1) := by decide +kernel
theorem dX10_twin_38 : decode cX10_twin 38 = .ok (.aload_n 0, 1) := by decide +kernel
theorem dX10_twin_39 : decode cX10_twin 39 = .ok (.aload_n 0, 1) := by decide +kernel
theorem dX10_twin_40 : decode cX10_twin 40 = .ok (.getfield 7, 3) := by decide +kernel
theorem dX10_twin_43 : decode cX10_twin 43 = .ok (.iload_n 3, 1) := by decide +kernel
theorem dX10_twin_44 : decode cX10_twin 44 = .ok (.iaload, 1) := by decide +kernel
theorem dX10_twin_45 : decode cX10_twin 45 = .ok (.aload_n 0, 1) := by decide +kernel
theorem dX10_twin_46 : decode cX10_twin 46 = .ok (.getfield 13, 3) := by decide +kernel
theorem dX10_twin_49 : decode cX10_twin 49 = .ok (.iload_n 3, 1) := by decide +kernel
theorem dX10_twin_50 : decode cX10_twin 50 = .ok (.iaload, 1) := by decide +kernel
theorem dX10_twin_51 : decode cX10_twin 51 = .ok (.invokevirtual 108, 3) := by decide +kernel
theorem dX10_twin_54 : decode cX10_twin 54 = .ok (.istore 4, 2) := by decide +kernel
theorem dX10_twin_56 : decode cX10_twin 56 = .ok (.iconst 0, 1) := by decide +kernel
theorem dX10_twin_57 : decode cX10_twin 57 = .ok (.istore 5, 2) := by decide +kernel
theorem dX10_twin_59 : decode cX10_twin 59 = .ok (.iload 5, 2) := by decide +kernel
theorem dX10_twin_61 : decode cX10_twin 61 = .ok (.aload_n 0, 1) := by decide +kernel
theorem dX10_twin_62 : decode cX10_twin 62 = .ok (.getfield 13, 3) := by decide +kernel
theorem dX10_twin_65 : decode cX10_twin 65 = .ok (.iload_n 3, 1) := by decide +kernel
theorem dX10_twin_66 : decode cX10_twin 66 = .ok (.iaload, 1) := by decide +kernel
theorem dX10_twin_67 : decode cX10_twin 67 = .ok (.if_icmp .ge 38, 3) := by decide +kernel
theorem dX10_twin_70 : decode cX10_twin 70 = .ok (.aload_n 0, 1) := by decide +kernel
theorem dX10_twin_71 : decode cX10_twin 71 = .ok (.getfield 19, 3) := by decide +kernel
theorem dX10_twin_74 : decode cX10_twin 74 = .ok (.aload_n 0, 1) := by decide +kernel
theorem dX10_twin_75 : decode cX10_twin 75 = .ok (.getfield 16, 3) := by decide +kernel
theorem dX10_twin_78 : decode cX10_twin 78 = .ok (.iload 4, 2) := by decide +kernel
theorem dX10_twin_80 : decode cX10_twin 80 = .ok (.iaload, 1) := by decide +kernel
theorem dX10_twin_81 : decode cX10_twin 81 = .ok (.iload 5, 2) := by decide +kernel
theorem dX10_twin_83 : decode cX10_twin 83 = .ok (.iadd, 1) := by decide +kernel
theorem dX10_twin_84 : decode cX10_twin 84 = .ok (.aload_n 0, 1) := by decide +kernel
theorem dX10_twin_85 : decode cX10_twin 85 = .ok (.getfield 19, 3) := by decide +kernel
theorem dX10_twin_88 : decode cX10_twin 88 = .ok (.aload_n 0, 1) := by decide +kernel
theorem dX10_twin_89 : decode cX10_twin 89 = .ok (.getfield 16, 3) := by decide +kernel
theorem dX10_twin_92 : decode cX10_twin 92 = .ok (.iload_n 3, 1) := by decide +kernel
theorem dX10_twin_93 : decode cX10_twin 93 = .ok (.iaload, 1) := by decide +kernel
theorem dX10_twin_94 : decode cX10_twin 94 = .ok (.iload 5, 2) := by decide +kernel
theorem dX10_twin_96 : decode cX10_twin 96 = .ok (.iadd, 1) := by decide +kernel
theorem dX10_twin_97 : decode cX10_twin 97 = .ok (.laload, 1) := by decide +kernel
theorem dX10_twin_98 : decode cX10_twin 98 = .ok (.lastore, 1) := by decide +kernel
theorem dX10_twin_99 : decode cX10_twin 99 = .ok (.iinc 5 1, 3) := by decide +kernel
theorem dX10_twin_102 : decode cX10_twin 102 = .ok (.goto (-43), 3) := by decide +kernel
theorem dX10_twin_105 : decode cX10_twin 105 = .ok (.aload_n 0, 1) := by decide +kernel
theorem dX10_twin_106 : decode cX10_twin 106 = .ok (.iload_n 1, 1) := by decide +kernel
theorem dX10_twin_107 : decode cX10_twin 107 = .ok (.iconst 1, 1) := by decide +kernel
theorem dX10_twin_108 : decode cX10_twin 108 = .ok (.iload 4, 2) := by decide +kernel
theorem dX10_twin_110 : decode cX10_twin 110 = .ok (.invokevirtual 112, 3) := by decide +kernel
theorem dX10_twin_113 : decode cX10_twin 113 = .ok (.iconst 0, 1) := by decide +kernel
theorem dX10_twin_114 : decode cX10_twin 114 = .ok (.ireturn, 1) := by decide +kernel
theorem dX10_swap_0 : decode cX10_swap 0 = .ok (.aload_n 0, 1) := by decide +kernel
theorem dX10_swap_1 : decode cX10_swap 1 = .ok (.getfield 26, 3) := by decide +kernel
theorem dX10_swap_4 : decode cX10_swap 4 = .ok (.iload_n 1, 1) := by decide +kernel
theorem dX10_swap_5 : decode cX10_swap 5 = .ok (.iaload, 1) := by decide +kernel
theorem dX10_swap_6 : decode cX10_swap 6 = .ok (.istore_n 3, 1) := by decide +kernel
theorem dX10_swap_7 : decode cX10_swap 7 = .ok (.aload_n 0, 1) := by decide +kernel
theorem dX10_swap_8 : decode cX10_swap 8 = .ok (.getfield 29, 3) := by decide +kernel
theorem dX10_swap_11 : decode cX10_swap 11 = .ok (.iload_n 1, 1) := by decide +kernel
theorem dX10_swap_12 : decode cX10_swap 12 = .ok (.iaload, 1) := by decide +kernel
theorem dX10_swap_13 : decode cX10_swap 13 = .ok (.istore 4, 2) := by decide +kernel
theorem dX10_swap_15 : decode cX10_swap 15 = .ok (.aload_n 0, 1) := by decide +kernel
theorem dX10_swap_16 : decode cX10_swap 16 = .ok (.iload_n 1, 1) := by decide +kernel
theorem dX10_swap_17 : decode cX10_swap 17 = .ok (.aload_n 0, 1) := by decide +kernel
theorem dX10_swap_18 : decode cX10_swap 18 = .ok (.getfield 26, 3) := by decide +kernel
theorem dX10_swap_21 : decode cX10_swap 21 = .ok (.iload_n 2, 1) := by decide +kernel
theorem dX10_swap_22 : decode cX10_swap 22 = .ok (.iaload, 1) := by decide +kernel
theorem dX10_swap_23 : decode cX10_swap 23 = .ok (.aload_n 0, 1) := by decide +kernel
theorem dX10_swap_24 : decode cX10_swap 24 = .ok (.getfield 29, 3) := by decide +kernel
theorem dX10_swap_27 : decode cX10_swap 27 = .ok (.iload_n 2, 1) := by decide +kernel
theorem dX10_swap_28 : decode cX10_swap 28 = .ok (.iaload, 1) := by decide +kernel
theorem dX10_swap_29 : decode cX10_swap 29 = .ok (.invokevirtual 112, 3) := by decide +kernel
theorem dX10_swap_32 : decode cX10_swap 32 = .ok (.aload_n 0, 1) := by decide +kernel
theorem dX10_swap_33 : decode cX10_swap 33 = .ok (.iload_n 2, 1) := by decide +kernel
theorem dX10_swap_34 : decode cX10_swap 34 = .ok (.iload_n 3, 1) := by decide +kernel
theorem dX10_swap_35 : decode cX10_swap 35 = .ok (.iload 4, 2) := by decide +kernel
theorem dX10_swap_37 : decode cX10_swap 37 = .ok (.invokevirtual 112, 3) := by decide +kernel
theorem dX10_swap_40 : decode cX10_swap 40 = .ok (.return_, 1) := by decide +kernel
theorem dX10_hang_0 : decode cX10_hang 0 = .ok (.iload_n 2, 1) := by decide +kernel
theorem dX10_hang_1 : decode cX10_hang 1 = .ok (.iconst 1, 1) := by decide +kernel
theorem dX10_hang_2 : decode cX10_hang 2 = .ok (.if_icmp .le 15, 3) := by decide +kernel
theorem dX10_hang_5 : decode cX10_hang 5 = .ok (.aload_n 0, 1) := by decide +kernel
theorem dX10_hang_6 : decode cX10_hang 6 = .ok (.getfield 116, 3) := by decide +kernel
theorem dX10_hang_9 : decode cX10_hang 9 = .ok (.sipush 400, 3) := by decide +kernel
theorem dX10_hang_12 : decode cX10_hang 12 = .ok (.if_icmp .ne 5, 3) := by decide +kernel
theorem dX10_hang_15 : decode cX10_hang 15 = .ok (.iconst 4, 1) := by decide +kernel
theorem dX10_hang_16 : decode cX10_hang 16 = .ok (.ireturn, 1) := by decide +kernel
theorem dX10_hang_17 : decode cX10_hang 17 = .ok (.iload_n 2, 1) := by decide +kernel
theorem dX10_hang_18 : decode cX10_hang 18 = .ok (.ifCond .ne 13, 3) := by decide +kernel
theorem dX10_hang_21 : decode cX10_hang 21 = .ok (.aload_n 0, 1) := by decide +kernel
theorem dX10_hang_22 : decode cX10_hang 22 = .ok (.iload_n 1, 1) := by decide +kernel
theorem dX10_hang_23 : decode cX10_hang 23 = .ok (.iconst 0, 1) := by decide +kernel
theorem dX10_hang_24 : decode cX10_hang 24 = .ok (.iconst 0, 1) := by decide +kernel
theorem dX10_hang_25 : decode cX10_hang 25 = .ok (.invokevirtual 112, 3) := by decide +kernel
theorem dX10_hang_28 : decode cX10_hang 28 = .ok (.goto 63, 3) := by decide +kernel
theorem dX10_hang_31 : decode cX10_hang 31 = .ok (.iload_n 2, 1) := by decide +kernel
theorem dX10_hang_32 : decode cX10_hang 32 = .ok (.iconst 1, 1) := by decide +kernel
theorem dX10_hang_33 : decode cX10_hang 33 = .ok (.if_icmp .ne 26, 3) := by decide +kernel
theorem dX10_hang_36 : decode cX10_hang 36 = .ok (.aload_n 0, 1) := by decide +kernel
theorem dX10_hang_37 : decode cX10_hang 37 = .ok (.dup, 1) := by decide +kernel
theorem dX10_hang_38 : decode cX10_hang 38 = .ok (.getfield 119, 3) := by decide +kernel
theorem dX10_hang_41 : decode cX10_hang 41 = .ok (.iconst 1, 1) := by decide +kernel
theorem dX10_hang_42 : decode cX10_hang 42 = .ok (.iadd, 1) := by decide +kernel
theorem dX10_hang_43 : decode cX10_hang 43 = .ok (.putfield 119, 3) := by decide +kernel
theorem dX10_hang_46 : decode cX10_hang 46 = .ok (.aload_n 0, 1) := by decide +kernel
theorem dX10_hang_47 : decode cX10_hang 47 = .ok (.iload_n 1, 1) := by decide +kernel
theorem dX10_hang_48 : decode cX10_hang 48 = .ok (.iconst 2, 1) := by decide +kernel
theorem dX10_hang_49 : decode cX10_hang 49 = .ok (.aload_n 0, 1) := by decide +kernel
theorem dX10_hang_50 : decode cX10_hang 50 = .ok (.getfield 119, 3) := by decide +kernel
theorem dX10_hang_53 : decode cX10_hang 53 = .ok (.invokevirtual 112, 3) := by decide +kernel
theorem dX10_hang_56 : decode cX10_hang 56 = .ok (.goto 35, 3) := by decide +kernel
theorem dX10_hang_59 : decode cX10_hang 59 = .ok (.aload_n 0, 1) := by decide +kernel
theorem dX10_hang_60 : decode cX10_hang 60 = .ok (.dup, 1) := by decide +kernel
theorem dX10_hang_61 : decode cX10_hang 61 = .ok (.getfield 116, 3) := by decide +kernel
theorem dX10_hang_64 : decode cX10_hang 64 = .ok (.iconst 1, 1) := by decide +kernel
theorem dX10_hang_65 : decode cX10_hang 65 = .ok (.iadd, 1) := by decide +kernel
theorem dX10_hang_66 : decode cX10_hang 66 = .ok (.putfield 116, 3) := by decide +kernel
theorem dX10_hang_69 : decode cX10_hang 69 = .ok (.aload_n 0, 1) := by decide +kernel
theorem dX10_hang_70 : decode cX10_hang 70 = .ok (.getfield 23, 3) := by decide +kernel
theorem dX10_hang_73 : decode cX10_hang 73 = .ok (.aload_n 0, 1) := by decide +kernel
theorem dX10_hang_74 : decode cX10_hang 74 = .ok (.getfield 116, 3) := by decide +kernel
theorem dX10_hang_77 : decode cX10_hang 77 = .ok (.iload_n 2, 1) := by decide +kernel
theorem dX10_hang_78 : decode cX10_hang 78 = .ok (.iconst 1, 1) := by decide +kernel
theorem dX10_hang_79 : decode cX10_hang 79 = .ok (.isub, 1) := by decide +kernel
theorem dX10_hang_80 : decode cX10_hang 80 = .ok (.iastore, 1) := by decide +kernel
theorem dX10_hang_81 : decode cX10_hang 81 = .ok (.aload_n 0, 1) := by decide +kernel
theorem dX10_hang_82 : decode cX10_hang 82 = .ok (.iload_n 1, 1) := by decide +kernel
theorem dX10_hang_83 : decode cX10_hang 83 = .ok (.iconst 3, 1) := by decide +kernel
theorem dX10_hang_84 : decode cX10_hang 84 = .ok (.aload_n 0, 1) := by decide +kernel
theorem dX10_hang_85 : decode cX10_hang 85 = .ok (.getfield 116, 3) := by decide +kernel
theorem dX10_hang_88 : decode cX10_hang 88 = .ok (.invokevirtual 112, 3) := by decide +kernel
theorem dX10_hang_91 : decode cX10_hang 91 = .ok (.iconst 0, 1) := by decide +kernel
theorem dX10_hang_92 : decode cX10_hang 92 = .ok (.ireturn, 1) := by decide +kernel
theorem dX10_pin_0 : decode cX10_pin 0 = .ok (.aload_n 0, 1) := by decide +kernel
theorem dX10_pin_1 : decode cX10_pin 1 = .ok (.getfield 26, 3) := by decide +kernel
theorem dX10_pin_4 : decode cX10_pin 4 = .ok (.iload_n 1, 1) := by decide +kernel
theorem dX10_pin_5 : decode cX10_pin 5 = .ok (.iaload, 1) := by decide +kernel
theorem dX10_pin_6 : decode cX10_pin 6 = .ok (.ifCond .ne 5, 3) := by decide +kernel
theorem dX10_pin_9 : decode cX10_pin 9 = .ok (.iconst 1, 1) := by decide +kernel
theorem dX10_pin_10 : decode cX10_pin 10 = .ok (.ireturn, 1) := by decide +kernel
theorem dX10_pin_11 : decode cX10_pin 11 = .ok (.aload_n 0, 1) := by decide +kernel
theorem dX10_pin_12 : decode cX10_pin 12 = .ok (.iload_n 1, 1) := by decide +kernel
theorem dX10_pin_13 : decode cX10_pin 13 = .ok (.invokevirtual 96, 3) := by decide +kernel
theorem dX10_pin_16 : decode cX10_pin 16 = .ok (.istore_n 3, 1) := by decide +kernel
theorem dX10_pin_17 : decode cX10_pin 17 = .ok (.iload_n 3, 1) := by decide +kernel
theorem dX10_pin_18 : decode cX10_pin 18 = .ok (.ifCond .lt 14, 3) := by decide +kernel
theorem dX10_pin_21 : decode cX10_pin 21 = .ok (.aload_n 0, 1) := by decide +kernel
theorem dX10_pin_22 : decode cX10_pin 22 = .ok (.getfield 7, 3) := by decide +kernel
theorem dX10_pin_25 : decode cX10_pin 25 = .ok (.iload_n 3, 1) := by decide +kernel
theorem dX10_pin_26 : decode cX10_pin 26 = .ok (.iaload, 1) := by decide +kernel
theorem dX10_pin_27 : decode cX10_pin 27 = .ok (.bipush 8, 2) := by decide +kernel
theorem dX10_pin_29 : decode cX10_pin 29 = .ok (.if_icmp .lt 5, 3) := by decide +kernel
theorem dX10_pin_32 : decode cX10_pin 32 = .ok (.iconst 2, 1) := by decide +kernel
theorem dX10_pin_33 : decode cX10_pin 33 = .ok (.ireturn, 1) := by decide +kernel
theorem dX10_pin_34 : decode cX10_pin 34 = .ok (.aload_n 0, 1) := by decide +kernel
theorem dX10_pin_35 : decode cX10_pin 35 = .ok (.getfield 32, 3) := by decide +kernel
theorem dX10_pin_38 : decode cX10_pin 38 = .ok (.iload_n 1, 1) := by decide +kernel
theorem dX10_pin_39 : decode cX10_pin 39 = .ok (.iaload, 1) := by decide +kernel
theorem dX10_pin_40 : decode cX10_pin 40 = .ok (.iconst 0, 1) := by decide +kernel
theorem dX10_pin_41 : decode cX10_pin 41 = .ok (.aload_n 0, 1) := by decide +kernel
theorem dX10_pin_42 : decode cX10_pin 42 = .ok (.getfield 13, 3) := by decide +kernel
theorem dX10_pin_45 : decode cX10_pin 45 = .ok (.iload_n 3, 1) := by decide +kernel
theorem dX10_pin_46 : decode cX10_pin 46 = .ok (.iaload, 1) := by decide +kernel
theorem dX10_pin_47 : decode cX10_pin 47 = .ok (.iconst 1, 1) := by decide +kernel
theorem dX10_pin_48 : decode cX10_pin 48 = .ok (.isub, 1) := by decide +kernel
theorem dX10_pin_49 : decode cX10_pin 49 = .ok (.invokestatic 66, 3) := by decide +kernel
theorem dX10_pin_52 : decode cX10_pin 52 = .ok (.ifCond .ne 5, 3) := by decide +kernel
theorem dX10_pin_55 : decode cX10_pin 55 = .ok (.iconst 3, 1) := by decide +kernel
theorem dX10_pin_56 : decode cX10_pin 56 = .ok (.ireturn, 1) := by decide +kernel
theorem dX10_pin_57 : decode cX10_pin 57 = .ok (.aload_n 0, 1) := by decide +kernel
theorem dX10_pin_58 : decode cX10_pin 58 = .ok (.getfield 19, 3) := by decide +kernel
theorem dX10_pin_61 : decode cX10_pin 61 = .ok (.aload_n 0, 1) := by decide +kernel
theorem dX10_pin_62 : decode cX10_pin 62 = .ok (.getfield 16, 3) := by decide +kernel
theorem dX10_pin_65 : decode cX10_pin 65 = .ok (.iload_n 3, 1) := by decide +kernel
theorem dX10_pin_66 : decode cX10_pin 66 = .ok (.iaload, 1) := by decide +kernel
theorem dX10_pin_67 : decode cX10_pin 67 = .ok (.aload_n 0, 1) := by decide +kernel
theorem dX10_pin_68 : decode cX10_pin 68 = .ok (.getfield 32, 3) := by decide +kernel
theorem dX10_pin_71 : decode cX10_pin 71 = .ok (.iload_n 1, 1) := by decide +kernel
theorem dX10_pin_72 : decode cX10_pin 72 = .ok (.iaload, 1) := by decide +kernel
theorem dX10_pin_73 : decode cX10_pin 73 = .ok (.iadd, 1) := by decide +kernel
theorem dX10_pin_74 : decode cX10_pin 74 = .ok (.aload_n 0, 1) := by decide +kernel
theorem dX10_pin_75 : decode cX10_pin 75 = .ok (.getfield 7, 3) := by decide +kernel
theorem dX10_pin_78 : decode cX10_pin 78 = .ok (.iload_n 3, 1) := by decide +kernel
theorem dX10_pin_79 : decode cX10_pin 79 = .ok (.iaload, 1) := by decide +kernel
theorem dX10_pin_80 : decode cX10_pin 80 = .ok (.iload_n 2, 1) := by decide +kernel
theorem dX10_pin_81 : decode cX10_pin 81 = .ok (.invokestatic 122, 3) := by decide +kernel
theorem dX10_pin_84 : decode cX10_pin 84 = .ok (.lastore, 1) := by decide +kernel
theorem dX10_pin_85 : decode cX10_pin 85 = .ok (.iconst 0, 1) := by decide +kernel
theorem dX10_pin_86 : decode cX10_pin 86 = .ok (.ireturn, 1) := by decide +kernel
theorem dX10_seat_0 : decode cX10_seat 0 = .ok (.aload_n 0, 1) := by decide +kernel
theorem dX10_seat_1 : decode cX10_seat 1 = .ok (.getfield 26, 3) := by decide +kernel
theorem dX10_seat_4 : decode cX10_seat 4 = .ok (.iload_n 1, 1) := by decide +kernel
theorem dX10_seat_5 : decode cX10_seat 5 = .ok (.iaload, 1) := by decide +kernel
theorem dX10_seat_6 : decode cX10_seat 6 = .ok (.ifCond .ne 5, 3) := by decide +kernel
theorem dX10_seat_9 : decode cX10_seat 9 = .ok (.iconst 1, 1) := by decide +kernel
theorem dX10_seat_10 : decode cX10_seat 10 = .ok (.ireturn, 1) := by decide +kernel
theorem dX10_seat_11 : decode cX10_seat 11 = .ok (.aload_n 0, 1) := by decide +kernel
theorem dX10_seat_12 : decode cX10_seat 12 = .ok (.iload_n 1, 1) := by decide +kernel
theorem dX10_seat_13 : decode cX10_seat 13 = .ok (.invokevirtual 96, 3) := by decide +kernel
theorem dX10_seat_16 : decode cX10_seat 16 = .ok (.istore_n 3, 1) := by decide +kernel
theorem dX10_seat_17 : decode cX10_seat 17 = .ok (.iload_n 3, 1) := by decide +kernel
theorem dX10_seat_18 : decode cX10_seat 18 = .ok (.ifCond .lt 34, 3) := by decide +kernel
theorem dX10_seat_21 : decode cX10_seat 21 = .ok (.aload_n 0, 1) := by decide +kernel
theorem dX10_seat_22 : decode cX10_seat 22 = .ok (.getfield 7, 3) := by decide +kernel
theorem dX10_seat_25 : decode cX10_seat 25 = .ok (.iload_n 3, 1) := by decide +kernel
theorem dX10_seat_26 : decode cX10_seat 26 = .ok (.iaload, 1) := by decide +kernel
theorem dX10_seat_27 : decode cX10_seat 27 = .ok (.bipush 8, 2) := by decide +kernel
theorem dX10_seat_29 : decode cX10_seat 29 = .ok (.if_icmp .lt 23, 3) := by decide +kernel
theorem dX10_seat_32 : decode cX10_seat 32 = .ok (.aload_n 0, 1) := by decide +kernel
theorem dX10_seat_33 : decode cX10_seat 33 = .ok (.getfield 26, 3) := by decide +kernel
theorem dX10_seat_36 : decode cX10_seat 36 = .ok (.iload_n 2, 1) := by decide +kernel
theorem dX10_seat_37 : decode cX10_seat 37 = .ok (.iaload, 1) := by decide +kernel
theorem dX10_seat_38 : decode cX10_seat 38 = .ok (.iconst 1, 1) := by decide +kernel
theorem dX10_seat_39 : decode cX10_seat 39 = .ok (.if_icmp .eq 13, 3) := by decide +kernel
theorem dX10_seat_42 : decode cX10_seat 42 = .ok (.aload_n 0, 1) := by decide +kernel
theorem dX10_seat_43 : decode cX10_seat 43 = .ok (.getfield 26, 3) := by decide +kernel
theorem dX10_seat_46 : decode cX10_seat 46 = .ok (.iload_n 2, 1) := by decide +kernel
theorem dX10_seat_47 : decode cX10_seat 47 = .ok (.iaload, 1) := by decide +kernel
theorem dX10_seat_48 : decode cX10_seat 48 = .ok (.iconst 2, 1) := by decide +kernel
theorem dX10_seat_49 : decode cX10_seat 49 = .ok (.if_icmp .ne 5, 3) := by decide +kernel
theorem dX10_seat_52 : decode cX10_seat 52 = .ok (.iconst 2, 1) := by decide +kernel
theorem dX10_seat_53 : decode cX10_seat 53 = .ok (.ireturn, 1) := by decide +kernel
theorem dX10_seat_54 : decode cX10_seat 54 = .ok (.aload_n 0, 1) := by decide +kernel
theorem dX10_seat_55 : decode cX10_seat 55 = .ok (.getfield 32, 3) := by decide +kernel
theorem dX10_seat_58 : decode cX10_seat 58 = .ok (.iload_n 1, 1) := by decide +kernel
theorem dX10_seat_59 : decode cX10_seat 59 = .ok (.iaload, 1) := by decide +kernel
theorem dX10_seat_60 : decode cX10_seat 60 = .ok (.iconst 0, 1) := by decide +kernel
theorem dX10_seat_61 : decode cX10_seat 61 = .ok (.aload_n 0, 1) := by decide +kernel
theorem dX10_seat_62 : decode cX10_seat 62 = .ok (.getfield 13, 3) := by decide +kernel
theorem dX10_seat_65 : decode cX10_seat 65 = .ok (.iload_n 3, 1) := by decide +kernel
theorem dX10_seat_66 : decode cX10_seat 66 = .ok (.iaload, 1) := by decide +kernel
theorem dX10_seat_67 : decode cX10_seat 67 = .ok (.iconst 1, 1) := by decide +kernel
theorem dX10_seat_68 : decode cX10_seat 68 = .ok (.isub, 1) := by decide +kernel
theorem dX10_seat_69 : decode cX10_seat 69 = .ok (.invokestatic 66, 3) := by decide +kernel
theorem dX10_seat_72 : decode cX10_seat 72 = .ok (.ifCond .ne 5, 3) := by decide +kernel
theorem dX10_seat_75 : decode cX10_seat 75 = .ok (.iconst 3, 1) := by decide +kernel
theorem dX10_seat_76 : decode cX10_seat 76 = .ok (.ireturn, 1) := by decide +kernel
theorem dX10_seat_77 : decode cX10_seat 77 = .ok (.aload_n 0, 1) := by decide +kernel
theorem dX10_seat_78 : decode cX10_seat 78 = .ok (.getfield 26, 3) := by decide +kernel
theorem dX10_seat_81 : decode cX10_seat 81 = .ok (.iload_n 2, 1) := by decide +kernel
theorem dX10_seat_82 : decode cX10_seat 82 = .ok (.iaload, 1) := by decide +kernel
theorem dX10_seat_83 : decode cX10_seat 83 = .ok (.iconst 3, 1) := by decide +kernel
theorem dX10_seat_84 : decode cX10_seat 84 = .ok (.if_icmp .ne 12, 3) := by decide +kernel
theorem dX10_seat_87 : decode cX10_seat 87 = .ok (.aload_n 0, 1) := by decide +kernel
theorem dX10_seat_88 : decode cX10_seat 88 = .ok (.getfield 29, 3) := by decide +kernel
theorem dX10_seat_91 : decode cX10_seat 91 = .ok (.iload_n 2, 1) := by decide +kernel
theorem dX10_seat_92 : decode cX10_seat 92 = .ok (.iaload, 1) := by decide +kernel
theorem dX10_seat_93 : decode cX10_seat 93 = .ok (.goto 4, 3) := by decide +kernel
theorem dX10_seat_96 : decode cX10_seat 96 = .ok (.iconst 0, 1) := by decide +kernel
theorem dX10_seat_97 : decode cX10_seat 97 = .ok (.istore 4, 2) := by decide +kernel
theorem dX10_seat_99 : decode cX10_seat 99 = .ok (.aload_n 0, 1) := by decide +kernel
theorem dX10_seat_100 : decode cX10_seat 100 = .ok (.aload_n 0, 1) := by decide +kernel
theorem dX10_seat_101 : decode cX10_seat 101 = .ok (.getfield 7, 3) := by decide +kernel
theorem dX10_seat_104 : decode cX10_seat 104 = .ok (.iload_n 3, 1) := by decide +kernel
theorem dX10_seat_105 : decode cX10_seat 105 = .ok (.iaload, 1) := by decide +kernel
theorem dX10_seat_106 : decode cX10_seat 106 = .ok (.iload 4, 2) := by decide +kernel
