theorem dL_cell_0 : decode cL_cell 0 = .ok (.iload_n 1, 1) := by decide +kernel
theorem dL_cell_1 : decode cL_cell 1 = .ok (.aload_n 0, 1) := by decide +kernel
theorem dL_cell_2 : decode cL_cell 2 = .ok (.arraylength, 1) := by decide +kernel
theorem dL_cell_3 : decode cL_cell 3 = .ok (.if_icmp .ge 9, 3) := by decide +kernel
theorem dL_cell_6 : decode cL_cell 6 = .ok (.aload_n 0, 1) := by decide +kernel
theorem dL_cell_7 : decode cL_cell 7 = .ok (.iload_n 1, 1) := by decide +kernel
theorem dL_cell_8 : decode cL_cell 8 = .ok (.iaload, 1) := by decide +kernel
theorem dL_cell_9 : decode cL_cell 9 = .ok (.goto 11, 3) := by decide +kernel
theorem dL_cell_12 : decode cL_cell 12 = .ok (.ldc 7, 2) := by decide +kernel
theorem dL_cell_14 : decode cL_cell 14 = .ok (.iload_n 1, 1) := by decide +kernel
theorem dL_cell_15 : decode cL_cell 15 = .ok (.sipush 181, 3) := by decide +kernel
theorem dL_cell_18 : decode cL_cell 18 = .ok (.iadd, 1) := by decide +kernel
theorem dL_cell_19 : decode cL_cell 19 = .ok (.imul, 1) := by decide +kernel
theorem dL_cell_20 : decode cL_cell 20 = .ok (.ireturn, 1) := by decide +kernel
theorem dL_up_0 : decode cL_up 0 = .ok (.iload_n 0, 1) := by decide +kernel
theorem dL_up_1 : decode cL_up 1 = .ok (.ldc 8, 2) := by decide +kernel
theorem dL_up_3 : decode cL_up 3 = .ok (.iand, 1) := by decide +kernel
theorem dL_up_4 : decode cL_up 4 = .ok (.iload_n 1, 1) := by decide +kernel
theorem dL_up_5 : decode cL_up 5 = .ok (.irem, 1) := by decide +kernel
theorem dL_up_6 : decode cL_up 6 = .ok (.ireturn, 1) := by decide +kernel
theorem dL_values_0 : decode cL_values 0 = .ok (.ldc2_w 9, 3) := by decide +kernel
theorem dL_values_3 : decode cL_values 3 = .ok (.lstore_n 1, 1) := by decide +kernel
theorem dL_values_4 : decode cL_values 4 = .ok (.iconst 0, 1) := by decide +kernel
theorem dL_values_5 : decode cL_values 5 = .ok (.istore_n 3, 1) := by decide +kernel
theorem dL_values_6 : decode cL_values 6 = .ok (.iload_n 3, 1) := by decide +kernel
theorem dL_values_7 : decode cL_values 7 = .ok (.aload_n 0, 1) := by decide +kernel
theorem dL_values_8 : decode cL_values 8 = .ok (.invokevirtual 11, 3) := by decide +kernel
theorem dL_values_11 : decode cL_values 11 = .ok (.if_icmp .ge 34, 3) := by decide +kernel
theorem dL_values_14 : decode cL_values 14 = .ok (.ldc2_w 17, 3) := by decide +kernel
theorem dL_values_17 : decode cL_values 17 = .ok (.lload_n 1, 1) := by decide +kernel
theorem dL_values_18 : decode cL_values 18 = .ok (.lmul, 1) := by decide +kernel
theorem dL_values_19 : decode cL_values 19 = .ok (.aload_n 0, 1) := by decide +kernel
theorem dL_values_20 : decode cL_values 20 = .ok (.iload_n 3, 1) := by decide +kernel
theorem dL_values_21 : decode cL_values 21 = .ok (.invokevirtual 19, 3) := by decide +kernel
theorem dL_values_24 : decode cL_values 24 = .ok (.ifCond .ne 7, 3) := by decide +kernel
theorem dL_values_27 : decode cL_values 27 = .ok (.iconst 0, 1) := by decide +kernel
theorem dL_values_28 : decode cL_values 28 = .ok (.goto 8, 3) := by decide +kernel
theorem dL_values_31 : decode cL_values 31 = .ok (.aload_n 0, 1) := by decide +kernel
theorem dL_values_32 : decode cL_values 32 = .ok (.iload_n 3, 1) := by decide +kernel
theorem dL_values_33 : decode cL_values 33 = .ok (.invokevirtual 23, 3) := by decide +kernel
theorem dL_values_36 : decode cL_values 36 = .ok (.i2l, 1) := by decide +kernel
theorem dL_values_37 : decode cL_values 37 = .ok (.ladd, 1) := by decide +kernel
theorem dL_values_38 : decode cL_values 38 = .ok (.lstore_n 1, 1) := by decide +kernel
theorem dL_values_39 : decode cL_values 39 = .ok (.iinc 3 1, 3) := by decide +kernel
theorem dL_values_42 : decode cL_values 42 = .ok (.goto (-36), 3) := by decide +kernel
theorem dL_values_45 : decode cL_values 45 = .ok (.lload_n 1, 1) := by decide +kernel
theorem dL_values_46 : decode cL_values 46 = .ok (.lreturn, 1) := by decide +kernel
theorem dL_adds_0 : decode cL_adds 0 = .ok (.iconst 0, 1) := by decide +kernel
theorem dL_adds_1 : decode cL_adds 1 = .ok (.istore_n 2, 1) := by decide +kernel
theorem dL_adds_2 : decode cL_adds 2 = .ok (.iconst 0, 1) := by decide +kernel
theorem dL_adds_3 : decode cL_adds 3 = .ok (.istore_n 3, 1) := by decide +kernel
theorem dL_adds_4 : decode cL_adds 4 = .ok (.iconst 0, 1) := by decide +kernel
theorem dL_adds_5 : decode cL_adds 5 = .ok (.istore 4, 2) := by decide +kernel
theorem dL_adds_7 : decode cL_adds 7 = .ok (.iload 4, 2) := by decide +kernel
theorem dL_adds_9 : decode cL_adds 9 = .ok (.aload_n 0, 1) := by decide +kernel
theorem dL_adds_10 : decode cL_adds 10 = .ok (.invokevirtual 11, 3) := by decide +kernel
theorem dL_adds_13 : decode cL_adds 13 = .ok (.if_icmp .ge 45, 3) := by decide +kernel
theorem dL_adds_16 : decode cL_adds 16 = .ok (.aload_n 0, 1) := by decide +kernel
theorem dL_adds_17 : decode cL_adds 17 = .ok (.iload 4, 2) := by decide +kernel
theorem dL_adds_19 : decode cL_adds 19 = .ok (.invokevirtual 19, 3) := by decide +kernel
theorem dL_adds_22 : decode cL_adds 22 = .ok (.ifCond .ne 28, 3) := by decide +kernel
theorem dL_adds_25 : decode cL_adds 25 = .ok (.aload_n 0, 1) := by decide +kernel
theorem dL_adds_26 : decode cL_adds 26 = .ok (.iload 4, 2) := by decide +kernel
theorem dL_adds_28 : decode cL_adds 28 = .ok (.invokevirtual 26, 3) := by decide +kernel
theorem dL_adds_31 : decode cL_adds 31 = .ok (.iconst 3, 1) := by decide +kernel
theorem dL_adds_32 : decode cL_adds 32 = .ok (.if_icmp .ge 18, 3) := by decide +kernel
theorem dL_adds_35 : decode cL_adds 35 = .ok (.iload_n 1, 1) := by decide +kernel
theorem dL_adds_36 : decode cL_adds 36 = .ok (.iconst 3, 1) := by decide +kernel
theorem dL_adds_37 : decode cL_adds 37 = .ok (.ishr, 1) := by decide +kernel
theorem dL_adds_38 : decode cL_adds 38 = .ok (.iconst 4, 1) := by decide +kernel
theorem dL_adds_39 : decode cL_adds 39 = .ok (.invokestatic 29, 3) := by decide +kernel
theorem dL_adds_42 : decode cL_adds 42 = .ok (.ifCond .eq 8, 3) := by decide +kernel
theorem dL_adds_45 : decode cL_adds 45 = .ok (.iload 4, 2) := by decide +kernel
theorem dL_adds_47 : decode cL_adds 47 = .ok (.goto 4, 3) := by decide +kernel
theorem dL_adds_50 : decode cL_adds 50 = .ok (.iload_n 2, 1) := by decide +kernel
theorem dL_adds_51 : decode cL_adds 51 = .ok (.istore_n 2, 1) := by decide +kernel
theorem dL_adds_52 : decode cL_adds 52 = .ok (.iinc 4 1, 3) := by decide +kernel
theorem dL_adds_55 : decode cL_adds 55 = .ok (.goto (-48), 3) := by decide +kernel
theorem dL_adds_58 : decode cL_adds 58 = .ok (.iconst 1, 1) := by decide +kernel
theorem dL_adds_59 : decode cL_adds 59 = .ok (.istore 4, 2) := by decide +kernel
theorem dL_adds_61 : decode cL_adds 61 = .ok (.iload 4, 2) := by decide +kernel
theorem dL_adds_63 : decode cL_adds 63 = .ok (.aload_n 0, 1) := by decide +kernel
theorem dL_adds_64 : decode cL_adds 64 = .ok (.invokevirtual 11, 3) := by decide +kernel
theorem dL_adds_67 : decode cL_adds 67 = .ok (.if_icmp .ge 27, 3) := by decide +kernel
theorem dL_adds_70 : decode cL_adds 70 = .ok (.iload_n 3, 1) := by decide +kernel
theorem dL_adds_71 : decode cL_adds 71 = .ok (.aload_n 0, 1) := by decide +kernel
theorem dL_adds_72 : decode cL_adds 72 = .ok (.iload 4, 2) := by decide +kernel
theorem dL_adds_74 : decode cL_adds 74 = .ok (.invokevirtual 35, 3) := by decide +kernel
theorem dL_adds_77 : decode cL_adds 77 = .ok (.iload_n 2, 1) := by decide +kernel
theorem dL_adds_78 : decode cL_adds 78 = .ok (.if_icmp .ne 7, 3) := by decide +kernel
theorem dL_adds_81 : decode cL_adds 81 = .ok (.iconst 1, 1) := by decide +kernel
theorem dL_adds_82 : decode cL_adds 82 = .ok (.goto 4, 3) := by decide +kernel
theorem dL_adds_85 : decode cL_adds 85 = .ok (.iconst 0, 1) := by decide +kernel
theorem dL_adds_86 : decode cL_adds 86 = .ok (.iadd, 1) := by decide +kernel
theorem dL_adds_87 : decode cL_adds 87 = .ok (.istore_n 3, 1) := by decide +kernel
theorem dL_adds_88 : decode cL_adds 88 = .ok (.iinc 4 1, 3) := by decide +kernel
theorem dL_adds_91 : decode cL_adds 91 = .ok (.goto (-30), 3) := by decide +kernel
theorem dL_adds_94 : decode cL_adds 94 = .ok (.iload_n 3, 1) := by decide +kernel
theorem dL_adds_95 : decode cL_adds 95 = .ok (.bipush 8, 2) := by decide +kernel
theorem dL_adds_97 : decode cL_adds 97 = .ok (.if_icmp .ne 5, 3) := by decide +kernel
theorem dL_adds_100 : decode cL_adds 100 = .ok (.iconst 1, 1) := by decide +kernel
theorem dL_adds_101 : decode cL_adds 101 = .ok (.ireturn, 1) := by decide +kernel
theorem dL_adds_102 : decode cL_adds 102 = .ok (.iload_n 1, 1) := by decide +kernel
theorem dL_adds_103 : decode cL_adds 103 = .ok (.iconst 5, 1) := by decide +kernel
theorem dL_adds_104 : decode cL_adds 104 = .ok (.ishr, 1) := by decide +kernel
theorem dL_adds_105 : decode cL_adds 105 = .ok (.sipush 200, 3) := by decide +kernel
theorem dL_adds_108 : decode cL_adds 108 = .ok (.invokestatic 29, 3) := by decide +kernel
theorem dL_adds_111 : decode cL_adds 111 = .ok (.bipush 100, 2) := by decide +kernel
theorem dL_adds_113 : decode cL_adds 113 = .ok (.isub, 1) := by decide +kernel
theorem dL_adds_114 : decode cL_adds 114 = .ok (.istore 4, 2) := by decide +kernel
theorem dL_adds_116 : decode cL_adds 116 = .ok (.iload_n 1, 1) := by decide +kernel
theorem dL_adds_117 : decode cL_adds 117 = .ok (.iconst 3, 1) := by decide +kernel
theorem dL_adds_118 : decode cL_adds 118 = .ok (.invokestatic 29, 3) := by decide +kernel
theorem dL_adds_121 : decode cL_adds 121 = .ok (.ifCond .ne 11, 3) := by decide +kernel
theorem dL_adds_124 : decode cL_adds 124 = .ok (.aload_n 0, 1) := by decide +kernel
theorem dL_adds_125 : decode cL_adds 125 = .ok (.iload_n 2, 1) := by decide +kernel
theorem dL_adds_126 : decode cL_adds 126 = .ok (.invokevirtual 38, 3) := by decide +kernel
theorem dL_adds_129 : decode cL_adds 129 = .ok (.goto 64, 3) := by decide +kernel
theorem dL_adds_132 : decode cL_adds 132 = .ok (.iload_n 1, 1) := by decide +kernel
theorem dL_adds_133 : decode cL_adds 133 = .ok (.iconst 3, 1) := by decide +kernel
theorem dL_adds_134 : decode cL_adds 134 = .ok (.invokestatic 29, 3) := by decide +kernel
theorem dL_adds_137 : decode cL_adds 137 = .ok (.iconst 1, 1) := by decide +kernel
theorem dL_adds_138 : decode cL_adds 138 = .ok (.if_icmp .ne 39, 3) := by decide +kernel
theorem dL_adds_141 : decode cL_adds 141 = .ok (.aload_n 0, 1) := by decide +kernel
theorem dL_adds_142 : decode cL_adds 142 = .ok (.iload_n 2, 1) := by decide +kernel
theorem dL_adds_143 : decode cL_adds 143 = .ok (.iload 4, 2) := by decide +kernel
theorem dL_adds_145 : decode cL_adds 145 = .ok (.iload 4, 2) := by decide +kernel
theorem dL_adds_147 : decode cL_adds 147 = .ok (.iconst 1, 1) := by decide +kernel
theorem dL_adds_148 : decode cL_adds 148 = .ok (.iadd, 1) := by decide +kernel
theorem dL_adds_149 : decode cL_adds 149 = .ok (.iload_n 1, 1) := by decide +kernel
theorem dL_adds_150 : decode cL_adds 150 = .ok (.bipush 8, 2) := by decide +kernel
theorem dL_adds_152 : decode cL_adds 152 = .ok (.ishr, 1) := by decide +kernel
theorem dL_adds_153 : decode cL_adds 153 = .ok (.sipush 300, 3) := by decide +kernel
theorem dL_adds_156 : decode cL_adds 156 = .ok (.invokestatic 29, 3) := by decide +kernel
theorem dL_adds_159 : decode cL_adds 159 = .ok (.iadd, 1) := by decide +kernel
theorem dL_adds_160 : decode cL_adds 160 = .ok (.iconst 1, 1) := by decide +kernel
theorem dL_adds_161 : decode cL_adds 161 = .ok (.iload_n 1, 1) := by decide +kernel
theorem dL_adds_162 : decode cL_adds 162 = .ok (.bipush 10, 2) := by decide +kernel
theorem dL_adds_164 : decode cL_adds 164 = .ok (.ishr, 1) := by decide +kernel
theorem dL_adds_165 : decode cL_adds 165 = .ok (.bipush 9, 2) := by decide +kernel
theorem dL_adds_167 : decode cL_adds 167 = .ok (.invokestatic 29, 3) := by decide +kernel
theorem dL_adds_170 : decode cL_adds 170 = .ok (.iadd, 1) := by decide +kernel
theorem dL_adds_171 : decode cL_adds 171 = .ok (.invokevirtual 41, 3) := by decide +kernel
theorem dL_adds_174 : decode cL_adds 174 = .ok (.goto 19, 3) := by decide +kernel
theorem dL_adds_177 : decode cL_adds 177 = .ok (.aload_n 0, 1) := by decide +kernel
theorem dL_adds_178 : decode cL_adds 178 = .ok (.iload_n 2, 1) := by decide +kernel
theorem dL_adds_179 : decode cL_adds 179 = .ok (.iconst 2, 1) := by decide +kernel
theorem dL_adds_180 : decode cL_adds 180 = .ok (.iload_n 1, 1) := by decide +kernel
theorem dL_adds_181 : decode cL_adds 181 = .ok (.bipush 6, 2) := by decide +kernel
theorem dL_adds_183 : decode cL_adds 183 = .ok (.ishr, 1) := by decide +kernel
theorem dL_adds_184 : decode cL_adds 184 = .ok (.bipush 8, 2) := by decide +kernel
theorem dL_adds_186 : decode cL_adds 186 = .ok (.invokestatic 29, 3) := by decide +kernel
theorem dL_adds_189 : decode cL_adds 189 = .ok (.iadd, 1) := by decide +kernel
theorem dL_adds_190 : decode cL_adds 190 = .ok (.invokevirtual 45, 3) := by decide +kernel
theorem dL_adds_193 : decode cL_adds 193 = .ok (.istore 5, 2) := by decide +kernel
theorem dL_adds_195 : decode cL_adds 195 = .ok (.iload 5, 2) := by decide +kernel
theorem dL_adds_197 : decode cL_adds 197 = .ok (.aload_n 0, 1) := by decide +kernel
theorem dL_adds_198 : decode cL_adds 198 = .ok (.invokevirtual 11, 3) := by decide +kernel
theorem dL_adds_201 : decode cL_adds 201 = .ok (.iconst 1, 1) := by decide +kernel
theorem dL_adds_202 : decode cL_adds 202 = .ok (.isub, 1) := by decide +kernel
theorem dL_adds_203 : decode cL_adds 203 = .ok (.if_icmp .ne 34, 3) := by decide +kernel
theorem dL_adds_206 : decode cL_adds 206 = .ok (.iload_n 1, 1) := by decide +kernel
theorem dL_adds_207 : decode cL_adds 207 = .ok (.bipush 13, 2) := by decide +kernel
theorem dL_adds_209 : decode cL_adds 209 = .ok (.ishr, 1) := by decide +kernel
theorem dL_adds_210 : decode cL_adds 210 = .ok (.iconst 3, 1) := by decide +kernel
theorem dL_adds_211 : decode cL_adds 211 = .ok (.iand, 1) := by decide +kernel
theorem dL_adds_212 : decode cL_adds 212 = .ok (.ifCond .ne 21, 3) := by decide +kernel
theorem dL_adds_215 : decode cL_adds 215 = .ok (.aload_n 0, 1) := by decide +kernel
theorem dL_adds_216 : decode cL_adds 216 = .ok (.iload 5, 2) := by decide +kernel
theorem dL_adds_218 : decode cL_adds 218 = .ok (.iload_n 1, 1) := by decide +kernel
theorem dL_adds_219 : decode cL_adds 219 = .ok (.bipush 15, 2) := by decide +kernel
theorem dL_adds_221 : decode cL_adds 221 = .ok (.ishr, 1) := by decide +kernel
theorem dL_adds_222 : decode cL_adds 222 = .ok (.iconst 3, 1) := by decide +kernel
theorem dL_adds_223 : decode cL_adds 223 = .ok (.invokestatic 29, 3) := by decide +kernel
theorem dL_adds_226 : decode cL_adds 226 = .ok (.invokevirtual 48, 3) := by decide +kernel
theorem dL_adds_229 : decode cL_adds 229 = .ok (.iconst (-1), 1) := by decide +kernel
theorem dL_adds_230 : decode cL_adds 230 = .ok (.if_icmp .ne 7, 3) := by decide +kernel
theorem dL_adds_233 : decode cL_adds 233 = .ok (.iconst 1, 1) := by decide +kernel
theorem dL_adds_234 : decode cL_adds 234 = .ok (.goto 4, 3) := by decide +kernel
theorem dL_adds_237 : decode cL_adds 237 = .ok (.iconst 0, 1) := by decide +kernel
theorem dL_adds_238 : decode cL_adds 238 = .ok (.ireturn, 1) := by decide +kernel
theorem dL_holds_0 : decode cL_holds 0 = .ok (.aload_n 0, 1) := by decide +kernel
theorem dL_holds_1 : decode cL_holds 1 = .ok (.invokevirtual 51, 3) := by decide +kernel
theorem dL_holds_4 : decode cL_holds 4 = .ok (.lstore_n 2, 1) := by decide +kernel
theorem dL_holds_5 : decode cL_holds 5 = .ok (.aload_n 0, 1) := by decide +kernel
theorem dL_holds_6 : decode cL_holds 6 = .ok (.invokevirtual 55, 3) := by decide +kernel
theorem dL_holds_9 : decode cL_holds 9 = .ok (.bipush 8, 2) := by decide +kernel
theorem dL_holds_11 : decode cL_holds 11 = .ok (.if_icmp .gt 114, 3) := by decide +kernel
theorem dL_holds_14 : decode cL_holds 14 = .ok (.aload_n 0, 1) := by decide +kernel
theorem dL_holds_15 : decode cL_holds 15 = .ok (.invokevirtual 58, 3) := by decide +kernel
theorem dL_holds_18 : decode cL_holds 18 = .ok (.ifCond .lt 107, 3) := by decide +kernel
theorem dL_holds_21 : decode cL_holds 21 = .ok (.aload_n 0, 1) := by decide +kernel
theorem dL_holds_22 : decode cL_holds 22 = .ok (.invokevirtual 58, 3) := by decide +kernel
theorem dL_holds_25 : decode cL_holds 25 = .ok (.bipush 30, 2) := by decide +kernel
theorem dL_holds_27 : decode cL_holds 27 = .ok (.if_icmp .gt 98, 3) := by decide +kernel
theorem dL_holds_30 : decode cL_holds 30 = .ok (.aload_n 0, 1) := by decide +kernel
theorem dL_holds_31 : decode cL_holds 31 = .ok (.invokevirtual 61, 3) := by decide +kernel
theorem dL_holds_34 : decode cL_holds 34 = .ok (.iconst 1, 1) := by decide +kernel
theorem dL_holds_35 : decode cL_holds 35 = .ok (.if_icmp .eq 10, 3) := by decide +kernel
theorem dL_holds_38 : decode cL_holds 38 = .ok (.aload_n 0, 1) := by decide +kernel
theorem dL_holds_39 : decode cL_holds 39 = .ok (.invokevirtual 64, 3) := by decide +kernel
theorem dL_holds_42 : decode cL_holds 42 = .ok (.ifCond .ne 83, 3) := by decide +kernel
theorem dL_holds_45 : decode cL_holds 45 = .ok (.aload_n 0, 1) := by decide +kernel
theorem dL_holds_46 : decode cL_holds 46 = .ok (.invokevirtual 67, 3) := by decide +kernel
theorem dL_holds_49 : decode cL_holds 49 = .ok (.dconst 0, 1) := by decide +kernel
theorem dL_holds_50 : decode cL_holds 50 = .ok (.dcmp .l, 1) := by decide +kernel
theorem dL_holds_51 : decode cL_holds 51 = .ok (.ifCond .lt 74, 3) := by decide +kernel
theorem dL_holds_54 : decode cL_holds 54 = .ok (.aload_n 0, 1) := by decide +kernel
theorem dL_holds_55 : decode cL_holds 55 = .ok (.invokevirtual 67, 3) := by decide +kernel
theorem dL_holds_58 : decode cL_holds 58 = .ok (.dconst 1, 1) := by decide +kernel
theorem dL_holds_59 : decode cL_holds 59 = .ok (.dcmp .g, 1) := by decide +kernel
theorem dL_holds_60 : decode cL_holds 60 = .ok (.ifCond .gt 65, 3) := by decide +kernel
theorem dL_holds_63 : decode cL_holds 63 = .ok (.aload_n 0, 1) := by decide +kernel
theorem dL_holds_64 : decode cL_holds 64 = .ok (.invokevirtual 71, 3) := by decide +kernel
theorem dL_holds_67 : decode cL_holds 67 = .ok (.ifCond .eq 24, 3) := by decide +kernel
theorem dL_holds_70 : decode cL_holds 70 = .ok (.aload_n 0, 1) := by decide +kernel
theorem dL_holds_71 : decode cL_holds 71 = .ok (.invokevirtual 61, 3) := by decide +kernel
theorem dL_holds_74 : decode cL_holds 74 = .ok (.ifCond .ne 51, 3) := by decide +kernel
theorem dL_holds_77 : decode cL_holds 77 = .ok (.aload_n 0, 1) := by decide +kernel
theorem dL_holds_78 : decode cL_holds 78 = .ok (.invokevirtual 75, 3) := by decide +kernel
theorem dL_holds_81 : decode cL_holds 81 = .ok (.ifCond .ne 44, 3) := by decide +kernel
theorem dL_holds_84 : decode cL_holds 84 = .ok (.aload_n 0, 1) := by decide +kernel
theorem dL_holds_85 : decode cL_holds 85 = .ok (.invokevirtual 78, 3) := by decide +kernel
theorem dL_holds_88 : decode cL_holds 88 = .ok (.ifCond .ne 37, 3) := by decide +kernel
theorem dL_holds_91 : decode cL_holds 91 = .ok (.aload_n 0, 1) := by decide +kernel
theorem dL_holds_92 : decode cL_holds 92 = .ok (.invokevirtual 81, 3) := by decide +kernel
theorem dL_holds_95 : decode cL_holds 95 = .ok (.ifCond .ne 7, 3) := by decide +kernel
theorem dL_holds_98 : decode cL_holds 98 = .ok (.iconst 1, 1) := by decide +kernel
theorem dL_holds_99 : decode cL_holds 99 = .ok (.goto 4, 3) := by decide +kernel
theorem dL_holds_102 : decode cL_holds 102 = .ok (.iconst 0, 1) := by decide +kernel
theorem dL_holds_103 : decode cL_holds 103 = .ok (.aload_n 0, 1) := by decide +kernel
theorem dL_holds_104 : decode cL_holds 104 = .ok (.invokevirtual 71, 3) := by decide +kernel
theorem dL_holds_107 : decode cL_holds 107 = .ok (.if_icmp .ne 18, 3) := by decide +kernel
theorem dL_holds_110 : decode cL_holds 110 = .ok (.aload_n 0, 1) := by decide +kernel
theorem dL_holds_111 : decode cL_holds 111 = .ok (.aload_n 0, 1) := by decide +kernel
theorem dL_holds_112 : decode cL_holds 112 = .ok (.invokevirtual 75, 3) := by decide +kernel
theorem dL_holds_115 : decode cL_holds 115 = .ok (.invokevirtual 19, 3) := by decide +kernel
theorem dL_holds_118 : decode cL_holds 118 = .ok (.ifCond .ne 7, 3) := by decide +kernel
theorem dL_holds_121 : decode cL_holds 121 = .ok (.iconst 1, 1) := by decide +kernel
theorem dL_holds_122 : decode cL_holds 122 = .ok (.goto 4, 3) := by decide +kernel
theorem dL_holds_125 : decode cL_holds 125 = .ok (.iconst 0, 1) := by decide +kernel
theorem dL_holds_126 : decode cL_holds 126 = .ok (.istore 4, 2) := by decide +kernel
theorem dL_holds_128 : decode cL_holds 128 = .ok (.iconst 0, 1) := by decide +kernel
theorem dL_holds_129 : decode cL_holds 129 = .ok (.istore 5, 2) := by decide +kernel
theorem dL_holds_131 : decode cL_holds 131 = .ok (.iload 5, 2) := by decide +kernel
theorem dL_holds_133 : decode cL_holds 133 = .ok (.bipush 32, 2) := by decide +kernel
theorem dL_holds_135 : decode cL_holds 135 = .ok (.if_icmp .ge 59, 3) := by decide +kernel
theorem dL_holds_138 : decode cL_holds 138 = .ok (.iload 4, 2) := by decide +kernel
theorem dL_holds_140 : decode cL_holds 140 = .ok (.ifCond .eq 45, 3) := by decide +kernel
theorem dL_holds_143 : decode cL_holds 143 = .ok (.aload_n 0, 1) := by decide +kernel
theorem dL_holds_144 : decode cL_holds 144 = .ok (.iload 5, 2) := by decide +kernel
theorem dL_holds_146 : decode cL_holds 146 = .ok (.bipush 16, 2) := by decide +kernel
theorem dL_holds_148 : decode cL_holds 148 = .ok (.idiv, 1) := by decide +kernel
theorem dL_holds_149 : decode cL_holds 149 = .ok (.iload 5, 2) := by decide +kernel
theorem dL_holds_151 : decode cL_holds 151 = .ok (.bipush 16, 2) := by decide +kernel
theorem dL_holds_153 : decode cL_holds 153 = .ok (.irem, 1) := by decide +kernel
theorem dL_holds_154 : decode cL_holds 154 = .ok (.invokevirtual 84, 3) := by decide +kernel
theorem dL_holds_157 : decode cL_holds 157 = .ok (.bipush 32, 2) := by decide +kernel
theorem dL_holds_159 : decode cL_holds 159 = .ok (.if_icmp .lt 26, 3) := by decide +kernel
theorem dL_holds_162 : decode cL_holds 162 = .ok (.aload_n 0, 1) := by decide +kernel
theorem dL_holds_163 : decode cL_holds 163 = .ok (.iload 5, 2) := by decide +kernel
theorem dL_holds_165 : decode cL_holds 165 = .ok (.bipush 16, 2) := by decide +kernel
theorem dL_holds_167 : decode cL_holds 167 = .ok (.idiv, 1) := by decide +kernel
theorem dL_holds_168 : decode cL_holds 168 = .ok (.iload 5, 2) := by decide +kernel
theorem dL_holds_170 : decode cL_holds 170 = .ok (.bipush 16, 2) := by decide +kernel
theorem dL_holds_172 : decode cL_holds 172 = .ok (.irem, 1) := by decide +kernel
theorem dL_holds_173 : decode cL_holds 173 = .ok (.invokevirtual 84, 3) := by decide +kernel
theorem dL_holds_176 : decode cL_holds 176 = .ok (.bipush 126, 2) := by decide +kernel
theorem dL_holds_178 : decode cL_holds 178 = .ok (.if_icmp .gt 7, 3) := by decide +kernel
theorem dL_holds_181 : decode cL_holds 181 = .ok (.iconst 1, 1) := by decide +kernel
theorem dL_holds_182 : decode cL_holds 182 = .ok (.goto 4, 3) := by decide +kernel
theorem dL_holds_185 : decode cL_holds 185 = .ok (.iconst 0, 1) := by decide +kernel
theorem dL_holds_186 : decode cL_holds 186 = .ok (.istore 4, 2) := by decide +kernel
theorem dL_holds_188 : decode cL_holds 188 = .ok (.iinc 5 1, 3) := by decide +kernel
theorem dL_holds_191 : decode cL_holds 191 = .ok (.goto (-60), 3) := by decide +kernel
theorem dL_holds_194 : decode cL_holds 194 = .ok (.iconst 1, 1) := by decide +kernel
theorem dL_holds_195 : decode cL_holds 195 = .ok (.istore 5, 2) := by decide +kernel
theorem dL_holds_197 : decode cL_holds 197 = .ok (.iload 5, 2) := by decide +kernel
theorem dL_holds_199 : decode cL_holds 199 = .ok (.aload_n 0, 1) := by decide +kernel
theorem dL_holds_200 : decode cL_holds 200 = .ok (.invokevirtual 11, 3) := by decide +kernel
theorem dL_holds_203 : decode cL_holds 203 = .ok (.if_icmp .ge 140, 3) := by decide +kernel
theorem dL_holds_206 : decode cL_holds 206 = .ok (.aload_n 0, 1) := by decide +kernel
theorem dL_holds_207 : decode cL_holds 207 = .ok (.iload 5, 2) := by decide +kernel
theorem dL_holds_209 : decode cL_holds 209 = .ok (.invokevirtual 35, 3) := by decide +kernel
theorem dL_holds_212 : decode cL_holds 212 = .ok (.istore 6, 2) := by decide +kernel
theorem dL_holds_214 : decode cL_holds 214 = .ok (.iload 4, 2) := by decide +kernel
theorem dL_holds_216 : decode cL_holds 216 = .ok (.ifCond .eq 118, 3) := by decide +kernel
theorem dL_holds_219 : decode cL_holds 219 = .ok (.aload_n 0, 1) := by decide +kernel
theorem dL_holds_220 : decode cL_holds 220 = .ok (.iload 6, 2) := by decide +kernel
theorem dL_holds_222 : decode cL_holds 222 = .ok (.invokevirtual 19, 3) := by decide +kernel
theorem dL_holds_225 : decode cL_holds 225 = .ok (.ifCond .ne 109, 3) := by decide +kernel
theorem dL_holds_228 : decode cL_holds 228 = .ok (.aload_n 0, 1) := by decide +kernel
theorem dL_holds_229 : decode cL_holds 229 = .ok (.iload 5, 2) := by decide +kernel
theorem dL_holds_231 : decode cL_holds 231 = .ok (.invokevirtual 26, 3) := by decide +kernel
theorem dL_holds_234 : decode cL_holds 234 = .ok (.aload_n 0, 1) := by decide +kernel
theorem dL_holds_235 : decode cL_holds 235 = .ok (.iload 6, 2) := by decide +kernel
theorem dL_holds_237 : decode cL_holds 237 = .ok (.invokevirtual 26, 3) := by decide +kernel
theorem dL_holds_240 : decode cL_holds 240 = .ok (.iconst 1, 1) := by decide +kernel
theorem dL_holds_241 : decode cL_holds 241 = .ok (.iadd, 1) := by decide +kernel
theorem dL_holds_242 : decode cL_holds 242 = .ok (.if_icmp .ne 92, 3) := by decide +kernel
theorem dL_holds_245 : decode cL_holds 245 = .ok (.aload_n 0, 1) := by decide +kernel
theorem dL_holds_246 : decode cL_holds 246 = .ok (.iload 5, 2) := by decide +kernel
theorem dL_holds_248 : decode cL_holds 248 = .ok (.invokevirtual 26, 3) := by decide +kernel
theorem dL_holds_251 : decode cL_holds 251 = .ok (.iconst 4, 1) := by decide +kernel
theorem dL_holds_252 : decode cL_holds 252 = .ok (.if_icmp .gt 82, 3) := by decide +kernel
theorem dL_holds_255 : decode cL_holds 255 = .ok (.aload_n 0, 1) := by decide +kernel
theorem dL_holds_256 : decode cL_holds 256 = .ok (.iload 5, 2) := by decide +kernel
theorem dL_holds_258 : decode cL_holds 258 = .ok (.invokevirtual 87, 3) := by decide +kernel
theorem dL_holds_261 : decode cL_holds 261 = .ok (.aload_n 0, 1) := by decide +kernel
theorem dL_holds_262 : decode cL_holds 262 = .ok (.iload 6, 2) := by decide +kernel
theorem dL_holds_264 : decode cL_holds 264 = .ok (.invokevirtual 87, 3) := by decide +kernel
theorem dL_holds_267 : decode cL_holds 267 = .ok (.if_icmp .lt 67, 3) := by decide +kernel
theorem dL_holds_270 : decode cL_holds 270 = .ok (.aload_n 0, 1) := by decide +kernel
theorem dL_holds_271 : decode cL_holds 271 = .ok (.iload 5, 2) := by decide +kernel
theorem dL_holds_273 : decode cL_holds 273 = .ok (.invokevirtual 90, 3) := by decide +kernel
theorem dL_holds_276 : decode cL_holds 276 = .ok (.aload_n 0, 1) := by decide +kernel
theorem dL_holds_277 : decode cL_holds 277 = .ok (.iload 6, 2) := by decide +kernel
theorem dL_holds_279 : decode cL_holds 279 = .ok (.invokevirtual 90, 3) := by decide +kernel
theorem dL_holds_282 : decode cL_holds 282 = .ok (.aload_n 0, 1) := by decide +kernel
theorem dL_holds_283 : decode cL_holds 283 = .ok (.iload 5, 2) := by decide +kernel
theorem dL_holds_285 : decode cL_holds 285 = .ok (.invokevirtual 93, 3) := by decide +kernel
theorem dL_holds_288 : decode cL_holds 288 = .ok (.ifCond .eq 7, 3) := by decide +kernel
theorem dL_holds_291 : decode cL_holds 291 = .ok (.iconst 1, 1) := by decide +kernel
theorem dL_holds_292 : decode cL_holds 292 = .ok (.goto 4, 3) := by decide +kernel
theorem dL_holds_295 : decode cL_holds 295 = .ok (.iconst 0, 1) := by decide +kernel
theorem dL_holds_296 : decode cL_holds 296 = .ok (.iadd, 1) := by decide +kernel
theorem dL_holds_297 : decode cL_holds 297 = .ok (.if_icmp .ne 37, 3) := by decide +kernel
theorem dL_holds_300 : decode cL_holds 300 = .ok (.aload_n 0, 1) := by decide +kernel
theorem dL_holds_301 : decode cL_holds 301 = .ok (.iload 5, 2) := by decide +kernel
theorem dL_holds_303 : decode cL_holds 303 = .ok (.invokevirtual 19, 3) := by decide +kernel
theorem dL_holds_306 : decode cL_holds 306 = .ok (.iconst 2, 1) := by decide +kernel
theorem dL_holds_307 : decode cL_holds 307 = .ok (.if_icmp .ne 23, 3) := by decide +kernel
theorem dL_holds_310 : decode cL_holds 310 = .ok (.aload_n 0, 1) := by decide +kernel
theorem dL_holds_311 : decode cL_holds 311 = .ok (.iload 5, 2) := by decide +kernel
theorem dL_holds_313 : decode cL_holds 313 = .ok (.invokevirtual 23, 3) := by decide +kernel
theorem dL_holds_316 : decode cL_holds 316 = .ok (.ifCond .lt 18, 3) := by decide +kernel
theorem dL_holds_319 : decode cL_holds 319 = .ok (.aload_n 0, 1) := by decide +kernel
theorem dL_holds_320 : decode cL_holds 320 = .ok (.iload 5, 2) := by decide +kernel
theorem dL_holds_322 : decode cL_holds 322 = .ok (.invokevirtual 23, 3) := by decide +kernel
theorem dL_holds_325 : decode cL_holds 325 = .ok (.bipush 9, 2) := by decide +kernel
theorem dL_holds_327 : decode cL_holds 327 = .ok (.if_icmp .ge 7, 3) := by decide +kernel
theorem dL_holds_330 : decode cL_holds 330 = .ok (.iconst 1, 1) := by decide +kernel
theorem dL_holds_331 : decode cL_holds 331 = .ok (.goto 4, 3) := by decide +kernel
theorem dL_holds_334 : decode cL_holds 334 = .ok (.iconst 0, 1) := by decide +kernel
theorem dL_holds_335 : decode cL_holds 335 = .ok (.istore 4, 2) := by decide +kernel
theorem dL_holds_337 : decode cL_holds 337 = .ok (.iinc 5 1, 3) := by decide +kernel
theorem dL_holds_340 : decode cL_holds 340 = .ok (.goto (-143), 3) := by decide +kernel
theorem dL_holds_343 : decode cL_holds 343 = .ok (.aload_n 0, 1) := by decide +kernel
theorem dL_holds_344 : decode cL_holds 344 = .ok (.iload_n 1, 1) := by decide +kernel
theorem dL_holds_345 : decode cL_holds 345 = .ok (.invokevirtual 97, 3) := by decide +kernel
theorem dL_holds_348 : decode cL_holds 348 = .ok (.istore 5, 2) := by decide +kernel
theorem dL_holds_350 : decode cL_holds 350 = .ok (.iload 4, 2) := by decide +kernel
theorem dL_holds_352 : decode cL_holds 352 = .ok (.ifCond .eq 108, 3) := by decide +kernel
theorem dL_holds_355 : decode cL_holds 355 = .ok (.aload_n 0, 1) := by decide +kernel
theorem dL_holds_356 : decode cL_holds 356 = .ok (.iconst 0, 1) := by decide +kernel
theorem dL_holds_357 : decode cL_holds 357 = .ok (.invokevirtual 35, 3) := by decide +kernel
theorem dL_holds_360 : decode cL_holds 360 = .ok (.iconst (-1), 1) := by decide +kernel
theorem dL_holds_361 : decode cL_holds 361 = .ok (.if_icmp .ne 99, 3) := by decide +kernel
theorem dL_holds_364 : decode cL_holds 364 = .ok (.aload_n 0, 1) := by decide +kernel
theorem dL_holds_365 : decode cL_holds 365 = .ok (.iconst 0, 1) := by decide +kernel
theorem dL_holds_366 : decode cL_holds 366 = .ok (.invokevirtual 26, 3) := by decide +kernel
theorem dL_holds_369 : decode cL_holds 369 = .ok (.ifCond .ne 91, 3) := by decide +kernel
theorem dL_holds_372 : decode cL_holds 372 = .ok (.aload_n 0, 1) := by decide +kernel
theorem dL_holds_373 : decode cL_holds 373 = .ok (.iconst 0, 1) := by decide +kernel
theorem dL_holds_374 : decode cL_holds 374 = .ok (.invokevirtual 87, 3) := by decide +kernel
theorem dL_holds_377 : decode cL_holds 377 = .ok (.ifCond .ne 83, 3) := by decide +kernel
theorem dL_holds_380 : decode cL_holds 380 = .ok (.aload_n 0, 1) := by decide +kernel
theorem dL_holds_381 : decode cL_holds 381 = .ok (.iconst 0, 1) := by decide +kernel
theorem dL_holds_382 : decode cL_holds 382 = .ok (.invokevirtual 90, 3) := by decide +kernel
theorem dL_holds_385 : decode cL_holds 385 = .ok (.ifCond .ne 75, 3) := by decide +kernel
theorem dL_holds_388 : decode cL_holds 388 = .ok (.aload_n 0, 1) := by decide +kernel
theorem dL_holds_389 : decode cL_holds 389 = .ok (.invokevirtual 51, 3) := by decide +kernel
theorem dL_holds_392 : decode cL_holds 392 = .ok (.lload_n 2, 1) := by decide +kernel
theorem dL_holds_393 : decode cL_holds 393 = .ok (.lcmp, 1) := by decide +kernel
theorem dL_holds_394 : decode cL_holds 394 = .ok (.ifCond .ne 66, 3) := by decide +kernel
theorem dL_holds_397 : decode cL_holds 397 = .ok (.aload_n 0, 1) := by decide +kernel
theorem dL_holds_398 : decode cL_holds 398 = .ok (.iconst 0, 1) := by decide +kernel
theorem dL_holds_399 : decode cL_holds 399 = .ok (.invokevirtual 97, 3) := by decide +kernel
theorem dL_holds_402 : decode cL_holds 402 = .ok (.aload_n 0, 1) := by decide +kernel
theorem dL_holds_403 : decode cL_holds 403 = .ok (.invokevirtual 61, 3) := by decide +kernel
theorem dL_holds_406 : decode cL_holds 406 = .ok (.ifCond .ne 10, 3) := by decide +kernel
theorem dL_holds_409 : decode cL_holds 409 = .ok (.aload_n 0, 1) := by decide +kernel
theorem dL_holds_410 : decode cL_holds 410 = .ok (.invokevirtual 78, 3) := by decide +kernel
theorem dL_holds_413 : decode cL_holds 413 = .ok (.goto 24, 3) := by decide +kernel
theorem dL_holds_416 : decode cL_holds 416 = .ok (.aload_n 0, 1) := by decide +kernel
theorem dL_holds_417 : decode cL_holds 417 = .ok (.invokevirtual 61, 3) := by decide +kernel
theorem dL_holds_420 : decode cL_holds 420 = .ok (.iconst 1, 1) := by decide +kernel
theorem dL_holds_421 : decode cL_holds 421 = .ok (.if_icmp .ne 10, 3) := by decide +kernel
theorem dL_holds_424 : decode cL_holds 424 = .ok (.aload_n 0, 1) := by decide +kernel
theorem dL_holds_425 : decode cL_holds 425 = .ok (.invokevirtual 64, 3) := by decide +kernel
theorem dL_holds_428 : decode cL_holds 428 = .ok (.goto 9, 3) := by decide +kernel
theorem dL_holds_431 : decode cL_holds 431 = .ok (.aload_n 0, 1) := by decide +kernel
theorem dL_holds_432 : decode cL_holds 432 = .ok (.bipush 10, 2) := by decide +kernel
theorem dL_holds_434 : decode cL_holds 434 = .ok (.invokevirtual 97, 3) := by decide +kernel
theorem dL_holds_437 : decode cL_holds 437 = .ok (.if_icmp .ne 23, 3) := by decide +kernel
theorem dL_holds_440 : decode cL_holds 440 = .ok (.iload 5, 2) := by decide +kernel
theorem dL_holds_442 : decode cL_holds 442 = .ok (.sipush (-999), 3) := by decide +kernel
theorem dL_holds_445 : decode cL_holds 445 = .ok (.if_icmp .lt 15, 3) := by decide +kernel
theorem dL_holds_448 : decode cL_holds 448 = .ok (.iload 5, 2) := by decide +kernel
theorem dL_holds_450 : decode cL_holds 450 = .ok (.sipush 999, 3) := by decide +kernel
theorem dL_holds_453 : decode cL_holds 453 = .ok (.if_icmp .gt 7, 3) := by decide +kernel
theorem dL_holds_456 : decode cL_holds 456 = .ok (.iconst 1, 1) := by decide +kernel
theorem dL_holds_457 : decode cL_holds 457 = .ok (.goto 4, 3) := by decide +kernel
theorem dL_holds_460 : decode cL_holds 460 = .ok (.iconst 0, 1) := by decide +kernel
theorem dL_holds_461 : decode cL_holds 461 = .ok (.ireturn, 1) := by decide +kernel
theorem dL_acts_0 : decode cL_acts 0 = .ok (.aload_n 0, 1) := by decide +kernel
theorem dL_acts_1 : decode cL_acts 1 = .ok (.invokestatic 100, 3) := by decide +kernel
theorem dL_acts_4 : decode cL_acts 4 = .ok (.lstore_n 3, 1) := by decide +kernel
theorem dL_acts_5 : decode cL_acts 5 = .ok (.aload_n 0, 1) := by decide +kernel
theorem dL_acts_6 : decode cL_acts 6 = .ok (.invokevirtual 55, 3) := by decide +kernel
theorem dL_acts_9 : decode cL_acts 9 = .ok (.istore 5, 2) := by decide +kernel
theorem dL_acts_11 : decode cL_acts 11 = .ok (.aload_n 0, 1) := by decide +kernel
theorem dL_acts_12 : decode cL_acts 12 = .ok (.iconst 2, 1) := by decide +kernel
theorem dL_acts_13 : decode cL_acts 13 = .ok (.invokevirtual 104, 3) := by decide +kernel
theorem dL_acts_16 : decode cL_acts 16 = .ok (.istore 6, 2) := by decide +kernel
theorem dL_acts_18 : decode cL_acts 18 = .ok (.aload_n 0, 1) := by decide +kernel
theorem dL_acts_19 : decode cL_acts 19 = .ok (.invokevirtual 58, 3) := by decide +kernel
theorem dL_acts_22 : decode cL_acts 22 = .ok (.istore 7, 2) := by decide +kernel
theorem dL_acts_24 : decode cL_acts 24 = .ok (.iload_n 1, 1) := by decide +kernel
theorem dL_acts_25 : decode cL_acts 25 = .ok (.bipush 16, 2) := by decide +kernel
theorem dL_acts_27 : decode cL_acts 27 = .ok (.invokestatic 29, 3) := by decide +kernel
theorem dL_acts_30 : decode cL_acts 30 = .ok (.tableswitch 446 0 9 #[54, 91, 117, 182, 182, 270, 366, 366, 366, 366], 54) := by decide +kernel
theorem dL_acts_84 : decode cL_acts 84 = .ok (.aload_n 0, 1) := by decide +kernel
theorem dL_acts_85 : decode cL_acts 85 = .ok (.iload_n 2, 1) := by decide +kernel
theorem dL_acts_86 : decode cL_acts 86 = .ok (.iconst 2, 1) := by decide +kernel
theorem dL_acts_87 : decode cL_acts 87 = .ok (.invokestatic 29, 3) := by decide +kernel
theorem dL_acts_90 : decode cL_acts 90 = .ok (.iconst 1, 1) := by decide +kernel
theorem dL_acts_91 : decode cL_acts 91 = .ok (.iload_n 2, 1) := by decide +kernel
theorem dL_acts_92 : decode cL_acts 92 = .ok (.iconst 1, 1) := by decide +kernel
theorem dL_acts_93 : decode cL_acts 93 = .ok (.ishr, 1) := by decide +kernel
theorem dL_acts_94 : decode cL_acts 94 = .ok (.bipush 60, 2) := by decide +kernel
theorem dL_acts_96 : decode cL_acts 96 = .ok (.invokestatic 29, 3) := by decide +kernel
theorem dL_acts_99 : decode cL_acts 99 = .ok (.iadd, 1) := by decide +kernel
theorem dL_acts_100 : decode cL_acts 100 = .ok (.invokevirtual 107, 3) := by decide +kernel
theorem dL_acts_103 : decode cL_acts 103 = .ok (.ifCond .le 16, 3) := by decide +kernel
theorem dL_acts_106 : decode cL_acts 106 = .ok (.aload_n 0, 1) := by decide +kernel
theorem dL_acts_107 : decode cL_acts 107 = .ok (.invokestatic 100, 3) := by decide +kernel
theorem dL_acts_110 : decode cL_acts 110 = .ok (.lload_n 3, 1) := by decide +kernel
theorem dL_acts_111 : decode cL_acts 111 = .ok (.lcmp, 1) := by decide +kernel
theorem dL_acts_112 : decode cL_acts 112 = .ok (.ifCond .ne 7, 3) := by decide +kernel
theorem dL_acts_115 : decode cL_acts 115 = .ok (.iconst 1, 1) := by decide +kernel
theorem dL_acts_116 : decode cL_acts 116 = .ok (.goto 4, 3) := by decide +kernel
theorem dL_acts_119 : decode cL_acts 119 = .ok (.iconst 0, 1) := by decide +kernel
theorem dL_acts_120 : decode cL_acts 120 = .ok (.ireturn, 1) := by decide +kernel
theorem dL_acts_121 : decode cL_acts 121 = .ok (.aload_n 0, 1) := by decide +kernel
theorem dL_acts_122 : decode cL_acts 122 = .ok (.iconst 2, 1) := by decide +kernel
theorem dL_acts_123 : decode cL_acts 123 = .ok (.iload_n 2, 1) := by decide +kernel
theorem dL_acts_124 : decode cL_acts 124 = .ok (.iconst 1, 1) := by decide +kernel
theorem dL_acts_125 : decode cL_acts 125 = .ok (.iand, 1) := by decide +kernel
theorem dL_acts_126 : decode cL_acts 126 = .ok (.invokevirtual 107, 3) := by decide +kernel
theorem dL_acts_129 : decode cL_acts 129 = .ok (.ifCond .lt 16, 3) := by decide +kernel
theorem dL_acts_132 : decode cL_acts 132 = .ok (.aload_n 0, 1) := by decide +kernel
theorem dL_acts_133 : decode cL_acts 133 = .ok (.invokestatic 100, 3) := by decide +kernel
theorem dL_acts_136 : decode cL_acts 136 = .ok (.lload_n 3, 1) := by decide +kernel
theorem dL_acts_137 : decode cL_acts 137 = .ok (.lcmp, 1) := by decide +kernel
theorem dL_acts_138 : decode cL_acts 138 = .ok (.ifCond .ne 7, 3) := by decide +kernel
theorem dL_acts_141 : decode cL_acts 141 = .ok (.iconst 1, 1) := by decide +kernel
theorem dL_acts_142 : decode cL_acts 142 = .ok (.goto 4, 3) := by decide +kernel
theorem dL_acts_145 : decode cL_acts 145 = .ok (.iconst 0, 1) := by decide +kernel
theorem dL_acts_146 : decode cL_acts 146 = .ok (.ireturn, 1) := by decide +kernel
theorem dL_acts_147 : decode cL_acts 147 = .ok (.aload_n 0, 1) := by decide +kernel
theorem dL_acts_148 : decode cL_acts 148 = .ok (.invokevirtual 61, 3) := by decide +kernel
theorem dL_acts_151 : decode cL_acts 151 = .ok (.istore 8, 2) := by decide +kernel
theorem dL_acts_153 : decode cL_acts 153 = .ok (.iload_n 2, 1) := by decide +kernel
theorem dL_acts_154 : decode cL_acts 154 = .ok (.iconst 3, 1) := by decide +kernel
theorem dL_acts_155 : decode cL_acts 155 = .ok (.iand, 1) := by decide +kernel
theorem dL_acts_156 : decode cL_acts 156 = .ok (.ifCond .gt 50, 3) := by decide +kernel
theorem dL_acts_159 : decode cL_acts 159 = .ok (.aload_n 0, 1) := by decide +kernel
theorem dL_acts_160 : decode cL_acts 160 = .ok (.invokevirtual 110, 3) := by decide +kernel
theorem dL_acts_163 : decode cL_acts 163 = .ok (.iload 8, 2) := by decide +kernel
theorem dL_acts_165 : decode cL_acts 165 = .ok (.if_icmp .ne 45, 3) := by decide +kernel
theorem dL_acts_168 : decode cL_acts 168 = .ok (.iload 8, 2) := by decide +kernel
theorem dL_acts_170 : decode cL_acts 170 = .ok (.ifCond .ne 13, 3) := by decide +kernel
theorem dL_acts_173 : decode cL_acts 173 = .ok (.aload_n 0, 1) := by decide +kernel
theorem dL_acts_174 : decode cL_acts 174 = .ok (.invokevirtual 71, 3) := by decide +kernel
theorem dL_acts_177 : decode cL_acts 177 = .ok (.ifCond .eq 33, 3) := by decide +kernel
theorem dL_acts_180 : decode cL_acts 180 = .ok (.goto 10, 3) := by decide +kernel
theorem dL_acts_183 : decode cL_acts 183 = .ok (.aload_n 0, 1) := by decide +kernel
theorem dL_acts_184 : decode cL_acts 184 = .ok (.invokevirtual 61, 3) := by decide +kernel
theorem dL_acts_187 : decode cL_acts 187 = .ok (.ifCond .ne 23, 3) := by decide +kernel
theorem dL_acts_190 : decode cL_acts 190 = .ok (.aload_n 0, 1) := by decide +kernel
theorem dL_acts_191 : decode cL_acts 191 = .ok (.invokestatic 100, 3) := by decide +kernel
theorem dL_acts_194 : decode cL_acts 194 = .ok (.lload_n 3, 1) := by decide +kernel
theorem dL_acts_195 : decode cL_acts 195 = .ok (.lcmp, 1) := by decide +kernel
theorem dL_acts_196 : decode cL_acts 196 = .ok (.ifCond .ne 14, 3) := by decide +kernel
theorem dL_acts_199 : decode cL_acts 199 = .ok (.aload_n 0, 1) := by decide +kernel
theorem dL_acts_200 : decode cL_acts 200 = .ok (.invokevirtual 113, 3) := by decide +kernel
theorem dL_acts_203 : decode cL_acts 203 = .ok (.ifCond .ne 7, 3) := by decide +kernel
theorem dL_acts_206 : decode cL_acts 206 = .ok (.iconst 1, 1) := by decide +kernel
theorem dL_acts_207 : decode cL_acts 207 = .ok (.goto 4, 3) := by decide +kernel
theorem dL_acts_210 : decode cL_acts 210 = .ok (.iconst 0, 1) := by decide +kernel
theorem dL_acts_211 : decode cL_acts 211 = .ok (.ireturn, 1) := by decide +kernel
theorem dL_acts_212 : decode cL_acts 212 = .ok (.iconst 1, 1) := by decide +kernel
theorem dL_acts_213 : decode cL_acts 213 = .ok (.iload_n 2, 1) := by decide +kernel
theorem dL_acts_214 : decode cL_acts 214 = .ok (.iload_n 2, 1) := by decide +kernel
theorem dL_acts_215 : decode cL_acts 215 = .ok (.bipush 9, 2) := by decide +kernel
theorem dL_acts_217 : decode cL_acts 217 = .ok (.ishr, 1) := by decide +kernel
theorem dL_acts_218 : decode cL_acts 218 = .ok (.iconst 3, 1) := by decide +kernel
theorem dL_acts_219 : decode cL_acts 219 = .ok (.iand, 1) := by decide +kernel
theorem dL_acts_220 : decode cL_acts 220 = .ok (.ifCond .ne 8, 3) := by decide +kernel
theorem dL_acts_223 : decode cL_acts 223 = .ok (.bipush 99, 2) := by decide +kernel
theorem dL_acts_225 : decode cL_acts 225 = .ok (.goto 5, 3) := by decide +kernel
theorem dL_acts_228 : decode cL_acts 228 = .ok (.bipush 6, 2) := by decide +kernel
theorem dL_acts_230 : decode cL_acts 230 = .ok (.invokestatic 29, 3) := by decide +kernel
theorem dL_acts_233 : decode cL_acts 233 = .ok (.iadd, 1) := by decide +kernel
theorem dL_acts_234 : decode cL_acts 234 = .ok (.istore 9, 2) := by decide +kernel
theorem dL_acts_236 : decode cL_acts 236 = .ok (.aload_n 0, 1) := by decide +kernel
theorem dL_acts_237 : decode cL_acts 237 = .ok (.bipush 6, 2) := by decide +kernel
theorem dL_acts_239 : decode cL_acts 239 = .ok (.invokevirtual 104, 3) := by decide +kernel
theorem dL_acts_242 : decode cL_acts 242 = .ok (.istore 10, 2) := by decide +kernel
theorem dL_acts_244 : decode cL_acts 244 = .ok (.aload_n 0, 1) := by decide +kernel
theorem dL_acts_245 : decode cL_acts 245 = .ok (.iload 9, 2) := by decide +kernel
theorem dL_acts_247 : decode cL_acts 247 = .ok (.invokevirtual 116, 3) := by decide +kernel
theorem dL_acts_250 : decode cL_acts 250 = .ok (.aload_n 0, 1) := by decide +kernel
theorem dL_acts_251 : decode cL_acts 251 = .ok (.bipush 6, 2) := by decide +kernel
theorem dL_acts_253 : decode cL_acts 253 = .ok (.invokevirtual 104, 3) := by decide +kernel
theorem dL_acts_256 : decode cL_acts 256 = .ok (.iload 10, 2) := by decide +kernel
theorem dL_acts_258 : decode cL_acts 258 = .ok (.isub, 1) := by decide +kernel
theorem dL_acts_259 : decode cL_acts 259 = .ok (.if_icmp .ne 39, 3) := by decide +kernel
theorem dL_acts_262 : decode cL_acts 262 = .ok (.aload_n 0, 1) := by decide +kernel
theorem dL_acts_263 : decode cL_acts 263 = .ok (.invokestatic 100, 3) := by decide +kernel
theorem dL_acts_266 : decode cL_acts 266 = .ok (.lload_n 3, 1) := by decide +kernel
theorem dL_acts_267 : decode cL_acts 267 = .ok (.lcmp, 1) := by decide +kernel
theorem dL_acts_268 : decode cL_acts 268 = .ok (.ifCond .ne 30, 3) := by decide +kernel
theorem dL_acts_271 : decode cL_acts 271 = .ok (.aload_n 0, 1) := by decide +kernel
theorem dL_acts_272 : decode cL_acts 272 = .ok (.invokevirtual 58, 3) := by decide +kernel
theorem dL_acts_275 : decode cL_acts 275 = .ok (.iload 7, 2) := by decide +kernel
theorem dL_acts_277 : decode cL_acts 277 = .ok (.iload 9, 2) := by decide +kernel
theorem dL_acts_279 : decode cL_acts 279 = .ok (.if_icmp .le 11, 3) := by decide +kernel
theorem dL_acts_282 : decode cL_acts 282 = .ok (.iload 7, 2) := by decide +kernel
theorem dL_acts_284 : decode cL_acts 284 = .ok (.iload 9, 2) := by decide +kernel
theorem dL_acts_286 : decode cL_acts 286 = .ok (.isub, 1) := by decide +kernel
theorem dL_acts_287 : decode cL_acts 287 = .ok (.goto 4, 3) := by decide +kernel
theorem dL_acts_290 : decode cL_acts 290 = .ok (.iconst 0, 1) := by decide +kernel
theorem dL_acts_291 : decode cL_acts 291 = .ok (.if_icmp .ne 7, 3) := by decide +kernel
theorem dL_acts_294 : decode cL_acts 294 = .ok (.iconst 1, 1) := by decide +kernel
theorem dL_acts_295 : decode cL_acts 295 = .ok (.goto 4, 3) := by decide +kernel
theorem dL_acts_298 : decode cL_acts 298 = .ok (.iconst 0, 1) := by decide +kernel
theorem dL_acts_299 : decode cL_acts 299 = .ok (.ireturn, 1) := by decide +kernel
theorem dL_acts_300 : decode cL_acts 300 = .ok (.iload 5, 2) := by decide +kernel
theorem dL_acts_302 : decode cL_acts 302 = .ok (.ifCond .ne 38, 3) := by decide +kernel
theorem dL_acts_305 : decode cL_acts 305 = .ok (.aload_n 0, 1) := by decide +kernel
theorem dL_acts_306 : decode cL_acts 306 = .ok (.iload_n 2, 1) := by decide +kernel
theorem dL_acts_307 : decode cL_acts 307 = .ok (.iconst 1, 1) := by decide +kernel
theorem dL_acts_308 : decode cL_acts 308 = .ok (.iand, 1) := by decide +kernel
theorem dL_acts_309 : decode cL_acts 309 = .ok (.invokevirtual 119, 3) := by decide +kernel
theorem dL_acts_312 : decode cL_acts 312 = .ok (.ifCond .lt 26, 3) := by decide +kernel
theorem dL_acts_315 : decode cL_acts 315 = .ok (.aload_n 0, 1) := by decide +kernel
theorem dL_acts_316 : decode cL_acts 316 = .ok (.iload_n 2, 1) := by decide +kernel
theorem dL_acts_317 : decode cL_acts 317 = .ok (.iconst 1, 1) := by decide +kernel
theorem dL_acts_318 : decode cL_acts 318 = .ok (.iand, 1) := by decide +kernel
theorem dL_acts_319 : decode cL_acts 319 = .ok (.invokevirtual 122, 3) := by decide +kernel
theorem dL_acts_322 : decode cL_acts 322 = .ok (.ifCond .ne 16, 3) := by decide +kernel
theorem dL_acts_325 : decode cL_acts 325 = .ok (.aload_n 0, 1) := by decide +kernel
theorem dL_acts_326 : decode cL_acts 326 = .ok (.invokestatic 100, 3) := by decide +kernel
theorem dL_acts_329 : decode cL_acts 329 = .ok (.lload_n 3, 1) := by decide +kernel
theorem dL_acts_330 : decode cL_acts 330 = .ok (.lcmp, 1) := by decide +kernel
theorem dL_acts_331 : decode cL_acts 331 = .ok (.ifCond .ne 7, 3) := by decide +kernel
theorem dL_acts_334 : decode cL_acts 334 = .ok (.iconst 1, 1) := by decide +kernel
theorem dL_acts_335 : decode cL_acts 335 = .ok (.goto 4, 3) := by decide +kernel
theorem dL_acts_338 : decode cL_acts 338 = .ok (.iconst 0, 1) := by decide +kernel
theorem dL_acts_339 : decode cL_acts 339 = .ok (.ireturn, 1) := by decide +kernel
theorem dL_acts_340 : decode cL_acts 340 = .ok (.aload_n 0, 1) := by decide +kernel
theorem dL_acts_341 : decode cL_acts 341 = .ok (.invokevirtual 125, 3) := by decide +kernel
theorem dL_acts_344 : decode cL_acts 344 = .ok (.istore 11, 2) := by decide +kernel
theorem dL_acts_346 : decode cL_acts 346 = .ok (.iload 11, 2) := by decide +kernel
theorem dL_acts_348 : decode cL_acts 348 = .ok (.ifCond .le 46, 3) := by decide +kernel
theorem dL_acts_351 : decode cL_acts 351 = .ok (.iload 11, 2) := by decide +kernel
theorem dL_acts_353 : decode cL_acts 353 = .ok (.aload_n 0, 1) := by decide +kernel
theorem dL_acts_354 : decode cL_acts 354 = .ok (.invokevirtual 11, 3) := by decide +kernel
theorem dL_acts_357 : decode cL_acts 357 = .ok (.if_icmp .ge 37, 3) := by decide +kernel
theorem dL_acts_360 : decode cL_acts 360 = .ok (.aload_n 0, 1) := by decide +kernel
theorem dL_acts_361 : decode cL_acts 361 = .ok (.iload 11, 2) := by decide +kernel
theorem dL_acts_363 : decode cL_acts 363 = .ok (.invokevirtual 19, 3) := by decide +kernel
theorem dL_acts_366 : decode cL_acts 366 = .ok (.ifCond .le 28, 3) := by decide +kernel
theorem dL_acts_369 : decode cL_acts 369 = .ok (.aload_n 0, 1) := by decide +kernel
theorem dL_acts_370 : decode cL_acts 370 = .ok (.invokevirtual 55, 3) := by decide +kernel
theorem dL_acts_373 : decode cL_acts 373 = .ok (.iload 5, 2) := by decide +kernel
theorem dL_acts_375 : decode cL_acts 375 = .ok (.iconst 1, 1) := by decide +kernel
theorem dL_acts_376 : decode cL_acts 376 = .ok (.isub, 1) := by decide +kernel
theorem dL_acts_377 : decode cL_acts 377 = .ok (.if_icmp .ne 17, 3) := by decide +kernel
theorem dL_acts_380 : decode cL_acts 380 = .ok (.aload_n 0, 1) := by decide +kernel
theorem dL_acts_381 : decode cL_acts 381 = .ok (.iconst 2, 1) := by decide +kernel
theorem dL_acts_382 : decode cL_acts 382 = .ok (.invokevirtual 104, 3) := by decide +kernel
theorem dL_acts_385 : decode cL_acts 385 = .ok (.iload 6, 2) := by decide +kernel
theorem dL_acts_387 : decode cL_acts 387 = .ok (.if_icmp .ne 7, 3) := by decide +kernel
theorem dL_acts_390 : decode cL_acts 390 = .ok (.iconst 1, 1) := by decide +kernel
theorem dL_acts_391 : decode cL_acts 391 = .ok (.goto 4, 3) := by decide +kernel
theorem dL_acts_394 : decode cL_acts 394 = .ok (.iconst 0, 1) := by decide +kernel
theorem dL_acts_395 : decode cL_acts 395 = .ok (.ireturn, 1) := by decide +kernel
theorem dL_acts_396 : decode cL_acts 396 = .ok (.iload_n 2, 1) := by decide +kernel
theorem dL_acts_397 : decode cL_acts 397 = .ok (.iload_n 2, 1) := by decide +kernel
theorem dL_acts_398 : decode cL_acts 398 = .ok (.bipush 9, 2) := by decide +kernel
theorem dL_acts_400 : decode cL_acts 400 = .ok (.ishr, 1) := by decide +kernel
theorem dL_acts_401 : decode cL_acts 401 = .ok (.iconst 1, 1) := by decide +kernel
theorem dL_acts_402 : decode cL_acts 402 = .ok (.iand, 1) := by decide +kernel
theorem dL_acts_403 : decode cL_acts 403 = .ok (.ifCond .ne 8, 3) := by decide +kernel
theorem dL_acts_406 : decode cL_acts 406 = .ok (.bipush 101, 2) := by decide +kernel
theorem dL_acts_408 : decode cL_acts 408 = .ok (.goto 5, 3) := by decide +kernel
theorem dL_acts_411 : decode cL_acts 411 = .ok (.bipush 13, 2) := by decide +kernel
theorem dL_acts_413 : decode cL_acts 413 = .ok (.invokestatic 29, 3) := by decide +kernel
theorem dL_acts_416 : decode cL_acts 416 = .ok (.iload_n 2, 1) := by decide +kernel
theorem dL_acts_417 : decode cL_acts 417 = .ok (.bipush 9, 2) := by decide +kernel
theorem dL_acts_419 : decode cL_acts 419 = .ok (.ishr, 1) := by decide +kernel
theorem dL_acts_420 : decode cL_acts 420 = .ok (.iconst 1, 1) := by decide +kernel
theorem dL_acts_421 : decode cL_acts 421 = .ok (.iand, 1) := by decide +kernel
theorem dL_acts_422 : decode cL_acts 422 = .ok (.ifCond .ne 8, 3) := by decide +kernel
theorem dL_acts_425 : decode cL_acts 425 = .ok (.bipush 50, 2) := by decide +kernel
theorem dL_acts_427 : decode cL_acts 427 = .ok (.goto 5, 3) := by decide +kernel
theorem dL_acts_430 : decode cL_acts 430 = .ok (.bipush 6, 2) := by decide +kernel
theorem dL_acts_432 : decode cL_acts 432 = .ok (.isub, 1) := by decide +kernel
theorem dL_acts_433 : decode cL_acts 433 = .ok (.istore 12, 2) := by decide +kernel
theorem dL_acts_435 : decode cL_acts 435 = .ok (.aload_n 0, 1) := by decide +kernel
theorem dL_acts_436 : decode cL_acts 436 = .ok (.iload 12, 2) := by decide +kernel
theorem dL_acts_438 : decode cL_acts 438 = .ok (.invokevirtual 97, 3) := by decide +kernel
theorem dL_acts_441 : decode cL_acts 441 = .ok (.istore 13, 2) := by decide +kernel
theorem dL_acts_443 : decode cL_acts 443 = .ok (.aload_n 0, 1) := by decide +kernel
theorem dL_acts_444 : decode cL_acts 444 = .ok (.iload 12, 2) := by decide +kernel
theorem dL_acts_446 : decode cL_acts 446 = .ok (.invokevirtual 128, 3) := by decide +kernel
theorem dL_acts_449 : decode cL_acts 449 = .ok (.iload 13, 2) := by decide +kernel
theorem dL_acts_451 : decode cL_acts 451 = .ok (.if_icmp .ne 23, 3) := by decide +kernel
theorem dL_acts_454 : decode cL_acts 454 = .ok (.aload_n 0, 1) := by decide +kernel
theorem dL_acts_455 : decode cL_acts 455 = .ok (.invokestatic 100, 3) := by decide +kernel
theorem dL_acts_458 : decode cL_acts 458 = .ok (.lload_n 3, 1) := by decide +kernel
theorem dL_acts_459 : decode cL_acts 459 = .ok (.lcmp, 1) := by decide +kernel
theorem dL_acts_460 : decode cL_acts 460 = .ok (.ifCond .ne 14, 3) := by decide +kernel
theorem dL_acts_463 : decode cL_acts 463 = .ok (.aload_n 0, 1) := by decide +kernel
theorem dL_acts_464 : decode cL_acts 464 = .ok (.invokevirtual 113, 3) := by decide +kernel
theorem dL_acts_467 : decode cL_acts 467 = .ok (.ifCond .ne 7, 3) := by decide +kernel
theorem dL_acts_470 : decode cL_acts 470 = .ok (.iconst 1, 1) := by decide +kernel
theorem dL_acts_471 : decode cL_acts 471 = .ok (.goto 4, 3) := by decide +kernel
theorem dL_acts_474 : decode cL_acts 474 = .ok (.iconst 0, 1) := by decide +kernel
theorem dL_acts_475 : decode cL_acts 475 = .ok (.ireturn, 1) := by decide +kernel
theorem dL_acts_476 : decode cL_acts 476 = .ok (.aload_n 0, 1) := by decide +kernel
theorem dL_acts_477 : decode cL_acts 477 = .ok (.invokevirtual 131, 3) := by decide +kernel
theorem dL_acts_480 : decode cL_acts 480 = .ok (.istore 14, 2) := by decide +kernel
theorem dL_acts_482 : decode cL_acts 482 = .ok (.iload 14, 2) := by decide +kernel
theorem dL_acts_484 : decode cL_acts 484 = .ok (.iconst 4, 1) := by decide +kernel
theorem dL_acts_485 : decode cL_acts 485 = .ok (.if_icmp .ne 19, 3) := by decide +kernel
theorem dL_acts_488 : decode cL_acts 488 = .ok (.aload_n 0, 1) := by decide +kernel
theorem dL_acts_489 : decode cL_acts 489 = .ok (.iconst 2, 1) := by decide +kernel
theorem dL_acts_490 : decode cL_acts 490 = .ok (.invokevirtual 104, 3) := by decide +kernel
theorem dL_acts_493 : decode cL_acts 493 = .ok (.iload 6, 2) := by decide +kernel
theorem dL_acts_495 : decode cL_acts 495 = .ok (.iconst 1, 1) := by decide +kernel
theorem dL_acts_496 : decode cL_acts 496 = .ok (.iadd, 1) := by decide +kernel
theorem dL_acts_497 : decode cL_acts 497 = .ok (.if_icmp .ne 7, 3) := by decide +kernel
theorem dL_acts_500 : decode cL_acts 500 = .ok (.iconst 1, 1) := by decide +kernel
theorem dL_acts_501 : decode cL_acts 501 = .ok (.goto 4, 3) := by decide +kernel
theorem dL_acts_504 : decode cL_acts 504 = .ok (.iconst 0, 1) := by decide +kernel
theorem dL_acts_505 : decode cL_acts 505 = .ok (.istore 15, 2) := by decide +kernel
theorem dL_acts_507 : decode cL_acts 507 = .ok (.iload 15, 2) := by decide +kernel
theorem dL_acts_509 : decode cL_acts 509 = .ok (.ifCond .ne 22, 3) := by decide +kernel
theorem dL_acts_512 : decode cL_acts 512 = .ok (.aload_n 0, 1) := by decide +kernel
theorem dL_acts_513 : decode cL_acts 513 = .ok (.invokestatic 100, 3) := by decide +kernel
theorem dL_acts_516 : decode cL_acts 516 = .ok (.lload_n 3, 1) := by decide +kernel
theorem dL_acts_517 : decode cL_acts 517 = .ok (.lcmp, 1) := by decide +kernel
theorem dL_acts_518 : decode cL_acts 518 = .ok (.ifCond .ne 40, 3) := by decide +kernel
theorem dL_acts_521 : decode cL_acts 521 = .ok (.aload_n 0, 1) := by decide +kernel
theorem dL_acts_522 : decode cL_acts 522 = .ok (.iconst 2, 1) := by decide +kernel
theorem dL_acts_523 : decode cL_acts 523 = .ok (.invokevirtual 104, 3) := by decide +kernel
theorem dL_acts_526 : decode cL_acts 526 = .ok (.iload 6, 2) := by decide +kernel
theorem dL_acts_528 : decode cL_acts 528 = .ok (.if_icmp .ne 30, 3) := by decide +kernel
theorem dL_acts_531 : decode cL_acts 531 = .ok (.iload 7, 2) := by decide +kernel
theorem dL_acts_533 : decode cL_acts 533 = .ok (.ifCond .eq 9, 3) := by decide +kernel
theorem dL_acts_536 : decode cL_acts 536 = .ok (.iload 14, 2) := by decide +kernel
theorem dL_acts_538 : decode cL_acts 538 = .ok (.iconst 5, 1) := by decide +kernel
theorem dL_acts_539 : decode cL_acts 539 = .ok (.if_icmp .eq 19, 3) := by decide +kernel
theorem dL_acts_542 : decode cL_acts 542 = .ok (.iload 14, 2) := by decide +kernel
theorem dL_acts_544 : decode cL_acts 544 = .ok (.ifCond .lt 14, 3) := by decide +kernel
theorem dL_acts_547 : decode cL_acts 547 = .ok (.iload 14, 2) := by decide +kernel
theorem dL_acts_549 : decode cL_acts 549 = .ok (.bipush 9, 2) := by decide +kernel
theorem dL_acts_551 : decode cL_acts 551 = .ok (.if_icmp .gt 7, 3) := by decide +kernel
theorem dL_acts_554 : decode cL_acts 554 = .ok (.iconst 1, 1) := by decide +kernel
theorem dL_acts_555 : decode cL_acts 555 = .ok (.goto 4, 3) := by decide +kernel
theorem dL_acts_558 : decode cL_acts 558 = .ok (.iconst 0, 1) := by decide +kernel
theorem dL_acts_559 : decode cL_acts 559 = .ok (.istore 16, 2) := by decide +kernel
theorem dL_acts_561 : decode cL_acts 561 = .ok (.iload 16, 2) := by decide +kernel
theorem dL_acts_563 : decode cL_acts 563 = .ok (.ifCond .eq 101, 3) := by decide +kernel
theorem dL_acts_566 : decode cL_acts 566 = .ok (.aload_n 0, 1) := by decide +kernel
theorem dL_acts_567 : decode cL_acts 567 = .ok (.invokevirtual 55, 3) := by decide +kernel
theorem dL_acts_570 : decode cL_acts 570 = .ok (.iload 15, 2) := by decide +kernel
theorem dL_acts_572 : decode cL_acts 572 = .ok (.ifCond .eq 22, 3) := by decide +kernel
theorem dL_acts_575 : decode cL_acts 575 = .ok (.iload 5, 2) := by decide +kernel
theorem dL_acts_577 : decode cL_acts 577 = .ok (.bipush 8, 2) := by decide +kernel
theorem dL_acts_579 : decode cL_acts 579 = .ok (.if_icmp .ge 10, 3) := by decide +kernel
theorem dL_acts_582 : decode cL_acts 582 = .ok (.iload 5, 2) := by decide +kernel
theorem dL_acts_584 : decode cL_acts 584 = .ok (.iconst 1, 1) := by decide +kernel
theorem dL_acts_585 : decode cL_acts 585 = .ok (.iadd, 1) := by decide +kernel
theorem dL_acts_586 : decode cL_acts 586 = .ok (.goto 10, 3) := by decide +kernel
theorem dL_acts_589 : decode cL_acts 589 = .ok (.bipush 8, 2) := by decide +kernel
theorem dL_acts_591 : decode cL_acts 591 = .ok (.goto 5, 3) := by decide +kernel
theorem dL_acts_594 : decode cL_acts 594 = .ok (.iload 5, 2) := by decide +kernel
theorem dL_acts_596 : decode cL_acts 596 = .ok (.if_icmp .ne 68, 3) := by decide +kernel
theorem dL_acts_599 : decode cL_acts 599 = .ok (.iload 14, 2) := by decide +kernel
theorem dL_acts_601 : decode cL_acts 601 = .ok (.iconst 5, 1) := by decide +kernel
theorem dL_acts_602 : decode cL_acts 602 = .ok (.if_icmp .ne 11, 3) := by decide +kernel
theorem dL_acts_605 : decode cL_acts 605 = .ok (.aload_n 0, 1) := by decide +kernel
theorem dL_acts_606 : decode cL_acts 606 = .ok (.invokevirtual 61, 3) := by decide +kernel
theorem dL_acts_609 : decode cL_acts 609 = .ok (.iconst 2, 1) := by decide +kernel
theorem dL_acts_610 : decode cL_acts 610 = .ok (.if_icmp .ne 54, 3) := by decide +kernel
theorem dL_acts_613 : decode cL_acts 613 = .ok (.iload 14, 2) := by decide +kernel
theorem dL_acts_615 : decode cL_acts 615 = .ok (.iconst 3, 1) := by decide +kernel
theorem dL_acts_616 : decode cL_acts 616 = .ok (.if_icmp .ne 26, 3) := by decide +kernel
theorem dL_acts_619 : decode cL_acts 619 = .ok (.aload_n 0, 1) := by decide +kernel
theorem dL_acts_620 : decode cL_acts 620 = .ok (.invokevirtual 61, 3) := by decide +kernel
theorem dL_acts_623 : decode cL_acts 623 = .ok (.iconst 1, 1) := by decide +kernel
theorem dL_acts_624 : decode cL_acts 624 = .ok (.if_icmp .ne 40, 3) := by decide +kernel
theorem dL_acts_627 : decode cL_acts 627 = .ok (.aload_n 0, 1) := by decide +kernel
theorem dL_acts_628 : decode cL_acts 628 = .ok (.invokevirtual 64, 3) := by decide +kernel
theorem dL_acts_631 : decode cL_acts 631 = .ok (.aload_n 0, 1) := by decide +kernel
theorem dL_acts_632 : decode cL_acts 632 = .ok (.aload_n 0, 1) := by decide +kernel
theorem dL_acts_633 : decode cL_acts 633 = .ok (.invokevirtual 134, 3) := by decide +kernel
theorem dL_acts_636 : decode cL_acts 636 = .ok (.invokevirtual 23, 3) := by decide +kernel
theorem dL_acts_639 : decode cL_acts 639 = .ok (.if_icmp .ne 25, 3) := by decide +kernel
theorem dL_acts_642 : decode cL_acts 642 = .ok (.iload 14, 2) := by decide +kernel
theorem dL_acts_644 : decode cL_acts 644 = .ok (.bipush 7, 2) := by decide +kernel
theorem dL_acts_646 : decode cL_acts 646 = .ok (.if_icmp .ne 14, 3) := by decide +kernel
theorem dL_acts_649 : decode cL_acts 649 = .ok (.aload_n 0, 1) := by decide +kernel
theorem dL_acts_650 : decode cL_acts 650 = .ok (.aload_n 0, 1) := by decide +kernel
theorem dL_acts_651 : decode cL_acts 651 = .ok (.invokevirtual 134, 3) := by decide +kernel
theorem dL_acts_654 : decode cL_acts 654 = .ok (.invokevirtual 93, 3) := by decide +kernel
theorem dL_acts_657 : decode cL_acts 657 = .ok (.ifCond .ne 7, 3) := by decide +kernel
theorem dL_acts_660 : decode cL_acts 660 = .ok (.iconst 1, 1) := by decide +kernel
theorem dL_acts_661 : decode cL_acts 661 = .ok (.goto 4, 3) := by decide +kernel
theorem dL_acts_664 : decode cL_acts 664 = .ok (.iconst 0, 1) := by decide +kernel
theorem dL_acts_665 : decode cL_acts 665 = .ok (.istore 16, 2) := by decide +kernel
theorem dL_acts_667 : decode cL_acts 667 = .ok (.iload 16, 2) := by decide +kernel
theorem dL_acts_669 : decode cL_acts 669 = .ok (.ifCond .eq 68, 3) := by decide +kernel
theorem dL_acts_672 : decode cL_acts 672 = .ok (.iload 15, 2) := by decide +kernel
theorem dL_acts_674 : decode cL_acts 674 = .ok (.ifCond .eq 63, 3) := by decide +kernel
theorem dL_acts_677 : decode cL_acts 677 = .ok (.aload_n 0, 1) := by decide +kernel
theorem dL_acts_678 : decode cL_acts 678 = .ok (.invokevirtual 125, 3) := by decide +kernel
theorem dL_acts_681 : decode cL_acts 681 = .ok (.istore 17, 2) := by decide +kernel
theorem dL_acts_683 : decode cL_acts 683 = .ok (.iload 17, 2) := by decide +kernel
theorem dL_acts_685 : decode cL_acts 685 = .ok (.aload_n 0, 1) := by decide +kernel
theorem dL_acts_686 : decode cL_acts 686 = .ok (.invokevirtual 134, 3) := by decide +kernel
theorem dL_acts_689 : decode cL_acts 689 = .ok (.if_icmp .ne 45, 3) := by decide +kernel
theorem dL_acts_692 : decode cL_acts 692 = .ok (.aload_n 0, 1) := by decide +kernel
theorem dL_acts_693 : decode cL_acts 693 = .ok (.invokestatic 100, 3) := by decide +kernel
theorem dL_acts_696 : decode cL_acts 696 = .ok (.lload_n 3, 1) := by decide +kernel
theorem dL_acts_697 : decode cL_acts 697 = .ok (.lcmp, 1) := by decide +kernel
theorem dL_acts_698 : decode cL_acts 698 = .ok (.ifCond .ne 36, 3) := by decide +kernel
theorem dL_acts_701 : decode cL_acts 701 = .ok (.aload_n 0, 1) := by decide +kernel
theorem dL_acts_702 : decode cL_acts 702 = .ok (.invokevirtual 131, 3) := by decide +kernel
theorem dL_acts_705 : decode cL_acts 705 = .ok (.iconst 3, 1) := by decide +kernel
theorem dL_acts_706 : decode cL_acts 706 = .ok (.if_icmp .ne 28, 3) := by decide +kernel
theorem dL_acts_709 : decode cL_acts 709 = .ok (.aload_n 0, 1) := by decide +kernel
theorem dL_acts_710 : decode cL_acts 710 = .ok (.invokevirtual 64, 3) := by decide +kernel
theorem dL_acts_713 : decode cL_acts 713 = .ok (.aload_n 0, 1) := by decide +kernel
theorem dL_acts_714 : decode cL_acts 714 = .ok (.iload 17, 2) := by decide +kernel
theorem dL_acts_716 : decode cL_acts 716 = .ok (.invokevirtual 23, 3) := by decide +kernel
theorem dL_acts_719 : decode cL_acts 719 = .ok (.if_icmp .ne 15, 3) := by decide +kernel
theorem dL_acts_722 : decode cL_acts 722 = .ok (.aload_n 0, 1) := by decide +kernel
theorem dL_acts_723 : decode cL_acts 723 = .ok (.invokevirtual 110, 3) := by decide +kernel
theorem dL_acts_726 : decode cL_acts 726 = .ok (.iconst 1, 1) := by decide +kernel
theorem dL_acts_727 : decode cL_acts 727 = .ok (.if_icmp .ne 7, 3) := by decide +kernel
theorem dL_acts_730 : decode cL_acts 730 = .ok (.iconst 1, 1) := by decide +kernel
theorem dL_acts_731 : decode cL_acts 731 = .ok (.goto 4, 3) := by decide +kernel
theorem dL_acts_734 : decode cL_acts 734 = .ok (.iconst 0, 1) := by decide +kernel
theorem dL_acts_735 : decode cL_acts 735 = .ok (.istore 16, 2) := by decide +kernel
theorem dL_acts_737 : decode cL_acts 737 = .ok (.iload 16, 2) := by decide +kernel
theorem dL_acts_739 : decode cL_acts 739 = .ok (.ireturn, 1) := by decide +kernel
theorem dL_isReached_0 : decode cL_isReached 0 = .ok (.aload_n 0, 1) := by decide +kernel
theorem dL_isReached_1 : decode cL_isReached 1 = .ok (.invokevirtual 110, 3) := by decide +kernel
theorem dL_isReached_4 : decode cL_isReached 4 = .ok (.ifCond .lt 35, 3) := by decide +kernel
theorem dL_isReached_7 : decode cL_isReached 7 = .ok (.aload_n 0, 1) := by decide +kernel
theorem dL_isReached_8 : decode cL_isReached 8 = .ok (.invokevirtual 61, 3) := by decide +kernel
theorem dL_isReached_11 : decode cL_isReached 11 = .ok (.ifCond .ne 10, 3) := by decide +kernel
theorem dL_isReached_14 : decode cL_isReached 14 = .ok (.aload_n 0, 1) := by decide +kernel
theorem dL_isReached_15 : decode cL_isReached 15 = .ok (.invokevirtual 71, 3) := by decide +kernel
theorem dL_isReached_18 : decode cL_isReached 18 = .ok (.ifCond .ne 10, 3) := by decide +kernel
theorem dL_isReached_21 : decode cL_isReached 21 = .ok (.aload_n 0, 1) := by decide +kernel
theorem dL_isReached_22 : decode cL_isReached 22 = .ok (.invokevirtual 110, 3) := by decide +kernel
theorem dL_isReached_25 : decode cL_isReached 25 = .ok (.ifCond .ne 14, 3) := by decide +kernel
theorem dL_isReached_28 : decode cL_isReached 28 = .ok (.aload_n 0, 1) := by decide +kernel
theorem dL_isReached_29 : decode cL_isReached 29 = .ok (.invokevirtual 71, 3) := by decide +kernel
theorem dL_isReached_32 : decode cL_isReached 32 = .ok (.ifCond .eq 7, 3) := by decide +kernel
theorem dL_isReached_35 : decode cL_isReached 35 = .ok (.iconst 1, 1) := by decide +kernel
theorem dL_isReached_36 : decode cL_isReached 36 = .ok (.goto 4, 3) := by decide +kernel
theorem dL_isReached_39 : decode cL_isReached 39 = .ok (.iconst 0, 1) := by decide +kernel
theorem dL_isReached_40 : decode cL_isReached 40 = .ok (.istore_n 2, 1) := by decide +kernel
theorem dL_isReached_41 : decode cL_isReached 41 = .ok (.iload_n 2, 1) := by decide +kernel
theorem dL_isReached_42 : decode cL_isReached 42 = .ok (.ifCond .eq 15, 3) := by decide +kernel
theorem dL_isReached_45 : decode cL_isReached 45 = .ok (.aload_n 0, 1) := by decide +kernel
theorem dL_isReached_46 : decode cL_isReached 46 = .ok (.iload_n 1, 1) := by decide +kernel
theorem dL_isReached_47 : decode cL_isReached 47 = .ok (.invokevirtual 90, 3) := by decide +kernel
theorem dL_isReached_50 : decode cL_isReached 50 = .ok (.ifCond .gt 7, 3) := by decide +kernel
theorem dL_isReached_53 : decode cL_isReached 53 = .ok (.iload_n 1, 1) := by decide +kernel
theorem dL_isReached_54 : decode cL_isReached 54 = .ok (.ifCond .ne 5, 3) := by decide +kernel
theorem dL_isReached_57 : decode cL_isReached 57 = .ok (.iload_n 2, 1) := by decide +kernel
theorem dL_isReached_58 : decode cL_isReached 58 = .ok (.ireturn, 1) := by decide +kernel
theorem dL_isReached_59 : decode cL_isReached 59 = .ok (.aload_n 0, 1) := by decide +kernel
theorem dL_isReached_60 : decode cL_isReached 60 = .ok (.iconst 1, 1) := by decide +kernel
theorem dL_isReached_61 : decode cL_isReached 61 = .ok (.invokevirtual 104, 3) := by decide +kernel
theorem dL_isReached_64 : decode cL_isReached 64 = .ok (.istore_n 3, 1) := by decide +kernel
theorem dL_isReached_65 : decode cL_isReached 65 = .ok (.aload_n 0, 1) := by decide +kernel
theorem dL_isReached_66 : decode cL_isReached 66 = .ok (.iconst 0, 1) := by decide +kernel
theorem dL_isReached_67 : decode cL_isReached 67 = .ok (.invokevirtual 104, 3) := by decide +kernel
theorem dL_isReached_70 : decode cL_isReached 70 = .ok (.istore 4, 2) := by decide +kernel
theorem dL_isReached_72 : decode cL_isReached 72 = .ok (.aload_n 0, 1) := by decide +kernel
theorem dL_isReached_73 : decode cL_isReached 73 = .ok (.iload_n 1, 1) := by decide +kernel
theorem dL_isReached_74 : decode cL_isReached 74 = .ok (.invokevirtual 26, 3) := by decide +kernel
theorem dL_isReached_77 : decode cL_isReached 77 = .ok (.istore 5, 2) := by decide +kernel
theorem dL_isReached_79 : decode cL_isReached 79 = .ok (.iload 5, 2) := by decide +kernel
theorem dL_isReached_81 : decode cL_isReached 81 = .ok (.istore 6, 2) := by decide +kernel
theorem dL_isReached_83 : decode cL_isReached 83 = .ok (.iload 6, 2) := by decide +kernel
theorem dL_isReached_85 : decode cL_isReached 85 = .ok (.ifCond .le 166, 3) := by decide +kernel
theorem dL_isReached_88 : decode cL_isReached 88 = .ok (.iload_n 2, 1) := by decide +kernel
theorem dL_isReached_89 : decode cL_isReached 89 = .ok (.ifCond .eq 162, 3) := by decide +kernel
theorem dL_isReached_92 : decode cL_isReached 92 = .ok (.iload_n 1, 1) := by decide +kernel
theorem dL_isReached_93 : decode cL_isReached 93 = .ok (.istore 7, 2) := by decide +kernel
theorem dL_isReached_95 : decode cL_isReached 95 = .ok (.iconst 1, 1) := by decide +kernel
theorem dL_isReached_96 : decode cL_isReached 96 = .ok (.istore 8, 2) := by decide +kernel
theorem dL_isReached_98 : decode cL_isReached 98 = .ok (.iload 8, 2) := by decide +kernel
theorem dL_isReached_100 : decode cL_isReached 100 = .ok (.iload 6, 2) := by decide +kernel
theorem dL_isReached_102 : decode cL_isReached 102 = .ok (.if_icmp .ge 17, 3) := by decide +kernel
theorem dL_isReached_105 : decode cL_isReached 105 = .ok (.aload_n 0, 1) := by decide +kernel
theorem dL_isReached_106 : decode cL_isReached 106 = .ok (.iload 7, 2) := by decide +kernel
theorem dL_isReached_108 : decode cL_isReached 108 = .ok (.invokevirtual 35, 3) := by decide +kernel
theorem dL_isReached_111 : decode cL_isReached 111 = .ok (.istore 7, 2) := by decide +kernel
theorem dL_isReached_113 : decode cL_isReached 113 = .ok (.iinc 8 1, 3) := by decide +kernel
theorem dL_isReached_116 : decode cL_isReached 116 = .ok (.goto (-18), 3) := by decide +kernel
theorem dL_isReached_119 : decode cL_isReached 119 = .ok (.aload_n 0, 1) := by decide +kernel
theorem dL_isReached_120 : decode cL_isReached 120 = .ok (.iload 7, 2) := by decide +kernel
theorem dL_isReached_122 : decode cL_isReached 122 = .ok (.invokevirtual 87, 3) := by decide +kernel
theorem dL_isReached_125 : decode cL_isReached 125 = .ok (.aload_n 0, 1) := by decide +kernel
theorem dL_isReached_126 : decode cL_isReached 126 = .ok (.aload_n 0, 1) := by decide +kernel
theorem dL_isReached_127 : decode cL_isReached 127 = .ok (.iload 7, 2) := by decide +kernel
theorem dL_isReached_129 : decode cL_isReached 129 = .ok (.invokevirtual 35, 3) := by decide +kernel
theorem dL_isReached_132 : decode cL_isReached 132 = .ok (.invokevirtual 87, 3) := by decide +kernel
theorem dL_isReached_135 : decode cL_isReached 135 = .ok (.isub, 1) := by decide +kernel
theorem dL_isReached_136 : decode cL_isReached 136 = .ok (.istore 8, 2) := by decide +kernel
theorem dL_isReached_138 : decode cL_isReached 138 = .ok (.aload_n 0, 1) := by decide +kernel
theorem dL_isReached_139 : decode cL_isReached 139 = .ok (.iload 8, 2) := by decide +kernel
theorem dL_isReached_141 : decode cL_isReached 141 = .ok (.invokevirtual 128, 3) := by decide +kernel
theorem dL_isReached_144 : decode cL_isReached 144 = .ok (.ifCond .lt 7, 3) := by decide +kernel
theorem dL_isReached_147 : decode cL_isReached 147 = .ok (.iconst 1, 1) := by decide +kernel
theorem dL_isReached_148 : decode cL_isReached 148 = .ok (.goto 4, 3) := by decide +kernel
theorem dL_isReached_151 : decode cL_isReached 151 = .ok (.iconst 0, 1) := by decide +kernel
theorem dL_isReached_152 : decode cL_isReached 152 = .ok (.istore_n 2, 1) := by decide +kernel
theorem dL_isReached_153 : decode cL_isReached 153 = .ok (.aload_n 0, 1) := by decide +kernel
theorem dL_isReached_154 : decode cL_isReached 154 = .ok (.invokevirtual 134, 3) := by decide +kernel
theorem dL_isReached_157 : decode cL_isReached 157 = .ok (.iload 7, 2) := by decide +kernel
theorem dL_isReached_159 : decode cL_isReached 159 = .ok (.if_icmp .eq 51, 3) := by decide +kernel
theorem dL_isReached_162 : decode cL_isReached 162 = .ok (.iload_n 2, 1) := by decide +kernel
theorem dL_isReached_163 : decode cL_isReached 163 = .ok (.ifCond .eq 36, 3) := by decide +kernel
theorem dL_isReached_166 : decode cL_isReached 166 = .ok (.aload_n 0, 1) := by decide +kernel
theorem dL_isReached_167 : decode cL_isReached 167 = .ok (.iload 8, 2) := by decide +kernel
theorem dL_isReached_169 : decode cL_isReached 169 = .ok (.ineg, 1) := by decide +kernel
theorem dL_isReached_170 : decode cL_isReached 170 = .ok (.invokevirtual 128, 3) := by decide +kernel
theorem dL_isReached_173 : decode cL_isReached 173 = .ok (.ifCond .ne 26, 3) := by decide +kernel
theorem dL_isReached_176 : decode cL_isReached 176 = .ok (.aload_n 0, 1) := by decide +kernel
theorem dL_isReached_177 : decode cL_isReached 177 = .ok (.iload 8, 2) := by decide +kernel
theorem dL_isReached_179 : decode cL_isReached 179 = .ok (.ineg, 1) := by decide +kernel
theorem dL_isReached_180 : decode cL_isReached 180 = .ok (.invokevirtual 128, 3) := by decide +kernel
theorem dL_isReached_183 : decode cL_isReached 183 = .ok (.ifCond .lt 16, 3) := by decide +kernel
theorem dL_isReached_186 : decode cL_isReached 186 = .ok (.aload_n 0, 1) := by decide +kernel
theorem dL_isReached_187 : decode cL_isReached 187 = .ok (.invokevirtual 134, 3) := by decide +kernel
theorem dL_isReached_190 : decode cL_isReached 190 = .ok (.iload 7, 2) := by decide +kernel
theorem dL_isReached_192 : decode cL_isReached 192 = .ok (.if_icmp .ne 7, 3) := by decide +kernel
theorem dL_isReached_195 : decode cL_isReached 195 = .ok (.iconst 1, 1) := by decide +kernel
theorem dL_isReached_196 : decode cL_isReached 196 = .ok (.goto 4, 3) := by decide +kernel
theorem dL_isReached_199 : decode cL_isReached 199 = .ok (.iconst 0, 1) := by decide +kernel
theorem dL_isReached_200 : decode cL_isReached 200 = .ok (.istore_n 2, 1) := by decide +kernel
theorem dL_isReached_201 : decode cL_isReached 201 = .ok (.iload 4, 2) := by decide +kernel
theorem dL_isReached_203 : decode cL_isReached 203 = .ok (.iconst 2, 1) := by decide +kernel
theorem dL_isReached_204 : decode cL_isReached 204 = .ok (.iload 8, 2) := by decide +kernel
theorem dL_isReached_206 : decode cL_isReached 206 = .ok (.imul, 1) := by decide +kernel
theorem dL_isReached_207 : decode cL_isReached 207 = .ok (.iadd, 1) := by decide +kernel
theorem dL_isReached_208 : decode cL_isReached 208 = .ok (.istore 4, 2) := by decide +kernel
theorem dL_isReached_210 : decode cL_isReached 210 = .ok (.aload_n 0, 1) := by decide +kernel
theorem dL_isReached_211 : decode cL_isReached 211 = .ok (.invokevirtual 131, 3) := by decide +kernel
theorem dL_isReached_214 : decode cL_isReached 214 = .ok (.istore 9, 2) := by decide +kernel
theorem dL_isReached_216 : decode cL_isReached 216 = .ok (.iload_n 2, 1) := by decide +kernel
theorem dL_isReached_217 : decode cL_isReached 217 = .ok (.ifCond .eq 26, 3) := by decide +kernel
theorem dL_isReached_220 : decode cL_isReached 220 = .ok (.iload 9, 2) := by decide +kernel
theorem dL_isReached_222 : decode cL_isReached 222 = .ok (.aload_n 0, 1) := by decide +kernel
theorem dL_isReached_223 : decode cL_isReached 223 = .ok (.iload 7, 2) := by decide +kernel
theorem dL_isReached_225 : decode cL_isReached 225 = .ok (.invokevirtual 19, 3) := by decide +kernel
theorem dL_isReached_228 : decode cL_isReached 228 = .ok (.ifCond .ne 7, 3) := by decide +kernel
theorem dL_isReached_231 : decode cL_isReached 231 = .ok (.iconst 2, 1) := by decide +kernel
theorem dL_isReached_232 : decode cL_isReached 232 = .ok (.goto 4, 3) := by decide +kernel
theorem dL_isReached_235 : decode cL_isReached 235 = .ok (.iconst 3, 1) := by decide +kernel
theorem dL_isReached_236 : decode cL_isReached 236 = .ok (.if_icmp .ne 7, 3) := by decide +kernel
theorem dL_isReached_239 : decode cL_isReached 239 = .ok (.iconst 1, 1) := by decide +kernel
theorem dL_isReached_240 : decode cL_isReached 240 = .ok (.goto 4, 3) := by decide +kernel
theorem dL_isReached_243 : decode cL_isReached 243 = .ok (.iconst 0, 1) := by decide +kernel
theorem dL_isReached_244 : decode cL_isReached 244 = .ok (.istore_n 2, 1) := by decide +kernel
theorem dL_isReached_245 : decode cL_isReached 245 = .ok (.iinc 6 (-1), 3) := by decide +kernel
theorem dL_isReached_248 : decode cL_isReached 248 = .ok (.goto (-165), 3) := by decide +kernel
theorem dL_isReached_251 : decode cL_isReached 251 = .ok (.iload_n 2, 1) := by decide +kernel
theorem dL_isReached_252 : decode cL_isReached 252 = .ok (.ifCond .eq 77, 3) := by decide +kernel
theorem dL_isReached_255 : decode cL_isReached 255 = .ok (.aload_n 0, 1) := by decide +kernel
theorem dL_isReached_256 : decode cL_isReached 256 = .ok (.iconst 1, 1) := by decide +kernel
theorem dL_isReached_257 : decode cL_isReached 257 = .ok (.invokevirtual 104, 3) := by decide +kernel
theorem dL_isReached_260 : decode cL_isReached 260 = .ok (.iload_n 3, 1) := by decide +kernel
theorem dL_isReached_261 : decode cL_isReached 261 = .ok (.iload 5, 2) := by decide +kernel
theorem dL_isReached_263 : decode cL_isReached 263 = .ok (.iadd, 1) := by decide +kernel
theorem dL_isReached_264 : decode cL_isReached 264 = .ok (.if_icmp .ne 65, 3) := by decide +kernel
theorem dL_isReached_267 : decode cL_isReached 267 = .ok (.aload_n 0, 1) := by decide +kernel
theorem dL_isReached_268 : decode cL_isReached 268 = .ok (.iconst 0, 1) := by decide +kernel
theorem dL_isReached_269 : decode cL_isReached 269 = .ok (.invokevirtual 104, 3) := by decide +kernel
theorem dL_isReached_272 : decode cL_isReached 272 = .ok (.iload 4, 2) := by decide +kernel
theorem dL_isReached_274 : decode cL_isReached 274 = .ok (.aload_n 0, 1) := by decide +kernel
theorem dL_isReached_275 : decode cL_isReached 275 = .ok (.iload_n 1, 1) := by decide +kernel
theorem dL_isReached_276 : decode cL_isReached 276 = .ok (.invokevirtual 87, 3) := by decide +kernel
theorem dL_isReached_279 : decode cL_isReached 279 = .ok (.iadd, 1) := by decide +kernel
theorem dL_isReached_280 : decode cL_isReached 280 = .ok (.if_icmp .ne 49, 3) := by decide +kernel
theorem dL_isReached_283 : decode cL_isReached 283 = .ok (.aload_n 0, 1) := by decide +kernel
theorem dL_isReached_284 : decode cL_isReached 284 = .ok (.iload_n 1, 1) := by decide +kernel
theorem dL_isReached_285 : decode cL_isReached 285 = .ok (.invokevirtual 19, 3) := by decide +kernel
theorem dL_isReached_288 : decode cL_isReached 288 = .ok (.ifCond .ne 21, 3) := by decide +kernel
theorem dL_isReached_291 : decode cL_isReached 291 = .ok (.aload_n 0, 1) := by decide +kernel
theorem dL_isReached_292 : decode cL_isReached 292 = .ok (.invokevirtual 75, 3) := by decide +kernel
theorem dL_isReached_295 : decode cL_isReached 295 = .ok (.iload_n 1, 1) := by decide +kernel
theorem dL_isReached_296 : decode cL_isReached 296 = .ok (.if_icmp .ne 33, 3) := by decide +kernel
theorem dL_isReached_299 : decode cL_isReached 299 = .ok (.aload_n 0, 1) := by decide +kernel
theorem dL_isReached_300 : decode cL_isReached 300 = .ok (.invokevirtual 61, 3) := by decide +kernel
theorem dL_isReached_303 : decode cL_isReached 303 = .ok (.ifCond .ne 26, 3) := by decide +kernel
theorem dL_isReached_306 : decode cL_isReached 306 = .ok (.goto 19, 3) := by decide +kernel
theorem dL_isReached_309 : decode cL_isReached 309 = .ok (.aload_n 0, 1) := by decide +kernel
theorem dL_isReached_310 : decode cL_isReached 310 = .ok (.invokevirtual 61, 3) := by decide +kernel
theorem dL_isReached_313 : decode cL_isReached 313 = .ok (.iconst 1, 1) := by decide +kernel
theorem dL_isReached_314 : decode cL_isReached 314 = .ok (.if_icmp .ne 15, 3) := by decide +kernel
theorem dL_isReached_317 : decode cL_isReached 317 = .ok (.aload_n 0, 1) := by decide +kernel
theorem dL_isReached_318 : decode cL_isReached 318 = .ok (.invokevirtual 134, 3) := by decide +kernel
theorem dL_isReached_321 : decode cL_isReached 321 = .ok (.iload_n 1, 1) := by decide +kernel
theorem dL_isReached_322 : decode cL_isReached 322 = .ok (.if_icmp .ne 7, 3) := by decide +kernel
theorem dL_isReached_325 : decode cL_isReached 325 = .ok (.iconst 1, 1) := by decide +kernel
theorem dL_isReached_326 : decode cL_isReached 326 = .ok (.goto 4, 3) := by decide +kernel
theorem dL_isReached_329 : decode cL_isReached 329 = .ok (.iconst 0, 1) := by decide +kernel
theorem dL_isReached_330 : decode cL_isReached 330 = .ok (.istore_n 2, 1) := by decide +kernel
theorem dL_isReached_331 : decode cL_isReached 331 = .ok (.iload_n 2, 1) := by decide +kernel
theorem dL_isReached_332 : decode cL_isReached 332 = .ok (.ifCond .eq 28, 3) := by decide +kernel
theorem dL_isReached_335 : decode cL_isReached 335 = .ok (.aload_n 0, 1) := by decide +kernel
theorem dL_isReached_336 : decode cL_isReached 336 = .ok (.invokevirtual 110, 3) := by decide +kernel
theorem dL_isReached_339 : decode cL_isReached 339 = .ok (.ifCond .lt 21, 3) := by decide +kernel
theorem dL_isReached_342 : decode cL_isReached 342 = .ok (.aload_n 0, 1) := by decide +kernel
theorem dL_isReached_343 : decode cL_isReached 343 = .ok (.invokevirtual 71, 3) := by decide +kernel
theorem dL_isReached_346 : decode cL_isReached 346 = .ok (.ifCond .ne 10, 3) := by decide +kernel
theorem dL_isReached_349 : decode cL_isReached 349 = .ok (.aload_n 0, 1) := by decide +kernel
theorem dL_isReached_350 : decode cL_isReached 350 = .ok (.invokevirtual 110, 3) := by decide +kernel
theorem dL_isReached_353 : decode cL_isReached 353 = .ok (.ifCond .ne 7, 3) := by decide +kernel
theorem dL_isReached_356 : decode cL_isReached 356 = .ok (.iconst 1, 1) := by decide +kernel
theorem dL_isReached_357 : decode cL_isReached 357 = .ok (.goto 4, 3) := by decide +kernel
theorem dL_isReached_360 : decode cL_isReached 360 = .ok (.iconst 0, 1) := by decide +kernel
theorem dL_isReached_361 : decode cL_isReached 361 = .ok (.ireturn, 1) := by decide +kernel
theorem dL_isLeft_0 : decode cL_isLeft 0 = .ok (.aload_n 0, 1) := by decide +kernel
theorem dL_isLeft_1 : decode cL_isLeft 1 = .ok (.invokevirtual 81, 3) := by decide +kernel
theorem dL_isLeft_4 : decode cL_isLeft 4 = .ok (.istore_n 1, 1) := by decide +kernel
theorem dL_isLeft_5 : decode cL_isLeft 5 = .ok (.iload_n 1, 1) := by decide +kernel
theorem dL_isLeft_6 : decode cL_isLeft 6 = .ok (.iconst 1, 1) := by decide +kernel
theorem dL_isLeft_7 : decode cL_isLeft 7 = .ok (.if_icmp .lt 9, 3) := by decide +kernel
theorem dL_isLeft_10 : decode cL_isLeft 10 = .ok (.iload_n 1, 1) := by decide +kernel
theorem dL_isLeft_11 : decode cL_isLeft 11 = .ok (.bipush 99, 2) := by decide +kernel
theorem dL_isLeft_13 : decode cL_isLeft 13 = .ok (.if_icmp .le 36, 3) := by decide +kernel
theorem dL_isLeft_16 : decode cL_isLeft 16 = .ok (.iload_n 1, 1) := by decide +kernel
theorem dL_isLeft_17 : decode cL_isLeft 17 = .ok (.ifCond .ne 7, 3) := by decide +kernel
theorem dL_isLeft_20 : decode cL_isLeft 20 = .ok (.iconst 1, 1) := by decide +kernel
theorem dL_isLeft_21 : decode cL_isLeft 21 = .ok (.goto 4, 3) := by decide +kernel
theorem dL_isLeft_24 : decode cL_isLeft 24 = .ok (.iconst 0, 1) := by decide +kernel
theorem dL_isLeft_25 : decode cL_isLeft 25 = .ok (.aload_n 0, 1) := by decide +kernel
theorem dL_isLeft_26 : decode cL_isLeft 26 = .ok (.invokevirtual 71, 3) := by decide +kernel
theorem dL_isLeft_29 : decode cL_isLeft 29 = .ok (.if_icmp .ne 18, 3) := by decide +kernel
theorem dL_isLeft_32 : decode cL_isLeft 32 = .ok (.iload_n 1, 1) := by decide +kernel
theorem dL_isLeft_33 : decode cL_isLeft 33 = .ok (.iconst (-1), 1) := by decide +kernel
theorem dL_isLeft_34 : decode cL_isLeft 34 = .ok (.if_icmp .lt 13, 3) := by decide +kernel
theorem dL_isLeft_37 : decode cL_isLeft 37 = .ok (.iload_n 1, 1) := by decide +kernel
theorem dL_isLeft_38 : decode cL_isLeft 38 = .ok (.bipush 99, 2) := by decide +kernel
theorem dL_isLeft_40 : decode cL_isLeft 40 = .ok (.if_icmp .gt 7, 3) := by decide +kernel
theorem dL_isLeft_43 : decode cL_isLeft 43 = .ok (.iconst 1, 1) := by decide +kernel
theorem dL_isLeft_44 : decode cL_isLeft 44 = .ok (.goto 4, 3) := by decide +kernel
theorem dL_isLeft_47 : decode cL_isLeft 47 = .ok (.iconst 0, 1) := by decide +kernel
theorem dL_isLeft_48 : decode cL_isLeft 48 = .ok (.ireturn, 1) := by decide +kernel
theorem dL_isLeft_49 : decode cL_isLeft 49 = .ok (.iload_n 1, 1) := by decide +kernel
theorem dL_isLeft_50 : decode cL_isLeft 50 = .ok (.iconst 1, 1) := by decide +kernel
theorem dL_isLeft_51 : decode cL_isLeft 51 = .ok (.if_icmp .eq 28, 3) := by decide +kernel
theorem dL_isLeft_54 : decode cL_isLeft 54 = .ok (.aload_n 0, 1) := by decide +kernel
theorem dL_isLeft_55 : decode cL_isLeft 55 = .ok (.iload_n 1, 1) := by decide +kernel
theorem dL_isLeft_56 : decode cL_isLeft 56 = .ok (.iconst 1, 1) := by decide +kernel
theorem dL_isLeft_57 : decode cL_isLeft 57 = .ok (.isub, 1) := by decide +kernel
theorem dL_isLeft_58 : decode cL_isLeft 58 = .ok (.invokevirtual 116, 3) := by decide +kernel
theorem dL_isLeft_61 : decode cL_isLeft 61 = .ok (.ifCond .lt 22, 3) := by decide +kernel
theorem dL_isLeft_64 : decode cL_isLeft 64 = .ok (.aload_n 0, 1) := by decide +kernel
theorem dL_isLeft_65 : decode cL_isLeft 65 = .ok (.invokevirtual 71, 3) := by decide +kernel
theorem dL_isLeft_68 : decode cL_isLeft 68 = .ok (.ifCond .ne 15, 3) := by decide +kernel
theorem dL_isLeft_71 : decode cL_isLeft 71 = .ok (.aload_n 0, 1) := by decide +kernel
theorem dL_isLeft_72 : decode cL_isLeft 72 = .ok (.invokevirtual 81, 3) := by decide +kernel
theorem dL_isLeft_75 : decode cL_isLeft 75 = .ok (.iconst 1, 1) := by decide +kernel
theorem dL_isLeft_76 : decode cL_isLeft 76 = .ok (.if_icmp .ne 7, 3) := by decide +kernel
theorem dL_isLeft_79 : decode cL_isLeft 79 = .ok (.iconst 1, 1) := by decide +kernel
theorem dL_isLeft_80 : decode cL_isLeft 80 = .ok (.goto 4, 3) := by decide +kernel
theorem dL_isLeft_83 : decode cL_isLeft 83 = .ok (.iconst 0, 1) := by decide +kernel
theorem dL_isLeft_84 : decode cL_isLeft 84 = .ok (.istore_n 2, 1) := by decide +kernel
theorem dL_isLeft_85 : decode cL_isLeft 85 = .ok (.iload_n 2, 1) := by decide +kernel
theorem dL_isLeft_86 : decode cL_isLeft 86 = .ok (.ifCond .eq 22, 3) := by decide +kernel
theorem dL_isLeft_89 : decode cL_isLeft 89 = .ok (.aload_n 0, 1) := by decide +kernel
theorem dL_isLeft_90 : decode cL_isLeft 90 = .ok (.iconst 1, 1) := by decide +kernel
theorem dL_isLeft_91 : decode cL_isLeft 91 = .ok (.invokevirtual 116, 3) := by decide +kernel
theorem dL_isLeft_94 : decode cL_isLeft 94 = .ok (.ifCond .le 14, 3) := by decide +kernel
theorem dL_isLeft_97 : decode cL_isLeft 97 = .ok (.aload_n 0, 1) := by decide +kernel
theorem dL_isLeft_98 : decode cL_isLeft 98 = .ok (.invokevirtual 71, 3) := by decide +kernel
theorem dL_isLeft_101 : decode cL_isLeft 101 = .ok (.ifCond .eq 7, 3) := by decide +kernel
theorem dL_isLeft_104 : decode cL_isLeft 104 = .ok (.iconst 1, 1) := by decide +kernel
theorem dL_isLeft_105 : decode cL_isLeft 105 = .ok (.goto 4, 3) := by decide +kernel
theorem dL_isLeft_108 : decode cL_isLeft 108 = .ok (.iconst 0, 1) := by decide +kernel
theorem dL_isLeft_109 : decode cL_isLeft 109 = .ok (.ireturn, 1) := by decide +kernel
theorem dL_law_0 : decode cL_law 0 = .ok (.new 12, 3) := by decide +kernel
theorem dL_law_3 : decode cL_law 3 = .ok (.dup, 1) := by decide +kernel
theorem dL_law_4 : decode cL_law 4 = .ok (.invokespecial 137, 3) := by decide +kernel
theorem dL_law_7 : decode cL_law 7 = .ok (.astore_n 1, 1) := by decide +kernel
theorem dL_law_8 : decode cL_law 8 = .ok (.aload_n 1, 1) := by decide +kernel
theorem dL_law_9 : decode cL_law 9 = .ok (.invokevirtual 71, 3) := by decide +kernel
theorem dL_law_12 : decode cL_law 12 = .ok (.istore_n 2, 1) := by decide +kernel
theorem dL_law_13 : decode cL_law 13 = .ok (.iconst 0, 1) := by decide +kernel
theorem dL_law_14 : decode cL_law 14 = .ok (.istore_n 3, 1) := by decide +kernel
theorem dL_law_15 : decode cL_law 15 = .ok (.iload_n 3, 1) := by decide +kernel
theorem dL_law_16 : decode cL_law 16 = .ok (.bipush 12, 2) := by decide +kernel
theorem dL_law_18 : decode cL_law 18 = .ok (.if_icmp .ge 23, 3) := by decide +kernel
theorem dL_law_21 : decode cL_law 21 = .ok (.iload_n 2, 1) := by decide +kernel
theorem dL_law_22 : decode cL_law 22 = .ok (.ifCond .eq 19, 3) := by decide +kernel
theorem dL_law_25 : decode cL_law 25 = .ok (.aload_n 1, 1) := by decide +kernel
theorem dL_law_26 : decode cL_law 26 = .ok (.aload_n 0, 1) := by decide +kernel
theorem dL_law_27 : decode cL_law 27 = .ok (.iload_n 3, 1) := by decide +kernel
theorem dL_law_28 : decode cL_law 28 = .ok (.invokestatic 138, 3) := by decide +kernel
theorem dL_law_31 : decode cL_law 31 = .ok (.invokestatic 142, 3) := by decide +kernel
theorem dL_law_34 : decode cL_law 34 = .ok (.istore_n 2, 1) := by decide +kernel
theorem dL_law_35 : decode cL_law 35 = .ok (.iinc 3 1, 3) := by decide +kernel
theorem dL_law_38 : decode cL_law 38 = .ok (.goto (-23), 3) := by decide +kernel
theorem dL_law_41 : decode cL_law 41 = .ok (.iconst 0, 1) := by decide +kernel
theorem dL_law_42 : decode cL_law 42 = .ok (.istore_n 3, 1) := by decide +kernel
theorem dL_law_43 : decode cL_law 43 = .ok (.iload_n 3, 1) := by decide +kernel
theorem dL_law_44 : decode cL_law 44 = .ok (.bipush 44, 2) := by decide +kernel
theorem dL_law_46 : decode cL_law 46 = .ok (.if_icmp .ge 125, 3) := by decide +kernel
theorem dL_law_49 : decode cL_law 49 = .ok (.iload_n 2, 1) := by decide +kernel
theorem dL_law_50 : decode cL_law 50 = .ok (.ifCond .eq 121, 3) := by decide +kernel
theorem dL_law_53 : decode cL_law 53 = .ok (.aload_n 0, 1) := by decide +kernel
theorem dL_law_54 : decode cL_law 54 = .ok (.bipush 12, 2) := by decide +kernel
theorem dL_law_56 : decode cL_law 56 = .ok (.iconst 2, 1) := by decide +kernel
theorem dL_law_57 : decode cL_law 57 = .ok (.iload_n 3, 1) := by decide +kernel
theorem dL_law_58 : decode cL_law 58 = .ok (.imul, 1) := by decide +kernel
theorem dL_law_59 : decode cL_law 59 = .ok (.iadd, 1) := by decide +kernel
theorem dL_law_60 : decode cL_law 60 = .ok (.invokestatic 138, 3) := by decide +kernel
theorem dL_law_63 : decode cL_law 63 = .ok (.istore 4, 2) := by decide +kernel
theorem dL_law_65 : decode cL_law 65 = .ok (.aload_n 0, 1) := by decide +kernel
theorem dL_law_66 : decode cL_law 66 = .ok (.bipush 13, 2) := by decide +kernel
theorem dL_law_68 : decode cL_law 68 = .ok (.iconst 2, 1) := by decide +kernel
theorem dL_law_69 : decode cL_law 69 = .ok (.iload_n 3, 1) := by decide +kernel
theorem dL_law_70 : decode cL_law 70 = .ok (.imul, 1) := by decide +kernel
theorem dL_law_71 : decode cL_law 71 = .ok (.iadd, 1) := by decide +kernel
theorem dL_law_72 : decode cL_law 72 = .ok (.invokestatic 138, 3) := by decide +kernel
theorem dL_law_75 : decode cL_law 75 = .ok (.istore 5, 2) := by decide +kernel
theorem dL_law_77 : decode cL_law 77 = .ok (.aload_n 1, 1) := by decide +kernel
theorem dL_law_78 : decode cL_law 78 = .ok (.iload 4, 2) := by decide +kernel
theorem dL_law_80 : decode cL_law 80 = .ok (.iload 5, 2) := by decide +kernel
theorem dL_law_82 : decode cL_law 82 = .ok (.invokestatic 146, 3) := by decide +kernel
theorem dL_law_85 : decode cL_law 85 = .ok (.ifCond .eq 26, 3) := by decide +kernel
theorem dL_law_88 : decode cL_law 88 = .ok (.aload_n 1, 1) := by decide +kernel
theorem dL_law_89 : decode cL_law 89 = .ok (.iload 5, 2) := by decide +kernel
theorem dL_law_91 : decode cL_law 91 = .ok (.iconst 4, 1) := by decide +kernel
theorem dL_law_92 : decode cL_law 92 = .ok (.ishr, 1) := by decide +kernel
theorem dL_law_93 : decode cL_law 93 = .ok (.bipush 101, 2) := by decide +kernel
theorem dL_law_95 : decode cL_law 95 = .ok (.invokestatic 29, 3) := by decide +kernel
theorem dL_law_98 : decode cL_law 98 = .ok (.bipush 50, 2) := by decide +kernel
theorem dL_law_100 : decode cL_law 100 = .ok (.isub, 1) := by decide +kernel
theorem dL_law_101 : decode cL_law 101 = .ok (.invokestatic 150, 3) := by decide +kernel
theorem dL_law_104 : decode cL_law 104 = .ok (.ifCond .eq 7, 3) := by decide +kernel
theorem dL_law_107 : decode cL_law 107 = .ok (.iconst 1, 1) := by decide +kernel
theorem dL_law_108 : decode cL_law 108 = .ok (.goto 4, 3) := by decide +kernel
theorem dL_law_111 : decode cL_law 111 = .ok (.iconst 0, 1) := by decide +kernel
theorem dL_law_112 : decode cL_law 112 = .ok (.istore_n 2, 1) := by decide +kernel
theorem dL_law_113 : decode cL_law 113 = .ok (.iload_n 2, 1) := by decide +kernel
theorem dL_law_114 : decode cL_law 114 = .ok (.ifCond .eq 49, 3) := by decide +kernel
theorem dL_law_117 : decode cL_law 117 = .ok (.iload_n 3, 1) := by decide +kernel
theorem dL_law_118 : decode cL_law 118 = .ok (.bipush 7, 2) := by decide +kernel
theorem dL_law_120 : decode cL_law 120 = .ok (.irem, 1) := by decide +kernel
theorem dL_law_121 : decode cL_law 121 = .ok (.iconst 5, 1) := by decide +kernel
theorem dL_law_122 : decode cL_law 122 = .ok (.if_icmp .ne 22, 3) := by decide +kernel
theorem dL_law_125 : decode cL_law 125 = .ok (.aload_n 1, 1) := by decide +kernel
theorem dL_law_126 : decode cL_law 126 = .ok (.iload 5, 2) := by decide +kernel
theorem dL_law_128 : decode cL_law 128 = .ok (.bipush 6, 2) := by decide +kernel
theorem dL_law_130 : decode cL_law 130 = .ok (.ishr, 1) := by decide +kernel
theorem dL_law_131 : decode cL_law 131 = .ok (.aload_n 1, 1) := by decide +kernel
theorem dL_law_132 : decode cL_law 132 = .ok (.invokevirtual 11, 3) := by decide +kernel
theorem dL_law_135 : decode cL_law 135 = .ok (.invokestatic 29, 3) := by decide +kernel
theorem dL_law_138 : decode cL_law 138 = .ok (.invokestatic 153, 3) := by decide +kernel
theorem dL_law_141 : decode cL_law 141 = .ok (.ifCond .eq 22, 3) := by decide +kernel
theorem dL_law_144 : decode cL_law 144 = .ok (.iload_n 3, 1) := by decide +kernel
theorem dL_law_145 : decode cL_law 145 = .ok (.bipush 9, 2) := by decide +kernel
theorem dL_law_147 : decode cL_law 147 = .ok (.irem, 1) := by decide +kernel
theorem dL_law_148 : decode cL_law 148 = .ok (.iconst 4, 1) := by decide +kernel
theorem dL_law_149 : decode cL_law 149 = .ok (.if_icmp .ne 10, 3) := by decide +kernel
theorem dL_law_152 : decode cL_law 152 = .ok (.aload_n 1, 1) := by decide +kernel
theorem dL_law_153 : decode cL_law 153 = .ok (.invokestatic 156, 3) := by decide +kernel
theorem dL_law_156 : decode cL_law 156 = .ok (.ifCond .eq 7, 3) := by decide +kernel
theorem dL_law_159 : decode cL_law 159 = .ok (.iconst 1, 1) := by decide +kernel
theorem dL_law_160 : decode cL_law 160 = .ok (.goto 4, 3) := by decide +kernel
theorem dL_law_163 : decode cL_law 163 = .ok (.iconst 0, 1) := by decide +kernel
theorem dL_law_164 : decode cL_law 164 = .ok (.istore_n 2, 1) := by decide +kernel
theorem dL_law_165 : decode cL_law 165 = .ok (.iinc 3 1, 3) := by decide +kernel
theorem dL_law_168 : decode cL_law 168 = .ok (.goto (-125), 3) := by decide +kernel
theorem dL_law_171 : decode cL_law 171 = .ok (.iload_n 2, 1) := by decide +kernel
theorem dL_law_172 : decode cL_law 172 = .ok (.ireturn, 1) := by decide +kernel
