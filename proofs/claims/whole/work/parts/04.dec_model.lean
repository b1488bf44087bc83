theorem dX9_init_0 : decode cX9_init 0 = .ok (.aload_n 0, 1) := by decide +kernel
theorem dX9_init_1 : decode cX9_init 1 = .ok (.invokespecial 1, 3) := by decide +kernel
theorem dX9_init_4 : decode cX9_init 4 = .ok (.aload_n 0, 1) := by decide +kernel
theorem dX9_init_5 : decode cX9_init 5 = .ok (.bipush 24, 2) := by decide +kernel
theorem dX9_init_7 : decode cX9_init 7 = .ok (.newarray .int, 2) := by decide +kernel
theorem dX9_init_9 : decode cX9_init 9 = .ok (.putfield 7, 3) := by decide +kernel
theorem dX9_init_12 : decode cX9_init 12 = .ok (.aload_n 0, 1) := by decide +kernel
theorem dX9_init_13 : decode cX9_init 13 = .ok (.bipush 24, 2) := by decide +kernel
theorem dX9_init_15 : decode cX9_init 15 = .ok (.newarray .int, 2) := by decide +kernel
theorem dX9_init_17 : decode cX9_init 17 = .ok (.putfield 13, 3) := by decide +kernel
theorem dX9_init_20 : decode cX9_init 20 = .ok (.aload_n 0, 1) := by decide +kernel
theorem dX9_init_21 : decode cX9_init 21 = .ok (.bipush 24, 2) := by decide +kernel
theorem dX9_init_23 : decode cX9_init 23 = .ok (.newarray .int, 2) := by decide +kernel
theorem dX9_init_25 : decode cX9_init 25 = .ok (.putfield 16, 3) := by decide +kernel
theorem dX9_init_28 : decode cX9_init 28 = .ok (.aload_n 0, 1) := by decide +kernel
theorem dX9_init_29 : decode cX9_init 29 = .ok (.bipush 24, 2) := by decide +kernel
theorem dX9_init_31 : decode cX9_init 31 = .ok (.newarray .int, 2) := by decide +kernel
theorem dX9_init_33 : decode cX9_init 33 = .ok (.putfield 19, 3) := by decide +kernel
theorem dX9_init_36 : decode cX9_init 36 = .ok (.aload_n 0, 1) := by decide +kernel
theorem dX9_init_37 : decode cX9_init 37 = .ok (.bipush 24, 2) := by decide +kernel
theorem dX9_init_39 : decode cX9_init 39 = .ok (.newarray .int, 2) := by decide +kernel
theorem dX9_init_41 : decode cX9_init 41 = .ok (.putfield 22, 3) := by decide +kernel
theorem dX9_init_44 : decode cX9_init 44 = .ok (.aload_n 0, 1) := by decide +kernel
theorem dX9_init_45 : decode cX9_init 45 = .ok (.bipush 24, 2) := by decide +kernel
theorem dX9_init_47 : decode cX9_init 47 = .ok (.newarray .int, 2) := by decide +kernel
theorem dX9_init_49 : decode cX9_init 49 = .ok (.putfield 25, 3) := by decide +kernel
theorem dX9_init_52 : decode cX9_init 52 = .ok (.aload_n 0, 1) := by decide +kernel
theorem dX9_init_53 : decode cX9_init 53 = .ok (.bipush 24, 2) := by decide +kernel
theorem dX9_init_55 : decode cX9_init 55 = .ok (.newarray .int, 2) := by decide +kernel
theorem dX9_init_57 : decode cX9_init 57 = .ok (.putfield 28, 3) := by decide +kernel
theorem dX9_init_60 : decode cX9_init 60 = .ok (.aload_n 0, 1) := by decide +kernel
theorem dX9_init_61 : decode cX9_init 61 = .ok (.bipush 24, 2) := by decide +kernel
theorem dX9_init_63 : decode cX9_init 63 = .ok (.newarray .boolean, 2) := by decide +kernel
theorem dX9_init_65 : decode cX9_init 65 = .ok (.putfield 31, 3) := by decide +kernel
theorem dX9_init_68 : decode cX9_init 68 = .ok (.aload_n 0, 1) := by decide +kernel
theorem dX9_init_69 : decode cX9_init 69 = .ok (.iconst 4, 1) := by decide +kernel
theorem dX9_init_70 : decode cX9_init 70 = .ok (.newarray .int, 2) := by decide +kernel
theorem dX9_init_72 : decode cX9_init 72 = .ok (.putfield 35, 3) := by decide +kernel
theorem dX9_init_75 : decode cX9_init 75 = .ok (.aload_n 0, 1) := by decide +kernel
theorem dX9_init_76 : decode cX9_init 76 = .ok (.iconst 3, 1) := by decide +kernel
theorem dX9_init_77 : decode cX9_init 77 = .ok (.newarray .int, 2) := by decide +kernel
theorem dX9_init_79 : decode cX9_init 79 = .ok (.putfield 38, 3) := by decide +kernel
theorem dX9_init_82 : decode cX9_init 82 = .ok (.aload_n 0, 1) := by decide +kernel
theorem dX9_init_83 : decode cX9_init 83 = .ok (.bipush 8, 2) := by decide +kernel
theorem dX9_init_85 : decode cX9_init 85 = .ok (.newarray .int, 2) := by decide +kernel
theorem dX9_init_87 : decode cX9_init 87 = .ok (.putfield 41, 3) := by decide +kernel
theorem dX9_init_90 : decode cX9_init 90 = .ok (.aload_n 0, 1) := by decide +kernel
theorem dX9_init_91 : decode cX9_init 91 = .ok (.bipush 8, 2) := by decide +kernel
theorem dX9_init_93 : decode cX9_init 93 = .ok (.newarray .int, 2) := by decide +kernel
theorem dX9_init_95 : decode cX9_init 95 = .ok (.putfield 44, 3) := by decide +kernel
theorem dX9_init_98 : decode cX9_init 98 = .ok (.aload_n 0, 1) := by decide +kernel
theorem dX9_init_99 : decode cX9_init 99 = .ok (.bipush 8, 2) := by decide +kernel
theorem dX9_init_101 : decode cX9_init 101 = .ok (.newarray .int, 2) := by decide +kernel
theorem dX9_init_103 : decode cX9_init 103 = .ok (.putfield 47, 3) := by decide +kernel
theorem dX9_init_106 : decode cX9_init 106 = .ok (.aload_n 0, 1) := by decide +kernel
theorem dX9_init_107 : decode cX9_init 107 = .ok (.bipush 48, 2) := by decide +kernel
theorem dX9_init_109 : decode cX9_init 109 = .ok (.newarray .int, 2) := by decide +kernel
theorem dX9_init_111 : decode cX9_init 111 = .ok (.putfield 50, 3) := by decide +kernel
theorem dX9_init_114 : decode cX9_init 114 = .ok (.aload_n 0, 1) := by decide +kernel
theorem dX9_init_115 : decode cX9_init 115 = .ok (.iconst 2, 1) := by decide +kernel
theorem dX9_init_116 : decode cX9_init 116 = .ok (.newarray .int, 2) := by decide +kernel
theorem dX9_init_118 : decode cX9_init 118 = .ok (.putfield 53, 3) := by decide +kernel
theorem dX9_init_121 : decode cX9_init 121 = .ok (.aload_n 0, 1) := by decide +kernel
theorem dX9_init_122 : decode cX9_init 122 = .ok (.bipush 60, 2) := by decide +kernel
theorem dX9_init_124 : decode cX9_init 124 = .ok (.newarray .int, 2) := by decide +kernel
theorem dX9_init_126 : decode cX9_init 126 = .ok (.putfield 56, 3) := by decide +kernel
theorem dX9_init_129 : decode cX9_init 129 = .ok (.aload_n 0, 1) := by decide +kernel
theorem dX9_init_130 : decode cX9_init 130 = .ok (.bipush 16, 2) := by decide +kernel
theorem dX9_init_132 : decode cX9_init 132 = .ok (.newarray .int, 2) := by decide +kernel
theorem dX9_init_134 : decode cX9_init 134 = .ok (.putfield 59, 3) := by decide +kernel
theorem dX9_init_137 : decode cX9_init 137 = .ok (.aload_n 0, 1) := by decide +kernel
theorem dX9_init_138 : decode cX9_init 138 = .ok (.iconst 1, 1) := by decide +kernel
theorem dX9_init_139 : decode cX9_init 139 = .ok (.putfield 62, 3) := by decide +kernel
theorem dX9_init_142 : decode cX9_init 142 = .ok (.aload_n 0, 1) := by decide +kernel
theorem dX9_init_143 : decode cX9_init 143 = .ok (.getfield 13, 3) := by decide +kernel
theorem dX9_init_146 : decode cX9_init 146 = .ok (.iconst 0, 1) := by decide +kernel
theorem dX9_init_147 : decode cX9_init 147 = .ok (.iconst (-1), 1) := by decide +kernel
theorem dX9_init_148 : decode cX9_init 148 = .ok (.iastore, 1) := by decide +kernel
theorem dX9_init_149 : decode cX9_init 149 = .ok (.aload_n 0, 1) := by decide +kernel
theorem dX9_init_150 : decode cX9_init 150 = .ok (.getfield 28, 3) := by decide +kernel
theorem dX9_init_153 : decode cX9_init 153 = .ok (.iconst 0, 1) := by decide +kernel
theorem dX9_init_154 : decode cX9_init 154 = .ok (.iconst (-1), 1) := by decide +kernel
theorem dX9_init_155 : decode cX9_init 155 = .ok (.iastore, 1) := by decide +kernel
theorem dX9_init_156 : decode cX9_init 156 = .ok (.aload_n 0, 1) := by decide +kernel
theorem dX9_init_157 : decode cX9_init 157 = .ok (.getfield 38, 3) := by decide +kernel
theorem dX9_init_160 : decode cX9_init 160 = .ok (.iconst 0, 1) := by decide +kernel
theorem dX9_init_161 : decode cX9_init 161 = .ok (.bipush 10, 2) := by decide +kernel
theorem dX9_init_163 : decode cX9_init 163 = .ok (.iastore, 1) := by decide +kernel
theorem dX9_init_164 : decode cX9_init 164 = .ok (.aload_n 0, 1) := by decide +kernel
theorem dX9_init_165 : decode cX9_init 165 = .ok (.getfield 38, 3) := by decide +kernel
theorem dX9_init_168 : decode cX9_init 168 = .ok (.iconst 1, 1) := by decide +kernel
theorem dX9_init_169 : decode cX9_init 169 = .ok (.bipush 30, 2) := by decide +kernel
theorem dX9_init_171 : decode cX9_init 171 = .ok (.iastore, 1) := by decide +kernel
theorem dX9_init_172 : decode cX9_init 172 = .ok (.return_, 1) := by decide +kernel
theorem dX9_thrown_0 : decode cX9_thrown 0 = .ok (.aload_n 0, 1) := by decide +kernel
theorem dX9_thrown_1 : decode cX9_thrown 1 = .ok (.getfield 66, 3) := by decide +kernel
theorem dX9_thrown_4 : decode cX9_thrown 4 = .ok (.ireturn, 1) := by decide +kernel
theorem dX9_in_0 : decode cX9_in 0 = .ok (.iload_n 0, 1) := by decide +kernel
theorem dX9_in_1 : decode cX9_in 1 = .ok (.iload_n 1, 1) := by decide +kernel
theorem dX9_in_2 : decode cX9_in 2 = .ok (.if_icmp .lt 12, 3) := by decide +kernel
theorem dX9_in_5 : decode cX9_in 5 = .ok (.iload_n 0, 1) := by decide +kernel
theorem dX9_in_6 : decode cX9_in 6 = .ok (.iload_n 2, 1) := by decide +kernel
theorem dX9_in_7 : decode cX9_in 7 = .ok (.if_icmp .gt 7, 3) := by decide +kernel
theorem dX9_in_10 : decode cX9_in 10 = .ok (.iconst 1, 1) := by decide +kernel
theorem dX9_in_11 : decode cX9_in 11 = .ok (.goto 4, 3) := by decide +kernel
theorem dX9_in_14 : decode cX9_in 14 = .ok (.iconst 0, 1) := by decide +kernel
theorem dX9_in_15 : decode cX9_in 15 = .ok (.ireturn, 1) := by decide +kernel
theorem dX9_holds_0 : decode cX9_holds 0 = .ok (.aload_n 0, 1) := by decide +kernel
theorem dX9_holds_1 : decode cX9_holds 1 = .ok (.iload_n 1, 1) := by decide +kernel
theorem dX9_holds_2 : decode cX9_holds 2 = .ok (.putfield 66, 3) := by decide +kernel
theorem dX9_holds_5 : decode cX9_holds 5 = .ok (.iload_n 1, 1) := by decide +kernel
theorem dX9_holds_6 : decode cX9_holds 6 = .ok (.ifCond .ne 7, 3) := by decide +kernel
theorem dX9_holds_9 : decode cX9_holds 9 = .ok (.iconst 1, 1) := by decide +kernel
theorem dX9_holds_10 : decode cX9_holds 10 = .ok (.goto 4, 3) := by decide +kernel
theorem dX9_holds_13 : decode cX9_holds 13 = .ok (.iconst 0, 1) := by decide +kernel
theorem dX9_holds_14 : decode cX9_holds 14 = .ok (.ireturn, 1) := by decide +kernel
theorem dX9_isItem_0 : decode cX9_isItem 0 = .ok (.iload_n 1, 1) := by decide +kernel
theorem dX9_isItem_1 : decode cX9_isItem 1 = .ok (.iconst 0, 1) := by decide +kernel
theorem dX9_isItem_2 : decode cX9_isItem 2 = .ok (.aload_n 0, 1) := by decide +kernel
theorem dX9_isItem_3 : decode cX9_isItem 3 = .ok (.getfield 62, 3) := by decide +kernel
theorem dX9_isItem_6 : decode cX9_isItem 6 = .ok (.iconst 1, 1) := by decide +kernel
theorem dX9_isItem_7 : decode cX9_isItem 7 = .ok (.isub, 1) := by decide +kernel
theorem dX9_isItem_8 : decode cX9_isItem 8 = .ok (.invokestatic 69, 3) := by decide +kernel
theorem dX9_isItem_11 : decode cX9_isItem 11 = .ok (.ireturn, 1) := by decide +kernel
theorem dX9_isShut_0 : decode cX9_isShut 0 = .ok (.aload_n 0, 1) := by decide +kernel
theorem dX9_isShut_1 : decode cX9_isShut 1 = .ok (.getfield 28, 3) := by decide +kernel
theorem dX9_isShut_4 : decode cX9_isShut 4 = .ok (.iload_n 1, 1) := by decide +kernel
theorem dX9_isShut_5 : decode cX9_isShut 5 = .ok (.iaload, 1) := by decide +kernel
theorem dX9_isShut_6 : decode cX9_isShut 6 = .ok (.iconst (-1), 1) := by decide +kernel
theorem dX9_isShut_7 : decode cX9_isShut 7 = .ok (.if_icmp .eq 16, 3) := by decide +kernel
theorem dX9_isShut_10 : decode cX9_isShut 10 = .ok (.aload_n 0, 1) := by decide +kernel
theorem dX9_isShut_11 : decode cX9_isShut 11 = .ok (.getfield 31, 3) := by decide +kernel
theorem dX9_isShut_14 : decode cX9_isShut 14 = .ok (.iload_n 1, 1) := by decide +kernel
theorem dX9_isShut_15 : decode cX9_isShut 15 = .ok (.baload, 1) := by decide +kernel
theorem dX9_isShut_16 : decode cX9_isShut 16 = .ok (.ifCond .ne 7, 3) := by decide +kernel
theorem dX9_isShut_19 : decode cX9_isShut 19 = .ok (.iconst 1, 1) := by decide +kernel
theorem dX9_isShut_20 : decode cX9_isShut 20 = .ok (.goto 4, 3) := by decide +kernel
theorem dX9_isShut_23 : decode cX9_isShut 23 = .ok (.iconst 0, 1) := by decide +kernel
theorem dX9_isShut_24 : decode cX9_isShut 24 = .ok (.ireturn, 1) := by decide +kernel
theorem dX9_levelOf_0 : decode cX9_levelOf 0 = .ok (.iconst 0, 1) := by decide +kernel
theorem dX9_levelOf_1 : decode cX9_levelOf 1 = .ok (.istore_n 2, 1) := by decide +kernel
theorem dX9_levelOf_2 : decode cX9_levelOf 2 = .ok (.iload_n 1, 1) := by decide +kernel
theorem dX9_levelOf_3 : decode cX9_levelOf 3 = .ok (.istore_n 3, 1) := by decide +kernel
theorem dX9_levelOf_4 : decode cX9_levelOf 4 = .ok (.aload_n 0, 1) := by decide +kernel
theorem dX9_levelOf_5 : decode cX9_levelOf 5 = .ok (.getfield 13, 3) := by decide +kernel
theorem dX9_levelOf_8 : decode cX9_levelOf 8 = .ok (.iload_n 3, 1) := by decide +kernel
theorem dX9_levelOf_9 : decode cX9_levelOf 9 = .ok (.iaload, 1) := by decide +kernel
theorem dX9_levelOf_10 : decode cX9_levelOf 10 = .ok (.iconst (-1), 1) := by decide +kernel
theorem dX9_levelOf_11 : decode cX9_levelOf 11 = .ok (.if_icmp .eq 16, 3) := by decide +kernel
theorem dX9_levelOf_14 : decode cX9_levelOf 14 = .ok (.iinc 2 1, 3) := by decide +kernel
theorem dX9_levelOf_17 : decode cX9_levelOf 17 = .ok (.aload_n 0, 1) := by decide +kernel
theorem dX9_levelOf_18 : decode cX9_levelOf 18 = .ok (.getfield 13, 3) := by decide +kernel
theorem dX9_levelOf_21 : decode cX9_levelOf 21 = .ok (.iload_n 3, 1) := by decide +kernel
theorem dX9_levelOf_22 : decode cX9_levelOf 22 = .ok (.iaload, 1) := by decide +kernel
theorem dX9_levelOf_23 : decode cX9_levelOf 23 = .ok (.istore_n 3, 1) := by decide +kernel
theorem dX9_levelOf_24 : decode cX9_levelOf 24 = .ok (.goto (-20), 3) := by decide +kernel
theorem dX9_levelOf_27 : decode cX9_levelOf 27 = .ok (.iload_n 2, 1) := by decide +kernel
theorem dX9_levelOf_28 : decode cX9_levelOf 28 = .ok (.ireturn, 1) := by decide +kernel
theorem dX9_itemsOf_0 : decode cX9_itemsOf 0 = .ok (.iconst 0, 1) := by decide +kernel
theorem dX9_itemsOf_1 : decode cX9_itemsOf 1 = .ok (.istore_n 2, 1) := by decide +kernel
theorem dX9_itemsOf_2 : decode cX9_itemsOf 2 = .ok (.iconst 1, 1) := by decide +kernel
theorem dX9_itemsOf_3 : decode cX9_itemsOf 3 = .ok (.istore_n 3, 1) := by decide +kernel
theorem dX9_itemsOf_4 : decode cX9_itemsOf 4 = .ok (.iload_n 3, 1) := by decide +kernel
theorem dX9_itemsOf_5 : decode cX9_itemsOf 5 = .ok (.aload_n 0, 1) := by decide +kernel
theorem dX9_itemsOf_6 : decode cX9_itemsOf 6 = .ok (.getfield 62, 3) := by decide +kernel
theorem dX9_itemsOf_9 : decode cX9_itemsOf 9 = .ok (.if_icmp .ge 27, 3) := by decide +kernel
theorem dX9_itemsOf_12 : decode cX9_itemsOf 12 = .ok (.iload_n 2, 1) := by decide +kernel
theorem dX9_itemsOf_13 : decode cX9_itemsOf 13 = .ok (.aload_n 0, 1) := by decide +kernel
theorem dX9_itemsOf_14 : decode cX9_itemsOf 14 = .ok (.getfield 13, 3) := by decide +kernel
theorem dX9_itemsOf_17 : decode cX9_itemsOf 17 = .ok (.iload_n 3, 1) := by decide +kernel
theorem dX9_itemsOf_18 : decode cX9_itemsOf 18 = .ok (.iaload, 1) := by decide +kernel
theorem dX9_itemsOf_19 : decode cX9_itemsOf 19 = .ok (.iload_n 1, 1) := by decide +kernel
theorem dX9_itemsOf_20 : decode cX9_itemsOf 20 = .ok (.if_icmp .ne 7, 3) := by decide +kernel
theorem dX9_itemsOf_23 : decode cX9_itemsOf 23 = .ok (.iconst 1, 1) := by decide +kernel
theorem dX9_itemsOf_24 : decode cX9_itemsOf 24 = .ok (.goto 4, 3) := by decide +kernel
theorem dX9_itemsOf_27 : decode cX9_itemsOf 27 = .ok (.iconst 0, 1) := by decide +kernel
theorem dX9_itemsOf_28 : decode cX9_itemsOf 28 = .ok (.iadd, 1) := by decide +kernel
theorem dX9_itemsOf_29 : decode cX9_itemsOf 29 = .ok (.istore_n 2, 1) := by decide +kernel
theorem dX9_itemsOf_30 : decode cX9_itemsOf 30 = .ok (.iinc 3 1, 3) := by decide +kernel
theorem dX9_itemsOf_33 : decode cX9_itemsOf 33 = .ok (.goto (-29), 3) := by decide +kernel
theorem dX9_itemsOf_36 : decode cX9_itemsOf 36 = .ok (.iload_n 2, 1) := by decide +kernel
theorem dX9_itemsOf_37 : decode cX9_itemsOf 37 = .ok (.ireturn, 1) := by decide +kernel
theorem dX9_entries_0 : decode cX9_entries 0 = .ok (.aload_n 0, 1) := by decide +kernel
theorem dX9_entries_1 : decode cX9_entries 1 = .ok (.iload_n 1, 1) := by decide +kernel
theorem dX9_entries_2 : decode cX9_entries 2 = .ok (.invokevirtual 73, 3) := by decide +kernel
theorem dX9_entries_5 : decode cX9_entries 5 = .ok (.iload_n 1, 1) := by decide +kernel
theorem dX9_entries_6 : decode cX9_entries 6 = .ok (.ifCond .ne 7, 3) := by decide +kernel
theorem dX9_entries_9 : decode cX9_entries 9 = .ok (.iconst 0, 1) := by decide +kernel
theorem dX9_entries_10 : decode cX9_entries 10 = .ok (.goto 4, 3) := by decide +kernel
theorem dX9_entries_13 : decode cX9_entries 13 = .ok (.iconst 1, 1) := by decide +kernel
theorem dX9_entries_14 : decode cX9_entries 14 = .ok (.iadd, 1) := by decide +kernel
theorem dX9_entries_15 : decode cX9_entries 15 = .ok (.ireturn, 1) := by decide +kernel
theorem dX9_indexOf_0 : decode cX9_indexOf 0 = .ok (.iconst 0, 1) := by decide +kernel
theorem dX9_indexOf_1 : decode cX9_indexOf 1 = .ok (.istore_n 2, 1) := by decide +kernel
theorem dX9_indexOf_2 : decode cX9_indexOf 2 = .ok (.iconst 1, 1) := by decide +kernel
theorem dX9_indexOf_3 : decode cX9_indexOf 3 = .ok (.istore_n 3, 1) := by decide +kernel
theorem dX9_indexOf_4 : decode cX9_indexOf 4 = .ok (.iload_n 3, 1) := by decide +kernel
theorem dX9_indexOf_5 : decode cX9_indexOf 5 = .ok (.iload_n 1, 1) := by decide +kernel
theorem dX9_indexOf_6 : decode cX9_indexOf 6 = .ok (.if_icmp .ge 32, 3) := by decide +kernel
theorem dX9_indexOf_9 : decode cX9_indexOf 9 = .ok (.iload_n 2, 1) := by decide +kernel
theorem dX9_indexOf_10 : decode cX9_indexOf 10 = .ok (.aload_n 0, 1) := by decide +kernel
theorem dX9_indexOf_11 : decode cX9_indexOf 11 = .ok (.getfield 13, 3) := by decide +kernel
theorem dX9_indexOf_14 : decode cX9_indexOf 14 = .ok (.iload_n 3, 1) := by decide +kernel
theorem dX9_indexOf_15 : decode cX9_indexOf 15 = .ok (.iaload, 1) := by decide +kernel
theorem dX9_indexOf_16 : decode cX9_indexOf 16 = .ok (.aload_n 0, 1) := by decide +kernel
theorem dX9_indexOf_17 : decode cX9_indexOf 17 = .ok (.getfield 13, 3) := by decide +kernel
theorem dX9_indexOf_20 : decode cX9_indexOf 20 = .ok (.iload_n 1, 1) := by decide +kernel
theorem dX9_indexOf_21 : decode cX9_indexOf 21 = .ok (.iaload, 1) := by decide +kernel
theorem dX9_indexOf_22 : decode cX9_indexOf 22 = .ok (.if_icmp .ne 7, 3) := by decide +kernel
theorem dX9_indexOf_25 : decode cX9_indexOf 25 = .ok (.iconst 1, 1) := by decide +kernel
theorem dX9_indexOf_26 : decode cX9_indexOf 26 = .ok (.goto 4, 3) := by decide +kernel
theorem dX9_indexOf_29 : decode cX9_indexOf 29 = .ok (.iconst 0, 1) := by decide +kernel
theorem dX9_indexOf_30 : decode cX9_indexOf 30 = .ok (.iadd, 1) := by decide +kernel
theorem dX9_indexOf_31 : decode cX9_indexOf 31 = .ok (.istore_n 2, 1) := by decide +kernel
theorem dX9_indexOf_32 : decode cX9_indexOf 32 = .ok (.iinc 3 1, 3) := by decide +kernel
theorem dX9_indexOf_35 : decode cX9_indexOf 35 = .ok (.goto (-31), 3) := by decide +kernel
theorem dX9_indexOf_38 : decode cX9_indexOf 38 = .ok (.iload_n 2, 1) := by decide +kernel
theorem dX9_indexOf_39 : decode cX9_indexOf 39 = .ok (.ireturn, 1) := by decide +kernel
theorem dX9_itemAt_0 : decode cX9_itemAt 0 = .ok (.iconst 1, 1) := by decide +kernel
theorem dX9_itemAt_1 : decode cX9_itemAt 1 = .ok (.istore_n 2, 1) := by decide +kernel
theorem dX9_itemAt_2 : decode cX9_itemAt 2 = .ok (.iload_n 2, 1) := by decide +kernel
theorem dX9_itemAt_3 : decode cX9_itemAt 3 = .ok (.aload_n 0, 1) := by decide +kernel
theorem dX9_itemAt_4 : decode cX9_itemAt 4 = .ok (.getfield 62, 3) := by decide +kernel
theorem dX9_itemAt_7 : decode cX9_itemAt 7 = .ok (.if_icmp .ge 33, 3) := by decide +kernel
theorem dX9_itemAt_10 : decode cX9_itemAt 10 = .ok (.aload_n 0, 1) := by decide +kernel
theorem dX9_itemAt_11 : decode cX9_itemAt 11 = .ok (.getfield 13, 3) := by decide +kernel
theorem dX9_itemAt_14 : decode cX9_itemAt 14 = .ok (.iload_n 2, 1) := by decide +kernel
theorem dX9_itemAt_15 : decode cX9_itemAt 15 = .ok (.iaload, 1) := by decide +kernel
theorem dX9_itemAt_16 : decode cX9_itemAt 16 = .ok (.aload_n 0, 1) := by decide +kernel
theorem dX9_itemAt_17 : decode cX9_itemAt 17 = .ok (.getfield 77, 3) := by decide +kernel
theorem dX9_itemAt_20 : decode cX9_itemAt 20 = .ok (.if_icmp .ne 14, 3) := by decide +kernel
theorem dX9_itemAt_23 : decode cX9_itemAt 23 = .ok (.aload_n 0, 1) := by decide +kernel
theorem dX9_itemAt_24 : decode cX9_itemAt 24 = .ok (.iload_n 2, 1) := by decide +kernel
theorem dX9_itemAt_25 : decode cX9_itemAt 25 = .ok (.invokevirtual 80, 3) := by decide +kernel
theorem dX9_itemAt_28 : decode cX9_itemAt 28 = .ok (.iload_n 1, 1) := by decide +kernel
theorem dX9_itemAt_29 : decode cX9_itemAt 29 = .ok (.if_icmp .ne 5, 3) := by decide +kernel
theorem dX9_itemAt_32 : decode cX9_itemAt 32 = .ok (.iload_n 2, 1) := by decide +kernel
theorem dX9_itemAt_33 : decode cX9_itemAt 33 = .ok (.ireturn, 1) := by decide +kernel
theorem dX9_itemAt_34 : decode cX9_itemAt 34 = .ok (.iinc 2 1, 3) := by decide +kernel
theorem dX9_itemAt_37 : decode cX9_itemAt 37 = .ok (.goto (-35), 3) := by decide +kernel
theorem dX9_itemAt_40 : decode cX9_itemAt 40 = .ok (.iconst (-1), 1) := by decide +kernel
theorem dX9_itemAt_41 : decode cX9_itemAt 41 = .ok (.ireturn, 1) := by decide +kernel
theorem dX9_anyOpen_0 : decode cX9_anyOpen 0 = .ok (.iconst 0, 1) := by decide +kernel
theorem dX9_anyOpen_1 : decode cX9_anyOpen 1 = .ok (.istore_n 1, 1) := by decide +kernel
theorem dX9_anyOpen_2 : decode cX9_anyOpen 2 = .ok (.iconst 0, 1) := by decide +kernel
theorem dX9_anyOpen_3 : decode cX9_anyOpen 3 = .ok (.istore_n 2, 1) := by decide +kernel
theorem dX9_anyOpen_4 : decode cX9_anyOpen 4 = .ok (.iload_n 2, 1) := by decide +kernel
theorem dX9_anyOpen_5 : decode cX9_anyOpen 5 = .ok (.aload_n 0, 1) := by decide +kernel
theorem dX9_anyOpen_6 : decode cX9_anyOpen 6 = .ok (.getfield 62, 3) := by decide +kernel
theorem dX9_anyOpen_9 : decode cX9_anyOpen 9 = .ok (.if_icmp .ge 38, 3) := by decide +kernel
theorem dX9_anyOpen_12 : decode cX9_anyOpen 12 = .ok (.iload_n 1, 1) := by decide +kernel
theorem dX9_anyOpen_13 : decode cX9_anyOpen 13 = .ok (.ifCond .ne 22, 3) := by decide +kernel
theorem dX9_anyOpen_16 : decode cX9_anyOpen 16 = .ok (.aload_n 0, 1) := by decide +kernel
theorem dX9_anyOpen_17 : decode cX9_anyOpen 17 = .ok (.getfield 28, 3) := by decide +kernel
theorem dX9_anyOpen_20 : decode cX9_anyOpen 20 = .ok (.iload_n 2, 1) := by decide +kernel
theorem dX9_anyOpen_21 : decode cX9_anyOpen 21 = .ok (.iaload, 1) := by decide +kernel
theorem dX9_anyOpen_22 : decode cX9_anyOpen 22 = .ok (.iconst (-1), 1) := by decide +kernel
theorem dX9_anyOpen_23 : decode cX9_anyOpen 23 = .ok (.if_icmp .eq 16, 3) := by decide +kernel
theorem dX9_anyOpen_26 : decode cX9_anyOpen 26 = .ok (.aload_n 0, 1) := by decide +kernel
theorem dX9_anyOpen_27 : decode cX9_anyOpen 27 = .ok (.getfield 31, 3) := by decide +kernel
theorem dX9_anyOpen_30 : decode cX9_anyOpen 30 = .ok (.iload_n 2, 1) := by decide +kernel
theorem dX9_anyOpen_31 : decode cX9_anyOpen 31 = .ok (.baload, 1) := by decide +kernel
theorem dX9_anyOpen_32 : decode cX9_anyOpen 32 = .ok (.ifCond .eq 7, 3) := by decide +kernel
theorem dX9_anyOpen_35 : decode cX9_anyOpen 35 = .ok (.iconst 1, 1) := by decide +kernel
theorem dX9_anyOpen_36 : decode cX9_anyOpen 36 = .ok (.goto 4, 3) := by decide +kernel
theorem dX9_anyOpen_39 : decode cX9_anyOpen 39 = .ok (.iconst 0, 1) := by decide +kernel
theorem dX9_anyOpen_40 : decode cX9_anyOpen 40 = .ok (.istore_n 1, 1) := by decide +kernel
theorem dX9_anyOpen_41 : decode cX9_anyOpen 41 = .ok (.iinc 2 1, 3) := by decide +kernel
theorem dX9_anyOpen_44 : decode cX9_anyOpen 44 = .ok (.goto (-40), 3) := by decide +kernel
theorem dX9_anyOpen_47 : decode cX9_anyOpen 47 = .ok (.iload_n 1, 1) := by decide +kernel
theorem dX9_anyOpen_48 : decode cX9_anyOpen 48 = .ok (.ireturn, 1) := by decide +kernel
theorem dX9_home_0 : decode cX9_home 0 = .ok (.aload_n 0, 1) := by decide +kernel
theorem dX9_home_1 : decode cX9_home 1 = .ok (.getfield 83, 3) := by decide +kernel
theorem dX9_home_4 : decode cX9_home 4 = .ok (.ifCond .ne 28, 3) := by decide +kernel
theorem dX9_home_7 : decode cX9_home 7 = .ok (.aload_n 0, 1) := by decide +kernel
theorem dX9_home_8 : decode cX9_home 8 = .ok (.getfield 77, 3) := by decide +kernel
theorem dX9_home_11 : decode cX9_home 11 = .ok (.ifCond .ne 21, 3) := by decide +kernel
theorem dX9_home_14 : decode cX9_home 14 = .ok (.aload_n 0, 1) := by decide +kernel
theorem dX9_home_15 : decode cX9_home 15 = .ok (.getfield 86, 3) := by decide +kernel
theorem dX9_home_18 : decode cX9_home 18 = .ok (.ifCond .ne 14, 3) := by decide +kernel
theorem dX9_home_21 : decode cX9_home 21 = .ok (.aload_n 0, 1) := by decide +kernel
theorem dX9_home_22 : decode cX9_home 22 = .ok (.invokevirtual 89, 3) := by decide +kernel
theorem dX9_home_25 : decode cX9_home 25 = .ok (.ifCond .ne 7, 3) := by decide +kernel
theorem dX9_home_28 : decode cX9_home 28 = .ok (.iconst 1, 1) := by decide +kernel
theorem dX9_home_29 : decode cX9_home 29 = .ok (.goto 4, 3) := by decide +kernel
theorem dX9_home_32 : decode cX9_home 32 = .ok (.iconst 0, 1) := by decide +kernel
theorem dX9_home_33 : decode cX9_home 33 = .ok (.ireturn, 1) := by decide +kernel
theorem dX9_goHome_0 : decode cX9_goHome 0 = .ok (.aload_n 0, 1) := by decide +kernel
theorem dX9_goHome_1 : decode cX9_goHome 1 = .ok (.iconst 0, 1) := by decide +kernel
theorem dX9_goHome_2 : decode cX9_goHome 2 = .ok (.putfield 83, 3) := by decide +kernel
theorem dX9_goHome_5 : decode cX9_goHome 5 = .ok (.aload_n 0, 1) := by decide +kernel
theorem dX9_goHome_6 : decode cX9_goHome 6 = .ok (.iconst 0, 1) := by decide +kernel
theorem dX9_goHome_7 : decode cX9_goHome 7 = .ok (.putfield 77, 3) := by decide +kernel
theorem dX9_goHome_10 : decode cX9_goHome 10 = .ok (.aload_n 0, 1) := by decide +kernel
theorem dX9_goHome_11 : decode cX9_goHome 11 = .ok (.iconst 0, 1) := by decide +kernel
theorem dX9_goHome_12 : decode cX9_goHome 12 = .ok (.putfield 86, 3) := by decide +kernel
theorem dX9_goHome_15 : decode cX9_goHome 15 = .ok (.iconst 0, 1) := by decide +kernel
theorem dX9_goHome_16 : decode cX9_goHome 16 = .ok (.istore_n 1, 1) := by decide +kernel
theorem dX9_goHome_17 : decode cX9_goHome 17 = .ok (.iload_n 1, 1) := by decide +kernel
theorem dX9_goHome_18 : decode cX9_goHome 18 = .ok (.aload_n 0, 1) := by decide +kernel
theorem dX9_goHome_19 : decode cX9_goHome 19 = .ok (.getfield 62, 3) := by decide +kernel
theorem dX9_goHome_22 : decode cX9_goHome 22 = .ok (.if_icmp .ge 16, 3) := by decide +kernel
theorem dX9_goHome_25 : decode cX9_goHome 25 = .ok (.aload_n 0, 1) := by decide +kernel
theorem dX9_goHome_26 : decode cX9_goHome 26 = .ok (.getfield 31, 3) := by decide +kernel
theorem dX9_goHome_29 : decode cX9_goHome 29 = .ok (.iload_n 1, 1) := by decide +kernel
theorem dX9_goHome_30 : decode cX9_goHome 30 = .ok (.iconst 0, 1) := by decide +kernel
theorem dX9_goHome_31 : decode cX9_goHome 31 = .ok (.bastore, 1) := by decide +kernel
theorem dX9_goHome_32 : decode cX9_goHome 32 = .ok (.iinc 1 1, 3) := by decide +kernel
theorem dX9_goHome_35 : decode cX9_goHome 35 = .ok (.goto (-18), 3) := by decide +kernel
theorem dX9_goHome_38 : decode cX9_goHome 38 = .ok (.return_, 1) := by decide +kernel
theorem dX9_adds_0 : decode cX9_adds 0 = .ok (.aload_n 0, 1) := by decide +kernel
theorem dX9_adds_1 : decode cX9_adds 1 = .ok (.getfield 7, 3) := by decide +kernel
theorem dX9_adds_4 : decode cX9_adds 4 = .ok (.aload_n 0, 1) := by decide +kernel
theorem dX9_adds_5 : decode cX9_adds 5 = .ok (.getfield 62, 3) := by decide +kernel
theorem dX9_adds_8 : decode cX9_adds 8 = .ok (.iload_n 1, 1) := by decide +kernel
theorem dX9_adds_9 : decode cX9_adds 9 = .ok (.iastore, 1) := by decide +kernel
theorem dX9_adds_10 : decode cX9_adds 10 = .ok (.aload_n 0, 1) := by decide +kernel
theorem dX9_adds_11 : decode cX9_adds 11 = .ok (.getfield 13, 3) := by decide +kernel
theorem dX9_adds_14 : decode cX9_adds 14 = .ok (.aload_n 0, 1) := by decide +kernel
theorem dX9_adds_15 : decode cX9_adds 15 = .ok (.getfield 62, 3) := by decide +kernel
theorem dX9_adds_18 : decode cX9_adds 18 = .ok (.iload_n 2, 1) := by decide +kernel
theorem dX9_adds_19 : decode cX9_adds 19 = .ok (.iastore, 1) := by decide +kernel
theorem dX9_adds_20 : decode cX9_adds 20 = .ok (.aload_n 0, 1) := by decide +kernel
theorem dX9_adds_21 : decode cX9_adds 21 = .ok (.getfield 28, 3) := by decide +kernel
theorem dX9_adds_24 : decode cX9_adds 24 = .ok (.aload_n 0, 1) := by decide +kernel
theorem dX9_adds_25 : decode cX9_adds 25 = .ok (.getfield 62, 3) := by decide +kernel
theorem dX9_adds_28 : decode cX9_adds 28 = .ok (.iconst (-1), 1) := by decide +kernel
theorem dX9_adds_29 : decode cX9_adds 29 = .ok (.iastore, 1) := by decide +kernel
theorem dX9_adds_30 : decode cX9_adds 30 = .ok (.aload_n 0, 1) := by decide +kernel
theorem dX9_adds_31 : decode cX9_adds 31 = .ok (.dup, 1) := by decide +kernel
theorem dX9_adds_32 : decode cX9_adds 32 = .ok (.getfield 62, 3) := by decide +kernel
theorem dX9_adds_35 : decode cX9_adds 35 = .ok (.iconst 1, 1) := by decide +kernel
theorem dX9_adds_36 : decode cX9_adds 36 = .ok (.iadd, 1) := by decide +kernel
theorem dX9_adds_37 : decode cX9_adds 37 = .ok (.putfield 62, 3) := by decide +kernel
theorem dX9_adds_40 : decode cX9_adds 40 = .ok (.aload_n 0, 1) := by decide +kernel
theorem dX9_adds_41 : decode cX9_adds 41 = .ok (.getfield 62, 3) := by decide +kernel
theorem dX9_adds_44 : decode cX9_adds 44 = .ok (.iconst 1, 1) := by decide +kernel
theorem dX9_adds_45 : decode cX9_adds 45 = .ok (.isub, 1) := by decide +kernel
theorem dX9_adds_46 : decode cX9_adds 46 = .ok (.ireturn, 1) := by decide +kernel
theorem dX9_isMenu_0 : decode cX9_isMenu 0 = .ok (.aload_n 0, 1) := by decide +kernel
theorem dX9_isMenu_1 : decode cX9_isMenu 1 = .ok (.getfield 7, 3) := by decide +kernel
theorem dX9_isMenu_4 : decode cX9_isMenu 4 = .ok (.iload_n 1, 1) := by decide +kernel
theorem dX9_isMenu_5 : decode cX9_isMenu 5 = .ok (.iaload, 1) := by decide +kernel
theorem dX9_isMenu_6 : decode cX9_isMenu 6 = .ok (.ifCond .ne 7, 3) := by decide +kernel
theorem dX9_isMenu_9 : decode cX9_isMenu 9 = .ok (.iconst 1, 1) := by decide +kernel
theorem dX9_isMenu_10 : decode cX9_isMenu 10 = .ok (.goto 4, 3) := by decide +kernel
theorem dX9_isMenu_13 : decode cX9_isMenu 13 = .ok (.iconst 0, 1) := by decide +kernel
theorem dX9_isMenu_14 : decode cX9_isMenu 14 = .ok (.ireturn, 1) := by decide +kernel
theorem dX9_canAdd_0 : decode cX9_canAdd 0 = .ok (.aload_n 0, 1) := by decide +kernel
theorem dX9_canAdd_1 : decode cX9_canAdd 1 = .ok (.invokevirtual 93, 3) := by decide +kernel
theorem dX9_canAdd_4 : decode cX9_canAdd 4 = .ok (.ifCond .eq 26, 3) := by decide +kernel
theorem dX9_canAdd_7 : decode cX9_canAdd 7 = .ok (.aload_n 0, 1) := by decide +kernel
theorem dX9_canAdd_8 : decode cX9_canAdd 8 = .ok (.getfield 62, 3) := by decide +kernel
theorem dX9_canAdd_11 : decode cX9_canAdd 11 = .ok (.bipush 24, 2) := by decide +kernel
theorem dX9_canAdd_13 : decode cX9_canAdd 13 = .ok (.if_icmp .ge 17, 3) := by decide +kernel
theorem dX9_canAdd_16 : decode cX9_canAdd 16 = .ok (.aload_n 0, 1) := by decide +kernel
theorem dX9_canAdd_17 : decode cX9_canAdd 17 = .ok (.iload_n 1, 1) := by decide +kernel
theorem dX9_canAdd_18 : decode cX9_canAdd 18 = .ok (.invokevirtual 73, 3) := by decide +kernel
theorem dX9_canAdd_21 : decode cX9_canAdd 21 = .ok (.bipush 8, 2) := by decide +kernel
theorem dX9_canAdd_23 : decode cX9_canAdd 23 = .ok (.if_icmp .ge 7, 3) := by decide +kernel
theorem dX9_canAdd_26 : decode cX9_canAdd 26 = .ok (.iconst 1, 1) := by decide +kernel
theorem dX9_canAdd_27 : decode cX9_canAdd 27 = .ok (.goto 4, 3) := by decide +kernel
theorem dX9_canAdd_30 : decode cX9_canAdd 30 = .ok (.iconst 0, 1) := by decide +kernel
theorem dX9_canAdd_31 : decode cX9_canAdd 31 = .ok (.ireturn, 1) := by decide +kernel
theorem dX9_addMenu_0 : decode cX9_addMenu 0 = .ok (.aload_n 0, 1) := by decide +kernel
theorem dX9_addMenu_1 : decode cX9_addMenu 1 = .ok (.aload_n 0, 1) := by decide +kernel
theorem dX9_addMenu_2 : decode cX9_addMenu 2 = .ok (.iload_n 1, 1) := by decide +kernel
theorem dX9_addMenu_3 : decode cX9_addMenu 3 = .ok (.invokevirtual 96, 3) := by decide +kernel
theorem dX9_addMenu_6 : decode cX9_addMenu 6 = .ok (.ifCond .ne 7, 3) := by decide +kernel
theorem dX9_addMenu_9 : decode cX9_addMenu 9 = .ok (.iconst 1, 1) := by decide +kernel
theorem dX9_addMenu_10 : decode cX9_addMenu 10 = .ok (.goto 37, 3) := by decide +kernel
theorem dX9_addMenu_13 : decode cX9_addMenu 13 = .ok (.aload_n 0, 1) := by decide +kernel
theorem dX9_addMenu_14 : decode cX9_addMenu 14 = .ok (.iload_n 1, 1) := by decide +kernel
theorem dX9_addMenu_15 : decode cX9_addMenu 15 = .ok (.invokevirtual 100, 3) := by decide +kernel
theorem dX9_addMenu_18 : decode cX9_addMenu 18 = .ok (.ifCond .ne 7, 3) := by decide +kernel
theorem dX9_addMenu_21 : decode cX9_addMenu 21 = .ok (.iconst 2, 1) := by decide +kernel
theorem dX9_addMenu_22 : decode cX9_addMenu 22 = .ok (.goto 25, 3) := by decide +kernel
theorem dX9_addMenu_25 : decode cX9_addMenu 25 = .ok (.aload_n 0, 1) := by decide +kernel
theorem dX9_addMenu_26 : decode cX9_addMenu 26 = .ok (.iload_n 1, 1) := by decide +kernel
theorem dX9_addMenu_27 : decode cX9_addMenu 27 = .ok (.invokevirtual 103, 3) := by decide +kernel
theorem dX9_addMenu_30 : decode cX9_addMenu 30 = .ok (.ifCond .eq 12, 3) := by decide +kernel
theorem dX9_addMenu_33 : decode cX9_addMenu 33 = .ok (.aload_n 0, 1) := by decide +kernel
theorem dX9_addMenu_34 : decode cX9_addMenu 34 = .ok (.iload_n 1, 1) := by decide +kernel
theorem dX9_addMenu_35 : decode cX9_addMenu 35 = .ok (.invokevirtual 106, 3) := by decide +kernel
theorem dX9_addMenu_38 : decode cX9_addMenu 38 = .ok (.iconst 3, 1) := by decide +kernel
theorem dX9_addMenu_39 : decode cX9_addMenu 39 = .ok (.if_icmp .ne 7, 3) := by decide +kernel
theorem dX9_addMenu_42 : decode cX9_addMenu 42 = .ok (.iconst 3, 1) := by decide +kernel
theorem dX9_addMenu_43 : decode cX9_addMenu 43 = .ok (.goto 4, 3) := by decide +kernel
theorem dX9_addMenu_46 : decode cX9_addMenu 46 = .ok (.iconst 0, 1) := by decide +kernel
theorem dX9_addMenu_47 : decode cX9_addMenu 47 = .ok (.invokevirtual 109, 3) := by decide +kernel
theorem dX9_addMenu_50 : decode cX9_addMenu 50 = .ok (.ifCond .ne 5, 3) := by decide +kernel
theorem dX9_addMenu_53 : decode cX9_addMenu 53 = .ok (.iconst 0, 1) := by decide +kernel
theorem dX9_addMenu_54 : decode cX9_addMenu 54 = .ok (.ireturn, 1) := by decide +kernel
theorem dX9_addMenu_55 : decode cX9_addMenu 55 = .ok (.aload_n 0, 1) := by decide +kernel
theorem dX9_addMenu_56 : decode cX9_addMenu 56 = .ok (.iconst 0, 1) := by decide +kernel
theorem dX9_addMenu_57 : decode cX9_addMenu 57 = .ok (.iload_n 1, 1) := by decide +kernel
theorem dX9_addMenu_58 : decode cX9_addMenu 58 = .ok (.invokevirtual 112, 3) := by decide +kernel
theorem dX9_addMenu_61 : decode cX9_addMenu 61 = .ok (.ireturn, 1) := by decide +kernel
theorem dX9_addNumber_0 : decode cX9_addNumber 0 = .ok (.iload_n 2, 1) := by decide +kernel
theorem dX9_addNumber_1 : decode cX9_addNumber 1 = .ok (.sipush (-999), 3) := by decide +kernel
theorem dX9_addNumber_4 : decode cX9_addNumber 4 = .ok (.sipush 998, 3) := by decide +kernel
theorem dX9_addNumber_7 : decode cX9_addNumber 7 = .ok (.invokestatic 69, 3) := by decide +kernel
theorem dX9_addNumber_10 : decode cX9_addNumber 10 = .ok (.ifCond .eq 30, 3) := by decide +kernel
theorem dX9_addNumber_13 : decode cX9_addNumber 13 = .ok (.iload_n 3, 1) := by decide +kernel
theorem dX9_addNumber_14 : decode cX9_addNumber 14 = .ok (.iload_n 2, 1) := by decide +kernel
theorem dX9_addNumber_15 : decode cX9_addNumber 15 = .ok (.if_icmp .le 25, 3) := by decide +kernel
theorem dX9_addNumber_18 : decode cX9_addNumber 18 = .ok (.iload_n 3, 1) := by decide +kernel
theorem dX9_addNumber_19 : decode cX9_addNumber 19 = .ok (.sipush 999, 3) := by decide +kernel
theorem dX9_addNumber_22 : decode cX9_addNumber 22 = .ok (.if_icmp .gt 18, 3) := by decide +kernel
theorem dX9_addNumber_25 : decode cX9_addNumber 25 = .ok (.iload 4, 2) := by decide +kernel
theorem dX9_addNumber_27 : decode cX9_addNumber 27 = .ok (.iconst 1, 1) := by decide +kernel
theorem dX9_addNumber_28 : decode cX9_addNumber 28 = .ok (.bipush 100, 2) := by decide +kernel
theorem dX9_addNumber_30 : decode cX9_addNumber 30 = .ok (.invokestatic 69, 3) := by decide +kernel
theorem dX9_addNumber_33 : decode cX9_addNumber 33 = .ok (.ifCond .eq 7, 3) := by decide +kernel
theorem dX9_addNumber_36 : decode cX9_addNumber 36 = .ok (.iconst 1, 1) := by decide +kernel
theorem dX9_addNumber_37 : decode cX9_addNumber 37 = .ok (.goto 4, 3) := by decide +kernel
theorem dX9_addNumber_40 : decode cX9_addNumber 40 = .ok (.iconst 0, 1) := by decide +kernel
theorem dX9_addNumber_41 : decode cX9_addNumber 41 = .ok (.istore 5, 2) := by decide +kernel
theorem dX9_addNumber_43 : decode cX9_addNumber 43 = .ok (.aload_n 0, 1) := by decide +kernel
theorem dX9_addNumber_44 : decode cX9_addNumber 44 = .ok (.aload_n 0, 1) := by decide +kernel
theorem dX9_addNumber_45 : decode cX9_addNumber 45 = .ok (.iload_n 1, 1) := by decide +kernel
theorem dX9_addNumber_46 : decode cX9_addNumber 46 = .ok (.invokevirtual 96, 3) := by decide +kernel
theorem dX9_addNumber_49 : decode cX9_addNumber 49 = .ok (.ifCond .ne 7, 3) := by decide +kernel
theorem dX9_addNumber_52 : decode cX9_addNumber 52 = .ok (.iconst 1, 1) := by decide +kernel
theorem dX9_addNumber_53 : decode cX9_addNumber 53 = .ok (.goto 33, 3) := by decide +kernel
theorem dX9_addNumber_56 : decode cX9_addNumber 56 = .ok (.aload_n 0, 1) := by decide +kernel
theorem dX9_addNumber_57 : decode cX9_addNumber 57 = .ok (.iload_n 1, 1) := by decide +kernel
theorem dX9_addNumber_58 : decode cX9_addNumber 58 = .ok (.invokevirtual 100, 3) := by decide +kernel
theorem dX9_addNumber_61 : decode cX9_addNumber 61 = .ok (.ifCond .eq 8, 3) := by decide +kernel
theorem dX9_addNumber_64 : decode cX9_addNumber 64 = .ok (.iload 5, 2) := by decide +kernel
theorem dX9_addNumber_66 : decode cX9_addNumber 66 = .ok (.ifCond .ne 7, 3) := by decide +kernel
theorem dX9_addNumber_69 : decode cX9_addNumber 69 = .ok (.iconst 2, 1) := by decide +kernel
theorem dX9_addNumber_70 : decode cX9_addNumber 70 = .ok (.goto 16, 3) := by decide +kernel
theorem dX9_addNumber_73 : decode cX9_addNumber 73 = .ok (.aload_n 0, 1) := by decide +kernel
theorem dX9_addNumber_74 : decode cX9_addNumber 74 = .ok (.iload_n 1, 1) := by decide +kernel
theorem dX9_addNumber_75 : decode cX9_addNumber 75 = .ok (.invokevirtual 103, 3) := by decide +kernel
theorem dX9_addNumber_78 : decode cX9_addNumber 78 = .ok (.ifCond .ne 7, 3) := by decide +kernel
theorem dX9_addNumber_81 : decode cX9_addNumber 81 = .ok (.iconst 3, 1) := by decide +kernel
theorem dX9_addNumber_82 : decode cX9_addNumber 82 = .ok (.goto 4, 3) := by decide +kernel
theorem dX9_addNumber_85 : decode cX9_addNumber 85 = .ok (.iconst 0, 1) := by decide +kernel
theorem dX9_addNumber_86 : decode cX9_addNumber 86 = .ok (.invokevirtual 109, 3) := by decide +kernel
theorem dX9_addNumber_89 : decode cX9_addNumber 89 = .ok (.ifCond .ne 5, 3) := by decide +kernel
theorem dX9_addNumber_92 : decode cX9_addNumber 92 = .ok (.iconst 0, 1) := by decide +kernel
theorem dX9_addNumber_93 : decode cX9_addNumber 93 = .ok (.ireturn, 1) := by decide +kernel
theorem dX9_addNumber_94 : decode cX9_addNumber 94 = .ok (.aload_n 0, 1) := by decide +kernel
theorem dX9_addNumber_95 : decode cX9_addNumber 95 = .ok (.getfield 16, 3) := by decide +kernel
theorem dX9_addNumber_98 : decode cX9_addNumber 98 = .ok (.aload_n 0, 1) := by decide +kernel
theorem dX9_addNumber_99 : decode cX9_addNumber 99 = .ok (.getfield 62, 3) := by decide +kernel
theorem dX9_addNumber_102 : decode cX9_addNumber 102 = .ok (.iload_n 2, 1) := by decide +kernel
theorem dX9_addNumber_103 : decode cX9_addNumber 103 = .ok (.iastore, 1) := by decide +kernel
theorem dX9_addNumber_104 : decode cX9_addNumber 104 = .ok (.aload_n 0, 1) := by decide +kernel
theorem dX9_addNumber_105 : decode cX9_addNumber 105 = .ok (.getfield 19, 3) := by decide +kernel
theorem dX9_addNumber_108 : decode cX9_addNumber 108 = .ok (.aload_n 0, 1) := by decide +kernel
theorem dX9_addNumber_109 : decode cX9_addNumber 109 = .ok (.getfield 62, 3) := by decide +kernel
theorem dX9_addNumber_112 : decode cX9_addNumber 112 = .ok (.iload_n 3, 1) := by decide +kernel
theorem dX9_addNumber_113 : decode cX9_addNumber 113 = .ok (.iastore, 1) := by decide +kernel
theorem dX9_addNumber_114 : decode cX9_addNumber 114 = .ok (.aload_n 0, 1) := by decide +kernel
theorem dX9_addNumber_115 : decode cX9_addNumber 115 = .ok (.getfield 22, 3) := by decide +kernel
theorem dX9_addNumber_118 : decode cX9_addNumber 118 = .ok (.aload_n 0, 1) := by decide +kernel
theorem dX9_addNumber_119 : decode cX9_addNumber 119 = .ok (.getfield 62, 3) := by decide +kernel
theorem dX9_addNumber_122 : decode cX9_addNumber 122 = .ok (.iload 4, 2) := by decide +kernel
theorem dX9_addNumber_124 : decode cX9_addNumber 124 = .ok (.iastore, 1) := by decide +kernel
theorem dX9_addNumber_125 : decode cX9_addNumber 125 = .ok (.aload_n 0, 1) := by decide +kernel
theorem dX9_addNumber_126 : decode cX9_addNumber 126 = .ok (.getfield 25, 3) := by decide +kernel
theorem dX9_addNumber_129 : decode cX9_addNumber 129 = .ok (.aload_n 0, 1) := by decide +kernel
theorem dX9_addNumber_130 : decode cX9_addNumber 130 = .ok (.getfield 62, 3) := by decide +kernel
theorem dX9_addNumber_133 : decode cX9_addNumber 133 = .ok (.iload_n 2, 1) := by decide +kernel
theorem dX9_addNumber_134 : decode cX9_addNumber 134 = .ok (.iastore, 1) := by decide +kernel
theorem dX9_addNumber_135 : decode cX9_addNumber 135 = .ok (.aload_n 0, 1) := by decide +kernel
theorem dX9_addNumber_136 : decode cX9_addNumber 136 = .ok (.iconst 1, 1) := by decide +kernel
theorem dX9_addNumber_137 : decode cX9_addNumber 137 = .ok (.iload_n 1, 1) := by decide +kernel
theorem dX9_addNumber_138 : decode cX9_addNumber 138 = .ok (.invokevirtual 112, 3) := by decide +kernel
theorem dX9_addNumber_141 : decode cX9_addNumber 141 = .ok (.ireturn, 1) := by decide +kernel
theorem dX9_addChoice_0 : decode cX9_addChoice 0 = .ok (.aload_n 0, 1) := by decide +kernel
theorem dX9_addChoice_1 : decode cX9_addChoice 1 = .ok (.aload_n 0, 1) := by decide +kernel
theorem dX9_addChoice_2 : decode cX9_addChoice 2 = .ok (.iload_n 1, 1) := by decide +kernel
theorem dX9_addChoice_3 : decode cX9_addChoice 3 = .ok (.invokevirtual 96, 3) := by decide +kernel
theorem dX9_addChoice_6 : decode cX9_addChoice 6 = .ok (.ifCond .ne 7, 3) := by decide +kernel
theorem dX9_addChoice_9 : decode cX9_addChoice 9 = .ok (.iconst 1, 1) := by decide +kernel
theorem dX9_addChoice_10 : decode cX9_addChoice 10 = .ok (.goto 38, 3) := by decide +kernel
theorem dX9_addChoice_13 : decode cX9_addChoice 13 = .ok (.aload_n 0, 1) := by decide +kernel
theorem dX9_addChoice_14 : decode cX9_addChoice 14 = .ok (.iload_n 1, 1) := by decide +kernel
theorem dX9_addChoice_15 : decode cX9_addChoice 15 = .ok (.invokevirtual 100, 3) := by decide +kernel
theorem dX9_addChoice_18 : decode cX9_addChoice 18 = .ok (.ifCond .eq 13, 3) := by decide +kernel
theorem dX9_addChoice_21 : decode cX9_addChoice 21 = .ok (.iload_n 2, 1) := by decide +kernel
theorem dX9_addChoice_22 : decode cX9_addChoice 22 = .ok (.iconst 2, 1) := by decide +kernel
theorem dX9_addChoice_23 : decode cX9_addChoice 23 = .ok (.bipush 9, 2) := by decide +kernel
theorem dX9_addChoice_25 : decode cX9_addChoice 25 = .ok (.invokestatic 69, 3) := by decide +kernel
theorem dX9_addChoice_28 : decode cX9_addChoice 28 = .ok (.ifCond .ne 7, 3) := by decide +kernel
theorem dX9_addChoice_31 : decode cX9_addChoice 31 = .ok (.iconst 2, 1) := by decide +kernel
theorem dX9_addChoice_32 : decode cX9_addChoice 32 = .ok (.goto 16, 3) := by decide +kernel
theorem dX9_addChoice_35 : decode cX9_addChoice 35 = .ok (.aload_n 0, 1) := by decide +kernel
theorem dX9_addChoice_36 : decode cX9_addChoice 36 = .ok (.iload_n 1, 1) := by decide +kernel
theorem dX9_addChoice_37 : decode cX9_addChoice 37 = .ok (.invokevirtual 103, 3) := by decide +kernel
theorem dX9_addChoice_40 : decode cX9_addChoice 40 = .ok (.ifCond .ne 7, 3) := by decide +kernel
theorem dX9_addChoice_43 : decode cX9_addChoice 43 = .ok (.iconst 3, 1) := by decide +kernel
theorem dX9_addChoice_44 : decode cX9_addChoice 44 = .ok (.goto 4, 3) := by decide +kernel
theorem dX9_addChoice_47 : decode cX9_addChoice 47 = .ok (.iconst 0, 1) := by decide +kernel
theorem dX9_addChoice_48 : decode cX9_addChoice 48 = .ok (.invokevirtual 109, 3) := by decide +kernel
theorem dX9_addChoice_51 : decode cX9_addChoice 51 = .ok (.ifCond .ne 5, 3) := by decide +kernel
theorem dX9_addChoice_54 : decode cX9_addChoice 54 = .ok (.iconst 0, 1) := by decide +kernel
theorem dX9_addChoice_55 : decode cX9_addChoice 55 = .ok (.ireturn, 1) := by decide +kernel
theorem dX9_addChoice_56 : decode cX9_addChoice 56 = .ok (.aload_n 0, 1) := by decide +kernel
theorem dX9_addChoice_57 : decode cX9_addChoice 57 = .ok (.getfield 19, 3) := by decide +kernel
theorem dX9_addChoice_60 : decode cX9_addChoice 60 = .ok (.aload_n 0, 1) := by decide +kernel
theorem dX9_addChoice_61 : decode cX9_addChoice 61 = .ok (.getfield 62, 3) := by decide +kernel
theorem dX9_addChoice_64 : decode cX9_addChoice 64 = .ok (.iload_n 2, 1) := by decide +kernel
theorem dX9_addChoice_65 : decode cX9_addChoice 65 = .ok (.iconst 1, 1) := by decide +kernel
theorem dX9_addChoice_66 : decode cX9_addChoice 66 = .ok (.isub, 1) := by decide +kernel
theorem dX9_addChoice_67 : decode cX9_addChoice 67 = .ok (.iastore, 1) := by decide +kernel
theorem dX9_addChoice_68 : decode cX9_addChoice 68 = .ok (.aload_n 0, 1) := by decide +kernel
theorem dX9_addChoice_69 : decode cX9_addChoice 69 = .ok (.getfield 22, 3) := by decide +kernel
theorem dX9_addChoice_72 : decode cX9_addChoice 72 = .ok (.aload_n 0, 1) := by decide +kernel
theorem dX9_addChoice_73 : decode cX9_addChoice 73 = .ok (.getfield 62, 3) := by decide +kernel
theorem dX9_addChoice_76 : decode cX9_addChoice 76 = .ok (.iconst 1, 1) := by decide +kernel
theorem dX9_addChoice_77 : decode cX9_addChoice 77 = .ok (.iastore, 1) := by decide +kernel
theorem dX9_addChoice_78 : decode cX9_addChoice 78 = .ok (.aload_n 0, 1) := by decide +kernel
theorem dX9_addChoice_79 : decode cX9_addChoice 79 = .ok (.iconst 2, 1) := by decide +kernel
theorem dX9_addChoice_80 : decode cX9_addChoice 80 = .ok (.iload_n 1, 1) := by decide +kernel
theorem dX9_addChoice_81 : decode cX9_addChoice 81 = .ok (.invokevirtual 112, 3) := by decide +kernel
theorem dX9_addChoice_84 : decode cX9_addChoice 84 = .ok (.ireturn, 1) := by decide +kernel
theorem dX9_lock_0 : decode cX9_lock 0 = .ok (.aload_n 0, 1) := by decide +kernel
theorem dX9_lock_1 : decode cX9_lock 1 = .ok (.aload_n 0, 1) := by decide +kernel
theorem dX9_lock_2 : decode cX9_lock 2 = .ok (.iload_n 1, 1) := by decide +kernel
theorem dX9_lock_3 : decode cX9_lock 3 = .ok (.invokevirtual 96, 3) := by decide +kernel
theorem dX9_lock_6 : decode cX9_lock 6 = .ok (.ifCond .ne 7, 3) := by decide +kernel
theorem dX9_lock_9 : decode cX9_lock 9 = .ok (.iconst 1, 1) := by decide +kernel
theorem dX9_lock_10 : decode cX9_lock 10 = .ok (.goto 34, 3) := by decide +kernel
theorem dX9_lock_13 : decode cX9_lock 13 = .ok (.iload_n 1, 1) := by decide +kernel
theorem dX9_lock_14 : decode cX9_lock 14 = .ok (.ifCond .eq 14, 3) := by decide +kernel
theorem dX9_lock_17 : decode cX9_lock 17 = .ok (.iload_n 2, 1) := by decide +kernel
theorem dX9_lock_18 : decode cX9_lock 18 = .ok (.iconst (-1), 1) := by decide +kernel
theorem dX9_lock_19 : decode cX9_lock 19 = .ok (.sipush 9999, 3) := by decide +kernel
theorem dX9_lock_22 : decode cX9_lock 22 = .ok (.invokestatic 69, 3) := by decide +kernel
theorem dX9_lock_25 : decode cX9_lock 25 = .ok (.ifCond .ne 7, 3) := by decide +kernel
theorem dX9_lock_28 : decode cX9_lock 28 = .ok (.iconst 2, 1) := by decide +kernel
theorem dX9_lock_29 : decode cX9_lock 29 = .ok (.goto 15, 3) := by decide +kernel
theorem dX9_lock_32 : decode cX9_lock 32 = .ok (.aload_n 0, 1) := by decide +kernel
theorem dX9_lock_33 : decode cX9_lock 33 = .ok (.invokevirtual 93, 3) := by decide +kernel
theorem dX9_lock_36 : decode cX9_lock 36 = .ok (.ifCond .ne 7, 3) := by decide +kernel
theorem dX9_lock_39 : decode cX9_lock 39 = .ok (.iconst 3, 1) := by decide +kernel
theorem dX9_lock_40 : decode cX9_lock 40 = .ok (.goto 4, 3) := by decide +kernel
theorem dX9_lock_43 : decode cX9_lock 43 = .ok (.iconst 0, 1) := by decide +kernel
theorem dX9_lock_44 : decode cX9_lock 44 = .ok (.invokevirtual 109, 3) := by decide +kernel
theorem dX9_lock_47 : decode cX9_lock 47 = .ok (.ifCond .ne 5, 3) := by decide +kernel
theorem dX9_lock_50 : decode cX9_lock 50 = .ok (.iconst 0, 1) := by decide +kernel
theorem dX9_lock_51 : decode cX9_lock 51 = .ok (.ireturn, 1) := by decide +kernel
theorem dX9_lock_52 : decode cX9_lock 52 = .ok (.aload_n 0, 1) := by decide +kernel
theorem dX9_lock_53 : decode cX9_lock 53 = .ok (.getfield 28, 3) := by decide +kernel
theorem dX9_lock_56 : decode cX9_lock 56 = .ok (.iload_n 1, 1) := by decide +kernel
theorem dX9_lock_57 : decode cX9_lock 57 = .ok (.iaload, 1) := by decide +kernel
theorem dX9_lock_58 : decode cX9_lock 58 = .ok (.istore_n 3, 1) := by decide +kernel
theorem dX9_lock_59 : decode cX9_lock 59 = .ok (.aload_n 0, 1) := by decide +kernel
theorem dX9_lock_60 : decode cX9_lock 60 = .ok (.getfield 28, 3) := by decide +kernel
theorem dX9_lock_63 : decode cX9_lock 63 = .ok (.iload_n 1, 1) := by decide +kernel
theorem dX9_lock_64 : decode cX9_lock 64 = .ok (.iload_n 2, 1) := by decide +kernel
theorem dX9_lock_65 : decode cX9_lock 65 = .ok (.iastore, 1) := by decide +kernel
theorem dX9_lock_66 : decode cX9_lock 66 = .ok (.aload_n 0, 1) := by decide +kernel
theorem dX9_lock_67 : decode cX9_lock 67 = .ok (.getfield 31, 3) := by decide +kernel
theorem dX9_lock_70 : decode cX9_lock 70 = .ok (.iload_n 1, 1) := by decide +kernel
theorem dX9_lock_71 : decode cX9_lock 71 = .ok (.iconst 0, 1) := by decide +kernel
theorem dX9_lock_72 : decode cX9_lock 72 = .ok (.bastore, 1) := by decide +kernel
theorem dX9_lock_73 : decode cX9_lock 73 = .ok (.iload_n 3, 1) := by decide +kernel
theorem dX9_lock_74 : decode cX9_lock 74 = .ok (.ireturn, 1) := by decide +kernel
theorem dX9_items_0 : decode cX9_items 0 = .ok (.aload_n 0, 1) := by decide +kernel
theorem dX9_items_1 : decode cX9_items 1 = .ok (.iconst 0, 1) := by decide +kernel
theorem dX9_items_2 : decode cX9_items 2 = .ok (.putfield 66, 3) := by decide +kernel
theorem dX9_items_5 : decode cX9_items 5 = .ok (.aload_n 0, 1) := by decide +kernel
theorem dX9_items_6 : decode cX9_items 6 = .ok (.getfield 62, 3) := by decide +kernel
theorem dX9_items_9 : decode cX9_items 9 = .ok (.ireturn, 1) := by decide +kernel
theorem dX9_kind_0 : decode cX9_kind 0 = .ok (.aload_n 0, 1) := by decide +kernel
theorem dX9_kind_1 : decode cX9_kind 1 = .ok (.aload_n 0, 1) := by decide +kernel
theorem dX9_kind_2 : decode cX9_kind 2 = .ok (.iload_n 1, 1) := by decide +kernel
theorem dX9_kind_3 : decode cX9_kind 3 = .ok (.invokevirtual 96, 3) := by decide +kernel
theorem dX9_kind_6 : decode cX9_kind 6 = .ok (.ifCond .eq 7, 3) := by decide +kernel
theorem dX9_kind_9 : decode cX9_kind 9 = .ok (.iconst 0, 1) := by decide +kernel
theorem dX9_kind_10 : decode cX9_kind 10 = .ok (.goto 4, 3) := by decide +kernel
theorem dX9_kind_13 : decode cX9_kind 13 = .ok (.iconst 1, 1) := by decide +kernel
theorem dX9_kind_14 : decode cX9_kind 14 = .ok (.invokevirtual 109, 3) := by decide +kernel
theorem dX9_kind_17 : decode cX9_kind 17 = .ok (.ifCond .eq 12, 3) := by decide +kernel
theorem dX9_kind_20 : decode cX9_kind 20 = .ok (.aload_n 0, 1) := by decide +kernel
theorem dX9_kind_21 : decode cX9_kind 21 = .ok (.getfield 7, 3) := by decide +kernel
theorem dX9_kind_24 : decode cX9_kind 24 = .ok (.iload_n 1, 1) := by decide +kernel
theorem dX9_kind_25 : decode cX9_kind 25 = .ok (.iaload, 1) := by decide +kernel
theorem dX9_kind_26 : decode cX9_kind 26 = .ok (.goto 4, 3) := by decide +kernel
theorem dX9_kind_29 : decode cX9_kind 29 = .ok (.iconst 0, 1) := by decide +kernel
theorem dX9_kind_30 : decode cX9_kind 30 = .ok (.ireturn, 1) := by decide +kernel
theorem dX9_menuOf_0 : decode cX9_menuOf 0 = .ok (.aload_n 0, 1) := by decide +kernel
theorem dX9_menuOf_1 : decode cX9_menuOf 1 = .ok (.aload_n 0, 1) := by decide +kernel
theorem dX9_menuOf_2 : decode cX9_menuOf 2 = .ok (.iload_n 1, 1) := by decide +kernel
theorem dX9_menuOf_3 : decode cX9_menuOf 3 = .ok (.invokevirtual 96, 3) := by decide +kernel
theorem dX9_menuOf_6 : decode cX9_menuOf 6 = .ok (.ifCond .eq 7, 3) := by decide +kernel
theorem dX9_menuOf_9 : decode cX9_menuOf 9 = .ok (.iconst 0, 1) := by decide +kernel
theorem dX9_menuOf_10 : decode cX9_menuOf 10 = .ok (.goto 4, 3) := by decide +kernel
theorem dX9_menuOf_13 : decode cX9_menuOf 13 = .ok (.iconst 1, 1) := by decide +kernel
theorem dX9_menuOf_14 : decode cX9_menuOf 14 = .ok (.invokevirtual 109, 3) := by decide +kernel
theorem dX9_menuOf_17 : decode cX9_menuOf 17 = .ok (.ifCond .eq 12, 3) := by decide +kernel
theorem dX9_menuOf_20 : decode cX9_menuOf 20 = .ok (.aload_n 0, 1) := by decide +kernel
theorem dX9_menuOf_21 : decode cX9_menuOf 21 = .ok (.getfield 13, 3) := by decide +kernel
theorem dX9_menuOf_24 : decode cX9_menuOf 24 = .ok (.iload_n 1, 1) := by decide +kernel
theorem dX9_menuOf_25 : decode cX9_menuOf 25 = .ok (.iaload, 1) := by decide +kernel
theorem dX9_menuOf_26 : decode cX9_menuOf 26 = .ok (.goto 4, 3) := by decide +kernel
theorem dX9_menuOf_29 : decode cX9_menuOf 29 = .ok (.iconst 0, 1) := by decide +kernel
theorem dX9_menuOf_30 : decode cX9_menuOf 30 = .ok (.ireturn, 1) := by decide +kernel
theorem dX9_value_0 : decode cX9_value 0 = .ok (.aload_n 0, 1) := by decide +kernel
theorem dX9_value_1 : decode cX9_value 1 = .ok (.aload_n 0, 1) := by decide +kernel
theorem dX9_value_2 : decode cX9_value 2 = .ok (.iload_n 1, 1) := by decide +kernel
theorem dX9_value_3 : decode cX9_value 3 = .ok (.invokevirtual 96, 3) := by decide +kernel
theorem dX9_value_6 : decode cX9_value 6 = .ok (.ifCond .ne 7, 3) := by decide +kernel
theorem dX9_value_9 : decode cX9_value 9 = .ok (.iconst 1, 1) := by decide +kernel
theorem dX9_value_10 : decode cX9_value 10 = .ok (.goto 16, 3) := by decide +kernel
theorem dX9_value_13 : decode cX9_value 13 = .ok (.aload_n 0, 1) := by decide +kernel
theorem dX9_value_14 : decode cX9_value 14 = .ok (.iload_n 1, 1) := by decide +kernel
theorem dX9_value_15 : decode cX9_value 15 = .ok (.invokevirtual 100, 3) := by decide +kernel
theorem dX9_value_18 : decode cX9_value 18 = .ok (.ifCond .eq 7, 3) := by decide +kernel
theorem dX9_value_21 : decode cX9_value 21 = .ok (.iconst 2, 1) := by decide +kernel
theorem dX9_value_22 : decode cX9_value 22 = .ok (.goto 4, 3) := by decide +kernel
theorem dX9_value_25 : decode cX9_value 25 = .ok (.iconst 0, 1) := by decide +kernel
theorem dX9_value_26 : decode cX9_value 26 = .ok (.invokevirtual 109, 3) := by decide +kernel
theorem dX9_value_29 : decode cX9_value 29 = .ok (.ifCond .eq 12, 3) := by decide +kernel
theorem dX9_value_32 : decode cX9_value 32 = .ok (.aload_n 0, 1) := by decide +kernel
theorem dX9_value_33 : decode cX9_value 33 = .ok (.getfield 25, 3) := by decide +kernel
theorem dX9_value_36 : decode cX9_value 36 = .ok (.iload_n 1, 1) := by decide +kernel
theorem dX9_value_37 : decode cX9_value 37 = .ok (.iaload, 1) := by decide +kernel
theorem dX9_value_38 : decode cX9_value 38 = .ok (.goto 4, 3) := by decide +kernel
theorem dX9_value_41 : decode cX9_value 41 = .ok (.iconst 0, 1) := by decide +kernel
theorem dX9_value_42 : decode cX9_value 42 = .ok (.ireturn, 1) := by decide +kernel
theorem dX9_isClosed_0 : decode cX9_isClosed 0 = .ok (.aload_n 0, 1) := by decide +kernel
theorem dX9_isClosed_1 : decode cX9_isClosed 1 = .ok (.aload_n 0, 1) := by decide +kernel
theorem dX9_isClosed_2 : decode cX9_isClosed 2 = .ok (.iload_n 1, 1) := by decide +kernel
theorem dX9_isClosed_3 : decode cX9_isClosed 3 = .ok (.invokevirtual 96, 3) := by decide +kernel
theorem dX9_isClosed_6 : decode cX9_isClosed 6 = .ok (.ifCond .eq 7, 3) := by decide +kernel
theorem dX9_isClosed_9 : decode cX9_isClosed 9 = .ok (.iconst 0, 1) := by decide +kernel
theorem dX9_isClosed_10 : decode cX9_isClosed 10 = .ok (.goto 4, 3) := by decide +kernel
theorem dX9_isClosed_13 : decode cX9_isClosed 13 = .ok (.iconst 1, 1) := by decide +kernel
theorem dX9_isClosed_14 : decode cX9_isClosed 14 = .ok (.invokevirtual 109, 3) := by decide +kernel
theorem dX9_isClosed_17 : decode cX9_isClosed 17 = .ok (.ifCond .eq 15, 3) := by decide +kernel
theorem dX9_isClosed_20 : decode cX9_isClosed 20 = .ok (.aload_n 0, 1) := by decide +kernel
theorem dX9_isClosed_21 : decode cX9_isClosed 21 = .ok (.iload_n 1, 1) := by decide +kernel
theorem dX9_isClosed_22 : decode cX9_isClosed 22 = .ok (.invokevirtual 116, 3) := by decide +kernel
theorem dX9_isClosed_25 : decode cX9_isClosed 25 = .ok (.ifCond .eq 7, 3) := by decide +kernel
theorem dX9_isClosed_28 : decode cX9_isClosed 28 = .ok (.iconst 1, 1) := by decide +kernel
theorem dX9_isClosed_29 : decode cX9_isClosed 29 = .ok (.goto 4, 3) := by decide +kernel
theorem dX9_isClosed_32 : decode cX9_isClosed 32 = .ok (.iconst 0, 1) := by decide +kernel
theorem dX9_isClosed_33 : decode cX9_isClosed 33 = .ok (.ireturn, 1) := by decide +kernel
theorem dX9_inRing_0 : decode cX9_inRing 0 = .ok (.iload_n 0, 1) := by decide +kernel
theorem dX9_inRing_1 : decode cX9_inRing 1 = .ok (.iload_n 1, 1) := by decide +kernel
theorem dX9_inRing_2 : decode cX9_inRing 2 = .ok (.irem, 1) := by decide +kernel
theorem dX9_inRing_3 : decode cX9_inRing 3 = .ok (.istore_n 2, 1) := by decide +kernel
theorem dX9_inRing_4 : decode cX9_inRing 4 = .ok (.iload_n 2, 1) := by decide +kernel
theorem dX9_inRing_5 : decode cX9_inRing 5 = .ok (.ifCond .ge 9, 3) := by decide +kernel
theorem dX9_inRing_8 : decode cX9_inRing 8 = .ok (.iload_n 2, 1) := by decide +kernel
theorem dX9_inRing_9 : decode cX9_inRing 9 = .ok (.iload_n 1, 1) := by decide +kernel
theorem dX9_inRing_10 : decode cX9_inRing 10 = .ok (.iadd, 1) := by decide +kernel
theorem dX9_inRing_11 : decode cX9_inRing 11 = .ok (.goto 4, 3) := by decide +kernel
theorem dX9_inRing_14 : decode cX9_inRing 14 = .ok (.iload_n 2, 1) := by decide +kernel
theorem dX9_inRing_15 : decode cX9_inRing 15 = .ok (.ireturn, 1) := by decide +kernel
theorem dX9_within_0 : decode cX9_within 0 = .ok (.iload_n 0, 1) := by decide +kernel
theorem dX9_within_1 : decode cX9_within 1 = .ok (.iload_n 1, 1) := by decide +kernel
theorem dX9_within_2 : decode cX9_within 2 = .ok (.if_icmp .ge 7, 3) := by decide +kernel
theorem dX9_within_5 : decode cX9_within 5 = .ok (.iload_n 1, 1) := by decide +kernel
theorem dX9_within_6 : decode cX9_within 6 = .ok (.goto 13, 3) := by decide +kernel
theorem dX9_within_9 : decode cX9_within 9 = .ok (.iload_n 0, 1) := by decide +kernel
theorem dX9_within_10 : decode cX9_within 10 = .ok (.iload_n 2, 1) := by decide +kernel
theorem dX9_within_11 : decode cX9_within 11 = .ok (.if_icmp .le 7, 3) := by decide +kernel
theorem dX9_within_14 : decode cX9_within 14 = .ok (.iload_n 2, 1) := by decide +kernel
theorem dX9_within_15 : decode cX9_within 15 = .ok (.goto 4, 3) := by decide +kernel
theorem dX9_within_18 : decode cX9_within 18 = .ok (.iload_n 0, 1) := by decide +kernel
theorem dX9_within_19 : decode cX9_within 19 = .ok (.ireturn, 1) := by decide +kernel
theorem dX9_turned_0 : decode cX9_turned 0 = .ok (.aload_n 0, 1) := by decide +kernel
theorem dX9_turned_1 : decode cX9_turned 1 = .ok (.getfield 83, 3) := by decide +kernel
theorem dX9_turned_4 : decode cX9_turned 4 = .ok (.iconst 2, 1) := by decide +kernel
theorem dX9_turned_5 : decode cX9_turned 5 = .ok (.if_icmp .ne 20, 3) := by decide +kernel
theorem dX9_turned_8 : decode cX9_turned 8 = .ok (.aload_n 0, 1) := by decide +kernel
theorem dX9_turned_9 : decode cX9_turned 9 = .ok (.getfield 35, 3) := by decide +kernel
theorem dX9_turned_12 : decode cX9_turned 12 = .ok (.aload_n 0, 1) := by decide +kernel
theorem dX9_turned_13 : decode cX9_turned 13 = .ok (.getfield 119, 3) := by decide +kernel
theorem dX9_turned_16 : decode cX9_turned 16 = .ok (.iaload, 1) := by decide +kernel
theorem dX9_turned_17 : decode cX9_turned 17 = .ok (.iload_n 1, 1) := by decide +kernel
theorem dX9_turned_18 : decode cX9_turned 18 = .ok (.iadd, 1) := by decide +kernel
theorem dX9_turned_19 : decode cX9_turned 19 = .ok (.bipush 10, 2) := by decide +kernel
theorem dX9_turned_21 : decode cX9_turned 21 = .ok (.invokestatic 122, 3) := by decide +kernel
theorem dX9_turned_24 : decode cX9_turned 24 = .ok (.ireturn, 1) := by decide +kernel
theorem dX9_turned_25 : decode cX9_turned 25 = .ok (.aload_n 0, 1) := by decide +kernel
theorem dX9_turned_26 : decode cX9_turned 26 = .ok (.aload_n 0, 1) := by decide +kernel
theorem dX9_turned_27 : decode cX9_turned 27 = .ok (.getfield 86, 3) := by decide +kernel
theorem dX9_turned_30 : decode cX9_turned 30 = .ok (.invokevirtual 125, 3) := by decide +kernel
theorem dX9_turned_33 : decode cX9_turned 33 = .ok (.istore_n 2, 1) := by decide +kernel
theorem dX9_turned_34 : decode cX9_turned 34 = .ok (.aload_n 0, 1) := by decide +kernel
theorem dX9_turned_35 : decode cX9_turned 35 = .ok (.getfield 83, 3) := by decide +kernel
theorem dX9_turned_38 : decode cX9_turned 38 = .ok (.iconst 1, 1) := by decide +kernel
theorem dX9_turned_39 : decode cX9_turned 39 = .ok (.if_icmp .ne 90, 3) := by decide +kernel
theorem dX9_turned_42 : decode cX9_turned 42 = .ok (.aload_n 0, 1) := by decide +kernel
theorem dX9_turned_43 : decode cX9_turned 43 = .ok (.getfield 7, 3) := by decide +kernel
theorem dX9_turned_46 : decode cX9_turned 46 = .ok (.iload_n 2, 1) := by decide +kernel
theorem dX9_turned_47 : decode cX9_turned 47 = .ok (.iaload, 1) := by decide +kernel
theorem dX9_turned_48 : decode cX9_turned 48 = .ok (.iconst 1, 1) := by decide +kernel
theorem dX9_turned_49 : decode cX9_turned 49 = .ok (.if_icmp .ne 19, 3) := by decide +kernel
theorem dX9_turned_52 : decode cX9_turned 52 = .ok (.iload_n 1, 1) := by decide +kernel
theorem dX9_turned_53 : decode cX9_turned 53 = .ok (.bipush (-4), 2) := by decide +kernel
theorem dX9_turned_55 : decode cX9_turned 55 = .ok (.iconst 4, 1) := by decide +kernel
theorem dX9_turned_56 : decode cX9_turned 56 = .ok (.invokestatic 69, 3) := by decide +kernel
theorem dX9_turned_59 : decode cX9_turned 59 = .ok (.ifCond .ne 9, 3) := by decide +kernel
theorem dX9_turned_62 : decode cX9_turned 62 = .ok (.iconst 2, 1) := by decide +kernel
theorem dX9_turned_63 : decode cX9_turned 63 = .ok (.iload_n 1, 1) := by decide +kernel
theorem dX9_turned_64 : decode cX9_turned 64 = .ok (.imul, 1) := by decide +kernel
theorem dX9_turned_65 : decode cX9_turned 65 = .ok (.goto 4, 3) := by decide +kernel
theorem dX9_turned_68 : decode cX9_turned 68 = .ok (.iload_n 1, 1) := by decide +kernel
theorem dX9_turned_69 : decode cX9_turned 69 = .ok (.istore_n 3, 1) := by decide +kernel
theorem dX9_turned_70 : decode cX9_turned 70 = .ok (.aload_n 0, 1) := by decide +kernel
theorem dX9_turned_71 : decode cX9_turned 71 = .ok (.getfield 7, 3) := by decide +kernel
theorem dX9_turned_74 : decode cX9_turned 74 = .ok (.iload_n 2, 1) := by decide +kernel
theorem dX9_turned_75 : decode cX9_turned 75 = .ok (.iaload, 1) := by decide +kernel
theorem dX9_turned_76 : decode cX9_turned 76 = .ok (.iconst 1, 1) := by decide +kernel
theorem dX9_turned_77 : decode cX9_turned 77 = .ok (.if_icmp .ne 34, 3) := by decide +kernel
theorem dX9_turned_80 : decode cX9_turned 80 = .ok (.aload_n 0, 1) := by decide +kernel
theorem dX9_turned_81 : decode cX9_turned 81 = .ok (.getfield 128, 3) := by decide +kernel
theorem dX9_turned_84 : decode cX9_turned 84 = .ok (.iload_n 3, 1) := by decide +kernel
theorem dX9_turned_85 : decode cX9_turned 85 = .ok (.aload_n 0, 1) := by decide +kernel
theorem dX9_turned_86 : decode cX9_turned 86 = .ok (.getfield 22, 3) := by decide +kernel
theorem dX9_turned_89 : decode cX9_turned 89 = .ok (.iload_n 2, 1) := by decide +kernel
theorem dX9_turned_90 : decode cX9_turned 90 = .ok (.iaload, 1) := by decide +kernel
theorem dX9_turned_91 : decode cX9_turned 91 = .ok (.imul, 1) := by decide +kernel
theorem dX9_turned_92 : decode cX9_turned 92 = .ok (.iadd, 1) := by decide +kernel
theorem dX9_turned_93 : decode cX9_turned 93 = .ok (.aload_n 0, 1) := by decide +kernel
theorem dX9_turned_94 : decode cX9_turned 94 = .ok (.getfield 16, 3) := by decide +kernel
theorem dX9_turned_97 : decode cX9_turned 97 = .ok (.iload_n 2, 1) := by decide +kernel
theorem dX9_turned_98 : decode cX9_turned 98 = .ok (.iaload, 1) := by decide +kernel
theorem dX9_turned_99 : decode cX9_turned 99 = .ok (.aload_n 0, 1) := by decide +kernel
theorem dX9_turned_100 : decode cX9_turned 100 = .ok (.getfield 19, 3) := by decide +kernel
theorem dX9_turned_103 : decode cX9_turned 103 = .ok (.iload_n 2, 1) := by decide +kernel
theorem dX9_turned_104 : decode cX9_turned 104 = .ok (.iaload, 1) := by decide +kernel
theorem dX9_turned_105 : decode cX9_turned 105 = .ok (.invokestatic 131, 3) := by decide +kernel
theorem dX9_turned_108 : decode cX9_turned 108 = .ok (.goto 20, 3) := by decide +kernel
theorem dX9_turned_111 : decode cX9_turned 111 = .ok (.aload_n 0, 1) := by decide +kernel
theorem dX9_turned_112 : decode cX9_turned 112 = .ok (.getfield 128, 3) := by decide +kernel
theorem dX9_turned_115 : decode cX9_turned 115 = .ok (.iload_n 1, 1) := by decide +kernel
theorem dX9_turned_116 : decode cX9_turned 116 = .ok (.iadd, 1) := by decide +kernel
theorem dX9_turned_117 : decode cX9_turned 117 = .ok (.aload_n 0, 1) := by decide +kernel
theorem dX9_turned_118 : decode cX9_turned 118 = .ok (.getfield 19, 3) := by decide +kernel
theorem dX9_turned_121 : decode cX9_turned 121 = .ok (.iload_n 2, 1) := by decide +kernel
theorem dX9_turned_122 : decode cX9_turned 122 = .ok (.iaload, 1) := by decide +kernel
theorem dX9_turned_123 : decode cX9_turned 123 = .ok (.iconst 1, 1) := by decide +kernel
theorem dX9_turned_124 : decode cX9_turned 124 = .ok (.iadd, 1) := by decide +kernel
theorem dX9_turned_125 : decode cX9_turned 125 = .ok (.invokestatic 122, 3) := by decide +kernel
theorem dX9_turned_128 : decode cX9_turned 128 = .ok (.ireturn, 1) := by decide +kernel
theorem dX9_turned_129 : decode cX9_turned 129 = .ok (.aload_n 0, 1) := by decide +kernel
theorem dX9_turned_130 : decode cX9_turned 130 = .ok (.aload_n 0, 1) := by decide +kernel
theorem dX9_turned_131 : decode cX9_turned 131 = .ok (.getfield 77, 3) := by decide +kernel
theorem dX9_turned_134 : decode cX9_turned 134 = .ok (.invokevirtual 135, 3) := by decide +kernel
theorem dX9_turned_137 : decode cX9_turned 137 = .ok (.istore_n 3, 1) := by decide +kernel
theorem dX9_turned_138 : decode cX9_turned 138 = .ok (.iload_n 3, 1) := by decide +kernel
theorem dX9_turned_139 : decode cX9_turned 139 = .ok (.ifCond .ne 5, 3) := by decide +kernel
theorem dX9_turned_142 : decode cX9_turned 142 = .ok (.iconst 0, 1) := by decide +kernel
theorem dX9_turned_143 : decode cX9_turned 143 = .ok (.ireturn, 1) := by decide +kernel
theorem dX9_turned_144 : decode cX9_turned 144 = .ok (.aload_n 0, 1) := by decide +kernel
theorem dX9_turned_145 : decode cX9_turned 145 = .ok (.getfield 38, 3) := by decide +kernel
theorem dX9_turned_148 : decode cX9_turned 148 = .ok (.iconst 2, 1) := by decide +kernel
theorem dX9_turned_149 : decode cX9_turned 149 = .ok (.iaload, 1) := by decide +kernel
theorem dX9_turned_150 : decode cX9_turned 150 = .ok (.iconst 1, 1) := by decide +kernel
theorem dX9_turned_151 : decode cX9_turned 151 = .ok (.if_icmp .ne 16, 3) := by decide +kernel
theorem dX9_turned_154 : decode cX9_turned 154 = .ok (.aload_n 0, 1) := by decide +kernel
theorem dX9_turned_155 : decode cX9_turned 155 = .ok (.getfield 86, 3) := by decide +kernel
theorem dX9_turned_158 : decode cX9_turned 158 = .ok (.iload_n 1, 1) := by decide +kernel
theorem dX9_turned_159 : decode cX9_turned 159 = .ok (.iadd, 1) := by decide +kernel
theorem dX9_turned_160 : decode cX9_turned 160 = .ok (.iload_n 3, 1) := by decide +kernel
theorem dX9_turned_161 : decode cX9_turned 161 = .ok (.invokestatic 122, 3) := by decide +kernel
theorem dX9_turned_164 : decode cX9_turned 164 = .ok (.goto 16, 3) := by decide +kernel
theorem dX9_turned_167 : decode cX9_turned 167 = .ok (.aload_n 0, 1) := by decide +kernel
theorem dX9_turned_168 : decode cX9_turned 168 = .ok (.getfield 86, 3) := by decide +kernel
theorem dX9_turned_171 : decode cX9_turned 171 = .ok (.iload_n 1, 1) := by decide +kernel
theorem dX9_turned_172 : decode cX9_turned 172 = .ok (.iadd, 1) := by decide +kernel
theorem dX9_turned_173 : decode cX9_turned 173 = .ok (.iconst 0, 1) := by decide +kernel
theorem dX9_turned_174 : decode cX9_turned 174 = .ok (.iload_n 3, 1) := by decide +kernel
theorem dX9_turned_175 : decode cX9_turned 175 = .ok (.iconst 1, 1) := by decide +kernel
theorem dX9_turned_176 : decode cX9_turned 176 = .ok (.isub, 1) := by decide +kernel
theorem dX9_turned_177 : decode cX9_turned 177 = .ok (.invokestatic 131, 3) := by decide +kernel
theorem dX9_turned_180 : decode cX9_turned 180 = .ok (.ireturn, 1) := by decide +kernel
theorem dX9_turns_0 : decode cX9_turns 0 = .ok (.aload_n 0, 1) := by decide +kernel
theorem dX9_turns_1 : decode cX9_turns 1 = .ok (.iload_n 1, 1) := by decide +kernel
theorem dX9_turns_2 : decode cX9_turns 2 = .ok (.invokevirtual 138, 3) := by decide +kernel
theorem dX9_turns_5 : decode cX9_turns 5 = .ok (.istore_n 2, 1) := by decide +kernel
theorem dX9_turns_6 : decode cX9_turns 6 = .ok (.aload_n 0, 1) := by decide +kernel
theorem dX9_turns_7 : decode cX9_turns 7 = .ok (.iconst 0, 1) := by decide +kernel
theorem dX9_turns_8 : decode cX9_turns 8 = .ok (.putfield 141, 3) := by decide +kernel
theorem dX9_turns_11 : decode cX9_turns 11 = .ok (.aload_n 0, 1) := by decide +kernel
theorem dX9_turns_12 : decode cX9_turns 12 = .ok (.getfield 41, 3) := by decide +kernel
theorem dX9_turns_15 : decode cX9_turns 15 = .ok (.iconst 0, 1) := by decide +kernel
theorem dX9_turns_16 : decode cX9_turns 16 = .ok (.dup2, 1) := by decide +kernel
theorem dX9_turns_17 : decode cX9_turns 17 = .ok (.iaload, 1) := by decide +kernel
theorem dX9_turns_18 : decode cX9_turns 18 = .ok (.iload_n 1, 1) := by decide +kernel
theorem dX9_turns_19 : decode cX9_turns 19 = .ok (.ifCond .ge 8, 3) := by decide +kernel
theorem dX9_turns_22 : decode cX9_turns 22 = .ok (.iload_n 1, 1) := by decide +kernel
theorem dX9_turns_23 : decode cX9_turns 23 = .ok (.ineg, 1) := by decide +kernel
theorem dX9_turns_24 : decode cX9_turns 24 = .ok (.goto 4, 3) := by decide +kernel
theorem dX9_turns_27 : decode cX9_turns 27 = .ok (.iload_n 1, 1) := by decide +kernel
theorem dX9_turns_28 : decode cX9_turns 28 = .ok (.iadd, 1) := by decide +kernel
theorem dX9_turns_29 : decode cX9_turns 29 = .ok (.iastore, 1) := by decide +kernel
theorem dX9_turns_30 : decode cX9_turns 30 = .ok (.aload_n 0, 1) := by decide +kernel
theorem dX9_turns_31 : decode cX9_turns 31 = .ok (.getfield 83, 3) := by decide +kernel
theorem dX9_turns_34 : decode cX9_turns 34 = .ok (.ifCond .ne 11, 3) := by decide +kernel
theorem dX9_turns_37 : decode cX9_turns 37 = .ok (.aload_n 0, 1) := by decide +kernel
theorem dX9_turns_38 : decode cX9_turns 38 = .ok (.iload_n 2, 1) := by decide +kernel
theorem dX9_turns_39 : decode cX9_turns 39 = .ok (.putfield 86, 3) := by decide +kernel
theorem dX9_turns_42 : decode cX9_turns 42 = .ok (.goto 29, 3) := by decide +kernel
theorem dX9_turns_45 : decode cX9_turns 45 = .ok (.aload_n 0, 1) := by decide +kernel
theorem dX9_turns_46 : decode cX9_turns 46 = .ok (.getfield 83, 3) := by decide +kernel
theorem dX9_turns_49 : decode cX9_turns 49 = .ok (.iconst 1, 1) := by decide +kernel
theorem dX9_turns_50 : decode cX9_turns 50 = .ok (.if_icmp .ne 11, 3) := by decide +kernel
theorem dX9_turns_53 : decode cX9_turns 53 = .ok (.aload_n 0, 1) := by decide +kernel
theorem dX9_turns_54 : decode cX9_turns 54 = .ok (.iload_n 2, 1) := by decide +kernel
theorem dX9_turns_55 : decode cX9_turns 55 = .ok (.putfield 128, 3) := by decide +kernel
theorem dX9_turns_58 : decode cX9_turns 58 = .ok (.goto 13, 3) := by decide +kernel
theorem dX9_turns_61 : decode cX9_turns 61 = .ok (.aload_n 0, 1) := by decide +kernel
theorem dX9_turns_62 : decode cX9_turns 62 = .ok (.getfield 35, 3) := by decide +kernel
theorem dX9_turns_65 : decode cX9_turns 65 = .ok (.aload_n 0, 1) := by decide +kernel
theorem dX9_turns_66 : decode cX9_turns 66 = .ok (.getfield 119, 3) := by decide +kernel
theorem dX9_turns_69 : decode cX9_turns 69 = .ok (.iload_n 2, 1) := by decide +kernel
theorem dX9_turns_70 : decode cX9_turns 70 = .ok (.iastore, 1) := by decide +kernel
theorem dX9_turns_71 : decode cX9_turns 71 = .ok (.iload_n 2, 1) := by decide +kernel
theorem dX9_turns_72 : decode cX9_turns 72 = .ok (.ireturn, 1) := by decide +kernel
theorem dX9_turn_0 : decode cX9_turn 0 = .ok (.aload_n 0, 1) := by decide +kernel
theorem dX9_turn_1 : decode cX9_turn 1 = .ok (.iload_n 1, 1) := by decide +kernel
theorem dX9_turn_2 : decode cX9_turn 2 = .ok (.bipush (-50), 2) := by decide +kernel
theorem dX9_turn_4 : decode cX9_turn 4 = .ok (.bipush 50, 2) := by decide +kernel
theorem dX9_turn_6 : decode cX9_turn 6 = .ok (.invokestatic 69, 3) := by decide +kernel
theorem dX9_turn_9 : decode cX9_turn 9 = .ok (.ifCond .eq 7, 3) := by decide +kernel
theorem dX9_turn_12 : decode cX9_turn 12 = .ok (.iconst 0, 1) := by decide +kernel
theorem dX9_turn_13 : decode cX9_turn 13 = .ok (.goto 4, 3) := by decide +kernel
theorem dX9_turn_16 : decode cX9_turn 16 = .ok (.iconst 1, 1) := by decide +kernel
theorem dX9_turn_17 : decode cX9_turn 17 = .ok (.invokevirtual 109, 3) := by decide +kernel
theorem dX9_turn_20 : decode cX9_turn 20 = .ok (.ifCond .eq 11, 3) := by decide +kernel
theorem dX9_turn_23 : decode cX9_turn 23 = .ok (.aload_n 0, 1) := by decide +kernel
theorem dX9_turn_24 : decode cX9_turn 24 = .ok (.iload_n 1, 1) := by decide +kernel
theorem dX9_turn_25 : decode cX9_turn 25 = .ok (.invokevirtual 144, 3) := by decide +kernel
theorem dX9_turn_28 : decode cX9_turn 28 = .ok (.goto 4, 3) := by decide +kernel
theorem dX9_turn_31 : decode cX9_turn 31 = .ok (.iconst 0, 1) := by decide +kernel
theorem dX9_turn_32 : decode cX9_turn 32 = .ok (.ireturn, 1) := by decide +kernel
theorem dX9_logs_0 : decode cX9_logs 0 = .ok (.iconst 1, 1) := by decide +kernel
theorem dX9_logs_1 : decode cX9_logs 1 = .ok (.istore_n 3, 1) := by decide +kernel
theorem dX9_logs_2 : decode cX9_logs 2 = .ok (.iload_n 3, 1) := by decide +kernel
theorem dX9_logs_3 : decode cX9_logs 3 = .ok (.bipush 8, 2) := by decide +kernel
theorem dX9_logs_5 : decode cX9_logs 5 = .ok (.if_icmp .ge 46, 3) := by decide +kernel
theorem dX9_logs_8 : decode cX9_logs 8 = .ok (.aload_n 0, 1) := by decide +kernel
theorem dX9_logs_9 : decode cX9_logs 9 = .ok (.getfield 147, 3) := by decide +kernel
theorem dX9_logs_12 : decode cX9_logs 12 = .ok (.bipush 8, 2) := by decide +kernel
theorem dX9_logs_14 : decode cX9_logs 14 = .ok (.if_icmp .ne 37, 3) := by decide +kernel
theorem dX9_logs_17 : decode cX9_logs 17 = .ok (.aload_n 0, 1) := by decide +kernel
theorem dX9_logs_18 : decode cX9_logs 18 = .ok (.getfield 44, 3) := by decide +kernel
theorem dX9_logs_21 : decode cX9_logs 21 = .ok (.iload_n 3, 1) := by decide +kernel
theorem dX9_logs_22 : decode cX9_logs 22 = .ok (.iconst 1, 1) := by decide +kernel
theorem dX9_logs_23 : decode cX9_logs 23 = .ok (.isub, 1) := by decide +kernel
theorem dX9_logs_24 : decode cX9_logs 24 = .ok (.aload_n 0, 1) := by decide +kernel
theorem dX9_logs_25 : decode cX9_logs 25 = .ok (.getfield 44, 3) := by decide +kernel
theorem dX9_logs_28 : decode cX9_logs 28 = .ok (.iload_n 3, 1) := by decide +kernel
theorem dX9_logs_29 : decode cX9_logs 29 = .ok (.iaload, 1) := by decide +kernel
theorem dX9_logs_30 : decode cX9_logs 30 = .ok (.iastore, 1) := by decide +kernel
theorem dX9_logs_31 : decode cX9_logs 31 = .ok (.aload_n 0, 1) := by decide +kernel
theorem dX9_logs_32 : decode cX9_logs 32 = .ok (.getfield 47, 3) := by decide +kernel
theorem dX9_logs_35 : decode cX9_logs 35 = .ok (.iload_n 3, 1) := by decide +kernel
theorem dX9_logs_36 : decode cX9_logs 36 = .ok (.iconst 1, 1) := by decide +kernel
theorem dX9_logs_37 : decode cX9_logs 37 = .ok (.isub, 1) := by decide +kernel
theorem dX9_logs_38 : decode cX9_logs 38 = .ok (.aload_n 0, 1) := by decide +kernel
theorem dX9_logs_39 : decode cX9_logs 39 = .ok (.getfield 47, 3) := by decide +kernel
theorem dX9_logs_42 : decode cX9_logs 42 = .ok (.iload_n 3, 1) := by decide +kernel
theorem dX9_logs_43 : decode cX9_logs 43 = .ok (.iaload, 1) := by decide +kernel
theorem dX9_logs_44 : decode cX9_logs 44 = .ok (.iastore, 1) := by decide +kernel
theorem dX9_logs_45 : decode cX9_logs 45 = .ok (.iinc 3 1, 3) := by decide +kernel
theorem dX9_logs_48 : decode cX9_logs 48 = .ok (.goto (-46), 3) := by decide +kernel
theorem dX9_logs_51 : decode cX9_logs 51 = .ok (.aload_n 0, 1) := by decide +kernel
theorem dX9_logs_52 : decode cX9_logs 52 = .ok (.dup, 1) := by decide +kernel
theorem dX9_logs_53 : decode cX9_logs 53 = .ok (.getfield 147, 3) := by decide +kernel
theorem dX9_logs_56 : decode cX9_logs 56 = .ok (.aload_n 0, 1) := by decide +kernel
theorem dX9_logs_57 : decode cX9_logs 57 = .ok (.getfield 147, 3) := by decide +kernel
theorem dX9_logs_60 : decode cX9_logs 60 = .ok (.bipush 8, 2) := by decide +kernel
theorem dX9_logs_62 : decode cX9_logs 62 = .ok (.if_icmp .ne 7, 3) := by decide +kernel
theorem dX9_logs_65 : decode cX9_logs 65 = .ok (.iconst 1, 1) := by decide +kernel
theorem dX9_logs_66 : decode cX9_logs 66 = .ok (.goto 4, 3) := by decide +kernel
theorem dX9_logs_69 : decode cX9_logs 69 = .ok (.iconst 0, 1) := by decide +kernel
theorem dX9_logs_70 : decode cX9_logs 70 = .ok (.isub, 1) := by decide +kernel
theorem dX9_logs_71 : decode cX9_logs 71 = .ok (.putfield 147, 3) := by decide +kernel
theorem dX9_logs_74 : decode cX9_logs 74 = .ok (.aload_n 0, 1) := by decide +kernel
theorem dX9_logs_75 : decode cX9_logs 75 = .ok (.getfield 44, 3) := by decide +kernel
theorem dX9_logs_78 : decode cX9_logs 78 = .ok (.aload_n 0, 1) := by decide +kernel
theorem dX9_logs_79 : decode cX9_logs 79 = .ok (.getfield 147, 3) := by decide +kernel
theorem dX9_logs_82 : decode cX9_logs 82 = .ok (.iload_n 1, 1) := by decide +kernel
theorem dX9_logs_83 : decode cX9_logs 83 = .ok (.iastore, 1) := by decide +kernel
theorem dX9_logs_84 : decode cX9_logs 84 = .ok (.aload_n 0, 1) := by decide +kernel
theorem dX9_logs_85 : decode cX9_logs 85 = .ok (.getfield 47, 3) := by decide +kernel
theorem dX9_logs_88 : decode cX9_logs 88 = .ok (.aload_n 0, 1) := by decide +kernel
theorem dX9_logs_89 : decode cX9_logs 89 = .ok (.getfield 147, 3) := by decide +kernel
theorem dX9_logs_92 : decode cX9_logs 92 = .ok (.iload_n 2, 1) := by decide +kernel
theorem dX9_logs_93 : decode cX9_logs 93 = .ok (.iastore, 1) := by decide +kernel
theorem dX9_logs_94 : decode cX9_logs 94 = .ok (.aload_n 0, 1) := by decide +kernel
theorem dX9_logs_95 : decode cX9_logs 95 = .ok (.dup, 1) := by decide +kernel
theorem dX9_logs_96 : decode cX9_logs 96 = .ok (.getfield 147, 3) := by decide +kernel
theorem dX9_logs_99 : decode cX9_logs 99 = .ok (.iconst 1, 1) := by decide +kernel
theorem dX9_logs_100 : decode cX9_logs 100 = .ok (.iadd, 1) := by decide +kernel
theorem dX9_logs_101 : decode cX9_logs 101 = .ok (.putfield 147, 3) := by decide +kernel
theorem dX9_logs_104 : decode cX9_logs 104 = .ok (.return_, 1) := by decide +kernel
theorem dX9_goesOn_0 : decode cX9_goesOn 0 = .ok (.aload_n 0, 1) := by decide +kernel
theorem dX9_goesOn_1 : decode cX9_goesOn 1 = .ok (.aload_n 0, 1) := by decide +kernel
theorem dX9_goesOn_2 : decode cX9_goesOn 2 = .ok (.getfield 86, 3) := by decide +kernel
theorem dX9_goesOn_5 : decode cX9_goesOn 5 = .ok (.invokevirtual 125, 3) := by decide +kernel
theorem dX9_goesOn_8 : decode cX9_goesOn 8 = .ok (.istore_n 1, 1) := by decide +kernel
theorem dX9_goesOn_9 : decode cX9_goesOn 9 = .ok (.iload_n 1, 1) := by decide +kernel
theorem dX9_goesOn_10 : decode cX9_goesOn 10 = .ok (.iconst (-1), 1) := by decide +kernel
theorem dX9_goesOn_11 : decode cX9_goesOn 11 = .ok (.if_icmp .ne 43, 3) := by decide +kernel
theorem dX9_goesOn_14 : decode cX9_goesOn 14 = .ok (.aload_n 0, 1) := by decide +kernel
theorem dX9_goesOn_15 : decode cX9_goesOn 15 = .ok (.aload_n 0, 1) := by decide +kernel
theorem dX9_goesOn_16 : decode cX9_goesOn 16 = .ok (.getfield 77, 3) := by decide +kernel
theorem dX9_goesOn_19 : decode cX9_goesOn 19 = .ok (.invokevirtual 135, 3) := by decide +kernel
theorem dX9_goesOn_22 : decode cX9_goesOn 22 = .ok (.ifCond .ne 5, 3) := by decide +kernel
theorem dX9_goesOn_25 : decode cX9_goesOn 25 = .ok (.iconst 0, 1) := by decide +kernel
theorem dX9_goesOn_26 : decode cX9_goesOn 26 = .ok (.ireturn, 1) := by decide +kernel
theorem dX9_goesOn_27 : decode cX9_goesOn 27 = .ok (.aload_n 0, 1) := by decide +kernel
theorem dX9_goesOn_28 : decode cX9_goesOn 28 = .ok (.aload_n 0, 1) := by decide +kernel
theorem dX9_goesOn_29 : decode cX9_goesOn 29 = .ok (.aload_n 0, 1) := by decide +kernel
theorem dX9_goesOn_30 : decode cX9_goesOn 30 = .ok (.getfield 77, 3) := by decide +kernel
theorem dX9_goesOn_33 : decode cX9_goesOn 33 = .ok (.invokevirtual 80, 3) := by decide +kernel
theorem dX9_goesOn_36 : decode cX9_goesOn 36 = .ok (.putfield 86, 3) := by decide +kernel
theorem dX9_goesOn_39 : decode cX9_goesOn 39 = .ok (.aload_n 0, 1) := by decide +kernel
theorem dX9_goesOn_40 : decode cX9_goesOn 40 = .ok (.aload_n 0, 1) := by decide +kernel
theorem dX9_goesOn_41 : decode cX9_goesOn 41 = .ok (.getfield 13, 3) := by decide +kernel
theorem dX9_goesOn_44 : decode cX9_goesOn 44 = .ok (.aload_n 0, 1) := by decide +kernel
theorem dX9_goesOn_45 : decode cX9_goesOn 45 = .ok (.getfield 77, 3) := by decide +kernel
theorem dX9_goesOn_48 : decode cX9_goesOn 48 = .ok (.iaload, 1) := by decide +kernel
theorem dX9_goesOn_49 : decode cX9_goesOn 49 = .ok (.putfield 77, 3) := by decide +kernel
theorem dX9_goesOn_52 : decode cX9_goesOn 52 = .ok (.iconst 1, 1) := by decide +kernel
theorem dX9_goesOn_53 : decode cX9_goesOn 53 = .ok (.ireturn, 1) := by decide +kernel
theorem dX9_goesOn_54 : decode cX9_goesOn 54 = .ok (.aload_n 0, 1) := by decide +kernel
theorem dX9_goesOn_55 : decode cX9_goesOn 55 = .ok (.iload_n 1, 1) := by decide +kernel
theorem dX9_goesOn_56 : decode cX9_goesOn 56 = .ok (.invokevirtual 116, 3) := by decide +kernel
theorem dX9_goesOn_59 : decode cX9_goesOn 59 = .ok (.ifCond .eq 45, 3) := by decide +kernel
theorem dX9_goesOn_62 : decode cX9_goesOn 62 = .ok (.aload_n 0, 1) := by decide +kernel
theorem dX9_goesOn_63 : decode cX9_goesOn 63 = .ok (.getfield 150, 3) := by decide +kernel
theorem dX9_goesOn_66 : decode cX9_goesOn 66 = .ok (.ifCond .le 6, 3) := by decide +kernel
theorem dX9_goesOn_69 : decode cX9_goesOn 69 = .ok (.bipush 9, 2) := by decide +kernel
theorem dX9_goesOn_71 : decode cX9_goesOn 71 = .ok (.ireturn, 1) := by decide +kernel
theorem dX9_goesOn_72 : decode cX9_goesOn 72 = .ok (.aload_n 0, 1) := by decide +kernel
theorem dX9_goesOn_73 : decode cX9_goesOn 73 = .ok (.iconst 2, 1) := by decide +kernel
theorem dX9_goesOn_74 : decode cX9_goesOn 74 = .ok (.putfield 83, 3) := by decide +kernel
theorem dX9_goesOn_77 : decode cX9_goesOn 77 = .ok (.aload_n 0, 1) := by decide +kernel
theorem dX9_goesOn_78 : decode cX9_goesOn 78 = .ok (.iconst 0, 1) := by decide +kernel
theorem dX9_goesOn_79 : decode cX9_goesOn 79 = .ok (.putfield 119, 3) := by decide +kernel
theorem dX9_goesOn_82 : decode cX9_goesOn 82 = .ok (.iconst 0, 1) := by decide +kernel
theorem dX9_goesOn_83 : decode cX9_goesOn 83 = .ok (.istore_n 2, 1) := by decide +kernel
theorem dX9_goesOn_84 : decode cX9_goesOn 84 = .ok (.iload_n 2, 1) := by decide +kernel
theorem dX9_goesOn_85 : decode cX9_goesOn 85 = .ok (.iconst 4, 1) := by decide +kernel
theorem dX9_goesOn_86 : decode cX9_goesOn 86 = .ok (.if_icmp .ge 16, 3) := by decide +kernel
theorem dX9_goesOn_89 : decode cX9_goesOn 89 = .ok (.aload_n 0, 1) := by decide +kernel
theorem dX9_goesOn_90 : decode cX9_goesOn 90 = .ok (.getfield 35, 3) := by decide +kernel
theorem dX9_goesOn_93 : decode cX9_goesOn 93 = .ok (.iload_n 2, 1) := by decide +kernel
theorem dX9_goesOn_94 : decode cX9_goesOn 94 = .ok (.iconst 0, 1) := by decide +kernel
theorem dX9_goesOn_95 : decode cX9_goesOn 95 = .ok (.iastore, 1) := by decide +kernel
theorem dX9_goesOn_96 : decode cX9_goesOn 96 = .ok (.iinc 2 1, 3) := by decide +kernel
theorem dX9_goesOn_99 : decode cX9_goesOn 99 = .ok (.goto (-15), 3) := by decide +kernel
theorem dX9_goesOn_102 : decode cX9_goesOn 102 = .ok (.iconst 5, 1) := by decide +kernel
theorem dX9_goesOn_103 : decode cX9_goesOn 103 = .ok (.ireturn, 1) := by decide +kernel
theorem dX9_goesOn_104 : decode cX9_goesOn 104 = .ok (.aload_n 0, 1) := by decide +kernel
theorem dX9_goesOn_105 : decode cX9_goesOn 105 = .ok (.iload_n 1, 1) := by decide +kernel
theorem dX9_goesOn_106 : decode cX9_goesOn 106 = .ok (.invokevirtual 100, 3) := by decide +kernel
theorem dX9_goesOn_109 : decode cX9_goesOn 109 = .ok (.ifCond .eq 15, 3) := by decide +kernel
theorem dX9_goesOn_112 : decode cX9_goesOn 112 = .ok (.aload_n 0, 1) := by decide +kernel
theorem dX9_goesOn_113 : decode cX9_goesOn 113 = .ok (.iload_n 1, 1) := by decide +kernel
theorem dX9_goesOn_114 : decode cX9_goesOn 114 = .ok (.putfield 77, 3) := by decide +kernel
theorem dX9_goesOn_117 : decode cX9_goesOn 117 = .ok (.aload_n 0, 1) := by decide +kernel
theorem dX9_goesOn_118 : decode cX9_goesOn 118 = .ok (.iconst 0, 1) := by decide +kernel
theorem dX9_goesOn_119 : decode cX9_goesOn 119 = .ok (.putfield 86, 3) := by decide +kernel
theorem dX9_goesOn_122 : decode cX9_goesOn 122 = .ok (.iconst 2, 1) := by decide +kernel
theorem dX9_goesOn_123 : decode cX9_goesOn 123 = .ok (.ireturn, 1) := by decide +kernel
theorem dX9_goesOn_124 : decode cX9_goesOn 124 = .ok (.aload_n 0, 1) := by decide +kernel
theorem dX9_goesOn_125 : decode cX9_goesOn 125 = .ok (.iconst 1, 1) := by decide +kernel
theorem dX9_goesOn_126 : decode cX9_goesOn 126 = .ok (.putfield 83, 3) := by decide +kernel
theorem dX9_goesOn_129 : decode cX9_goesOn 129 = .ok (.aload_n 0, 1) := by decide +kernel
theorem dX9_goesOn_130 : decode cX9_goesOn 130 = .ok (.aload_n 0, 1) := by decide +kernel
theorem dX9_goesOn_131 : decode cX9_goesOn 131 = .ok (.getfield 25, 3) := by decide +kernel
theorem dX9_goesOn_134 : decode cX9_goesOn 134 = .ok (.iload_n 1, 1) := by decide +kernel
theorem dX9_goesOn_135 : decode cX9_goesOn 135 = .ok (.iaload, 1) := by decide +kernel
theorem dX9_goesOn_136 : decode cX9_goesOn 136 = .ok (.putfield 128, 3) := by decide +kernel
theorem dX9_goesOn_139 : decode cX9_goesOn 139 = .ok (.iconst 3, 1) := by decide +kernel
theorem dX9_goesOn_140 : decode cX9_goesOn 140 = .ok (.ireturn, 1) := by decide +kernel
theorem dX9_codeDone_0 : decode cX9_codeDone 0 = .ok (.aload_n 0, 1) := by decide +kernel
theorem dX9_codeDone_1 : decode cX9_codeDone 1 = .ok (.getfield 119, 3) := by decide +kernel
theorem dX9_codeDone_4 : decode cX9_codeDone 4 = .ok (.iconst 3, 1) := by decide +kernel
theorem dX9_codeDone_5 : decode cX9_codeDone 5 = .ok (.if_icmp .ge 16, 3) := by decide +kernel
theorem dX9_codeDone_8 : decode cX9_codeDone 8 = .ok (.aload_n 0, 1) := by decide +kernel
theorem dX9_codeDone_9 : decode cX9_codeDone 9 = .ok (.dup, 1) := by decide +kernel
theorem dX9_codeDone_10 : decode cX9_codeDone 10 = .ok (.getfield 119, 3) := by decide +kernel
theorem dX9_codeDone_13 : decode cX9_codeDone 13 = .ok (.iconst 1, 1) := by decide +kernel
theorem dX9_codeDone_14 : decode cX9_codeDone 14 = .ok (.iadd, 1) := by decide +kernel
theorem dX9_codeDone_15 : decode cX9_codeDone 15 = .ok (.putfield 119, 3) := by decide +kernel
theorem dX9_codeDone_18 : decode cX9_codeDone 18 = .ok (.bipush 6, 2) := by decide +kernel
theorem dX9_codeDone_20 : decode cX9_codeDone 20 = .ok (.ireturn, 1) := by decide +kernel
theorem dX9_codeDone_21 : decode cX9_codeDone 21 = .ok (.aload_n 0, 1) := by decide +kernel
theorem dX9_codeDone_22 : decode cX9_codeDone 22 = .ok (.aload_n 0, 1) := by decide +kernel
theorem dX9_codeDone_23 : decode cX9_codeDone 23 = .ok (.getfield 86, 3) := by decide +kernel
theorem dX9_codeDone_26 : decode cX9_codeDone 26 = .ok (.invokevirtual 125, 3) := by decide +kernel
theorem dX9_codeDone_29 : decode cX9_codeDone 29 = .ok (.istore_n 1, 1) := by decide +kernel
theorem dX9_codeDone_30 : decode cX9_codeDone 30 = .ok (.aload_n 0, 1) := by decide +kernel
theorem dX9_codeDone_31 : decode cX9_codeDone 31 = .ok (.iconst 0, 1) := by decide +kernel
theorem dX9_codeDone_32 : decode cX9_codeDone 32 = .ok (.putfield 83, 3) := by decide +kernel
theorem dX9_codeDone_35 : decode cX9_codeDone 35 = .ok (.aload_n 0, 1) := by decide +kernel
theorem dX9_codeDone_36 : decode cX9_codeDone 36 = .ok (.getfield 28, 3) := by decide +kernel
theorem dX9_codeDone_39 : decode cX9_codeDone 39 = .ok (.iload_n 1, 1) := by decide +kernel
theorem dX9_codeDone_40 : decode cX9_codeDone 40 = .ok (.iaload, 1) := by decide +kernel
theorem dX9_codeDone_41 : decode cX9_codeDone 41 = .ok (.sipush 1000, 3) := by decide +kernel
theorem dX9_codeDone_44 : decode cX9_codeDone 44 = .ok (.aload_n 0, 1) := by decide +kernel
theorem dX9_codeDone_45 : decode cX9_codeDone 45 = .ok (.getfield 35, 3) := by decide +kernel
theorem dX9_codeDone_48 : decode cX9_codeDone 48 = .ok (.iconst 0, 1) := by decide +kernel
theorem dX9_codeDone_49 : decode cX9_codeDone 49 = .ok (.iaload, 1) := by decide +kernel
theorem dX9_codeDone_50 : decode cX9_codeDone 50 = .ok (.imul, 1) := by decide +kernel
theorem dX9_codeDone_51 : decode cX9_codeDone 51 = .ok (.bipush 100, 2) := by decide +kernel
theorem dX9_codeDone_53 : decode cX9_codeDone 53 = .ok (.aload_n 0, 1) := by decide +kernel
theorem dX9_codeDone_54 : decode cX9_codeDone 54 = .ok (.getfield 35, 3) := by decide +kernel
theorem dX9_codeDone_57 : decode cX9_codeDone 57 = .ok (.iconst 1, 1) := by decide +kernel
theorem dX9_codeDone_58 : decode cX9_codeDone 58 = .ok (.iaload, 1) := by decide +kernel
theorem dX9_codeDone_59 : decode cX9_codeDone 59 = .ok (.imul, 1) := by decide +kernel
theorem dX9_codeDone_60 : decode cX9_codeDone 60 = .ok (.iadd, 1) := by decide +kernel
theorem dX9_codeDone_61 : decode cX9_codeDone 61 = .ok (.bipush 10, 2) := by decide +kernel
theorem dX9_codeDone_63 : decode cX9_codeDone 63 = .ok (.aload_n 0, 1) := by decide +kernel
theorem dX9_codeDone_64 : decode cX9_codeDone 64 = .ok (.getfield 35, 3) := by decide +kernel
theorem dX9_codeDone_67 : decode cX9_codeDone 67 = .ok (.iconst 2, 1) := by decide +kernel
theorem dX9_codeDone_68 : decode cX9_codeDone 68 = .ok (.iaload, 1) := by decide +kernel
theorem dX9_codeDone_69 : decode cX9_codeDone 69 = .ok (.imul, 1) := by decide +kernel
theorem dX9_codeDone_70 : decode cX9_codeDone 70 = .ok (.iadd, 1) := by decide +kernel
theorem dX9_codeDone_71 : decode cX9_codeDone 71 = .ok (.aload_n 0, 1) := by decide +kernel
theorem dX9_codeDone_72 : decode cX9_codeDone 72 = .ok (.getfield 35, 3) := by decide +kernel
theorem dX9_codeDone_75 : decode cX9_codeDone 75 = .ok (.iconst 3, 1) := by decide +kernel
theorem dX9_codeDone_76 : decode cX9_codeDone 76 = .ok (.iaload, 1) := by decide +kernel
theorem dX9_codeDone_77 : decode cX9_codeDone 77 = .ok (.iadd, 1) := by decide +kernel
theorem dX9_codeDone_78 : decode cX9_codeDone 78 = .ok (.if_icmp .ne 18, 3) := by decide +kernel
theorem dX9_codeDone_81 : decode cX9_codeDone 81 = .ok (.aload_n 0, 1) := by decide +kernel
theorem dX9_codeDone_82 : decode cX9_codeDone 82 = .ok (.getfield 31, 3) := by decide +kernel
theorem dX9_codeDone_85 : decode cX9_codeDone 85 = .ok (.iload_n 1, 1) := by decide +kernel
theorem dX9_codeDone_86 : decode cX9_codeDone 86 = .ok (.iconst 1, 1) := by decide +kernel
theorem dX9_codeDone_87 : decode cX9_codeDone 87 = .ok (.bastore, 1) := by decide +kernel
theorem dX9_codeDone_88 : decode cX9_codeDone 88 = .ok (.aload_n 0, 1) := by decide +kernel
theorem dX9_codeDone_89 : decode cX9_codeDone 89 = .ok (.iconst 0, 1) := by decide +kernel
theorem dX9_codeDone_90 : decode cX9_codeDone 90 = .ok (.putfield 153, 3) := by decide +kernel
theorem dX9_codeDone_93 : decode cX9_codeDone 93 = .ok (.bipush 7, 2) := by decide +kernel
theorem dX9_codeDone_95 : decode cX9_codeDone 95 = .ok (.ireturn, 1) := by decide +kernel
theorem dX9_codeDone_96 : decode cX9_codeDone 96 = .ok (.aload_n 0, 1) := by decide +kernel
theorem dX9_codeDone_97 : decode cX9_codeDone 97 = .ok (.getfield 41, 3) := by decide +kernel
theorem dX9_codeDone_100 : decode cX9_codeDone 100 = .ok (.iconst 4, 1) := by decide +kernel
theorem dX9_codeDone_101 : decode cX9_codeDone 101 = .ok (.dup2, 1) := by decide +kernel
theorem dX9_codeDone_102 : decode cX9_codeDone 102 = .ok (.iaload, 1) := by decide +kernel
theorem dX9_codeDone_103 : decode cX9_codeDone 103 = .ok (.iconst 1, 1) := by decide +kernel
theorem dX9_codeDone_104 : decode cX9_codeDone 104 = .ok (.iadd, 1) := by decide +kernel
theorem dX9_codeDone_105 : decode cX9_codeDone 105 = .ok (.iastore, 1) := by decide +kernel
theorem dX9_codeDone_106 : decode cX9_codeDone 106 = .ok (.aload_n 0, 1) := by decide +kernel
theorem dX9_codeDone_107 : decode cX9_codeDone 107 = .ok (.dup, 1) := by decide +kernel
theorem dX9_codeDone_108 : decode cX9_codeDone 108 = .ok (.getfield 153, 3) := by decide +kernel
theorem dX9_codeDone_111 : decode cX9_codeDone 111 = .ok (.iconst 1, 1) := by decide +kernel
theorem dX9_codeDone_112 : decode cX9_codeDone 112 = .ok (.iadd, 1) := by decide +kernel
theorem dX9_codeDone_113 : decode cX9_codeDone 113 = .ok (.putfield 153, 3) := by decide +kernel
theorem dX9_codeDone_116 : decode cX9_codeDone 116 = .ok (.aload_n 0, 1) := by decide +kernel
theorem dX9_codeDone_117 : decode cX9_codeDone 117 = .ok (.getfield 153, 3) := by decide +kernel
theorem dX9_codeDone_120 : decode cX9_codeDone 120 = .ok (.iconst 3, 1) := by decide +kernel
theorem dX9_codeDone_121 : decode cX9_codeDone 121 = .ok (.if_icmp .ne 24, 3) := by decide +kernel
theorem dX9_codeDone_124 : decode cX9_codeDone 124 = .ok (.aload_n 0, 1) := by decide +kernel
theorem dX9_codeDone_125 : decode cX9_codeDone 125 = .ok (.iconst 0, 1) := by decide +kernel
theorem dX9_codeDone_126 : decode cX9_codeDone 126 = .ok (.putfield 153, 3) := by decide +kernel
theorem dX9_codeDone_129 : decode cX9_codeDone 129 = .ok (.aload_n 0, 1) := by decide +kernel
theorem dX9_codeDone_130 : decode cX9_codeDone 130 = .ok (.bipush 30, 2) := by decide +kernel
theorem dX9_codeDone_132 : decode cX9_codeDone 132 = .ok (.putfield 150, 3) := by decide +kernel
theorem dX9_codeDone_135 : decode cX9_codeDone 135 = .ok (.aload_n 0, 1) := by decide +kernel
theorem dX9_codeDone_136 : decode cX9_codeDone 136 = .ok (.getfield 41, 3) := by decide +kernel
theorem dX9_codeDone_139 : decode cX9_codeDone 139 = .ok (.iconst 5, 1) := by decide +kernel
theorem dX9_codeDone_140 : decode cX9_codeDone 140 = .ok (.dup2, 1) := by decide +kernel
theorem dX9_codeDone_141 : decode cX9_codeDone 141 = .ok (.iaload, 1) := by decide +kernel
theorem dX9_codeDone_142 : decode cX9_codeDone 142 = .ok (.iconst 1, 1) := by decide +kernel
theorem dX9_codeDone_143 : decode cX9_codeDone 143 = .ok (.iadd, 1) := by decide +kernel
theorem dX9_codeDone_144 : decode cX9_codeDone 144 = .ok (.iastore, 1) := by decide +kernel
theorem dX9_codeDone_145 : decode cX9_codeDone 145 = .ok (.bipush 8, 2) := by decide +kernel
theorem dX9_codeDone_147 : decode cX9_codeDone 147 = .ok (.ireturn, 1) := by decide +kernel
theorem dX9_presses_0 : decode cX9_presses 0 = .ok (.aload_n 0, 1) := by decide +kernel
theorem dX9_presses_1 : decode cX9_presses 1 = .ok (.iconst 0, 1) := by decide +kernel
theorem dX9_presses_2 : decode cX9_presses 2 = .ok (.putfield 141, 3) := by decide +kernel
theorem dX9_presses_5 : decode cX9_presses 5 = .ok (.aload_n 0, 1) := by decide +kernel
theorem dX9_presses_6 : decode cX9_presses 6 = .ok (.getfield 41, 3) := by decide +kernel
theorem dX9_presses_9 : decode cX9_presses 9 = .ok (.iconst 1, 1) := by decide +kernel
theorem dX9_presses_10 : decode cX9_presses 10 = .ok (.dup2, 1) := by decide +kernel
theorem dX9_presses_11 : decode cX9_presses 11 = .ok (.iaload, 1) := by decide +kernel
theorem dX9_presses_12 : decode cX9_presses 12 = .ok (.iconst 1, 1) := by decide +kernel
theorem dX9_presses_13 : decode cX9_presses 13 = .ok (.iadd, 1) := by decide +kernel
theorem dX9_presses_14 : decode cX9_presses 14 = .ok (.iastore, 1) := by decide +kernel
theorem dX9_presses_15 : decode cX9_presses 15 = .ok (.aload_n 0, 1) := by decide +kernel
theorem dX9_presses_16 : decode cX9_presses 16 = .ok (.getfield 83, 3) := by decide +kernel
theorem dX9_presses_19 : decode cX9_presses 19 = .ok (.ifCond .ne 8, 3) := by decide +kernel
theorem dX9_presses_22 : decode cX9_presses 22 = .ok (.aload_n 0, 1) := by decide +kernel
theorem dX9_presses_23 : decode cX9_presses 23 = .ok (.invokevirtual 156, 3) := by decide +kernel
theorem dX9_presses_26 : decode cX9_presses 26 = .ok (.ireturn, 1) := by decide +kernel
theorem dX9_presses_27 : decode cX9_presses 27 = .ok (.aload_n 0, 1) := by decide +kernel
theorem dX9_presses_28 : decode cX9_presses 28 = .ok (.getfield 83, 3) := by decide +kernel
theorem dX9_presses_31 : decode cX9_presses 31 = .ok (.iconst 2, 1) := by decide +kernel
theorem dX9_presses_32 : decode cX9_presses 32 = .ok (.if_icmp .ne 8, 3) := by decide +kernel
theorem dX9_presses_35 : decode cX9_presses 35 = .ok (.aload_n 0, 1) := by decide +kernel
theorem dX9_presses_36 : decode cX9_presses 36 = .ok (.invokevirtual 160, 3) := by decide +kernel
theorem dX9_presses_39 : decode cX9_presses 39 = .ok (.ireturn, 1) := by decide +kernel
theorem dX9_presses_40 : decode cX9_presses 40 = .ok (.aload_n 0, 1) := by decide +kernel
theorem dX9_presses_41 : decode cX9_presses 41 = .ok (.aload_n 0, 1) := by decide +kernel
theorem dX9_presses_42 : decode cX9_presses 42 = .ok (.getfield 86, 3) := by decide +kernel
theorem dX9_presses_45 : decode cX9_presses 45 = .ok (.invokevirtual 125, 3) := by decide +kernel
theorem dX9_presses_48 : decode cX9_presses 48 = .ok (.istore_n 1, 1) := by decide +kernel
theorem dX9_presses_49 : decode cX9_presses 49 = .ok (.aload_n 0, 1) := by decide +kernel
theorem dX9_presses_50 : decode cX9_presses 50 = .ok (.iconst 0, 1) := by decide +kernel
theorem dX9_presses_51 : decode cX9_presses 51 = .ok (.putfield 83, 3) := by decide +kernel
theorem dX9_presses_54 : decode cX9_presses 54 = .ok (.aload_n 0, 1) := by decide +kernel
theorem dX9_presses_55 : decode cX9_presses 55 = .ok (.getfield 25, 3) := by decide +kernel
theorem dX9_presses_58 : decode cX9_presses 58 = .ok (.iload_n 1, 1) := by decide +kernel
theorem dX9_presses_59 : decode cX9_presses 59 = .ok (.iaload, 1) := by decide +kernel
theorem dX9_presses_60 : decode cX9_presses 60 = .ok (.aload_n 0, 1) := by decide +kernel
theorem dX9_presses_61 : decode cX9_presses 61 = .ok (.getfield 128, 3) := by decide +kernel
theorem dX9_presses_64 : decode cX9_presses 64 = .ok (.if_icmp .eq 34, 3) := by decide +kernel
theorem dX9_presses_67 : decode cX9_presses 67 = .ok (.aload_n 0, 1) := by decide +kernel
theorem dX9_presses_68 : decode cX9_presses 68 = .ok (.iload_n 1, 1) := by decide +kernel
theorem dX9_presses_69 : decode cX9_presses 69 = .ok (.aload_n 0, 1) := by decide +kernel
theorem dX9_presses_70 : decode cX9_presses 70 = .ok (.getfield 25, 3) := by decide +kernel
theorem dX9_presses_73 : decode cX9_presses 73 = .ok (.iload_n 1, 1) := by decide +kernel
theorem dX9_presses_74 : decode cX9_presses 74 = .ok (.iaload, 1) := by decide +kernel
theorem dX9_presses_75 : decode cX9_presses 75 = .ok (.invokevirtual 163, 3) := by decide +kernel
theorem dX9_presses_78 : decode cX9_presses 78 = .ok (.aload_n 0, 1) := by decide +kernel
theorem dX9_presses_79 : decode cX9_presses 79 = .ok (.getfield 25, 3) := by decide +kernel
theorem dX9_presses_82 : decode cX9_presses 82 = .ok (.iload_n 1, 1) := by decide +kernel
theorem dX9_presses_83 : decode cX9_presses 83 = .ok (.aload_n 0, 1) := by decide +kernel
theorem dX9_presses_84 : decode cX9_presses 84 = .ok (.getfield 128, 3) := by decide +kernel
theorem dX9_presses_87 : decode cX9_presses 87 = .ok (.iastore, 1) := by decide +kernel
theorem dX9_presses_88 : decode cX9_presses 88 = .ok (.aload_n 0, 1) := by decide +kernel
theorem dX9_presses_89 : decode cX9_presses 89 = .ok (.getfield 41, 3) := by decide +kernel
theorem dX9_presses_92 : decode cX9_presses 92 = .ok (.iconst 2, 1) := by decide +kernel
theorem dX9_presses_93 : decode cX9_presses 93 = .ok (.dup2, 1) := by decide +kernel
theorem dX9_presses_94 : decode cX9_presses 94 = .ok (.iaload, 1) := by decide +kernel
theorem dX9_presses_95 : decode cX9_presses 95 = .ok (.iconst 1, 1) := by decide +kernel
theorem dX9_presses_96 : decode cX9_presses 96 = .ok (.iadd, 1) := by decide +kernel
theorem dX9_presses_97 : decode cX9_presses 97 = .ok (.iastore, 1) := by decide +kernel
theorem dX9_presses_98 : decode cX9_presses 98 = .ok (.iconst 4, 1) := by decide +kernel
theorem dX9_presses_99 : decode cX9_presses 99 = .ok (.ireturn, 1) := by decide +kernel
theorem dX9_press_0 : decode cX9_press 0 = .ok (.aload_n 0, 1) := by decide +kernel
theorem dX9_press_1 : decode cX9_press 1 = .ok (.iconst 0, 1) := by decide +kernel
theorem dX9_press_2 : decode cX9_press 2 = .ok (.putfield 66, 3) := by decide +kernel
theorem dX9_press_5 : decode cX9_press 5 = .ok (.aload_n 0, 1) := by decide +kernel
theorem dX9_press_6 : decode cX9_press 6 = .ok (.invokevirtual 167, 3) := by decide +kernel
theorem dX9_press_9 : decode cX9_press 9 = .ok (.ireturn, 1) := by decide +kernel
theorem dX9_held_0 : decode cX9_held 0 = .ok (.aload_n 0, 1) := by decide +kernel
theorem dX9_held_1 : decode cX9_held 1 = .ok (.getfield 83, 3) := by decide +kernel
theorem dX9_held_4 : decode cX9_held 4 = .ok (.istore_n 1, 1) := by decide +kernel
theorem dX9_held_5 : decode cX9_held 5 = .ok (.aload_n 0, 1) := by decide +kernel
theorem dX9_held_6 : decode cX9_held 6 = .ok (.iconst 0, 1) := by decide +kernel
theorem dX9_held_7 : decode cX9_held 7 = .ok (.putfield 141, 3) := by decide +kernel
theorem dX9_held_10 : decode cX9_held 10 = .ok (.aload_n 0, 1) := by decide +kernel
theorem dX9_held_11 : decode cX9_held 11 = .ok (.getfield 83, 3) := by decide +kernel
theorem dX9_held_14 : decode cX9_held 14 = .ok (.ifCond .ne 7, 3) := by decide +kernel
theorem dX9_held_17 : decode cX9_held 17 = .ok (.aload_n 0, 1) := by decide +kernel
theorem dX9_held_18 : decode cX9_held 18 = .ok (.invokevirtual 170, 3) := by decide +kernel
theorem dX9_held_21 : decode cX9_held 21 = .ok (.aload_n 0, 1) := by decide +kernel
theorem dX9_held_22 : decode cX9_held 22 = .ok (.iconst 0, 1) := by decide +kernel
theorem dX9_held_23 : decode cX9_held 23 = .ok (.putfield 83, 3) := by decide +kernel
theorem dX9_held_26 : decode cX9_held 26 = .ok (.iload_n 1, 1) := by decide +kernel
theorem dX9_held_27 : decode cX9_held 27 = .ok (.ireturn, 1) := by decide +kernel
theorem dX9_hold_0 : decode cX9_hold 0 = .ok (.aload_n 0, 1) := by decide +kernel
theorem dX9_hold_1 : decode cX9_hold 1 = .ok (.iconst 0, 1) := by decide +kernel
theorem dX9_hold_2 : decode cX9_hold 2 = .ok (.putfield 66, 3) := by decide +kernel
theorem dX9_hold_5 : decode cX9_hold 5 = .ok (.aload_n 0, 1) := by decide +kernel
theorem dX9_hold_6 : decode cX9_hold 6 = .ok (.invokevirtual 173, 3) := by decide +kernel
theorem dX9_hold_9 : decode cX9_hold 9 = .ok (.ireturn, 1) := by decide +kernel
theorem dX9_ticksPass_0 : decode cX9_ticksPass 0 = .ok (.iconst 0, 1) := by decide +kernel
theorem dX9_ticksPass_1 : decode cX9_ticksPass 1 = .ok (.istore_n 2, 1) := by decide +kernel
theorem dX9_ticksPass_2 : decode cX9_ticksPass 2 = .ok (.iconst 0, 1) := by decide +kernel
theorem dX9_ticksPass_3 : decode cX9_ticksPass 3 = .ok (.istore_n 3, 1) := by decide +kernel
theorem dX9_ticksPass_4 : decode cX9_ticksPass 4 = .ok (.iload_n 3, 1) := by decide +kernel
theorem dX9_ticksPass_5 : decode cX9_ticksPass 5 = .ok (.iload_n 1, 1) := by decide +kernel
theorem dX9_ticksPass_6 : decode cX9_ticksPass 6 = .ok (.if_icmp .ge 106, 3) := by decide +kernel
theorem dX9_ticksPass_9 : decode cX9_ticksPass 9 = .ok (.aload_n 0, 1) := by decide +kernel
theorem dX9_ticksPass_10 : decode cX9_ticksPass 10 = .ok (.dup, 1) := by decide +kernel
theorem dX9_ticksPass_11 : decode cX9_ticksPass 11 = .ok (.getfield 141, 3) := by decide +kernel
theorem dX9_ticksPass_14 : decode cX9_ticksPass 14 = .ok (.iconst 1, 1) := by decide +kernel
theorem dX9_ticksPass_15 : decode cX9_ticksPass 15 = .ok (.iadd, 1) := by decide +kernel
theorem dX9_ticksPass_16 : decode cX9_ticksPass 16 = .ok (.putfield 141, 3) := by decide +kernel
theorem dX9_ticksPass_19 : decode cX9_ticksPass 19 = .ok (.aload_n 0, 1) := by decide +kernel
theorem dX9_ticksPass_20 : decode cX9_ticksPass 20 = .ok (.getfield 41, 3) := by decide +kernel
theorem dX9_ticksPass_23 : decode cX9_ticksPass 23 = .ok (.bipush 7, 2) := by decide +kernel
theorem dX9_ticksPass_25 : decode cX9_ticksPass 25 = .ok (.dup2, 1) := by decide +kernel
theorem dX9_ticksPass_26 : decode cX9_ticksPass 26 = .ok (.iaload, 1) := by decide +kernel
theorem dX9_ticksPass_27 : decode cX9_ticksPass 27 = .ok (.iconst 1, 1) := by decide +kernel
theorem dX9_ticksPass_28 : decode cX9_ticksPass 28 = .ok (.iadd, 1) := by decide +kernel
theorem dX9_ticksPass_29 : decode cX9_ticksPass 29 = .ok (.iastore, 1) := by decide +kernel
theorem dX9_ticksPass_30 : decode cX9_ticksPass 30 = .ok (.aload_n 0, 1) := by decide +kernel
theorem dX9_ticksPass_31 : decode cX9_ticksPass 31 = .ok (.dup, 1) := by decide +kernel
theorem dX9_ticksPass_32 : decode cX9_ticksPass 32 = .ok (.getfield 150, 3) := by decide +kernel
theorem dX9_ticksPass_35 : decode cX9_ticksPass 35 = .ok (.aload_n 0, 1) := by decide +kernel
theorem dX9_ticksPass_36 : decode cX9_ticksPass 36 = .ok (.getfield 150, 3) := by decide +kernel
theorem dX9_ticksPass_39 : decode cX9_ticksPass 39 = .ok (.ifCond .le 7, 3) := by decide +kernel
theorem dX9_ticksPass_42 : decode cX9_ticksPass 42 = .ok (.iconst 1, 1) := by decide +kernel
theorem dX9_ticksPass_43 : decode cX9_ticksPass 43 = .ok (.goto 4, 3) := by decide +kernel
theorem dX9_ticksPass_46 : decode cX9_ticksPass 46 = .ok (.iconst 0, 1) := by decide +kernel
theorem dX9_ticksPass_47 : decode cX9_ticksPass 47 = .ok (.isub, 1) := by decide +kernel
theorem dX9_ticksPass_48 : decode cX9_ticksPass 48 = .ok (.putfield 150, 3) := by decide +kernel
theorem dX9_ticksPass_51 : decode cX9_ticksPass 51 = .ok (.aload_n 0, 1) := by decide +kernel
theorem dX9_ticksPass_52 : decode cX9_ticksPass 52 = .ok (.getfield 141, 3) := by decide +kernel
theorem dX9_ticksPass_55 : decode cX9_ticksPass 55 = .ok (.aload_n 0, 1) := by decide +kernel
theorem dX9_ticksPass_56 : decode cX9_ticksPass 56 = .ok (.getfield 38, 3) := by decide +kernel
theorem dX9_ticksPass_59 : decode cX9_ticksPass 59 = .ok (.iconst 0, 1) := by decide +kernel
theorem dX9_ticksPass_60 : decode cX9_ticksPass 60 = .ok (.iaload, 1) := by decide +kernel
theorem dX9_ticksPass_61 : decode cX9_ticksPass 61 = .ok (.if_icmp .ne 18, 3) := by decide +kernel
theorem dX9_ticksPass_64 : decode cX9_ticksPass 64 = .ok (.aload_n 0, 1) := by decide +kernel
theorem dX9_ticksPass_65 : decode cX9_ticksPass 65 = .ok (.getfield 83, 3) := by decide +kernel
theorem dX9_ticksPass_68 : decode cX9_ticksPass 68 = .ok (.ifCond .eq 11, 3) := by decide +kernel
theorem dX9_ticksPass_71 : decode cX9_ticksPass 71 = .ok (.aload_n 0, 1) := by decide +kernel
theorem dX9_ticksPass_72 : decode cX9_ticksPass 72 = .ok (.iconst 0, 1) := by decide +kernel
theorem dX9_ticksPass_73 : decode cX9_ticksPass 73 = .ok (.putfield 83, 3) := by decide +kernel
theorem dX9_ticksPass_76 : decode cX9_ticksPass 76 = .ok (.iinc 2 1, 3) := by decide +kernel
theorem dX9_ticksPass_79 : decode cX9_ticksPass 79 = .ok (.aload_n 0, 1) := by decide +kernel
theorem dX9_ticksPass_80 : decode cX9_ticksPass 80 = .ok (.getfield 141, 3) := by decide +kernel
theorem dX9_ticksPass_83 : decode cX9_ticksPass 83 = .ok (.aload_n 0, 1) := by decide +kernel
theorem dX9_ticksPass_84 : decode cX9_ticksPass 84 = .ok (.getfield 38, 3) := by decide +kernel
theorem dX9_ticksPass_87 : decode cX9_ticksPass 87 = .ok (.iconst 1, 1) := by decide +kernel
theorem dX9_ticksPass_88 : decode cX9_ticksPass 88 = .ok (.iaload, 1) := by decide +kernel
theorem dX9_ticksPass_89 : decode cX9_ticksPass 89 = .ok (.if_icmp .ne 17, 3) := by decide +kernel
theorem dX9_ticksPass_92 : decode cX9_ticksPass 92 = .ok (.aload_n 0, 1) := by decide +kernel
theorem dX9_ticksPass_93 : decode cX9_ticksPass 93 = .ok (.invokevirtual 93, 3) := by decide +kernel
theorem dX9_ticksPass_96 : decode cX9_ticksPass 96 = .ok (.ifCond .ne 10, 3) := by decide +kernel
theorem dX9_ticksPass_99 : decode cX9_ticksPass 99 = .ok (.aload_n 0, 1) := by decide +kernel
theorem dX9_ticksPass_100 : decode cX9_ticksPass 100 = .ok (.invokevirtual 170, 3) := by decide +kernel
theorem dX9_ticksPass_103 : decode cX9_ticksPass 103 = .ok (.iinc 2 1, 3) := by decide +kernel
theorem dX9_ticksPass_106 : decode cX9_ticksPass 106 = .ok (.iinc 3 1, 3) := by decide +kernel
theorem dX9_ticksPass_109 : decode cX9_ticksPass 109 = .ok (.goto (-105), 3) := by decide +kernel
theorem dX9_ticksPass_112 : decode cX9_ticksPass 112 = .ok (.aload_n 0, 1) := by decide +kernel
theorem dX9_ticksPass_113 : decode cX9_ticksPass 113 = .ok (.getfield 41, 3) := by decide +kernel
theorem dX9_ticksPass_116 : decode cX9_ticksPass 116 = .ok (.bipush 6, 2) := by decide +kernel
theorem dX9_ticksPass_118 : decode cX9_ticksPass 118 = .ok (.dup2, 1) := by decide +kernel
theorem dX9_ticksPass_119 : decode cX9_ticksPass 119 = .ok (.iaload, 1) := by decide +kernel
theorem dX9_ticksPass_120 : decode cX9_ticksPass 120 = .ok (.iload_n 2, 1) := by decide +kernel
theorem dX9_ticksPass_121 : decode cX9_ticksPass 121 = .ok (.iadd, 1) := by decide +kernel
theorem dX9_ticksPass_122 : decode cX9_ticksPass 122 = .ok (.iastore, 1) := by decide +kernel
theorem dX9_ticksPass_123 : decode cX9_ticksPass 123 = .ok (.iload_n 2, 1) := by decide +kernel
theorem dX9_ticksPass_124 : decode cX9_ticksPass 124 = .ok (.ireturn, 1) := by decide +kernel
theorem dX9_tick_0 : decode cX9_tick 0 = .ok (.aload_n 0, 1) := by decide +kernel
theorem dX9_tick_1 : decode cX9_tick 1 = .ok (.iload_n 1, 1) := by decide +kernel
theorem dX9_tick_2 : decode cX9_tick 2 = .ok (.iconst 1, 1) := by decide +kernel
theorem dX9_tick_3 : decode cX9_tick 3 = .ok (.bipush 99, 2) := by decide +kernel
theorem dX9_tick_5 : decode cX9_tick 5 = .ok (.invokestatic 69, 3) := by decide +kernel
theorem dX9_tick_8 : decode cX9_tick 8 = .ok (.ifCond .eq 7, 3) := by decide +kernel
theorem dX9_tick_11 : decode cX9_tick 11 = .ok (.iconst 0, 1) := by decide +kernel
theorem dX9_tick_12 : decode cX9_tick 12 = .ok (.goto 4, 3) := by decide +kernel
theorem dX9_tick_15 : decode cX9_tick 15 = .ok (.iconst 1, 1) := by decide +kernel
theorem dX9_tick_16 : decode cX9_tick 16 = .ok (.invokevirtual 109, 3) := by decide +kernel
theorem dX9_tick_19 : decode cX9_tick 19 = .ok (.ifCond .eq 11, 3) := by decide +kernel
theorem dX9_tick_22 : decode cX9_tick 22 = .ok (.aload_n 0, 1) := by decide +kernel
theorem dX9_tick_23 : decode cX9_tick 23 = .ok (.iload_n 1, 1) := by decide +kernel
theorem dX9_tick_24 : decode cX9_tick 24 = .ok (.invokevirtual 176, 3) := by decide +kernel
theorem dX9_tick_27 : decode cX9_tick 27 = .ok (.goto 4, 3) := by decide +kernel
theorem dX9_tick_30 : decode cX9_tick 30 = .ok (.iconst 0, 1) := by decide +kernel
theorem dX9_tick_31 : decode cX9_tick 31 = .ok (.ireturn, 1) := by decide +kernel
theorem dX9_set_0 : decode cX9_set 0 = .ok (.iload_n 1, 1) := by decide +kernel
theorem dX9_set_1 : decode cX9_set 1 = .ok (.iconst 0, 1) := by decide +kernel
theorem dX9_set_2 : decode cX9_set 2 = .ok (.iconst 2, 1) := by decide +kernel
theorem dX9_set_3 : decode cX9_set 3 = .ok (.invokestatic 69, 3) := by decide +kernel
theorem dX9_set_6 : decode cX9_set 6 = .ok (.istore_n 3, 1) := by decide +kernel
theorem dX9_set_7 : decode cX9_set 7 = .ok (.aload_n 0, 1) := by decide +kernel
theorem dX9_set_8 : decode cX9_set 8 = .ok (.iload_n 3, 1) := by decide +kernel
theorem dX9_set_9 : decode cX9_set 9 = .ok (.ifCond .ne 7, 3) := by decide +kernel
theorem dX9_set_12 : decode cX9_set 12 = .ok (.iconst 1, 1) := by decide +kernel
theorem dX9_set_13 : decode cX9_set 13 = .ok (.goto 45, 3) := by decide +kernel
theorem dX9_set_16 : decode cX9_set 16 = .ok (.iload_n 2, 1) := by decide +kernel
theorem dX9_set_17 : decode cX9_set 17 = .ok (.iload_n 1, 1) := by decide +kernel
theorem dX9_set_18 : decode cX9_set 18 = .ok (.iconst 2, 1) := by decide +kernel
theorem dX9_set_19 : decode cX9_set 19 = .ok (.if_icmp .ne 7, 3) := by decide +kernel
theorem dX9_set_22 : decode cX9_set 22 = .ok (.iconst 0, 1) := by decide +kernel
theorem dX9_set_23 : decode cX9_set 23 = .ok (.goto 4, 3) := by decide +kernel
theorem dX9_set_26 : decode cX9_set 26 = .ok (.iconst 1, 1) := by decide +kernel
theorem dX9_set_27 : decode cX9_set 27 = .ok (.iload_n 1, 1) := by decide +kernel
theorem dX9_set_28 : decode cX9_set 28 = .ok (.ifCond .ne 8, 3) := by decide +kernel
theorem dX9_set_31 : decode cX9_set 31 = .ok (.bipush 60, 2) := by decide +kernel
theorem dX9_set_33 : decode cX9_set 33 = .ok (.goto 14, 3) := by decide +kernel
theorem dX9_set_36 : decode cX9_set 36 = .ok (.iload_n 1, 1) := by decide +kernel
theorem dX9_set_37 : decode cX9_set 37 = .ok (.iconst 1, 1) := by decide +kernel
theorem dX9_set_38 : decode cX9_set 38 = .ok (.if_icmp .ne 8, 3) := by decide +kernel
theorem dX9_set_41 : decode cX9_set 41 = .ok (.bipush 99, 2) := by decide +kernel
theorem dX9_set_43 : decode cX9_set 43 = .ok (.goto 4, 3) := by decide +kernel
theorem dX9_set_46 : decode cX9_set 46 = .ok (.iconst 1, 1) := by decide +kernel
theorem dX9_set_47 : decode cX9_set 47 = .ok (.invokestatic 69, 3) := by decide +kernel
theorem dX9_set_50 : decode cX9_set 50 = .ok (.ifCond .ne 7, 3) := by decide +kernel
theorem dX9_set_53 : decode cX9_set 53 = .ok (.iconst 2, 1) := by decide +kernel
theorem dX9_set_54 : decode cX9_set 54 = .ok (.goto 4, 3) := by decide +kernel
theorem dX9_set_57 : decode cX9_set 57 = .ok (.iconst 0, 1) := by decide +kernel
theorem dX9_set_58 : decode cX9_set 58 = .ok (.invokevirtual 109, 3) := by decide +kernel
theorem dX9_set_61 : decode cX9_set 61 = .ok (.ifCond .ne 5, 3) := by decide +kernel
theorem dX9_set_64 : decode cX9_set 64 = .ok (.iconst 0, 1) := by decide +kernel
theorem dX9_set_65 : decode cX9_set 65 = .ok (.ireturn, 1) := by decide +kernel
theorem dX9_set_66 : decode cX9_set 66 = .ok (.aload_n 0, 1) := by decide +kernel
theorem dX9_set_67 : decode cX9_set 67 = .ok (.getfield 38, 3) := by decide +kernel
theorem dX9_set_70 : decode cX9_set 70 = .ok (.iload_n 1, 1) := by decide +kernel
theorem dX9_set_71 : decode cX9_set 71 = .ok (.iaload, 1) := by decide +kernel
theorem dX9_set_72 : decode cX9_set 72 = .ok (.istore 4, 2) := by decide +kernel
theorem dX9_set_74 : decode cX9_set 74 = .ok (.aload_n 0, 1) := by decide +kernel
theorem dX9_set_75 : decode cX9_set 75 = .ok (.getfield 38, 3) := by decide +kernel
theorem dX9_set_78 : decode cX9_set 78 = .ok (.iload_n 1, 1) := by decide +kernel
theorem dX9_set_79 : decode cX9_set 79 = .ok (.iload_n 2, 1) := by decide +kernel
theorem dX9_set_80 : decode cX9_set 80 = .ok (.iastore, 1) := by decide +kernel
theorem dX9_set_81 : decode cX9_set 81 = .ok (.iload 4, 2) := by decide +kernel
theorem dX9_set_83 : decode cX9_set 83 = .ok (.ireturn, 1) := by decide +kernel
theorem dX9_takeBack_0 : decode cX9_takeBack 0 = .ok (.aload_n 0, 1) := by decide +kernel
theorem dX9_takeBack_1 : decode cX9_takeBack 1 = .ok (.aload_n 0, 1) := by decide +kernel
theorem dX9_takeBack_2 : decode cX9_takeBack 2 = .ok (.getfield 147, 3) := by decide +kernel
theorem dX9_takeBack_5 : decode cX9_takeBack 5 = .ok (.ifCond .le 7, 3) := by decide +kernel
theorem dX9_takeBack_8 : decode cX9_takeBack 8 = .ok (.iconst 0, 1) := by decide +kernel
theorem dX9_takeBack_9 : decode cX9_takeBack 9 = .ok (.goto 4, 3) := by decide +kernel
theorem dX9_takeBack_12 : decode cX9_takeBack 12 = .ok (.iconst 1, 1) := by decide +kernel
theorem dX9_takeBack_13 : decode cX9_takeBack 13 = .ok (.invokevirtual 109, 3) := by decide +kernel
theorem dX9_takeBack_16 : decode cX9_takeBack 16 = .ok (.ifCond .ne 5, 3) := by decide +kernel
theorem dX9_takeBack_19 : decode cX9_takeBack 19 = .ok (.iconst 0, 1) := by decide +kernel
theorem dX9_takeBack_20 : decode cX9_takeBack 20 = .ok (.ireturn, 1) := by decide +kernel
theorem dX9_takeBack_21 : decode cX9_takeBack 21 = .ok (.aload_n 0, 1) := by decide +kernel
theorem dX9_takeBack_22 : decode cX9_takeBack 22 = .ok (.dup, 1) := by decide +kernel
theorem dX9_takeBack_23 : decode cX9_takeBack 23 = .ok (.getfield 147, 3) := by decide +kernel
theorem dX9_takeBack_26 : decode cX9_takeBack 26 = .ok (.iconst 1, 1) := by decide +kernel
theorem dX9_takeBack_27 : decode cX9_takeBack 27 = .ok (.isub, 1) := by decide +kernel
theorem dX9_takeBack_28 : decode cX9_takeBack 28 = .ok (.putfield 147, 3) := by decide +kernel
theorem dX9_takeBack_31 : decode cX9_takeBack 31 = .ok (.aload_n 0, 1) := by decide +kernel
theorem dX9_takeBack_32 : decode cX9_takeBack 32 = .ok (.getfield 41, 3) := by decide +kernel
theorem dX9_takeBack_35 : decode cX9_takeBack 35 = .ok (.iconst 3, 1) := by decide +kernel
theorem dX9_takeBack_36 : decode cX9_takeBack 36 = .ok (.dup2, 1) := by decide +kernel
theorem dX9_takeBack_37 : decode cX9_takeBack 37 = .ok (.iaload, 1) := by decide +kernel
theorem dX9_takeBack_38 : decode cX9_takeBack 38 = .ok (.iconst 1, 1) := by decide +kernel
theorem dX9_takeBack_39 : decode cX9_takeBack 39 = .ok (.iadd, 1) := by decide +kernel
theorem dX9_takeBack_40 : decode cX9_takeBack 40 = .ok (.iastore, 1) := by decide +kernel
theorem dX9_takeBack_41 : decode cX9_takeBack 41 = .ok (.aload_n 0, 1) := by decide +kernel
theorem dX9_takeBack_42 : decode cX9_takeBack 42 = .ok (.getfield 25, 3) := by decide +kernel
theorem dX9_takeBack_45 : decode cX9_takeBack 45 = .ok (.aload_n 0, 1) := by decide +kernel
theorem dX9_takeBack_46 : decode cX9_takeBack 46 = .ok (.getfield 44, 3) := by decide +kernel
theorem dX9_takeBack_49 : decode cX9_takeBack 49 = .ok (.aload_n 0, 1) := by decide +kernel
theorem dX9_takeBack_50 : decode cX9_takeBack 50 = .ok (.getfield 147, 3) := by decide +kernel
theorem dX9_takeBack_53 : decode cX9_takeBack 53 = .ok (.iaload, 1) := by decide +kernel
theorem dX9_takeBack_54 : decode cX9_takeBack 54 = .ok (.aload_n 0, 1) := by decide +kernel
theorem dX9_takeBack_55 : decode cX9_takeBack 55 = .ok (.getfield 47, 3) := by decide +kernel
theorem dX9_takeBack_58 : decode cX9_takeBack 58 = .ok (.aload_n 0, 1) := by decide +kernel
theorem dX9_takeBack_59 : decode cX9_takeBack 59 = .ok (.getfield 147, 3) := by decide +kernel
theorem dX9_takeBack_62 : decode cX9_takeBack 62 = .ok (.iaload, 1) := by decide +kernel
theorem dX9_takeBack_63 : decode cX9_takeBack 63 = .ok (.iastore, 1) := by decide +kernel
theorem dX9_takeBack_64 : decode cX9_takeBack 64 = .ok (.aload_n 0, 1) := by decide +kernel
theorem dX9_takeBack_65 : decode cX9_takeBack 65 = .ok (.getfield 44, 3) := by decide +kernel
theorem dX9_takeBack_68 : decode cX9_takeBack 68 = .ok (.aload_n 0, 1) := by decide +kernel
theorem dX9_takeBack_69 : decode cX9_takeBack 69 = .ok (.getfield 147, 3) := by decide +kernel
theorem dX9_takeBack_72 : decode cX9_takeBack 72 = .ok (.iaload, 1) := by decide +kernel
theorem dX9_takeBack_73 : decode cX9_takeBack 73 = .ok (.ireturn, 1) := by decide +kernel
theorem dX9_savePreset_0 : decode cX9_savePreset 0 = .ok (.aload_n 0, 1) := by decide +kernel
theorem dX9_savePreset_1 : decode cX9_savePreset 1 = .ok (.iload_n 1, 1) := by decide +kernel
theorem dX9_savePreset_2 : decode cX9_savePreset 2 = .ok (.iconst 0, 1) := by decide +kernel
theorem dX9_savePreset_3 : decode cX9_savePreset 3 = .ok (.iconst 1, 1) := by decide +kernel
theorem dX9_savePreset_4 : decode cX9_savePreset 4 = .ok (.invokestatic 69, 3) := by decide +kernel
theorem dX9_savePreset_7 : decode cX9_savePreset 7 = .ok (.ifCond .eq 7, 3) := by decide +kernel
theorem dX9_savePreset_10 : decode cX9_savePreset 10 = .ok (.iconst 0, 1) := by decide +kernel
theorem dX9_savePreset_11 : decode cX9_savePreset 11 = .ok (.goto 4, 3) := by decide +kernel
theorem dX9_savePreset_14 : decode cX9_savePreset 14 = .ok (.iconst 1, 1) := by decide +kernel
theorem dX9_savePreset_15 : decode cX9_savePreset 15 = .ok (.invokevirtual 109, 3) := by decide +kernel
theorem dX9_savePreset_18 : decode cX9_savePreset 18 = .ok (.ifCond .ne 5, 3) := by decide +kernel
theorem dX9_savePreset_21 : decode cX9_savePreset 21 = .ok (.iconst 0, 1) := by decide +kernel
theorem dX9_savePreset_22 : decode cX9_savePreset 22 = .ok (.ireturn, 1) := by decide +kernel
theorem dX9_savePreset_23 : decode cX9_savePreset 23 = .ok (.iconst 0, 1) := by decide +kernel
theorem dX9_savePreset_24 : decode cX9_savePreset 24 = .ok (.istore_n 2, 1) := by decide +kernel
theorem dX9_savePreset_25 : decode cX9_savePreset 25 = .ok (.iconst 0, 1) := by decide +kernel
theorem dX9_savePreset_26 : decode cX9_savePreset 26 = .ok (.istore_n 3, 1) := by decide +kernel
theorem dX9_savePreset_27 : decode cX9_savePreset 27 = .ok (.iload_n 3, 1) := by decide +kernel
theorem dX9_savePreset_28 : decode cX9_savePreset 28 = .ok (.aload_n 0, 1) := by decide +kernel
theorem dX9_savePreset_29 : decode cX9_savePreset 29 = .ok (.getfield 62, 3) := by decide +kernel
theorem dX9_savePreset_32 : decode cX9_savePreset 32 = .ok (.if_icmp .ge 42, 3) := by decide +kernel
theorem dX9_savePreset_35 : decode cX9_savePreset 35 = .ok (.aload_n 0, 1) := by decide +kernel
theorem dX9_savePreset_36 : decode cX9_savePreset 36 = .ok (.getfield 50, 3) := by decide +kernel
theorem dX9_savePreset_39 : decode cX9_savePreset 39 = .ok (.bipush 24, 2) := by decide +kernel
theorem dX9_savePreset_41 : decode cX9_savePreset 41 = .ok (.iload_n 1, 1) := by decide +kernel
theorem dX9_savePreset_42 : decode cX9_savePreset 42 = .ok (.imul, 1) := by decide +kernel
theorem dX9_savePreset_43 : decode cX9_savePreset 43 = .ok (.iload_n 3, 1) := by decide +kernel
theorem dX9_savePreset_44 : decode cX9_savePreset 44 = .ok (.iadd, 1) := by decide +kernel
theorem dX9_savePreset_45 : decode cX9_savePreset 45 = .ok (.aload_n 0, 1) := by decide +kernel
theorem dX9_savePreset_46 : decode cX9_savePreset 46 = .ok (.getfield 25, 3) := by decide +kernel
theorem dX9_savePreset_49 : decode cX9_savePreset 49 = .ok (.iload_n 3, 1) := by decide +kernel
theorem dX9_savePreset_50 : decode cX9_savePreset 50 = .ok (.iaload, 1) := by decide +kernel
theorem dX9_savePreset_51 : decode cX9_savePreset 51 = .ok (.iastore, 1) := by decide +kernel
theorem dX9_savePreset_52 : decode cX9_savePreset 52 = .ok (.iload_n 2, 1) := by decide +kernel
theorem dX9_savePreset_53 : decode cX9_savePreset 53 = .ok (.aload_n 0, 1) := by decide +kernel
theorem dX9_savePreset_54 : decode cX9_savePreset 54 = .ok (.iload_n 3, 1) := by decide +kernel
theorem dX9_savePreset_55 : decode cX9_savePreset 55 = .ok (.invokevirtual 100, 3) := by decide +kernel
theorem dX9_savePreset_58 : decode cX9_savePreset 58 = .ok (.ifCond .eq 7, 3) := by decide +kernel
theorem dX9_savePreset_61 : decode cX9_savePreset 61 = .ok (.iconst 0, 1) := by decide +kernel
theorem dX9_savePreset_62 : decode cX9_savePreset 62 = .ok (.goto 4, 3) := by decide +kernel
theorem dX9_savePreset_65 : decode cX9_savePreset 65 = .ok (.iconst 1, 1) := by decide +kernel
theorem dX9_savePreset_66 : decode cX9_savePreset 66 = .ok (.iadd, 1) := by decide +kernel
theorem dX9_savePreset_67 : decode cX9_savePreset 67 = .ok (.istore_n 2, 1) := by decide +kernel
theorem dX9_savePreset_68 : decode cX9_savePreset 68 = .ok (.iinc 3 1, 3) := by decide +kernel
theorem dX9_savePreset_71 : decode cX9_savePreset 71 = .ok (.goto (-44), 3) := by decide +kernel
theorem dX9_savePreset_74 : decode cX9_savePreset 74 = .ok (.aload_n 0, 1) := by decide +kernel
theorem dX9_savePreset_75 : decode cX9_savePreset 75 = .ok (.getfield 53, 3) := by decide +kernel
theorem dX9_savePreset_78 : decode cX9_savePreset 78 = .ok (.iload_n 1, 1) := by decide +kernel
theorem dX9_savePreset_79 : decode cX9_savePreset 79 = .ok (.aload_n 0, 1) := by decide +kernel
theorem dX9_savePreset_80 : decode cX9_savePreset 80 = .ok (.getfield 62, 3) := by decide +kernel
theorem dX9_savePreset_83 : decode cX9_savePreset 83 = .ok (.iastore, 1) := by decide +kernel
theorem dX9_savePreset_84 : decode cX9_savePreset 84 = .ok (.iload_n 2, 1) := by decide +kernel
theorem dX9_savePreset_85 : decode cX9_savePreset 85 = .ok (.ireturn, 1) := by decide +kernel
theorem dX9_loadPreset_0 : decode cX9_loadPreset 0 = .ok (.iload_n 1, 1) := by decide +kernel
theorem dX9_loadPreset_1 : decode cX9_loadPreset 1 = .ok (.iconst 0, 1) := by decide +kernel
theorem dX9_loadPreset_2 : decode cX9_loadPreset 2 = .ok (.iconst 1, 1) := by decide +kernel
theorem dX9_loadPreset_3 : decode cX9_loadPreset 3 = .ok (.invokestatic 69, 3) := by decide +kernel
theorem dX9_loadPreset_6 : decode cX9_loadPreset 6 = .ok (.istore_n 2, 1) := by decide +kernel
theorem dX9_loadPreset_7 : decode cX9_loadPreset 7 = .ok (.aload_n 0, 1) := by decide +kernel
theorem dX9_loadPreset_8 : decode cX9_loadPreset 8 = .ok (.iload_n 2, 1) := by decide +kernel
theorem dX9_loadPreset_9 : decode cX9_loadPreset 9 = .ok (.ifCond .ne 7, 3) := by decide +kernel
theorem dX9_loadPreset_12 : decode cX9_loadPreset 12 = .ok (.iconst 1, 1) := by decide +kernel
theorem dX9_loadPreset_13 : decode cX9_loadPreset 13 = .ok (.goto 17, 3) := by decide +kernel
theorem dX9_loadPreset_16 : decode cX9_loadPreset 16 = .ok (.aload_n 0, 1) := by decide +kernel
theorem dX9_loadPreset_17 : decode cX9_loadPreset 17 = .ok (.getfield 53, 3) := by decide +kernel
theorem dX9_loadPreset_20 : decode cX9_loadPreset 20 = .ok (.iload_n 1, 1) := by decide +kernel
theorem dX9_loadPreset_21 : decode cX9_loadPreset 21 = .ok (.iaload, 1) := by decide +kernel
theorem dX9_loadPreset_22 : decode cX9_loadPreset 22 = .ok (.ifCond .ne 7, 3) := by decide +kernel
theorem dX9_loadPreset_25 : decode cX9_loadPreset 25 = .ok (.iconst 2, 1) := by decide +kernel
theorem dX9_loadPreset_26 : decode cX9_loadPreset 26 = .ok (.goto 4, 3) := by decide +kernel
theorem dX9_loadPreset_29 : decode cX9_loadPreset 29 = .ok (.iconst 0, 1) := by decide +kernel
theorem dX9_loadPreset_30 : decode cX9_loadPreset 30 = .ok (.invokevirtual 109, 3) := by decide +kernel
theorem dX9_loadPreset_33 : decode cX9_loadPreset 33 = .ok (.ifCond .ne 5, 3) := by decide +kernel
theorem dX9_loadPreset_36 : decode cX9_loadPreset 36 = .ok (.iconst 0, 1) := by decide +kernel
theorem dX9_loadPreset_37 : decode cX9_loadPreset 37 = .ok (.ireturn, 1) := by decide +kernel
theorem dX9_loadPreset_38 : decode cX9_loadPreset 38 = .ok (.iconst 0, 1) := by decide +kernel
theorem dX9_loadPreset_39 : decode cX9_loadPreset 39 = .ok (.istore_n 3, 1) := by decide +kernel
theorem dX9_loadPreset_40 : decode cX9_loadPreset 40 = .ok (.iconst 0, 1) := by decide +kernel
theorem dX9_loadPreset_41 : decode cX9_loadPreset 41 = .ok (.istore 4, 2) := by decide +kernel
theorem dX9_loadPreset_43 : decode cX9_loadPreset 43 = .ok (.iload 4, 2) := by decide +kernel
theorem dX9_loadPreset_45 : decode cX9_loadPreset 45 = .ok (.aload_n 0, 1) := by decide +kernel
theorem dX9_loadPreset_46 : decode cX9_loadPreset 46 = .ok (.getfield 53, 3) := by decide +kernel
theorem dX9_loadPreset_49 : decode cX9_loadPreset 49 = .ok (.iload_n 1, 1) := by decide +kernel
theorem dX9_loadPreset_50 : decode cX9_loadPreset 50 = .ok (.iaload, 1) := by decide +kernel
theorem dX9_loadPreset_51 : decode cX9_loadPreset 51 = .ok (.if_icmp .ge 58, 3) := by decide +kernel
theorem dX9_loadPreset_54 : decode cX9_loadPreset 54 = .ok (.iload_n 3, 1) := by decide +kernel
theorem dX9_loadPreset_55 : decode cX9_loadPreset 55 = .ok (.aload_n 0, 1) := by decide +kernel
theorem dX9_loadPreset_56 : decode cX9_loadPreset 56 = .ok (.getfield 25, 3) := by decide +kernel
theorem dX9_loadPreset_59 : decode cX9_loadPreset 59 = .ok (.iload 4, 2) := by decide +kernel
theorem dX9_loadPreset_61 : decode cX9_loadPreset 61 = .ok (.iaload, 1) := by decide +kernel
theorem dX9_loadPreset_62 : decode cX9_loadPreset 62 = .ok (.aload_n 0, 1) := by decide +kernel
theorem dX9_loadPreset_63 : decode cX9_loadPreset 63 = .ok (.getfield 50, 3) := by decide +kernel
theorem dX9_loadPreset_66 : decode cX9_loadPreset 66 = .ok (.bipush 24, 2) := by decide +kernel
theorem dX9_loadPreset_68 : decode cX9_loadPreset 68 = .ok (.iload_n 1, 1) := by decide +kernel
theorem dX9_loadPreset_69 : decode cX9_loadPreset 69 = .ok (.imul, 1) := by decide +kernel
theorem dX9_loadPreset_70 : decode cX9_loadPreset 70 = .ok (.iload 4, 2) := by decide +kernel
theorem dX9_loadPreset_72 : decode cX9_loadPreset 72 = .ok (.iadd, 1) := by decide +kernel
theorem dX9_loadPreset_73 : decode cX9_loadPreset 73 = .ok (.iaload, 1) := by decide +kernel
theorem dX9_loadPreset_74 : decode cX9_loadPreset 74 = .ok (.if_icmp .eq 7, 3) := by decide +kernel
theorem dX9_loadPreset_77 : decode cX9_loadPreset 77 = .ok (.iconst 1, 1) := by decide +kernel
theorem dX9_loadPreset_78 : decode cX9_loadPreset 78 = .ok (.goto 4, 3) := by decide +kernel
theorem dX9_loadPreset_81 : decode cX9_loadPreset 81 = .ok (.iconst 0, 1) := by decide +kernel
theorem dX9_loadPreset_82 : decode cX9_loadPreset 82 = .ok (.iadd, 1) := by decide +kernel
theorem dX9_loadPreset_83 : decode cX9_loadPreset 83 = .ok (.istore_n 3, 1) := by decide +kernel
theorem dX9_loadPreset_84 : decode cX9_loadPreset 84 = .ok (.aload_n 0, 1) := by decide +kernel
theorem dX9_loadPreset_85 : decode cX9_loadPreset 85 = .ok (.getfield 25, 3) := by decide +kernel
theorem dX9_loadPreset_88 : decode cX9_loadPreset 88 = .ok (.iload 4, 2) := by decide +kernel
theorem dX9_loadPreset_90 : decode cX9_loadPreset 90 = .ok (.aload_n 0, 1) := by decide +kernel
theorem dX9_loadPreset_91 : decode cX9_loadPreset 91 = .ok (.getfield 50, 3) := by decide +kernel
theorem dX9_loadPreset_94 : decode cX9_loadPreset 94 = .ok (.bipush 24, 2) := by decide +kernel
theorem dX9_loadPreset_96 : decode cX9_loadPreset 96 = .ok (.iload_n 1, 1) := by decide +kernel
theorem dX9_loadPreset_97 : decode cX9_loadPreset 97 = .ok (.imul, 1) := by decide +kernel
theorem dX9_loadPreset_98 : decode cX9_loadPreset 98 = .ok (.iload 4, 2) := by decide +kernel
theorem dX9_loadPreset_100 : decode cX9_loadPreset 100 = .ok (.iadd, 1) := by decide +kernel
theorem dX9_loadPreset_101 : decode cX9_loadPreset 101 = .ok (.iaload, 1) := by decide +kernel
theorem dX9_loadPreset_102 : decode cX9_loadPreset 102 = .ok (.iastore, 1) := by decide +kernel
theorem dX9_loadPreset_103 : decode cX9_loadPreset 103 = .ok (.iinc 4 1, 3) := by decide +kernel
theorem dX9_loadPreset_106 : decode cX9_loadPreset 106 = .ok (.goto (-63), 3) := by decide +kernel
theorem dX9_loadPreset_109 : decode cX9_loadPreset 109 = .ok (.aload_n 0, 1) := by decide +kernel
theorem dX9_loadPreset_110 : decode cX9_loadPreset 110 = .ok (.iconst 0, 1) := by decide +kernel
theorem dX9_loadPreset_111 : decode cX9_loadPreset 111 = .ok (.putfield 147, 3) := by decide +kernel
theorem dX9_loadPreset_114 : decode cX9_loadPreset 114 = .ok (.iload_n 3, 1) := by decide +kernel
theorem dX9_loadPreset_115 : decode cX9_loadPreset 115 = .ok (.ireturn, 1) := by decide +kernel
theorem dX9_mode_0 : decode cX9_mode 0 = .ok (.aload_n 0, 1) := by decide +kernel
theorem dX9_mode_1 : decode cX9_mode 1 = .ok (.iconst 0, 1) := by decide +kernel
theorem dX9_mode_2 : decode cX9_mode 2 = .ok (.putfield 66, 3) := by decide +kernel
theorem dX9_mode_5 : decode cX9_mode 5 = .ok (.aload_n 0, 1) := by decide +kernel
theorem dX9_mode_6 : decode cX9_mode 6 = .ok (.getfield 83, 3) := by decide +kernel
theorem dX9_mode_9 : decode cX9_mode 9 = .ok (.ireturn, 1) := by decide +kernel
theorem dX9_shown_0 : decode cX9_shown 0 = .ok (.aload_n 0, 1) := by decide +kernel
theorem dX9_shown_1 : decode cX9_shown 1 = .ok (.iconst 0, 1) := by decide +kernel
theorem dX9_shown_2 : decode cX9_shown 2 = .ok (.putfield 66, 3) := by decide +kernel
theorem dX9_shown_5 : decode cX9_shown 5 = .ok (.aload_n 0, 1) := by decide +kernel
theorem dX9_shown_6 : decode cX9_shown 6 = .ok (.getfield 77, 3) := by decide +kernel
theorem dX9_shown_9 : decode cX9_shown 9 = .ok (.ireturn, 1) := by decide +kernel
theorem dX9_cursor_0 : decode cX9_cursor 0 = .ok (.aload_n 0, 1) := by decide +kernel
theorem dX9_cursor_1 : decode cX9_cursor 1 = .ok (.iconst 0, 1) := by decide +kernel
theorem dX9_cursor_2 : decode cX9_cursor 2 = .ok (.putfield 66, 3) := by decide +kernel
theorem dX9_cursor_5 : decode cX9_cursor 5 = .ok (.aload_n 0, 1) := by decide +kernel
theorem dX9_cursor_6 : decode cX9_cursor 6 = .ok (.getfield 86, 3) := by decide +kernel
theorem dX9_cursor_9 : decode cX9_cursor 9 = .ok (.ireturn, 1) := by decide +kernel
theorem dX9_chosen_0 : decode cX9_chosen 0 = .ok (.aload_n 0, 1) := by decide +kernel
theorem dX9_chosen_1 : decode cX9_chosen 1 = .ok (.iconst 0, 1) := by decide +kernel
theorem dX9_chosen_2 : decode cX9_chosen 2 = .ok (.putfield 66, 3) := by decide +kernel
theorem dX9_chosen_5 : decode cX9_chosen 5 = .ok (.aload_n 0, 1) := by decide +kernel
theorem dX9_chosen_6 : decode cX9_chosen 6 = .ok (.aload_n 0, 1) := by decide +kernel
theorem dX9_chosen_7 : decode cX9_chosen 7 = .ok (.getfield 86, 3) := by decide +kernel
theorem dX9_chosen_10 : decode cX9_chosen 10 = .ok (.invokevirtual 125, 3) := by decide +kernel
theorem dX9_chosen_13 : decode cX9_chosen 13 = .ok (.ireturn, 1) := by decide +kernel
theorem dX9_draftNow_0 : decode cX9_draftNow 0 = .ok (.aload_n 0, 1) := by decide +kernel
theorem dX9_draftNow_1 : decode cX9_draftNow 1 = .ok (.getfield 83, 3) := by decide +kernel
theorem dX9_draftNow_4 : decode cX9_draftNow 4 = .ok (.iconst 1, 1) := by decide +kernel
theorem dX9_draftNow_5 : decode cX9_draftNow 5 = .ok (.if_icmp .ne 10, 3) := by decide +kernel
theorem dX9_draftNow_8 : decode cX9_draftNow 8 = .ok (.aload_n 0, 1) := by decide +kernel
theorem dX9_draftNow_9 : decode cX9_draftNow 9 = .ok (.getfield 128, 3) := by decide +kernel
theorem dX9_draftNow_12 : decode cX9_draftNow 12 = .ok (.goto 4, 3) := by decide +kernel
theorem dX9_draftNow_15 : decode cX9_draftNow 15 = .ok (.iconst 0, 1) := by decide +kernel
theorem dX9_draftNow_16 : decode cX9_draftNow 16 = .ok (.ireturn, 1) := by decide +kernel
theorem dX9_draft_0 : decode cX9_draft 0 = .ok (.aload_n 0, 1) := by decide +kernel
theorem dX9_draft_1 : decode cX9_draft 1 = .ok (.iconst 0, 1) := by decide +kernel
theorem dX9_draft_2 : decode cX9_draft 2 = .ok (.putfield 66, 3) := by decide +kernel
theorem dX9_draft_5 : decode cX9_draft 5 = .ok (.aload_n 0, 1) := by decide +kernel
theorem dX9_draft_6 : decode cX9_draft 6 = .ok (.invokevirtual 179, 3) := by decide +kernel
theorem dX9_draft_9 : decode cX9_draft 9 = .ok (.ireturn, 1) := by decide +kernel
theorem dX9_idle_0 : decode cX9_idle 0 = .ok (.aload_n 0, 1) := by decide +kernel
theorem dX9_idle_1 : decode cX9_idle 1 = .ok (.iconst 0, 1) := by decide +kernel
theorem dX9_idle_2 : decode cX9_idle 2 = .ok (.putfield 66, 3) := by decide +kernel
theorem dX9_idle_5 : decode cX9_idle 5 = .ok (.aload_n 0, 1) := by decide +kernel
theorem dX9_idle_6 : decode cX9_idle 6 = .ok (.getfield 141, 3) := by decide +kernel
theorem dX9_idle_9 : decode cX9_idle 9 = .ok (.ireturn, 1) := by decide +kernel
theorem dX9_barred_0 : decode cX9_barred 0 = .ok (.aload_n 0, 1) := by decide +kernel
theorem dX9_barred_1 : decode cX9_barred 1 = .ok (.iconst 0, 1) := by decide +kernel
theorem dX9_barred_2 : decode cX9_barred 2 = .ok (.putfield 66, 3) := by decide +kernel
theorem dX9_barred_5 : decode cX9_barred 5 = .ok (.aload_n 0, 1) := by decide +kernel
theorem dX9_barred_6 : decode cX9_barred 6 = .ok (.getfield 150, 3) := by decide +kernel
theorem dX9_barred_9 : decode cX9_barred 9 = .ok (.ireturn, 1) := by decide +kernel
theorem dX9_logged_0 : decode cX9_logged 0 = .ok (.aload_n 0, 1) := by decide +kernel
theorem dX9_logged_1 : decode cX9_logged 1 = .ok (.iconst 0, 1) := by decide +kernel
theorem dX9_logged_2 : decode cX9_logged 2 = .ok (.putfield 66, 3) := by decide +kernel
theorem dX9_logged_5 : decode cX9_logged 5 = .ok (.aload_n 0, 1) := by decide +kernel
theorem dX9_logged_6 : decode cX9_logged 6 = .ok (.getfield 147, 3) := by decide +kernel
theorem dX9_logged_9 : decode cX9_logged 9 = .ok (.ireturn, 1) := by decide +kernel
theorem dX9_isHome_0 : decode cX9_isHome 0 = .ok (.aload_n 0, 1) := by decide +kernel
theorem dX9_isHome_1 : decode cX9_isHome 1 = .ok (.iconst 0, 1) := by decide +kernel
theorem dX9_isHome_2 : decode cX9_isHome 2 = .ok (.putfield 66, 3) := by decide +kernel
theorem dX9_isHome_5 : decode cX9_isHome 5 = .ok (.aload_n 0, 1) := by decide +kernel
theorem dX9_isHome_6 : decode cX9_isHome 6 = .ok (.invokevirtual 93, 3) := by decide +kernel
theorem dX9_isHome_9 : decode cX9_isHome 9 = .ok (.ireturn, 1) := by decide +kernel
theorem dX9_writes_0 : decode cX9_writes 0 = .ok (.aload_n 0, 1) := by decide +kernel
theorem dX9_writes_1 : decode cX9_writes 1 = .ok (.getfield 59, 3) := by decide +kernel
theorem dX9_writes_4 : decode cX9_writes 4 = .ok (.iload_n 2, 1) := by decide +kernel
theorem dX9_writes_5 : decode cX9_writes 5 = .ok (.bipush 48, 2) := by decide +kernel
theorem dX9_writes_7 : decode cX9_writes 7 = .ok (.iload_n 1, 1) := by decide +kernel
theorem dX9_writes_8 : decode cX9_writes 8 = .ok (.bipush 9, 2) := by decide +kernel
theorem dX9_writes_10 : decode cX9_writes 10 = .ok (.if_icmp .le 10, 3) := by decide +kernel
theorem dX9_writes_13 : decode cX9_writes 13 = .ok (.iload_n 1, 1) := by decide +kernel
theorem dX9_writes_14 : decode cX9_writes 14 = .ok (.bipush 10, 2) := by decide +kernel
theorem dX9_writes_16 : decode cX9_writes 16 = .ok (.idiv, 1) := by decide +kernel
theorem dX9_writes_17 : decode cX9_writes 17 = .ok (.goto 4, 3) := by decide +kernel
theorem dX9_writes_20 : decode cX9_writes 20 = .ok (.iload_n 1, 1) := by decide +kernel
theorem dX9_writes_21 : decode cX9_writes 21 = .ok (.iadd, 1) := by decide +kernel
theorem dX9_writes_22 : decode cX9_writes 22 = .ok (.iastore, 1) := by decide +kernel
theorem dX9_writes_23 : decode cX9_writes 23 = .ok (.aload_n 0, 1) := by decide +kernel
theorem dX9_writes_24 : decode cX9_writes 24 = .ok (.getfield 59, 3) := by decide +kernel
theorem dX9_writes_27 : decode cX9_writes 27 = .ok (.iload_n 2, 1) := by decide +kernel
theorem dX9_writes_28 : decode cX9_writes 28 = .ok (.iconst 1, 1) := by decide +kernel
theorem dX9_writes_29 : decode cX9_writes 29 = .ok (.iadd, 1) := by decide +kernel
theorem dX9_writes_30 : decode cX9_writes 30 = .ok (.iload_n 1, 1) := by decide +kernel
theorem dX9_writes_31 : decode cX9_writes 31 = .ok (.bipush 9, 2) := by decide +kernel
theorem dX9_writes_33 : decode cX9_writes 33 = .ok (.if_icmp .le 13, 3) := by decide +kernel
theorem dX9_writes_36 : decode cX9_writes 36 = .ok (.bipush 48, 2) := by decide +kernel
theorem dX9_writes_38 : decode cX9_writes 38 = .ok (.iload_n 1, 1) := by decide +kernel
theorem dX9_writes_39 : decode cX9_writes 39 = .ok (.bipush 10, 2) := by decide +kernel
theorem dX9_writes_41 : decode cX9_writes 41 = .ok (.irem, 1) := by decide +kernel
theorem dX9_writes_42 : decode cX9_writes 42 = .ok (.iadd, 1) := by decide +kernel
theorem dX9_writes_43 : decode cX9_writes 43 = .ok (.goto 5, 3) := by decide +kernel
theorem dX9_writes_46 : decode cX9_writes 46 = .ok (.bipush 32, 2) := by decide +kernel
theorem dX9_writes_48 : decode cX9_writes 48 = .ok (.iastore, 1) := by decide +kernel
theorem dX9_writes_49 : decode cX9_writes 49 = .ok (.return_, 1) := by decide +kernel
theorem dX9_ends_0 : decode cX9_ends 0 = .ok (.iload_n 1, 1) := by decide +kernel
theorem dX9_ends_1 : decode cX9_ends 1 = .ok (.ifCond .ge 8, 3) := by decide +kernel
theorem dX9_ends_4 : decode cX9_ends 4 = .ok (.iload_n 1, 1) := by decide +kernel
theorem dX9_ends_5 : decode cX9_ends 5 = .ok (.ineg, 1) := by decide +kernel
theorem dX9_ends_6 : decode cX9_ends 6 = .ok (.goto 4, 3) := by decide +kernel
theorem dX9_ends_9 : decode cX9_ends 9 = .ok (.iload_n 1, 1) := by decide +kernel
theorem dX9_ends_10 : decode cX9_ends 10 = .ok (.istore_n 2, 1) := by decide +kernel
theorem dX9_ends_11 : decode cX9_ends 11 = .ok (.bipush 15, 2) := by decide +kernel
theorem dX9_ends_13 : decode cX9_ends 13 = .ok (.istore_n 3, 1) := by decide +kernel
theorem dX9_ends_14 : decode cX9_ends 14 = .ok (.aload_n 0, 1) := by decide +kernel
theorem dX9_ends_15 : decode cX9_ends 15 = .ok (.getfield 59, 3) := by decide +kernel
theorem dX9_ends_18 : decode cX9_ends 18 = .ok (.iload_n 3, 1) := by decide +kernel
theorem dX9_ends_19 : decode cX9_ends 19 = .ok (.bipush 48, 2) := by decide +kernel
theorem dX9_ends_21 : decode cX9_ends 21 = .ok (.iload_n 2, 1) := by decide +kernel
theorem dX9_ends_22 : decode cX9_ends 22 = .ok (.bipush 10, 2) := by decide +kernel
theorem dX9_ends_24 : decode cX9_ends 24 = .ok (.irem, 1) := by decide +kernel
theorem dX9_ends_25 : decode cX9_ends 25 = .ok (.iadd, 1) := by decide +kernel
theorem dX9_ends_26 : decode cX9_ends 26 = .ok (.iastore, 1) := by decide +kernel
theorem dX9_ends_27 : decode cX9_ends 27 = .ok (.iload_n 2, 1) := by decide +kernel
theorem dX9_ends_28 : decode cX9_ends 28 = .ok (.bipush 9, 2) := by decide +kernel
theorem dX9_ends_30 : decode cX9_ends 30 = .ok (.if_icmp .le 27, 3) := by decide +kernel
theorem dX9_ends_33 : decode cX9_ends 33 = .ok (.iload_n 2, 1) := by decide +kernel
theorem dX9_ends_34 : decode cX9_ends 34 = .ok (.bipush 10, 2) := by decide +kernel
theorem dX9_ends_36 : decode cX9_ends 36 = .ok (.idiv, 1) := by decide +kernel
theorem dX9_ends_37 : decode cX9_ends 37 = .ok (.istore_n 2, 1) := by decide +kernel
theorem dX9_ends_38 : decode cX9_ends 38 = .ok (.iinc 3 (-1), 3) := by decide +kernel
theorem dX9_ends_41 : decode cX9_ends 41 = .ok (.aload_n 0, 1) := by decide +kernel
theorem dX9_ends_42 : decode cX9_ends 42 = .ok (.getfield 59, 3) := by decide +kernel
theorem dX9_ends_45 : decode cX9_ends 45 = .ok (.iload_n 3, 1) := by decide +kernel
theorem dX9_ends_46 : decode cX9_ends 46 = .ok (.bipush 48, 2) := by decide +kernel
theorem dX9_ends_48 : decode cX9_ends 48 = .ok (.iload_n 2, 1) := by decide +kernel
theorem dX9_ends_49 : decode cX9_ends 49 = .ok (.bipush 10, 2) := by decide +kernel
theorem dX9_ends_51 : decode cX9_ends 51 = .ok (.irem, 1) := by decide +kernel
theorem dX9_ends_52 : decode cX9_ends 52 = .ok (.iadd, 1) := by decide +kernel
theorem dX9_ends_53 : decode cX9_ends 53 = .ok (.iastore, 1) := by decide +kernel
theorem dX9_ends_54 : decode cX9_ends 54 = .ok (.goto (-27), 3) := by decide +kernel
theorem dX9_ends_57 : decode cX9_ends 57 = .ok (.aload_n 0, 1) := by decide +kernel
theorem dX9_ends_58 : decode cX9_ends 58 = .ok (.getfield 59, 3) := by decide +kernel
theorem dX9_ends_61 : decode cX9_ends 61 = .ok (.iload_n 3, 1) := by decide +kernel
theorem dX9_ends_62 : decode cX9_ends 62 = .ok (.iconst 1, 1) := by decide +kernel
theorem dX9_ends_63 : decode cX9_ends 63 = .ok (.isub, 1) := by decide +kernel
theorem dX9_ends_64 : decode cX9_ends 64 = .ok (.iload_n 1, 1) := by decide +kernel
theorem dX9_ends_65 : decode cX9_ends 65 = .ok (.ifCond .ge 8, 3) := by decide +kernel
theorem dX9_ends_68 : decode cX9_ends 68 = .ok (.bipush 45, 2) := by decide +kernel
theorem dX9_ends_70 : decode cX9_ends 70 = .ok (.goto 5, 3) := by decide +kernel
theorem dX9_ends_73 : decode cX9_ends 73 = .ok (.bipush 32, 2) := by decide +kernel
theorem dX9_ends_75 : decode cX9_ends 75 = .ok (.iastore, 1) := by decide +kernel
theorem dX9_ends_76 : decode cX9_ends 76 = .ok (.return_, 1) := by decide +kernel
theorem dX9_signOf_0 : decode cX9_signOf 0 = .ok (.iload_n 1, 1) := by decide +kernel
theorem dX9_signOf_1 : decode cX9_signOf 1 = .ok (.tableswitch 136 0 4 #[35, 57, 79, 101, 123], 35) := by decide +kernel
theorem dX9_signOf_36 : decode cX9_signOf 36 = .ok (.iload_n 0, 1) := by decide +kernel
theorem dX9_signOf_37 : decode cX9_signOf 37 = .ok (.ifCond .ne 8, 3) := by decide +kernel
theorem dX9_signOf_40 : decode cX9_signOf 40 = .ok (.bipush 77, 2) := by decide +kernel
theorem dX9_signOf_42 : decode cX9_signOf 42 = .ok (.goto 15, 3) := by decide +kernel
theorem dX9_signOf_45 : decode cX9_signOf 45 = .ok (.iload_n 0, 1) := by decide +kernel
theorem dX9_signOf_46 : decode cX9_signOf 46 = .ok (.iconst 1, 1) := by decide +kernel
theorem dX9_signOf_47 : decode cX9_signOf 47 = .ok (.if_icmp .ne 8, 3) := by decide +kernel
theorem dX9_signOf_50 : decode cX9_signOf 50 = .ok (.bipush 78, 2) := by decide +kernel
theorem dX9_signOf_52 : decode cX9_signOf 52 = .ok (.goto 5, 3) := by decide +kernel
theorem dX9_signOf_55 : decode cX9_signOf 55 = .ok (.bipush 67, 2) := by decide +kernel
theorem dX9_signOf_57 : decode cX9_signOf 57 = .ok (.ireturn, 1) := by decide +kernel
theorem dX9_signOf_58 : decode cX9_signOf 58 = .ok (.iload_n 0, 1) := by decide +kernel
theorem dX9_signOf_59 : decode cX9_signOf 59 = .ok (.ifCond .ne 8, 3) := by decide +kernel
theorem dX9_signOf_62 : decode cX9_signOf 62 = .ok (.bipush 69, 2) := by decide +kernel
theorem dX9_signOf_64 : decode cX9_signOf 64 = .ok (.goto 15, 3) := by decide +kernel
theorem dX9_signOf_67 : decode cX9_signOf 67 = .ok (.iload_n 0, 1) := by decide +kernel
theorem dX9_signOf_68 : decode cX9_signOf 68 = .ok (.iconst 1, 1) := by decide +kernel
theorem dX9_signOf_69 : decode cX9_signOf 69 = .ok (.if_icmp .ne 8, 3) := by decide +kernel
theorem dX9_signOf_72 : decode cX9_signOf 72 = .ok (.bipush 85, 2) := by decide +kernel
theorem dX9_signOf_74 : decode cX9_signOf 74 = .ok (.goto 5, 3) := by decide +kernel
theorem dX9_signOf_77 : decode cX9_signOf 77 = .ok (.bipush 72, 2) := by decide +kernel
theorem dX9_signOf_79 : decode cX9_signOf 79 = .ok (.ireturn, 1) := by decide +kernel
theorem dX9_signOf_80 : decode cX9_signOf 80 = .ok (.iload_n 0, 1) := by decide +kernel
theorem dX9_signOf_81 : decode cX9_signOf 81 = .ok (.ifCond .ne 8, 3) := by decide +kernel
theorem dX9_signOf_84 : decode cX9_signOf 84 = .ok (.bipush 78, 2) := by decide +kernel
theorem dX9_signOf_86 : decode cX9_signOf 86 = .ok (.goto 15, 3) := by decide +kernel
theorem dX9_signOf_89 : decode cX9_signOf 89 = .ok (.iload_n 0, 1) := by decide +kernel
theorem dX9_signOf_90 : decode cX9_signOf 90 = .ok (.iconst 1, 1) := by decide +kernel
theorem dX9_signOf_91 : decode cX9_signOf 91 = .ok (.if_icmp .ne 8, 3) := by decide +kernel
theorem dX9_signOf_94 : decode cX9_signOf 94 = .ok (.bipush 77, 2) := by decide +kernel
theorem dX9_signOf_96 : decode cX9_signOf 96 = .ok (.goto 5, 3) := by decide +kernel
theorem dX9_signOf_99 : decode cX9_signOf 99 = .ok (.bipush 79, 2) := by decide +kernel
theorem dX9_signOf_101 : decode cX9_signOf 101 = .ok (.ireturn, 1) := by decide +kernel
theorem dX9_signOf_102 : decode cX9_signOf 102 = .ok (.iload_n 0, 1) := by decide +kernel
theorem dX9_signOf_103 : decode cX9_signOf 103 = .ok (.ifCond .ne 8, 3) := by decide +kernel
theorem dX9_signOf_106 : decode cX9_signOf 106 = .ok (.bipush 85, 2) := by decide +kernel
theorem dX9_signOf_108 : decode cX9_signOf 108 = .ok (.goto 15, 3) := by decide +kernel
theorem dX9_signOf_111 : decode cX9_signOf 111 = .ok (.iload_n 0, 1) := by decide +kernel
theorem dX9_signOf_112 : decode cX9_signOf 112 = .ok (.iconst 1, 1) := by decide +kernel
theorem dX9_signOf_113 : decode cX9_signOf 113 = .ok (.if_icmp .ne 8, 3) := by decide +kernel
theorem dX9_signOf_116 : decode cX9_signOf 116 = .ok (.bipush 66, 2) := by decide +kernel
theorem dX9_signOf_118 : decode cX9_signOf 118 = .ok (.goto 5, 3) := by decide +kernel
theorem dX9_signOf_121 : decode cX9_signOf 121 = .ok (.bipush 73, 2) := by decide +kernel
theorem dX9_signOf_123 : decode cX9_signOf 123 = .ok (.ireturn, 1) := by decide +kernel
theorem dX9_signOf_124 : decode cX9_signOf 124 = .ok (.iload_n 0, 1) := by decide +kernel
theorem dX9_signOf_125 : decode cX9_signOf 125 = .ok (.iconst 1, 1) := by decide +kernel
theorem dX9_signOf_126 : decode cX9_signOf 126 = .ok (.if_icmp .ne 8, 3) := by decide +kernel
theorem dX9_signOf_129 : decode cX9_signOf 129 = .ok (.bipush 69, 2) := by decide +kernel
theorem dX9_signOf_131 : decode cX9_signOf 131 = .ok (.goto 5, 3) := by decide +kernel
theorem dX9_signOf_134 : decode cX9_signOf 134 = .ok (.bipush 67, 2) := by decide +kernel
theorem dX9_signOf_136 : decode cX9_signOf 136 = .ok (.ireturn, 1) := by decide +kernel
theorem dX9_signOf_137 : decode cX9_signOf 137 = .ok (.iload_n 0, 1) := by decide +kernel
theorem dX9_signOf_138 : decode cX9_signOf 138 = .ok (.iconst 1, 1) := by decide +kernel
theorem dX9_signOf_139 : decode cX9_signOf 139 = .ok (.if_icmp .ne 8, 3) := by decide +kernel
theorem dX9_signOf_142 : decode cX9_signOf 142 = .ok (.bipush 82, 2) := by decide +kernel
theorem dX9_signOf_144 : decode cX9_signOf 144 = .ok (.goto 5, 3) := by decide +kernel
theorem dX9_signOf_147 : decode cX9_signOf 147 = .ok (.bipush 69, 2) := by decide +kernel
theorem dX9_signOf_149 : decode cX9_signOf 149 = .ok (.ireturn, 1) := by decide +kernel
theorem dX9_names_0 : decode cX9_names 0 = .ok (.aload_n 0, 1) := by decide +kernel
theorem dX9_names_1 : decode cX9_names 1 = .ok (.iload_n 1, 1) := by decide +kernel
theorem dX9_names_2 : decode cX9_names 2 = .ok (.invokevirtual 100, 3) := by decide +kernel
theorem dX9_names_5 : decode cX9_names 5 = .ok (.ifCond .eq 7, 3) := by decide +kernel
theorem dX9_names_8 : decode cX9_names 8 = .ok (.iconst 4, 1) := by decide +kernel
theorem dX9_names_9 : decode cX9_names 9 = .ok (.goto 5, 3) := by decide +kernel
theorem dX9_names_12 : decode cX9_names 12 = .ok (.bipush 6, 2) := by decide +kernel
theorem dX9_names_14 : decode cX9_names 14 = .ok (.istore_n 2, 1) := by decide +kernel
theorem dX9_names_15 : decode cX9_names 15 = .ok (.iconst 0, 1) := by decide +kernel
theorem dX9_names_16 : decode cX9_names 16 = .ok (.istore_n 3, 1) := by decide +kernel
theorem dX9_names_17 : decode cX9_names 17 = .ok (.iload_n 3, 1) := by decide +kernel
theorem dX9_names_18 : decode cX9_names 18 = .ok (.iload_n 2, 1) := by decide +kernel
theorem dX9_names_19 : decode cX9_names 19 = .ok (.if_icmp .ge 25, 3) := by decide +kernel
theorem dX9_names_22 : decode cX9_names 22 = .ok (.aload_n 0, 1) := by decide +kernel
theorem dX9_names_23 : decode cX9_names 23 = .ok (.getfield 59, 3) := by decide +kernel
theorem dX9_names_26 : decode cX9_names 26 = .ok (.iload_n 3, 1) := by decide +kernel
theorem dX9_names_27 : decode cX9_names 27 = .ok (.aload_n 0, 1) := by decide +kernel
theorem dX9_names_28 : decode cX9_names 28 = .ok (.getfield 7, 3) := by decide +kernel
theorem dX9_names_31 : decode cX9_names 31 = .ok (.iload_n 1, 1) := by decide +kernel
theorem dX9_names_32 : decode cX9_names 32 = .ok (.iaload, 1) := by decide +kernel
theorem dX9_names_33 : decode cX9_names 33 = .ok (.iload_n 3, 1) := by decide +kernel
theorem dX9_names_34 : decode cX9_names 34 = .ok (.invokestatic 182, 3) := by decide +kernel
theorem dX9_names_37 : decode cX9_names 37 = .ok (.iastore, 1) := by decide +kernel
theorem dX9_names_38 : decode cX9_names 38 = .ok (.iinc 3 1, 3) := by decide +kernel
theorem dX9_names_41 : decode cX9_names 41 = .ok (.goto (-24), 3) := by decide +kernel
theorem dX9_names_44 : decode cX9_names 44 = .ok (.aload_n 0, 1) := by decide +kernel
theorem dX9_names_45 : decode cX9_names 45 = .ok (.iload_n 1, 1) := by decide +kernel
theorem dX9_names_46 : decode cX9_names 46 = .ok (.iload_n 2, 1) := by decide +kernel
theorem dX9_names_47 : decode cX9_names 47 = .ok (.iconst 1, 1) := by decide +kernel
theorem dX9_names_48 : decode cX9_names 48 = .ok (.iadd, 1) := by decide +kernel
theorem dX9_names_49 : decode cX9_names 49 = .ok (.invokevirtual 185, 3) := by decide +kernel
theorem dX9_names_52 : decode cX9_names 52 = .ok (.return_, 1) := by decide +kernel
theorem dX9_begins_0 : decode cX9_begins 0 = .ok (.aload_n 0, 1) := by decide +kernel
theorem dX9_begins_1 : decode cX9_begins 1 = .ok (.getfield 59, 3) := by decide +kernel
theorem dX9_begins_4 : decode cX9_begins 4 = .ok (.iconst 0, 1) := by decide +kernel
theorem dX9_begins_5 : decode cX9_begins 5 = .ok (.iload_n 1, 1) := by decide +kernel
theorem dX9_begins_6 : decode cX9_begins 6 = .ok (.iastore, 1) := by decide +kernel
theorem dX9_begins_7 : decode cX9_begins 7 = .ok (.aload_n 0, 1) := by decide +kernel
theorem dX9_begins_8 : decode cX9_begins 8 = .ok (.getfield 59, 3) := by decide +kernel
theorem dX9_begins_11 : decode cX9_begins 11 = .ok (.iconst 1, 1) := by decide +kernel
theorem dX9_begins_12 : decode cX9_begins 12 = .ok (.iload_n 2, 1) := by decide +kernel
theorem dX9_begins_13 : decode cX9_begins 13 = .ok (.iastore, 1) := by decide +kernel
theorem dX9_begins_14 : decode cX9_begins 14 = .ok (.aload_n 0, 1) := by decide +kernel
theorem dX9_begins_15 : decode cX9_begins 15 = .ok (.getfield 59, 3) := by decide +kernel
theorem dX9_begins_18 : decode cX9_begins 18 = .ok (.iconst 2, 1) := by decide +kernel
theorem dX9_begins_19 : decode cX9_begins 19 = .ok (.iload_n 3, 1) := by decide +kernel
theorem dX9_begins_20 : decode cX9_begins 20 = .ok (.iastore, 1) := by decide +kernel
theorem dX9_begins_21 : decode cX9_begins 21 = .ok (.aload_n 0, 1) := by decide +kernel
theorem dX9_begins_22 : decode cX9_begins 22 = .ok (.getfield 59, 3) := by decide +kernel
theorem dX9_begins_25 : decode cX9_begins 25 = .ok (.iconst 3, 1) := by decide +kernel
theorem dX9_begins_26 : decode cX9_begins 26 = .ok (.iload 4, 2) := by decide +kernel
theorem dX9_begins_28 : decode cX9_begins 28 = .ok (.iastore, 1) := by decide +kernel
theorem dX9_begins_29 : decode cX9_begins 29 = .ok (.return_, 1) := by decide +kernel
theorem dX9_firstLine_0 : decode cX9_firstLine 0 = .ok (.aload_n 0, 1) := by decide +kernel
theorem dX9_firstLine_1 : decode cX9_firstLine 1 = .ok (.getfield 83, 3) := by decide +kernel
theorem dX9_firstLine_4 : decode cX9_firstLine 4 = .ok (.ifCond .ne 12, 3) := by decide +kernel
theorem dX9_firstLine_7 : decode cX9_firstLine 7 = .ok (.aload_n 0, 1) := by decide +kernel
theorem dX9_firstLine_8 : decode cX9_firstLine 8 = .ok (.aload_n 0, 1) := by decide +kernel
theorem dX9_firstLine_9 : decode cX9_firstLine 9 = .ok (.getfield 77, 3) := by decide +kernel
theorem dX9_firstLine_12 : decode cX9_firstLine 12 = .ok (.invokevirtual 188, 3) := by decide +kernel
theorem dX9_firstLine_15 : decode cX9_firstLine 15 = .ok (.return_, 1) := by decide +kernel
theorem dX9_firstLine_16 : decode cX9_firstLine 16 = .ok (.aload_n 0, 1) := by decide +kernel
theorem dX9_firstLine_17 : decode cX9_firstLine 17 = .ok (.getfield 83, 3) := by decide +kernel
theorem dX9_firstLine_20 : decode cX9_firstLine 20 = .ok (.iconst 1, 1) := by decide +kernel
theorem dX9_firstLine_21 : decode cX9_firstLine 21 = .ok (.if_icmp .ne 18, 3) := by decide +kernel
theorem dX9_firstLine_24 : decode cX9_firstLine 24 = .ok (.aload_n 0, 1) := by decide +kernel
theorem dX9_firstLine_25 : decode cX9_firstLine 25 = .ok (.bipush 69, 2) := by decide +kernel
theorem dX9_firstLine_27 : decode cX9_firstLine 27 = .ok (.bipush 68, 2) := by decide +kernel
theorem dX9_firstLine_29 : decode cX9_firstLine 29 = .ok (.bipush 73, 2) := by decide +kernel
theorem dX9_firstLine_31 : decode cX9_firstLine 31 = .ok (.bipush 84, 2) := by decide +kernel
theorem dX9_firstLine_33 : decode cX9_firstLine 33 = .ok (.invokevirtual 192, 3) := by decide +kernel
theorem dX9_firstLine_36 : decode cX9_firstLine 36 = .ok (.goto 15, 3) := by decide +kernel
theorem dX9_firstLine_39 : decode cX9_firstLine 39 = .ok (.aload_n 0, 1) := by decide +kernel
theorem dX9_firstLine_40 : decode cX9_firstLine 40 = .ok (.bipush 67, 2) := by decide +kernel
theorem dX9_firstLine_42 : decode cX9_firstLine 42 = .ok (.bipush 79, 2) := by decide +kernel
theorem dX9_firstLine_44 : decode cX9_firstLine 44 = .ok (.bipush 68, 2) := by decide +kernel
theorem dX9_firstLine_46 : decode cX9_firstLine 46 = .ok (.bipush 69, 2) := by decide +kernel
theorem dX9_firstLine_48 : decode cX9_firstLine 48 = .ok (.invokevirtual 192, 3) := by decide +kernel
theorem dX9_firstLine_51 : decode cX9_firstLine 51 = .ok (.aload_n 0, 1) := by decide +kernel
theorem dX9_firstLine_52 : decode cX9_firstLine 52 = .ok (.aload_n 0, 1) := by decide +kernel
theorem dX9_firstLine_53 : decode cX9_firstLine 53 = .ok (.aload_n 0, 1) := by decide +kernel
theorem dX9_firstLine_54 : decode cX9_firstLine 54 = .ok (.getfield 86, 3) := by decide +kernel
theorem dX9_firstLine_57 : decode cX9_firstLine 57 = .ok (.invokevirtual 125, 3) := by decide +kernel
theorem dX9_firstLine_60 : decode cX9_firstLine 60 = .ok (.iconst 5, 1) := by decide +kernel
theorem dX9_firstLine_61 : decode cX9_firstLine 61 = .ok (.invokevirtual 185, 3) := by decide +kernel
theorem dX9_firstLine_64 : decode cX9_firstLine 64 = .ok (.return_, 1) := by decide +kernel
theorem dX9_secondLine_0 : decode cX9_secondLine 0 = .ok (.aload_n 0, 1) := by decide +kernel
theorem dX9_secondLine_1 : decode cX9_secondLine 1 = .ok (.getfield 83, 3) := by decide +kernel
theorem dX9_secondLine_4 : decode cX9_secondLine 4 = .ok (.iconst 1, 1) := by decide +kernel
theorem dX9_secondLine_5 : decode cX9_secondLine 5 = .ok (.if_icmp .ne 12, 3) := by decide +kernel
theorem dX9_secondLine_8 : decode cX9_secondLine 8 = .ok (.aload_n 0, 1) := by decide +kernel
theorem dX9_secondLine_9 : decode cX9_secondLine 9 = .ok (.aload_n 0, 1) := by decide +kernel
theorem dX9_secondLine_10 : decode cX9_secondLine 10 = .ok (.getfield 128, 3) := by decide +kernel
theorem dX9_secondLine_13 : decode cX9_secondLine 13 = .ok (.invokevirtual 196, 3) := by decide +kernel
theorem dX9_secondLine_16 : decode cX9_secondLine 16 = .ok (.return_, 1) := by decide +kernel
theorem dX9_secondLine_17 : decode cX9_secondLine 17 = .ok (.aload_n 0, 1) := by decide +kernel
theorem dX9_secondLine_18 : decode cX9_secondLine 18 = .ok (.getfield 83, 3) := by decide +kernel
theorem dX9_secondLine_21 : decode cX9_secondLine 21 = .ok (.iconst 2, 1) := by decide +kernel
theorem dX9_secondLine_22 : decode cX9_secondLine 22 = .ok (.if_icmp .ne 58, 3) := by decide +kernel
theorem dX9_secondLine_25 : decode cX9_secondLine 25 = .ok (.iconst 0, 1) := by decide +kernel
theorem dX9_secondLine_26 : decode cX9_secondLine 26 = .ok (.istore_n 1, 1) := by decide +kernel
theorem dX9_secondLine_27 : decode cX9_secondLine 27 = .ok (.iload_n 1, 1) := by decide +kernel
theorem dX9_secondLine_28 : decode cX9_secondLine 28 = .ok (.iconst 4, 1) := by decide +kernel
theorem dX9_secondLine_29 : decode cX9_secondLine 29 = .ok (.if_icmp .ge 50, 3) := by decide +kernel
theorem dX9_secondLine_32 : decode cX9_secondLine 32 = .ok (.aload_n 0, 1) := by decide +kernel
theorem dX9_secondLine_33 : decode cX9_secondLine 33 = .ok (.getfield 59, 3) := by decide +kernel
theorem dX9_secondLine_36 : decode cX9_secondLine 36 = .ok (.iload_n 1, 1) := by decide +kernel
theorem dX9_secondLine_37 : decode cX9_secondLine 37 = .ok (.iload_n 1, 1) := by decide +kernel
theorem dX9_secondLine_38 : decode cX9_secondLine 38 = .ok (.aload_n 0, 1) := by decide +kernel
theorem dX9_secondLine_39 : decode cX9_secondLine 39 = .ok (.getfield 119, 3) := by decide +kernel
theorem dX9_secondLine_42 : decode cX9_secondLine 42 = .ok (.if_icmp .ge 8, 3) := by decide +kernel
theorem dX9_secondLine_45 : decode cX9_secondLine 45 = .ok (.bipush 42, 2) := by decide +kernel
theorem dX9_secondLine_47 : decode cX9_secondLine 47 = .ok (.goto 25, 3) := by decide +kernel
theorem dX9_secondLine_50 : decode cX9_secondLine 50 = .ok (.iload_n 1, 1) := by decide +kernel
theorem dX9_secondLine_51 : decode cX9_secondLine 51 = .ok (.aload_n 0, 1) := by decide +kernel
theorem dX9_secondLine_52 : decode cX9_secondLine 52 = .ok (.getfield 119, 3) := by decide +kernel
theorem dX9_secondLine_55 : decode cX9_secondLine 55 = .ok (.if_icmp .le 8, 3) := by decide +kernel
theorem dX9_secondLine_58 : decode cX9_secondLine 58 = .ok (.bipush 45, 2) := by decide +kernel
theorem dX9_secondLine_60 : decode cX9_secondLine 60 = .ok (.goto 12, 3) := by decide +kernel
theorem dX9_secondLine_63 : decode cX9_secondLine 63 = .ok (.bipush 48, 2) := by decide +kernel
theorem dX9_secondLine_65 : decode cX9_secondLine 65 = .ok (.aload_n 0, 1) := by decide +kernel
theorem dX9_secondLine_66 : decode cX9_secondLine 66 = .ok (.getfield 35, 3) := by decide +kernel
theorem dX9_secondLine_69 : decode cX9_secondLine 69 = .ok (.iload_n 1, 1) := by decide +kernel
theorem dX9_secondLine_70 : decode cX9_secondLine 70 = .ok (.iaload, 1) := by decide +kernel
theorem dX9_secondLine_71 : decode cX9_secondLine 71 = .ok (.iadd, 1) := by decide +kernel
theorem dX9_secondLine_72 : decode cX9_secondLine 72 = .ok (.iastore, 1) := by decide +kernel
theorem dX9_secondLine_73 : decode cX9_secondLine 73 = .ok (.iinc 1 1, 3) := by decide +kernel
theorem dX9_secondLine_76 : decode cX9_secondLine 76 = .ok (.goto (-49), 3) := by decide +kernel
theorem dX9_secondLine_79 : decode cX9_secondLine 79 = .ok (.return_, 1) := by decide +kernel
theorem dX9_secondLine_80 : decode cX9_secondLine 80 = .ok (.aload_n 0, 1) := by decide +kernel
theorem dX9_secondLine_81 : decode cX9_secondLine 81 = .ok (.aload_n 0, 1) := by decide +kernel
theorem dX9_secondLine_82 : decode cX9_secondLine 82 = .ok (.getfield 86, 3) := by decide +kernel
theorem dX9_secondLine_85 : decode cX9_secondLine 85 = .ok (.invokevirtual 125, 3) := by decide +kernel
theorem dX9_secondLine_88 : decode cX9_secondLine 88 = .ok (.istore_n 1, 1) := by decide +kernel
theorem dX9_secondLine_89 : decode cX9_secondLine 89 = .ok (.iload_n 1, 1) := by decide +kernel
theorem dX9_secondLine_90 : decode cX9_secondLine 90 = .ok (.iconst (-1), 1) := by decide +kernel
theorem dX9_secondLine_91 : decode cX9_secondLine 91 = .ok (.if_icmp .ne 27, 3) := by decide +kernel
theorem dX9_secondLine_94 : decode cX9_secondLine 94 = .ok (.aload_n 0, 1) := by decide +kernel
theorem dX9_secondLine_95 : decode cX9_secondLine 95 = .ok (.aload_n 0, 1) := by decide +kernel
theorem dX9_secondLine_96 : decode cX9_secondLine 96 = .ok (.getfield 77, 3) := by decide +kernel
theorem dX9_secondLine_99 : decode cX9_secondLine 99 = .ok (.invokevirtual 135, 3) := by decide +kernel
theorem dX9_secondLine_102 : decode cX9_secondLine 102 = .ok (.ifCond .le 15, 3) := by decide +kernel
theorem dX9_secondLine_105 : decode cX9_secondLine 105 = .ok (.aload_n 0, 1) := by decide +kernel
theorem dX9_secondLine_106 : decode cX9_secondLine 106 = .ok (.bipush 66, 2) := by decide +kernel
theorem dX9_secondLine_108 : decode cX9_secondLine 108 = .ok (.bipush 65, 2) := by decide +kernel
theorem dX9_secondLine_110 : decode cX9_secondLine 110 = .ok (.bipush 67, 2) := by decide +kernel
theorem dX9_secondLine_112 : decode cX9_secondLine 112 = .ok (.bipush 75, 2) := by decide +kernel
theorem dX9_secondLine_114 : decode cX9_secondLine 114 = .ok (.invokevirtual 192, 3) := by decide +kernel
theorem dX9_secondLine_117 : decode cX9_secondLine 117 = .ok (.return_, 1) := by decide +kernel
theorem dX9_secondLine_118 : decode cX9_secondLine 118 = .ok (.aload_n 0, 1) := by decide +kernel
theorem dX9_secondLine_119 : decode cX9_secondLine 119 = .ok (.iload_n 1, 1) := by decide +kernel
theorem dX9_secondLine_120 : decode cX9_secondLine 120 = .ok (.invokevirtual 188, 3) := by decide +kernel
theorem dX9_secondLine_123 : decode cX9_secondLine 123 = .ok (.aload_n 0, 1) := by decide +kernel
theorem dX9_secondLine_124 : decode cX9_secondLine 124 = .ok (.iload_n 1, 1) := by decide +kernel
theorem dX9_secondLine_125 : decode cX9_secondLine 125 = .ok (.invokevirtual 116, 3) := by decide +kernel
theorem dX9_secondLine_128 : decode cX9_secondLine 128 = .ok (.ifCond .eq 15, 3) := by decide +kernel
theorem dX9_secondLine_131 : decode cX9_secondLine 131 = .ok (.aload_n 0, 1) := by decide +kernel
theorem dX9_secondLine_132 : decode cX9_secondLine 132 = .ok (.getfield 59, 3) := by decide +kernel
theorem dX9_secondLine_135 : decode cX9_secondLine 135 = .ok (.bipush 15, 2) := by decide +kernel
theorem dX9_secondLine_137 : decode cX9_secondLine 137 = .ok (.bipush 76, 2) := by decide +kernel
theorem dX9_secondLine_139 : decode cX9_secondLine 139 = .ok (.iastore, 1) := by decide +kernel
theorem dX9_secondLine_140 : decode cX9_secondLine 140 = .ok (.goto 33, 3) := by decide +kernel
theorem dX9_secondLine_143 : decode cX9_secondLine 143 = .ok (.aload_n 0, 1) := by decide +kernel
theorem dX9_secondLine_144 : decode cX9_secondLine 144 = .ok (.iload_n 1, 1) := by decide +kernel
theorem dX9_secondLine_145 : decode cX9_secondLine 145 = .ok (.invokevirtual 100, 3) := by decide +kernel
theorem dX9_secondLine_148 : decode cX9_secondLine 148 = .ok (.ifCond .eq 15, 3) := by decide +kernel
theorem dX9_secondLine_151 : decode cX9_secondLine 151 = .ok (.aload_n 0, 1) := by decide +kernel
theorem dX9_secondLine_152 : decode cX9_secondLine 152 = .ok (.getfield 59, 3) := by decide +kernel
theorem dX9_secondLine_155 : decode cX9_secondLine 155 = .ok (.bipush 15, 2) := by decide +kernel
theorem dX9_secondLine_157 : decode cX9_secondLine 157 = .ok (.bipush 62, 2) := by decide +kernel
theorem dX9_secondLine_159 : decode cX9_secondLine 159 = .ok (.iastore, 1) := by decide +kernel
theorem dX9_secondLine_160 : decode cX9_secondLine 160 = .ok (.goto 13, 3) := by decide +kernel
theorem dX9_secondLine_163 : decode cX9_secondLine 163 = .ok (.aload_n 0, 1) := by decide +kernel
theorem dX9_secondLine_164 : decode cX9_secondLine 164 = .ok (.aload_n 0, 1) := by decide +kernel
theorem dX9_secondLine_165 : decode cX9_secondLine 165 = .ok (.getfield 25, 3) := by decide +kernel
theorem dX9_secondLine_168 : decode cX9_secondLine 168 = .ok (.iload_n 1, 1) := by decide +kernel
theorem dX9_secondLine_169 : decode cX9_secondLine 169 = .ok (.iaload, 1) := by decide +kernel
theorem dX9_secondLine_170 : decode cX9_secondLine 170 = .ok (.invokevirtual 196, 3) := by decide +kernel
theorem dX9_secondLine_173 : decode cX9_secondLine 173 = .ok (.return_, 1) := by decide +kernel
theorem dX9_lays_0 : decode cX9_lays 0 = .ok (.iconst 0, 1) := by decide +kernel
theorem dX9_lays_1 : decode cX9_lays 1 = .ok (.istore_n 2, 1) := by decide +kernel
theorem dX9_lays_2 : decode cX9_lays 2 = .ok (.iload_n 2, 1) := by decide +kernel
theorem dX9_lays_3 : decode cX9_lays 3 = .ok (.bipush 16, 2) := by decide +kernel
theorem dX9_lays_5 : decode cX9_lays 5 = .ok (.if_icmp .ge 17, 3) := by decide +kernel
theorem dX9_lays_8 : decode cX9_lays 8 = .ok (.aload_n 0, 1) := by decide +kernel
theorem dX9_lays_9 : decode cX9_lays 9 = .ok (.getfield 59, 3) := by decide +kernel
theorem dX9_lays_12 : decode cX9_lays 12 = .ok (.iload_n 2, 1) := by decide +kernel
theorem dX9_lays_13 : decode cX9_lays 13 = .ok (.bipush 32, 2) := by decide +kernel
theorem dX9_lays_15 : decode cX9_lays 15 = .ok (.iastore, 1) := by decide +kernel
theorem dX9_lays_16 : decode cX9_lays 16 = .ok (.iinc 2 1, 3) := by decide +kernel
theorem dX9_lays_19 : decode cX9_lays 19 = .ok (.goto (-17), 3) := by decide +kernel
theorem dX9_lays_22 : decode cX9_lays 22 = .ok (.iload_n 1, 1) := by decide +kernel
theorem dX9_lays_23 : decode cX9_lays 23 = .ok (.ifCond .ne 10, 3) := by decide +kernel
theorem dX9_lays_26 : decode cX9_lays 26 = .ok (.aload_n 0, 1) := by decide +kernel
theorem dX9_lays_27 : decode cX9_lays 27 = .ok (.invokevirtual 199, 3) := by decide +kernel
theorem dX9_lays_30 : decode cX9_lays 30 = .ok (.goto 7, 3) := by decide +kernel
theorem dX9_lays_33 : decode cX9_lays 33 = .ok (.aload_n 0, 1) := by decide +kernel
theorem dX9_lays_34 : decode cX9_lays 34 = .ok (.invokevirtual 202, 3) := by decide +kernel
theorem dX9_lays_37 : decode cX9_lays 37 = .ok (.return_, 1) := by decide +kernel
theorem dX9_display_0 : decode cX9_display 0 = .ok (.aload_n 0, 1) := by decide +kernel
theorem dX9_display_1 : decode cX9_display 1 = .ok (.iload_n 1, 1) := by decide +kernel
theorem dX9_display_2 : decode cX9_display 2 = .ok (.iconst 0, 1) := by decide +kernel
theorem dX9_display_3 : decode cX9_display 3 = .ok (.iconst 1, 1) := by decide +kernel
theorem dX9_display_4 : decode cX9_display 4 = .ok (.invokestatic 69, 3) := by decide +kernel
theorem dX9_display_7 : decode cX9_display 7 = .ok (.ifCond .eq 17, 3) := by decide +kernel
theorem dX9_display_10 : decode cX9_display 10 = .ok (.iload_n 2, 1) := by decide +kernel
theorem dX9_display_11 : decode cX9_display 11 = .ok (.iconst 0, 1) := by decide +kernel
theorem dX9_display_12 : decode cX9_display 12 = .ok (.bipush 15, 2) := by decide +kernel
theorem dX9_display_14 : decode cX9_display 14 = .ok (.invokestatic 69, 3) := by decide +kernel
theorem dX9_display_17 : decode cX9_display 17 = .ok (.ifCond .eq 7, 3) := by decide +kernel
theorem dX9_display_20 : decode cX9_display 20 = .ok (.iconst 0, 1) := by decide +kernel
theorem dX9_display_21 : decode cX9_display 21 = .ok (.goto 4, 3) := by decide +kernel
theorem dX9_display_24 : decode cX9_display 24 = .ok (.iconst 1, 1) := by decide +kernel
theorem dX9_display_25 : decode cX9_display 25 = .ok (.invokevirtual 109, 3) := by decide +kernel
theorem dX9_display_28 : decode cX9_display 28 = .ok (.ifCond .ne 5, 3) := by decide +kernel
theorem dX9_display_31 : decode cX9_display 31 = .ok (.iconst 0, 1) := by decide +kernel
theorem dX9_display_32 : decode cX9_display 32 = .ok (.ireturn, 1) := by decide +kernel
theorem dX9_display_33 : decode cX9_display 33 = .ok (.aload_n 0, 1) := by decide +kernel
theorem dX9_display_34 : decode cX9_display 34 = .ok (.iload_n 1, 1) := by decide +kernel
theorem dX9_display_35 : decode cX9_display 35 = .ok (.invokevirtual 205, 3) := by decide +kernel
theorem dX9_display_38 : decode cX9_display 38 = .ok (.aload_n 0, 1) := by decide +kernel
theorem dX9_display_39 : decode cX9_display 39 = .ok (.getfield 59, 3) := by decide +kernel
theorem dX9_display_42 : decode cX9_display 42 = .ok (.iload_n 2, 1) := by decide +kernel
theorem dX9_display_43 : decode cX9_display 43 = .ok (.iaload, 1) := by decide +kernel
theorem dX9_display_44 : decode cX9_display 44 = .ok (.ireturn, 1) := by decide +kernel
theorem dX9_events_0 : decode cX9_events 0 = .ok (.aload_n 0, 1) := by decide +kernel
theorem dX9_events_1 : decode cX9_events 1 = .ok (.iload_n 1, 1) := by decide +kernel
theorem dX9_events_2 : decode cX9_events 2 = .ok (.iconst 0, 1) := by decide +kernel
theorem dX9_events_3 : decode cX9_events 3 = .ok (.bipush 7, 2) := by decide +kernel
theorem dX9_events_5 : decode cX9_events 5 = .ok (.invokestatic 69, 3) := by decide +kernel
theorem dX9_events_8 : decode cX9_events 8 = .ok (.ifCond .eq 7, 3) := by decide +kernel
theorem dX9_events_11 : decode cX9_events 11 = .ok (.iconst 0, 1) := by decide +kernel
theorem dX9_events_12 : decode cX9_events 12 = .ok (.goto 4, 3) := by decide +kernel
theorem dX9_events_15 : decode cX9_events 15 = .ok (.iconst 1, 1) := by decide +kernel
theorem dX9_events_16 : decode cX9_events 16 = .ok (.invokevirtual 109, 3) := by decide +kernel
theorem dX9_events_19 : decode cX9_events 19 = .ok (.ifCond .eq 12, 3) := by decide +kernel
theorem dX9_events_22 : decode cX9_events 22 = .ok (.aload_n 0, 1) := by decide +kernel
theorem dX9_events_23 : decode cX9_events 23 = .ok (.getfield 41, 3) := by decide +kernel
theorem dX9_events_26 : decode cX9_events 26 = .ok (.iload_n 1, 1) := by decide +kernel
theorem dX9_events_27 : decode cX9_events 27 = .ok (.iaload, 1) := by decide +kernel
theorem dX9_events_28 : decode cX9_events 28 = .ok (.goto 4, 3) := by decide +kernel
theorem dX9_events_31 : decode cX9_events 31 = .ok (.iconst 0, 1) := by decide +kernel
theorem dX9_events_32 : decode cX9_events 32 = .ok (.ireturn, 1) := by decide +kernel
theorem dX9_ifTurned_0 : decode cX9_ifTurned 0 = .ok (.aload_n 0, 1) := by decide +kernel
theorem dX9_ifTurned_1 : decode cX9_ifTurned 1 = .ok (.iload_n 1, 1) := by decide +kernel
theorem dX9_ifTurned_2 : decode cX9_ifTurned 2 = .ok (.bipush (-50), 2) := by decide +kernel
theorem dX9_ifTurned_4 : decode cX9_ifTurned 4 = .ok (.bipush 50, 2) := by decide +kernel
theorem dX9_ifTurned_6 : decode cX9_ifTurned 6 = .ok (.invokestatic 69, 3) := by decide +kernel
theorem dX9_ifTurned_9 : decode cX9_ifTurned 9 = .ok (.ifCond .eq 7, 3) := by decide +kernel
theorem dX9_ifTurned_12 : decode cX9_ifTurned 12 = .ok (.iconst 0, 1) := by decide +kernel
theorem dX9_ifTurned_13 : decode cX9_ifTurned 13 = .ok (.goto 4, 3) := by decide +kernel
theorem dX9_ifTurned_16 : decode cX9_ifTurned 16 = .ok (.iconst 1, 1) := by decide +kernel
theorem dX9_ifTurned_17 : decode cX9_ifTurned 17 = .ok (.invokevirtual 109, 3) := by decide +kernel
theorem dX9_ifTurned_20 : decode cX9_ifTurned 20 = .ok (.ifCond .eq 11, 3) := by decide +kernel
theorem dX9_ifTurned_23 : decode cX9_ifTurned 23 = .ok (.aload_n 0, 1) := by decide +kernel
theorem dX9_ifTurned_24 : decode cX9_ifTurned 24 = .ok (.iload_n 1, 1) := by decide +kernel
theorem dX9_ifTurned_25 : decode cX9_ifTurned 25 = .ok (.invokevirtual 138, 3) := by decide +kernel
theorem dX9_ifTurned_28 : decode cX9_ifTurned 28 = .ok (.goto 4, 3) := by decide +kernel
theorem dX9_ifTurned_31 : decode cX9_ifTurned 31 = .ok (.iconst 0, 1) := by decide +kernel
theorem dX9_ifTurned_32 : decode cX9_ifTurned 32 = .ok (.ireturn, 1) := by decide +kernel
theorem dX9_pressesTo_0 : decode cX9_pressesTo 0 = .ok (.aload_n 0, 1) := by decide +kernel
theorem dX9_pressesTo_1 : decode cX9_pressesTo 1 = .ok (.aload_n 0, 1) := by decide +kernel
theorem dX9_pressesTo_2 : decode cX9_pressesTo 2 = .ok (.iload_n 1, 1) := by decide +kernel
theorem dX9_pressesTo_3 : decode cX9_pressesTo 3 = .ok (.invokevirtual 96, 3) := by decide +kernel
theorem dX9_pressesTo_6 : decode cX9_pressesTo 6 = .ok (.ifCond .eq 7, 3) := by decide +kernel
theorem dX9_pressesTo_9 : decode cX9_pressesTo 9 = .ok (.iconst 0, 1) := by decide +kernel
theorem dX9_pressesTo_10 : decode cX9_pressesTo 10 = .ok (.goto 4, 3) := by decide +kernel
theorem dX9_pressesTo_13 : decode cX9_pressesTo 13 = .ok (.iconst 1, 1) := by decide +kernel
theorem dX9_pressesTo_14 : decode cX9_pressesTo 14 = .ok (.invokevirtual 109, 3) := by decide +kernel
theorem dX9_pressesTo_17 : decode cX9_pressesTo 17 = .ok (.ifCond .eq 11, 3) := by decide +kernel
theorem dX9_pressesTo_20 : decode cX9_pressesTo 20 = .ok (.aload_n 0, 1) := by decide +kernel
theorem dX9_pressesTo_21 : decode cX9_pressesTo 21 = .ok (.iload_n 1, 1) := by decide +kernel
theorem dX9_pressesTo_22 : decode cX9_pressesTo 22 = .ok (.invokevirtual 106, 3) := by decide +kernel
theorem dX9_pressesTo_25 : decode cX9_pressesTo 25 = .ok (.goto 4, 3) := by decide +kernel
theorem dX9_pressesTo_28 : decode cX9_pressesTo 28 = .ok (.iconst 0, 1) := by decide +kernel
theorem dX9_pressesTo_29 : decode cX9_pressesTo 29 = .ok (.ireturn, 1) := by decide +kernel
theorem dX9_detentsTo_0 : decode cX9_detentsTo 0 = .ok (.aload_n 0, 1) := by decide +kernel
theorem dX9_detentsTo_1 : decode cX9_detentsTo 1 = .ok (.aload_n 0, 1) := by decide +kernel
theorem dX9_detentsTo_2 : decode cX9_detentsTo 2 = .ok (.iload_n 1, 1) := by decide +kernel
theorem dX9_detentsTo_3 : decode cX9_detentsTo 3 = .ok (.invokevirtual 96, 3) := by decide +kernel
theorem dX9_detentsTo_6 : decode cX9_detentsTo 6 = .ok (.ifCond .eq 7, 3) := by decide +kernel
theorem dX9_detentsTo_9 : decode cX9_detentsTo 9 = .ok (.iconst 0, 1) := by decide +kernel
theorem dX9_detentsTo_10 : decode cX9_detentsTo 10 = .ok (.goto 4, 3) := by decide +kernel
theorem dX9_detentsTo_13 : decode cX9_detentsTo 13 = .ok (.iconst 1, 1) := by decide +kernel
theorem dX9_detentsTo_14 : decode cX9_detentsTo 14 = .ok (.invokevirtual 109, 3) := by decide +kernel
theorem dX9_detentsTo_17 : decode cX9_detentsTo 17 = .ok (.ifCond .ne 5, 3) := by decide +kernel
theorem dX9_detentsTo_20 : decode cX9_detentsTo 20 = .ok (.iconst 0, 1) := by decide +kernel
theorem dX9_detentsTo_21 : decode cX9_detentsTo 21 = .ok (.ireturn, 1) := by decide +kernel
theorem dX9_detentsTo_22 : decode cX9_detentsTo 22 = .ok (.iconst 0, 1) := by decide +kernel
theorem dX9_detentsTo_23 : decode cX9_detentsTo 23 = .ok (.istore_n 2, 1) := by decide +kernel
theorem dX9_detentsTo_24 : decode cX9_detentsTo 24 = .ok (.iload_n 1, 1) := by decide +kernel
theorem dX9_detentsTo_25 : decode cX9_detentsTo 25 = .ok (.istore_n 3, 1) := by decide +kernel
theorem dX9_detentsTo_26 : decode cX9_detentsTo 26 = .ok (.iload_n 3, 1) := by decide +kernel
theorem dX9_detentsTo_27 : decode cX9_detentsTo 27 = .ok (.ifCond .eq 62, 3) := by decide +kernel
theorem dX9_detentsTo_30 : decode cX9_detentsTo 30 = .ok (.aload_n 0, 1) := by decide +kernel
theorem dX9_detentsTo_31 : decode cX9_detentsTo 31 = .ok (.iload_n 3, 1) := by decide +kernel
theorem dX9_detentsTo_32 : decode cX9_detentsTo 32 = .ok (.invokevirtual 80, 3) := by decide +kernel
theorem dX9_detentsTo_35 : decode cX9_detentsTo 35 = .ok (.istore 4, 2) := by decide +kernel
theorem dX9_detentsTo_37 : decode cX9_detentsTo 37 = .ok (.aload_n 0, 1) := by decide +kernel
theorem dX9_detentsTo_38 : decode cX9_detentsTo 38 = .ok (.aload_n 0, 1) := by decide +kernel
theorem dX9_detentsTo_39 : decode cX9_detentsTo 39 = .ok (.getfield 13, 3) := by decide +kernel
theorem dX9_detentsTo_42 : decode cX9_detentsTo 42 = .ok (.iload_n 3, 1) := by decide +kernel
theorem dX9_detentsTo_43 : decode cX9_detentsTo 43 = .ok (.iaload, 1) := by decide +kernel
theorem dX9_detentsTo_44 : decode cX9_detentsTo 44 = .ok (.invokevirtual 135, 3) := by decide +kernel
theorem dX9_detentsTo_47 : decode cX9_detentsTo 47 = .ok (.iload 4, 2) := by decide +kernel
theorem dX9_detentsTo_49 : decode cX9_detentsTo 49 = .ok (.isub, 1) := by decide +kernel
theorem dX9_detentsTo_50 : decode cX9_detentsTo 50 = .ok (.istore 5, 2) := by decide +kernel
theorem dX9_detentsTo_52 : decode cX9_detentsTo 52 = .ok (.iload_n 2, 1) := by decide +kernel
theorem dX9_detentsTo_53 : decode cX9_detentsTo 53 = .ok (.aload_n 0, 1) := by decide +kernel
theorem dX9_detentsTo_54 : decode cX9_detentsTo 54 = .ok (.getfield 38, 3) := by decide +kernel
theorem dX9_detentsTo_57 : decode cX9_detentsTo 57 = .ok (.iconst 2, 1) := by decide +kernel
theorem dX9_detentsTo_58 : decode cX9_detentsTo 58 = .ok (.iaload, 1) := by decide +kernel
theorem dX9_detentsTo_59 : decode cX9_detentsTo 59 = .ok (.iconst 1, 1) := by decide +kernel
theorem dX9_detentsTo_60 : decode cX9_detentsTo 60 = .ok (.if_icmp .ne 15, 3) := by decide +kernel
theorem dX9_detentsTo_63 : decode cX9_detentsTo 63 = .ok (.iload 5, 2) := by decide +kernel
theorem dX9_detentsTo_65 : decode cX9_detentsTo 65 = .ok (.iload 4, 2) := by decide +kernel
theorem dX9_detentsTo_67 : decode cX9_detentsTo 67 = .ok (.if_icmp .ge 8, 3) := by decide +kernel
theorem dX9_detentsTo_70 : decode cX9_detentsTo 70 = .ok (.iload 5, 2) := by decide +kernel
theorem dX9_detentsTo_72 : decode cX9_detentsTo 72 = .ok (.goto 5, 3) := by decide +kernel
theorem dX9_detentsTo_75 : decode cX9_detentsTo 75 = .ok (.iload 4, 2) := by decide +kernel
theorem dX9_detentsTo_77 : decode cX9_detentsTo 77 = .ok (.iadd, 1) := by decide +kernel
theorem dX9_detentsTo_78 : decode cX9_detentsTo 78 = .ok (.istore_n 2, 1) := by decide +kernel
theorem dX9_detentsTo_79 : decode cX9_detentsTo 79 = .ok (.aload_n 0, 1) := by decide +kernel
theorem dX9_detentsTo_80 : decode cX9_detentsTo 80 = .ok (.getfield 13, 3) := by decide +kernel
theorem dX9_detentsTo_83 : decode cX9_detentsTo 83 = .ok (.iload_n 3, 1) := by decide +kernel
theorem dX9_detentsTo_84 : decode cX9_detentsTo 84 = .ok (.iaload, 1) := by decide +kernel
theorem dX9_detentsTo_85 : decode cX9_detentsTo 85 = .ok (.istore_n 3, 1) := by decide +kernel
theorem dX9_detentsTo_86 : decode cX9_detentsTo 86 = .ok (.goto (-60), 3) := by decide +kernel
theorem dX9_detentsTo_89 : decode cX9_detentsTo 89 = .ok (.iload_n 2, 1) := by decide +kernel
theorem dX9_detentsTo_90 : decode cX9_detentsTo 90 = .ok (.ireturn, 1) := by decide +kernel
theorem dX9_codesTo_0 : decode cX9_codesTo 0 = .ok (.aload_n 0, 1) := by decide +kernel
theorem dX9_codesTo_1 : decode cX9_codesTo 1 = .ok (.aload_n 0, 1) := by decide +kernel
theorem dX9_codesTo_2 : decode cX9_codesTo 2 = .ok (.iload_n 1, 1) := by decide +kernel
theorem dX9_codesTo_3 : decode cX9_codesTo 3 = .ok (.invokevirtual 96, 3) := by decide +kernel
theorem dX9_codesTo_6 : decode cX9_codesTo 6 = .ok (.ifCond .eq 7, 3) := by decide +kernel
theorem dX9_codesTo_9 : decode cX9_codesTo 9 = .ok (.iconst 0, 1) := by decide +kernel
theorem dX9_codesTo_10 : decode cX9_codesTo 10 = .ok (.goto 4, 3) := by decide +kernel
theorem dX9_codesTo_13 : decode cX9_codesTo 13 = .ok (.iconst 1, 1) := by decide +kernel
theorem dX9_codesTo_14 : decode cX9_codesTo 14 = .ok (.invokevirtual 109, 3) := by decide +kernel
theorem dX9_codesTo_17 : decode cX9_codesTo 17 = .ok (.ifCond .ne 5, 3) := by decide +kernel
theorem dX9_codesTo_20 : decode cX9_codesTo 20 = .ok (.iconst 0, 1) := by decide +kernel
theorem dX9_codesTo_21 : decode cX9_codesTo 21 = .ok (.ireturn, 1) := by decide +kernel
theorem dX9_codesTo_22 : decode cX9_codesTo 22 = .ok (.iconst 0, 1) := by decide +kernel
theorem dX9_codesTo_23 : decode cX9_codesTo 23 = .ok (.istore_n 2, 1) := by decide +kernel
theorem dX9_codesTo_24 : decode cX9_codesTo 24 = .ok (.iload_n 1, 1) := by decide +kernel
theorem dX9_codesTo_25 : decode cX9_codesTo 25 = .ok (.istore_n 3, 1) := by decide +kernel
theorem dX9_codesTo_26 : decode cX9_codesTo 26 = .ok (.iload_n 3, 1) := by decide +kernel
theorem dX9_codesTo_27 : decode cX9_codesTo 27 = .ok (.iconst (-1), 1) := by decide +kernel
theorem dX9_codesTo_28 : decode cX9_codesTo 28 = .ok (.if_icmp .eq 29, 3) := by decide +kernel
theorem dX9_codesTo_31 : decode cX9_codesTo 31 = .ok (.iload_n 2, 1) := by decide +kernel
theorem dX9_codesTo_32 : decode cX9_codesTo 32 = .ok (.aload_n 0, 1) := by decide +kernel
theorem dX9_codesTo_33 : decode cX9_codesTo 33 = .ok (.iload_n 3, 1) := by decide +kernel
theorem dX9_codesTo_34 : decode cX9_codesTo 34 = .ok (.invokevirtual 116, 3) := by decide +kernel
theorem dX9_codesTo_37 : decode cX9_codesTo 37 = .ok (.ifCond .eq 7, 3) := by decide +kernel
theorem dX9_codesTo_40 : decode cX9_codesTo 40 = .ok (.iconst 1, 1) := by decide +kernel
theorem dX9_codesTo_41 : decode cX9_codesTo 41 = .ok (.goto 4, 3) := by decide +kernel
theorem dX9_codesTo_44 : decode cX9_codesTo 44 = .ok (.iconst 0, 1) := by decide +kernel
theorem dX9_codesTo_45 : decode cX9_codesTo 45 = .ok (.iadd, 1) := by decide +kernel
theorem dX9_codesTo_46 : decode cX9_codesTo 46 = .ok (.istore_n 2, 1) := by decide +kernel
theorem dX9_codesTo_47 : decode cX9_codesTo 47 = .ok (.aload_n 0, 1) := by decide +kernel
theorem dX9_codesTo_48 : decode cX9_codesTo 48 = .ok (.getfield 13, 3) := by decide +kernel
theorem dX9_codesTo_51 : decode cX9_codesTo 51 = .ok (.iload_n 3, 1) := by decide +kernel
theorem dX9_codesTo_52 : decode cX9_codesTo 52 = .ok (.iaload, 1) := by decide +kernel
theorem dX9_codesTo_53 : decode cX9_codesTo 53 = .ok (.istore_n 3, 1) := by decide +kernel
theorem dX9_codesTo_54 : decode cX9_codesTo 54 = .ok (.goto (-28), 3) := by decide +kernel
theorem dX9_codesTo_57 : decode cX9_codesTo 57 = .ok (.iload_n 2, 1) := by decide +kernel
theorem dX9_codesTo_58 : decode cX9_codesTo 58 = .ok (.ireturn, 1) := by decide +kernel
theorem dX9_ticksLeft_0 : decode cX9_ticksLeft 0 = .ok (.aload_n 0, 1) := by decide +kernel
theorem dX9_ticksLeft_1 : decode cX9_ticksLeft 1 = .ok (.invokevirtual 93, 3) := by decide +kernel
theorem dX9_ticksLeft_4 : decode cX9_ticksLeft 4 = .ok (.ifCond .eq 5, 3) := by decide +kernel
theorem dX9_ticksLeft_7 : decode cX9_ticksLeft 7 = .ok (.iconst 0, 1) := by decide +kernel
theorem dX9_ticksLeft_8 : decode cX9_ticksLeft 8 = .ok (.ireturn, 1) := by decide +kernel
theorem dX9_ticksLeft_9 : decode cX9_ticksLeft 9 = .ok (.aload_n 0, 1) := by decide +kernel
theorem dX9_ticksLeft_10 : decode cX9_ticksLeft 10 = .ok (.getfield 83, 3) := by decide +kernel
theorem dX9_ticksLeft_13 : decode cX9_ticksLeft 13 = .ok (.ifCond .eq 41, 3) := by decide +kernel
theorem dX9_ticksLeft_16 : decode cX9_ticksLeft 16 = .ok (.aload_n 0, 1) := by decide +kernel
theorem dX9_ticksLeft_17 : decode cX9_ticksLeft 17 = .ok (.getfield 77, 3) := by decide +kernel
theorem dX9_ticksLeft_20 : decode cX9_ticksLeft 20 = .ok (.ifCond .ne 34, 3) := by decide +kernel
theorem dX9_ticksLeft_23 : decode cX9_ticksLeft 23 = .ok (.aload_n 0, 1) := by decide +kernel
theorem dX9_ticksLeft_24 : decode cX9_ticksLeft 24 = .ok (.getfield 86, 3) := by decide +kernel
theorem dX9_ticksLeft_27 : decode cX9_ticksLeft 27 = .ok (.ifCond .ne 27, 3) := by decide +kernel
theorem dX9_ticksLeft_30 : decode cX9_ticksLeft 30 = .ok (.aload_n 0, 1) := by decide +kernel
theorem dX9_ticksLeft_31 : decode cX9_ticksLeft 31 = .ok (.invokevirtual 89, 3) := by decide +kernel
theorem dX9_ticksLeft_34 : decode cX9_ticksLeft 34 = .ok (.ifCond .ne 20, 3) := by decide +kernel
theorem dX9_ticksLeft_37 : decode cX9_ticksLeft 37 = .ok (.aload_n 0, 1) := by decide +kernel
theorem dX9_ticksLeft_38 : decode cX9_ticksLeft 38 = .ok (.getfield 141, 3) := by decide +kernel
theorem dX9_ticksLeft_41 : decode cX9_ticksLeft 41 = .ok (.aload_n 0, 1) := by decide +kernel
theorem dX9_ticksLeft_42 : decode cX9_ticksLeft 42 = .ok (.getfield 38, 3) := by decide +kernel
theorem dX9_ticksLeft_45 : decode cX9_ticksLeft 45 = .ok (.iconst 0, 1) := by decide +kernel
theorem dX9_ticksLeft_46 : decode cX9_ticksLeft 46 = .ok (.iaload, 1) := by decide +kernel
theorem dX9_ticksLeft_47 : decode cX9_ticksLeft 47 = .ok (.if_icmp .ge 7, 3) := by decide +kernel
theorem dX9_ticksLeft_50 : decode cX9_ticksLeft 50 = .ok (.iconst 1, 1) := by decide +kernel
theorem dX9_ticksLeft_51 : decode cX9_ticksLeft 51 = .ok (.goto 4, 3) := by decide +kernel
theorem dX9_ticksLeft_54 : decode cX9_ticksLeft 54 = .ok (.iconst 0, 1) := by decide +kernel
theorem dX9_ticksLeft_55 : decode cX9_ticksLeft 55 = .ok (.istore_n 1, 1) := by decide +kernel
theorem dX9_ticksLeft_56 : decode cX9_ticksLeft 56 = .ok (.aload_n 0, 1) := by decide +kernel
theorem dX9_ticksLeft_57 : decode cX9_ticksLeft 57 = .ok (.getfield 141, 3) := by decide +kernel
theorem dX9_ticksLeft_60 : decode cX9_ticksLeft 60 = .ok (.aload_n 0, 1) := by decide +kernel
theorem dX9_ticksLeft_61 : decode cX9_ticksLeft 61 = .ok (.getfield 38, 3) := by decide +kernel
theorem dX9_ticksLeft_64 : decode cX9_ticksLeft 64 = .ok (.iconst 1, 1) := by decide +kernel
theorem dX9_ticksLeft_65 : decode cX9_ticksLeft 65 = .ok (.iaload, 1) := by decide +kernel
theorem dX9_ticksLeft_66 : decode cX9_ticksLeft 66 = .ok (.if_icmp .ge 17, 3) := by decide +kernel
theorem dX9_ticksLeft_69 : decode cX9_ticksLeft 69 = .ok (.aload_n 0, 1) := by decide +kernel
theorem dX9_ticksLeft_70 : decode cX9_ticksLeft 70 = .ok (.getfield 38, 3) := by decide +kernel
theorem dX9_ticksLeft_73 : decode cX9_ticksLeft 73 = .ok (.iconst 1, 1) := by decide +kernel
theorem dX9_ticksLeft_74 : decode cX9_ticksLeft 74 = .ok (.iaload, 1) := by decide +kernel
theorem dX9_ticksLeft_75 : decode cX9_ticksLeft 75 = .ok (.aload_n 0, 1) := by decide +kernel
theorem dX9_ticksLeft_76 : decode cX9_ticksLeft 76 = .ok (.getfield 141, 3) := by decide +kernel
theorem dX9_ticksLeft_79 : decode cX9_ticksLeft 79 = .ok (.isub, 1) := by decide +kernel
theorem dX9_ticksLeft_80 : decode cX9_ticksLeft 80 = .ok (.goto 4, 3) := by decide +kernel
theorem dX9_ticksLeft_83 : decode cX9_ticksLeft 83 = .ok (.iconst (-1), 1) := by decide +kernel
theorem dX9_ticksLeft_84 : decode cX9_ticksLeft 84 = .ok (.istore_n 2, 1) := by decide +kernel
theorem dX9_ticksLeft_85 : decode cX9_ticksLeft 85 = .ok (.iload_n 1, 1) := by decide +kernel
theorem dX9_ticksLeft_86 : decode cX9_ticksLeft 86 = .ok (.ifCond .eq 37, 3) := by decide +kernel
theorem dX9_ticksLeft_89 : decode cX9_ticksLeft 89 = .ok (.iload_n 2, 1) := by decide +kernel
theorem dX9_ticksLeft_90 : decode cX9_ticksLeft 90 = .ok (.iconst (-1), 1) := by decide +kernel
theorem dX9_ticksLeft_91 : decode cX9_ticksLeft 91 = .ok (.if_icmp .eq 18, 3) := by decide +kernel
theorem dX9_ticksLeft_94 : decode cX9_ticksLeft 94 = .ok (.aload_n 0, 1) := by decide +kernel
theorem dX9_ticksLeft_95 : decode cX9_ticksLeft 95 = .ok (.getfield 38, 3) := by decide +kernel
theorem dX9_ticksLeft_98 : decode cX9_ticksLeft 98 = .ok (.iconst 0, 1) := by decide +kernel
theorem dX9_ticksLeft_99 : decode cX9_ticksLeft 99 = .ok (.iaload, 1) := by decide +kernel
theorem dX9_ticksLeft_100 : decode cX9_ticksLeft 100 = .ok (.aload_n 0, 1) := by decide +kernel
theorem dX9_ticksLeft_101 : decode cX9_ticksLeft 101 = .ok (.getfield 141, 3) := by decide +kernel
theorem dX9_ticksLeft_104 : decode cX9_ticksLeft 104 = .ok (.isub, 1) := by decide +kernel
theorem dX9_ticksLeft_105 : decode cX9_ticksLeft 105 = .ok (.iload_n 2, 1) := by decide +kernel
theorem dX9_ticksLeft_106 : decode cX9_ticksLeft 106 = .ok (.if_icmp .ge 17, 3) := by decide +kernel
theorem dX9_ticksLeft_109 : decode cX9_ticksLeft 109 = .ok (.aload_n 0, 1) := by decide +kernel
theorem dX9_ticksLeft_110 : decode cX9_ticksLeft 110 = .ok (.getfield 38, 3) := by decide +kernel
theorem dX9_ticksLeft_113 : decode cX9_ticksLeft 113 = .ok (.iconst 0, 1) := by decide +kernel
theorem dX9_ticksLeft_114 : decode cX9_ticksLeft 114 = .ok (.iaload, 1) := by decide +kernel
theorem dX9_ticksLeft_115 : decode cX9_ticksLeft 115 = .ok (.aload_n 0, 1) := by decide +kernel
theorem dX9_ticksLeft_116 : decode cX9_ticksLeft 116 = .ok (.getfield 141, 3) := by decide +kernel
theorem dX9_ticksLeft_119 : decode cX9_ticksLeft 119 = .ok (.isub, 1) := by decide +kernel
theorem dX9_ticksLeft_120 : decode cX9_ticksLeft 120 = .ok (.goto 4, 3) := by decide +kernel
theorem dX9_ticksLeft_123 : decode cX9_ticksLeft 123 = .ok (.iload_n 2, 1) := by decide +kernel
theorem dX9_ticksLeft_124 : decode cX9_ticksLeft 124 = .ok (.ireturn, 1) := by decide +kernel
theorem dX9_ticksToHome_0 : decode cX9_ticksToHome 0 = .ok (.aload_n 0, 1) := by decide +kernel
theorem dX9_ticksToHome_1 : decode cX9_ticksToHome 1 = .ok (.iconst 0, 1) := by decide +kernel
theorem dX9_ticksToHome_2 : decode cX9_ticksToHome 2 = .ok (.putfield 66, 3) := by decide +kernel
theorem dX9_ticksToHome_5 : decode cX9_ticksToHome 5 = .ok (.aload_n 0, 1) := by decide +kernel
theorem dX9_ticksToHome_6 : decode cX9_ticksToHome 6 = .ok (.invokevirtual 208, 3) := by decide +kernel
theorem dX9_ticksToHome_9 : decode cX9_ticksToHome 9 = .ok (.ireturn, 1) := by decide +kernel
theorem dX9_share_0 : decode cX9_share 0 = .ok (.iconst 0, 1) := by decide +kernel
theorem dX9_share_1 : decode cX9_share 1 = .ok (.istore_n 1, 1) := by decide +kernel
theorem dX9_share_2 : decode cX9_share 2 = .ok (.iconst 0, 1) := by decide +kernel
theorem dX9_share_3 : decode cX9_share 3 = .ok (.istore_n 2, 1) := by decide +kernel
theorem dX9_share_4 : decode cX9_share 4 = .ok (.iconst 0, 1) := by decide +kernel
theorem dX9_share_5 : decode cX9_share 5 = .ok (.istore_n 3, 1) := by decide +kernel
theorem dX9_share_6 : decode cX9_share 6 = .ok (.iload_n 3, 1) := by decide +kernel
theorem dX9_share_7 : decode cX9_share 7 = .ok (.aload_n 0, 1) := by decide +kernel
theorem dX9_share_8 : decode cX9_share 8 = .ok (.getfield 62, 3) := by decide +kernel
theorem dX9_share_11 : decode cX9_share 11 = .ok (.if_icmp .ge 76, 3) := by decide +kernel
theorem dX9_share_14 : decode cX9_share 14 = .ok (.aload_n 0, 1) := by decide +kernel
theorem dX9_share_15 : decode cX9_share 15 = .ok (.getfield 7, 3) := by decide +kernel
theorem dX9_share_18 : decode cX9_share 18 = .ok (.iload_n 3, 1) := by decide +kernel
theorem dX9_share_19 : decode cX9_share 19 = .ok (.iaload, 1) := by decide +kernel
theorem dX9_share_20 : decode cX9_share 20 = .ok (.iconst 1, 1) := by decide +kernel
theorem dX9_share_21 : decode cX9_share 21 = .ok (.if_icmp .ne 7, 3) := by decide +kernel
theorem dX9_share_24 : decode cX9_share 24 = .ok (.iconst 1, 1) := by decide +kernel
theorem dX9_share_25 : decode cX9_share 25 = .ok (.goto 4, 3) := by decide +kernel
theorem dX9_share_28 : decode cX9_share 28 = .ok (.iconst 0, 1) := by decide +kernel
theorem dX9_share_29 : decode cX9_share 29 = .ok (.istore 4, 2) := by decide +kernel
theorem dX9_share_31 : decode cX9_share 31 = .ok (.iload_n 1, 1) := by decide +kernel
theorem dX9_share_32 : decode cX9_share 32 = .ok (.iload 4, 2) := by decide +kernel
theorem dX9_share_34 : decode cX9_share 34 = .ok (.ifCond .eq 19, 3) := by decide +kernel
theorem dX9_share_37 : decode cX9_share 37 = .ok (.aload_n 0, 1) := by decide +kernel
theorem dX9_share_38 : decode cX9_share 38 = .ok (.getfield 25, 3) := by decide +kernel
theorem dX9_share_41 : decode cX9_share 41 = .ok (.iload_n 3, 1) := by decide +kernel
theorem dX9_share_42 : decode cX9_share 42 = .ok (.iaload, 1) := by decide +kernel
theorem dX9_share_43 : decode cX9_share 43 = .ok (.aload_n 0, 1) := by decide +kernel
theorem dX9_share_44 : decode cX9_share 44 = .ok (.getfield 16, 3) := by decide +kernel
theorem dX9_share_47 : decode cX9_share 47 = .ok (.iload_n 3, 1) := by decide +kernel
theorem dX9_share_48 : decode cX9_share 48 = .ok (.iaload, 1) := by decide +kernel
theorem dX9_share_49 : decode cX9_share 49 = .ok (.isub, 1) := by decide +kernel
theorem dX9_share_50 : decode cX9_share 50 = .ok (.goto 4, 3) := by decide +kernel
theorem dX9_share_53 : decode cX9_share 53 = .ok (.iconst 0, 1) := by decide +kernel
theorem dX9_share_54 : decode cX9_share 54 = .ok (.iadd, 1) := by decide +kernel
theorem dX9_share_55 : decode cX9_share 55 = .ok (.istore_n 1, 1) := by decide +kernel
theorem dX9_share_56 : decode cX9_share 56 = .ok (.iload_n 2, 1) := by decide +kernel
theorem dX9_share_57 : decode cX9_share 57 = .ok (.iload 4, 2) := by decide +kernel
theorem dX9_share_59 : decode cX9_share 59 = .ok (.ifCond .eq 19, 3) := by decide +kernel
theorem dX9_share_62 : decode cX9_share 62 = .ok (.aload_n 0, 1) := by decide +kernel
theorem dX9_share_63 : decode cX9_share 63 = .ok (.getfield 19, 3) := by decide +kernel
theorem dX9_share_66 : decode cX9_share 66 = .ok (.iload_n 3, 1) := by decide +kernel
theorem dX9_share_67 : decode cX9_share 67 = .ok (.iaload, 1) := by decide +kernel
theorem dX9_share_68 : decode cX9_share 68 = .ok (.aload_n 0, 1) := by decide +kernel
theorem dX9_share_69 : decode cX9_share 69 = .ok (.getfield 16, 3) := by decide +kernel
theorem dX9_share_72 : decode cX9_share 72 = .ok (.iload_n 3, 1) := by decide +kernel
theorem dX9_share_73 : decode cX9_share 73 = .ok (.iaload, 1) := by decide +kernel
theorem dX9_share_74 : decode cX9_share 74 = .ok (.isub, 1) := by decide +kernel
theorem dX9_share_75 : decode cX9_share 75 = .ok (.goto 4, 3) := by decide +kernel
theorem dX9_share_78 : decode cX9_share 78 = .ok (.iconst 0, 1) := by decide +kernel
theorem dX9_share_79 : decode cX9_share 79 = .ok (.iadd, 1) := by decide +kernel
theorem dX9_share_80 : decode cX9_share 80 = .ok (.istore_n 2, 1) := by decide +kernel
theorem dX9_share_81 : decode cX9_share 81 = .ok (.iinc 3 1, 3) := by decide +kernel
theorem dX9_share_84 : decode cX9_share 84 = .ok (.goto (-78), 3) := by decide +kernel
theorem dX9_share_87 : decode cX9_share 87 = .ok (.iload_n 2, 1) := by decide +kernel
theorem dX9_share_88 : decode cX9_share 88 = .ok (.ifCond .ne 7, 3) := by decide +kernel
theorem dX9_share_91 : decode cX9_share 91 = .ok (.dconst 0, 1) := by decide +kernel
theorem dX9_share_92 : decode cX9_share 92 = .ok (.goto 8, 3) := by decide +kernel
theorem dX9_share_95 : decode cX9_share 95 = .ok (.iload_n 1, 1) := by decide +kernel
theorem dX9_share_96 : decode cX9_share 96 = .ok (.i2d, 1) := by decide +kernel
theorem dX9_share_97 : decode cX9_share 97 = .ok (.iload_n 2, 1) := by decide +kernel
theorem dX9_share_98 : decode cX9_share 98 = .ok (.i2d, 1) := by decide +kernel
theorem dX9_share_99 : decode cX9_share 99 = .ok (.ddiv, 1) := by decide +kernel
theorem dX9_share_100 : decode cX9_share 100 = .ok (.dreturn, 1) := by decide +kernel
theorem dX9_fraction_0 : decode cX9_fraction 0 = .ok (.aload_n 0, 1) := by decide +kernel
theorem dX9_fraction_1 : decode cX9_fraction 1 = .ok (.iconst 0, 1) := by decide +kernel
theorem dX9_fraction_2 : decode cX9_fraction 2 = .ok (.putfield 66, 3) := by decide +kernel
theorem dX9_fraction_5 : decode cX9_fraction 5 = .ok (.aload_n 0, 1) := by decide +kernel
theorem dX9_fraction_6 : decode cX9_fraction 6 = .ok (.invokevirtual 211, 3) := by decide +kernel
theorem dX9_fraction_9 : decode cX9_fraction 9 = .ok (.dreturn, 1) := by decide +kernel
theorem dX9_append_0 : decode cX9_append 0 = .ok (.aload_n 0, 1) := by decide +kernel
theorem dX9_append_1 : decode cX9_append 1 = .ok (.iload_n 1, 1) := by decide +kernel
theorem dX9_append_2 : decode cX9_append 2 = .ok (.bipush 33, 2) := by decide +kernel
theorem dX9_append_4 : decode cX9_append 4 = .ok (.bipush 126, 2) := by decide +kernel
theorem dX9_append_6 : decode cX9_append 6 = .ok (.invokestatic 69, 3) := by decide +kernel
theorem dX9_append_9 : decode cX9_append 9 = .ok (.ifCond .ne 7, 3) := by decide +kernel
theorem dX9_append_12 : decode cX9_append 12 = .ok (.iconst 1, 1) := by decide +kernel
theorem dX9_append_13 : decode cX9_append 13 = .ok (.goto 17, 3) := by decide +kernel
theorem dX9_append_16 : decode cX9_append 16 = .ok (.aload_n 0, 1) := by decide +kernel
theorem dX9_append_17 : decode cX9_append 17 = .ok (.getfield 215, 3) := by decide +kernel
theorem dX9_append_20 : decode cX9_append 20 = .ok (.bipush 60, 2) := by decide +kernel
theorem dX9_append_22 : decode cX9_append 22 = .ok (.if_icmp .ne 7, 3) := by decide +kernel
theorem dX9_append_25 : decode cX9_append 25 = .ok (.iconst 2, 1) := by decide +kernel
theorem dX9_append_26 : decode cX9_append 26 = .ok (.goto 4, 3) := by decide +kernel
theorem dX9_append_29 : decode cX9_append 29 = .ok (.iconst 0, 1) := by decide +kernel
theorem dX9_append_30 : decode cX9_append 30 = .ok (.invokevirtual 109, 3) := by decide +kernel
theorem dX9_append_33 : decode cX9_append 33 = .ok (.ifCond .ne 5, 3) := by decide +kernel
theorem dX9_append_36 : decode cX9_append 36 = .ok (.iconst 0, 1) := by decide +kernel
theorem dX9_append_37 : decode cX9_append 37 = .ok (.ireturn, 1) := by decide +kernel
theorem dX9_append_38 : decode cX9_append 38 = .ok (.aload_n 0, 1) := by decide +kernel
theorem dX9_append_39 : decode cX9_append 39 = .ok (.getfield 56, 3) := by decide +kernel
theorem dX9_append_42 : decode cX9_append 42 = .ok (.aload_n 0, 1) := by decide +kernel
theorem dX9_append_43 : decode cX9_append 43 = .ok (.getfield 215, 3) := by decide +kernel
theorem dX9_append_46 : decode cX9_append 46 = .ok (.iload_n 1, 1) := by decide +kernel
theorem dX9_append_47 : decode cX9_append 47 = .ok (.iastore, 1) := by decide +kernel
theorem dX9_append_48 : decode cX9_append 48 = .ok (.aload_n 0, 1) := by decide +kernel
theorem dX9_append_49 : decode cX9_append 49 = .ok (.dup, 1) := by decide +kernel
theorem dX9_append_50 : decode cX9_append 50 = .ok (.getfield 215, 3) := by decide +kernel
theorem dX9_append_53 : decode cX9_append 53 = .ok (.iconst 1, 1) := by decide +kernel
theorem dX9_append_54 : decode cX9_append 54 = .ok (.iadd, 1) := by decide +kernel
theorem dX9_append_55 : decode cX9_append 55 = .ok (.putfield 215, 3) := by decide +kernel
theorem dX9_append_58 : decode cX9_append 58 = .ok (.aload_n 0, 1) := by decide +kernel
theorem dX9_append_59 : decode cX9_append 59 = .ok (.getfield 215, 3) := by decide +kernel
theorem dX9_append_62 : decode cX9_append 62 = .ok (.ireturn, 1) := by decide +kernel
theorem dX9_clearText_0 : decode cX9_clearText 0 = .ok (.aload_n 0, 1) := by decide +kernel
theorem dX9_clearText_1 : decode cX9_clearText 1 = .ok (.iconst 0, 1) := by decide +kernel
theorem dX9_clearText_2 : decode cX9_clearText 2 = .ok (.putfield 66, 3) := by decide +kernel
theorem dX9_clearText_5 : decode cX9_clearText 5 = .ok (.aload_n 0, 1) := by decide +kernel
theorem dX9_clearText_6 : decode cX9_clearText 6 = .ok (.getfield 215, 3) := by decide +kernel
theorem dX9_clearText_9 : decode cX9_clearText 9 = .ok (.istore_n 1, 1) := by decide +kernel
theorem dX9_clearText_10 : decode cX9_clearText 10 = .ok (.aload_n 0, 1) := by decide +kernel
theorem dX9_clearText_11 : decode cX9_clearText 11 = .ok (.iconst 0, 1) := by decide +kernel
theorem dX9_clearText_12 : decode cX9_clearText 12 = .ok (.putfield 215, 3) := by decide +kernel
theorem dX9_clearText_15 : decode cX9_clearText 15 = .ok (.iload_n 1, 1) := by decide +kernel
theorem dX9_clearText_16 : decode cX9_clearText 16 = .ok (.ireturn, 1) := by decide +kernel
theorem dX9_sign_0 : decode cX9_sign 0 = .ok (.aload_n 0, 1) := by decide +kernel
theorem dX9_sign_1 : decode cX9_sign 1 = .ok (.getfield 218, 3) := by decide +kernel
theorem dX9_sign_4 : decode cX9_sign 4 = .ok (.aload_n 0, 1) := by decide +kernel
theorem dX9_sign_5 : decode cX9_sign 5 = .ok (.getfield 215, 3) := by decide +kernel
theorem dX9_sign_8 : decode cX9_sign 8 = .ok (.if_icmp .ge 15, 3) := by decide +kernel
theorem dX9_sign_11 : decode cX9_sign 11 = .ok (.aload_n 0, 1) := by decide +kernel
theorem dX9_sign_12 : decode cX9_sign 12 = .ok (.getfield 56, 3) := by decide +kernel
theorem dX9_sign_15 : decode cX9_sign 15 = .ok (.aload_n 0, 1) := by decide +kernel
theorem dX9_sign_16 : decode cX9_sign 16 = .ok (.getfield 218, 3) := by decide +kernel
theorem dX9_sign_19 : decode cX9_sign 19 = .ok (.iaload, 1) := by decide +kernel
theorem dX9_sign_20 : decode cX9_sign 20 = .ok (.goto 4, 3) := by decide +kernel
theorem dX9_sign_23 : decode cX9_sign 23 = .ok (.iconst 0, 1) := by decide +kernel
theorem dX9_sign_24 : decode cX9_sign 24 = .ok (.ireturn, 1) := by decide +kernel
theorem dX9_readsNumber_0 : decode cX9_readsNumber 0 = .ok (.aload_n 0, 1) := by decide +kernel
theorem dX9_readsNumber_1 : decode cX9_readsNumber 1 = .ok (.invokevirtual 221, 3) := by decide +kernel
theorem dX9_readsNumber_4 : decode cX9_readsNumber 4 = .ok (.bipush 49, 2) := by decide +kernel
theorem dX9_readsNumber_6 : decode cX9_readsNumber 6 = .ok (.bipush 57, 2) := by decide +kernel
theorem dX9_readsNumber_8 : decode cX9_readsNumber 8 = .ok (.invokestatic 69, 3) := by decide +kernel
theorem dX9_readsNumber_11 : decode cX9_readsNumber 11 = .ok (.ifCond .ne 5, 3) := by decide +kernel
theorem dX9_readsNumber_14 : decode cX9_readsNumber 14 = .ok (.iconst 0, 1) := by decide +kernel
theorem dX9_readsNumber_15 : decode cX9_readsNumber 15 = .ok (.ireturn, 1) := by decide +kernel
theorem dX9_readsNumber_16 : decode cX9_readsNumber 16 = .ok (.aload_n 0, 1) := by decide +kernel
theorem dX9_readsNumber_17 : decode cX9_readsNumber 17 = .ok (.aload_n 0, 1) := by decide +kernel
theorem dX9_readsNumber_18 : decode cX9_readsNumber 18 = .ok (.invokevirtual 221, 3) := by decide +kernel
theorem dX9_readsNumber_21 : decode cX9_readsNumber 21 = .ok (.bipush 48, 2) := by decide +kernel
theorem dX9_readsNumber_23 : decode cX9_readsNumber 23 = .ok (.isub, 1) := by decide +kernel
theorem dX9_readsNumber_24 : decode cX9_readsNumber 24 = .ok (.putfield 224, 3) := by decide +kernel
theorem dX9_readsNumber_27 : decode cX9_readsNumber 27 = .ok (.aload_n 0, 1) := by decide +kernel
theorem dX9_readsNumber_28 : decode cX9_readsNumber 28 = .ok (.dup, 1) := by decide +kernel
theorem dX9_readsNumber_29 : decode cX9_readsNumber 29 = .ok (.getfield 218, 3) := by decide +kernel
theorem dX9_readsNumber_32 : decode cX9_readsNumber 32 = .ok (.iconst 1, 1) := by decide +kernel
theorem dX9_readsNumber_33 : decode cX9_readsNumber 33 = .ok (.iadd, 1) := by decide +kernel
theorem dX9_readsNumber_34 : decode cX9_readsNumber 34 = .ok (.putfield 218, 3) := by decide +kernel
theorem dX9_readsNumber_37 : decode cX9_readsNumber 37 = .ok (.aload_n 0, 1) := by decide +kernel
theorem dX9_readsNumber_38 : decode cX9_readsNumber 38 = .ok (.invokevirtual 221, 3) := by decide +kernel
theorem dX9_readsNumber_41 : decode cX9_readsNumber 41 = .ok (.bipush 48, 2) := by decide +kernel
theorem dX9_readsNumber_43 : decode cX9_readsNumber 43 = .ok (.bipush 57, 2) := by decide +kernel
theorem dX9_readsNumber_45 : decode cX9_readsNumber 45 = .ok (.invokestatic 69, 3) := by decide +kernel
theorem dX9_readsNumber_48 : decode cX9_readsNumber 48 = .ok (.ifCond .eq 51, 3) := by decide +kernel
theorem dX9_readsNumber_51 : decode cX9_readsNumber 51 = .ok (.bipush 10, 2) := by decide +kernel
theorem dX9_readsNumber_53 : decode cX9_readsNumber 53 = .ok (.aload_n 0, 1) := by decide +kernel
theorem dX9_readsNumber_54 : decode cX9_readsNumber 54 = .ok (.getfield 224, 3) := by decide +kernel
theorem dX9_readsNumber_57 : decode cX9_readsNumber 57 = .ok (.imul, 1) := by decide +kernel
theorem dX9_readsNumber_58 : decode cX9_readsNumber 58 = .ok (.aload_n 0, 1) := by decide +kernel
theorem dX9_readsNumber_59 : decode cX9_readsNumber 59 = .ok (.invokevirtual 221, 3) := by decide +kernel
theorem dX9_readsNumber_62 : decode cX9_readsNumber 62 = .ok (.iadd, 1) := by decide +kernel
theorem dX9_readsNumber_63 : decode cX9_readsNumber 63 = .ok (.bipush 48, 2) := by decide +kernel
theorem dX9_readsNumber_65 : decode cX9_readsNumber 65 = .ok (.isub, 1) := by decide +kernel
theorem dX9_readsNumber_66 : decode cX9_readsNumber 66 = .ok (.iload_n 1, 1) := by decide +kernel
theorem dX9_readsNumber_67 : decode cX9_readsNumber 67 = .ok (.if_icmp .gt 32, 3) := by decide +kernel
theorem dX9_readsNumber_70 : decode cX9_readsNumber 70 = .ok (.aload_n 0, 1) := by decide +kernel
theorem dX9_readsNumber_71 : decode cX9_readsNumber 71 = .ok (.bipush 10, 2) := by decide +kernel
theorem dX9_readsNumber_73 : decode cX9_readsNumber 73 = .ok (.aload_n 0, 1) := by decide +kernel
theorem dX9_readsNumber_74 : decode cX9_readsNumber 74 = .ok (.getfield 224, 3) := by decide +kernel
theorem dX9_readsNumber_77 : decode cX9_readsNumber 77 = .ok (.imul, 1) := by decide +kernel
theorem dX9_readsNumber_78 : decode cX9_readsNumber 78 = .ok (.aload_n 0, 1) := by decide +kernel
theorem dX9_readsNumber_79 : decode cX9_readsNumber 79 = .ok (.invokevirtual 221, 3) := by decide +kernel
theorem dX9_readsNumber_82 : decode cX9_readsNumber 82 = .ok (.iadd, 1) := by decide +kernel
theorem dX9_readsNumber_83 : decode cX9_readsNumber 83 = .ok (.bipush 48, 2) := by decide +kernel
theorem dX9_readsNumber_85 : decode cX9_readsNumber 85 = .ok (.isub, 1) := by decide +kernel
theorem dX9_readsNumber_86 : decode cX9_readsNumber 86 = .ok (.putfield 224, 3) := by decide +kernel
theorem dX9_readsNumber_89 : decode cX9_readsNumber 89 = .ok (.aload_n 0, 1) := by decide +kernel
theorem dX9_readsNumber_90 : decode cX9_readsNumber 90 = .ok (.dup, 1) := by decide +kernel
theorem dX9_readsNumber_91 : decode cX9_readsNumber 91 = .ok (.getfield 218, 3) := by decide +kernel
theorem dX9_readsNumber_94 : decode cX9_readsNumber 94 = .ok (.iconst 1, 1) := by decide +kernel
theorem dX9_readsNumber_95 : decode cX9_readsNumber 95 = .ok (.iadd, 1) := by decide +kernel
theorem dX9_readsNumber_96 : decode cX9_readsNumber 96 = .ok (.putfield 218, 3) := by decide +kernel
theorem dX9_readsNumber_99 : decode cX9_readsNumber 99 = .ok (.iconst 1, 1) := by decide +kernel
theorem dX9_readsNumber_100 : decode cX9_readsNumber 100 = .ok (.ireturn, 1) := by decide +kernel
theorem dX9_readsAction_0 : decode cX9_readsAction 0 = .ok (.aload_n 0, 1) := by decide +kernel
theorem dX9_readsAction_1 : decode cX9_readsAction 1 = .ok (.aload_n 0, 1) := by decide +kernel
theorem dX9_readsAction_2 : decode cX9_readsAction 2 = .ok (.invokevirtual 221, 3) := by decide +kernel
theorem dX9_readsAction_5 : decode cX9_readsAction 5 = .ok (.putfield 227, 3) := by decide +kernel
theorem dX9_readsAction_8 : decode cX9_readsAction 8 = .ok (.aload_n 0, 1) := by decide +kernel
theorem dX9_readsAction_9 : decode cX9_readsAction 9 = .ok (.getfield 227, 3) := by decide +kernel
theorem dX9_readsAction_12 : decode cX9_readsAction 12 = .ok (.bipush 112, 2) := by decide +kernel
theorem dX9_readsAction_14 : decode cX9_readsAction 14 = .ok (.if_icmp .eq 12, 3) := by decide +kernel
theorem dX9_readsAction_17 : decode cX9_readsAction 17 = .ok (.aload_n 0, 1) := by decide +kernel
theorem dX9_readsAction_18 : decode cX9_readsAction 18 = .ok (.getfield 227, 3) := by decide +kernel
theorem dX9_readsAction_21 : decode cX9_readsAction 21 = .ok (.bipush 104, 2) := by decide +kernel
theorem dX9_readsAction_23 : decode cX9_readsAction 23 = .ok (.if_icmp .ne 7, 3) := by decide +kernel
theorem dX9_readsAction_26 : decode cX9_readsAction 26 = .ok (.iconst 1, 1) := by decide +kernel
theorem dX9_readsAction_27 : decode cX9_readsAction 27 = .ok (.goto 4, 3) := by decide +kernel
theorem dX9_readsAction_30 : decode cX9_readsAction 30 = .ok (.iconst 0, 1) := by decide +kernel
theorem dX9_readsAction_31 : decode cX9_readsAction 31 = .ok (.istore_n 1, 1) := by decide +kernel
theorem dX9_readsAction_32 : decode cX9_readsAction 32 = .ok (.aload_n 0, 1) := by decide +kernel
theorem dX9_readsAction_33 : decode cX9_readsAction 33 = .ok (.getfield 227, 3) := by decide +kernel
theorem dX9_readsAction_36 : decode cX9_readsAction 36 = .ok (.bipush 114, 2) := by decide +kernel
theorem dX9_readsAction_38 : decode cX9_readsAction 38 = .ok (.if_icmp .eq 21, 3) := by decide +kernel
theorem dX9_readsAction_41 : decode cX9_readsAction 41 = .ok (.aload_n 0, 1) := by decide +kernel
theorem dX9_readsAction_42 : decode cX9_readsAction 42 = .ok (.getfield 227, 3) := by decide +kernel
theorem dX9_readsAction_45 : decode cX9_readsAction 45 = .ok (.bipush 108, 2) := by decide +kernel
theorem dX9_readsAction_47 : decode cX9_readsAction 47 = .ok (.if_icmp .eq 12, 3) := by decide +kernel
theorem dX9_readsAction_50 : decode cX9_readsAction 50 = .ok (.aload_n 0, 1) := by decide +kernel
theorem dX9_readsAction_51 : decode cX9_readsAction 51 = .ok (.getfield 227, 3) := by decide +kernel
theorem dX9_readsAction_54 : decode cX9_readsAction 54 = .ok (.bipush 116, 2) := by decide +kernel
theorem dX9_readsAction_56 : decode cX9_readsAction 56 = .ok (.if_icmp .ne 7, 3) := by decide +kernel
theorem dX9_readsAction_59 : decode cX9_readsAction 59 = .ok (.iconst 1, 1) := by decide +kernel
theorem dX9_readsAction_60 : decode cX9_readsAction 60 = .ok (.goto 4, 3) := by decide +kernel
theorem dX9_readsAction_63 : decode cX9_readsAction 63 = .ok (.iconst 0, 1) := by decide +kernel
theorem dX9_readsAction_64 : decode cX9_readsAction 64 = .ok (.istore_n 2, 1) := by decide +kernel
theorem dX9_readsAction_65 : decode cX9_readsAction 65 = .ok (.aload_n 0, 1) := by decide +kernel
theorem dX9_readsAction_66 : decode cX9_readsAction 66 = .ok (.dup, 1) := by decide +kernel
theorem dX9_readsAction_67 : decode cX9_readsAction 67 = .ok (.getfield 218, 3) := by decide +kernel
theorem dX9_readsAction_70 : decode cX9_readsAction 70 = .ok (.iload_n 1, 1) := by decide +kernel
theorem dX9_readsAction_71 : decode cX9_readsAction 71 = .ok (.ifCond .ne 7, 3) := by decide +kernel
theorem dX9_readsAction_74 : decode cX9_readsAction 74 = .ok (.iload_n 2, 1) := by decide +kernel
theorem dX9_readsAction_75 : decode cX9_readsAction 75 = .ok (.ifCond .eq 7, 3) := by decide +kernel
theorem dX9_readsAction_78 : decode cX9_readsAction 78 = .ok (.iconst 1, 1) := by decide +kernel
theorem dX9_readsAction_79 : decode cX9_readsAction 79 = .ok (.goto 4, 3) := by decide +kernel
theorem dX9_readsAction_82 : decode cX9_readsAction 82 = .ok (.iconst 0, 1) := by decide +kernel
theorem dX9_readsAction_83 : decode cX9_readsAction 83 = .ok (.iadd, 1) := by decide +kernel
theorem dX9_readsAction_84 : decode cX9_readsAction 84 = .ok (.putfield 218, 3) := by decide +kernel
theorem dX9_readsAction_87 : decode cX9_readsAction 87 = .ok (.iload_n 1, 1) := by decide +kernel
theorem dX9_readsAction_88 : decode cX9_readsAction 88 = .ok (.ifCond .ne 30, 3) := by decide +kernel
theorem dX9_readsAction_91 : decode cX9_readsAction 91 = .ok (.iload_n 2, 1) := by decide +kernel
theorem dX9_readsAction_92 : decode cX9_readsAction 92 = .ok (.ifCond .eq 30, 3) := by decide +kernel
theorem dX9_readsAction_95 : decode cX9_readsAction 95 = .ok (.aload_n 0, 1) := by decide +kernel
theorem dX9_readsAction_96 : decode cX9_readsAction 96 = .ok (.aload_n 0, 1) := by decide +kernel
theorem dX9_readsAction_97 : decode cX9_readsAction 97 = .ok (.getfield 227, 3) := by decide +kernel
theorem dX9_readsAction_100 : decode cX9_readsAction 100 = .ok (.bipush 116, 2) := by decide +kernel
theorem dX9_readsAction_102 : decode cX9_readsAction 102 = .ok (.if_icmp .ne 8, 3) := by decide +kernel
theorem dX9_readsAction_105 : decode cX9_readsAction 105 = .ok (.bipush 99, 2) := by decide +kernel
theorem dX9_readsAction_107 : decode cX9_readsAction 107 = .ok (.goto 5, 3) := by decide +kernel
theorem dX9_readsAction_110 : decode cX9_readsAction 110 = .ok (.bipush 50, 2) := by decide +kernel
theorem dX9_readsAction_112 : decode cX9_readsAction 112 = .ok (.invokevirtual 230, 3) := by decide +kernel
theorem dX9_readsAction_115 : decode cX9_readsAction 115 = .ok (.ifCond .eq 7, 3) := by decide +kernel
theorem dX9_readsAction_118 : decode cX9_readsAction 118 = .ok (.iconst 1, 1) := by decide +kernel
theorem dX9_readsAction_119 : decode cX9_readsAction 119 = .ok (.goto 4, 3) := by decide +kernel
theorem dX9_readsAction_122 : decode cX9_readsAction 122 = .ok (.iconst 0, 1) := by decide +kernel
theorem dX9_readsAction_123 : decode cX9_readsAction 123 = .ok (.ireturn, 1) := by decide +kernel
theorem dX9_isComplete_0 : decode cX9_isComplete 0 = .ok (.aload_n 0, 1) := by decide +kernel
theorem dX9_isComplete_1 : decode cX9_isComplete 1 = .ok (.iconst 0, 1) := by decide +kernel
theorem dX9_isComplete_2 : decode cX9_isComplete 2 = .ok (.putfield 218, 3) := by decide +kernel
theorem dX9_isComplete_5 : decode cX9_isComplete 5 = .ok (.aload_n 0, 1) := by decide +kernel
theorem dX9_isComplete_6 : decode cX9_isComplete 6 = .ok (.invokevirtual 233, 3) := by decide +kernel
theorem dX9_isComplete_9 : decode cX9_isComplete 9 = .ok (.ifCond .eq 40, 3) := by decide +kernel
theorem dX9_isComplete_12 : decode cX9_isComplete 12 = .ok (.aload_n 0, 1) := by decide +kernel
theorem dX9_isComplete_13 : decode cX9_isComplete 13 = .ok (.getfield 218, 3) := by decide +kernel
theorem dX9_isComplete_16 : decode cX9_isComplete 16 = .ok (.aload_n 0, 1) := by decide +kernel
theorem dX9_isComplete_17 : decode cX9_isComplete 17 = .ok (.getfield 215, 3) := by decide +kernel
theorem dX9_isComplete_20 : decode cX9_isComplete 20 = .ok (.if_icmp .ne 5, 3) := by decide +kernel
theorem dX9_isComplete_23 : decode cX9_isComplete 23 = .ok (.iconst 1, 1) := by decide +kernel
theorem dX9_isComplete_24 : decode cX9_isComplete 24 = .ok (.ireturn, 1) := by decide +kernel
theorem dX9_isComplete_25 : decode cX9_isComplete 25 = .ok (.aload_n 0, 1) := by decide +kernel
theorem dX9_isComplete_26 : decode cX9_isComplete 26 = .ok (.invokevirtual 221, 3) := by decide +kernel
theorem dX9_isComplete_29 : decode cX9_isComplete 29 = .ok (.bipush 44, 2) := by decide +kernel
theorem dX9_isComplete_31 : decode cX9_isComplete 31 = .ok (.if_icmp .eq 5, 3) := by decide +kernel
theorem dX9_isComplete_34 : decode cX9_isComplete 34 = .ok (.iconst 0, 1) := by decide +kernel
theorem dX9_isComplete_35 : decode cX9_isComplete 35 = .ok (.ireturn, 1) := by decide +kernel
theorem dX9_isComplete_36 : decode cX9_isComplete 36 = .ok (.aload_n 0, 1) := by decide +kernel
theorem dX9_isComplete_37 : decode cX9_isComplete 37 = .ok (.dup, 1) := by decide +kernel
theorem dX9_isComplete_38 : decode cX9_isComplete 38 = .ok (.getfield 218, 3) := by decide +kernel
theorem dX9_isComplete_41 : decode cX9_isComplete 41 = .ok (.iconst 1, 1) := by decide +kernel
theorem dX9_isComplete_42 : decode cX9_isComplete 42 = .ok (.iadd, 1) := by decide +kernel
theorem dX9_isComplete_43 : decode cX9_isComplete 43 = .ok (.putfield 218, 3) := by decide +kernel
theorem dX9_isComplete_46 : decode cX9_isComplete 46 = .ok (.goto (-41), 3) := by decide +kernel
theorem dX9_isComplete_49 : decode cX9_isComplete 49 = .ok (.iconst 0, 1) := by decide +kernel
theorem dX9_isComplete_50 : decode cX9_isComplete 50 = .ok (.ireturn, 1) := by decide +kernel
theorem dX9_firstError_0 : decode cX9_firstError 0 = .ok (.aload_n 0, 1) := by decide +kernel
theorem dX9_firstError_1 : decode cX9_firstError 1 = .ok (.iconst 0, 1) := by decide +kernel
theorem dX9_firstError_2 : decode cX9_firstError 2 = .ok (.putfield 66, 3) := by decide +kernel
theorem dX9_firstError_5 : decode cX9_firstError 5 = .ok (.aload_n 0, 1) := by decide +kernel
theorem dX9_firstError_6 : decode cX9_firstError 6 = .ok (.invokevirtual 236, 3) := by decide +kernel
theorem dX9_firstError_9 : decode cX9_firstError 9 = .ok (.pop, 1) := by decide +kernel
theorem dX9_firstError_10 : decode cX9_firstError 10 = .ok (.aload_n 0, 1) := by decide +kernel
theorem dX9_firstError_11 : decode cX9_firstError 11 = .ok (.getfield 218, 3) := by decide +kernel
theorem dX9_firstError_14 : decode cX9_firstError 14 = .ok (.ireturn, 1) := by decide +kernel
theorem dX9_does_0 : decode cX9_does 0 = .ok (.aload_n 0, 1) := by decide +kernel
theorem dX9_does_1 : decode cX9_does 1 = .ok (.getfield 227, 3) := by decide +kernel
theorem dX9_does_4 : decode cX9_does 4 = .ok (.lookupswitch 59 #[(104, 41), (112, 36), (116, 48)], 36) := by decide +kernel
theorem dX9_does_40 : decode cX9_does 40 = .ok (.aload_n 0, 1) := by decide +kernel
theorem dX9_does_41 : decode cX9_does 41 = .ok (.invokevirtual 167, 3) := by decide +kernel
theorem dX9_does_44 : decode cX9_does 44 = .ok (.ireturn, 1) := by decide +kernel
theorem dX9_does_45 : decode cX9_does 45 = .ok (.aload_n 0, 1) := by decide +kernel
theorem dX9_does_46 : decode cX9_does 46 = .ok (.invokevirtual 173, 3) := by decide +kernel
theorem dX9_does_49 : decode cX9_does 49 = .ok (.pop, 1) := by decide +kernel
theorem dX9_does_50 : decode cX9_does 50 = .ok (.iconst 0, 1) := by decide +kernel
theorem dX9_does_51 : decode cX9_does 51 = .ok (.ireturn, 1) := by decide +kernel
theorem dX9_does_52 : decode cX9_does 52 = .ok (.aload_n 0, 1) := by decide +kernel
theorem dX9_does_53 : decode cX9_does 53 = .ok (.aload_n 0, 1) := by decide +kernel
theorem dX9_does_54 : decode cX9_does 54 = .ok (.getfield 224, 3) := by decide +kernel
theorem dX9_does_57 : decode cX9_does 57 = .ok (.invokevirtual 176, 3) := by decide +kernel
theorem dX9_does_60 : decode cX9_does 60 = .ok (.pop, 1) := by decide +kernel
theorem dX9_does_61 : decode cX9_does 61 = .ok (.iconst 0, 1) := by decide +kernel
theorem dX9_does_62 : decode cX9_does 62 = .ok (.ireturn, 1) := by decide +kernel
theorem dX9_does_63 : decode cX9_does 63 = .ok (.aload_n 0, 1) := by decide +kernel
theorem dX9_does_64 : decode cX9_does 64 = .ok (.aload_n 0, 1) := by decide +kernel
theorem dX9_does_65 : decode cX9_does 65 = .ok (.getfield 227, 3) := by decide +kernel
theorem dX9_does_68 : decode cX9_does 68 = .ok (.bipush 114, 2) := by decide +kernel
theorem dX9_does_70 : decode cX9_does 70 = .ok (.if_icmp .ne 10, 3) := by decide +kernel
theorem dX9_does_73 : decode cX9_does 73 = .ok (.aload_n 0, 1) := by decide +kernel
theorem dX9_does_74 : decode cX9_does 74 = .ok (.getfield 224, 3) := by decide +kernel
theorem dX9_does_77 : decode cX9_does 77 = .ok (.goto 8, 3) := by decide +kernel
theorem dX9_does_80 : decode cX9_does 80 = .ok (.aload_n 0, 1) := by decide +kernel
theorem dX9_does_81 : decode cX9_does 81 = .ok (.getfield 224, 3) := by decide +kernel
theorem dX9_does_84 : decode cX9_does 84 = .ok (.ineg, 1) := by decide +kernel
theorem dX9_does_85 : decode cX9_does 85 = .ok (.invokevirtual 144, 3) := by decide +kernel
theorem dX9_does_88 : decode cX9_does 88 = .ok (.pop, 1) := by decide +kernel
theorem dX9_does_89 : decode cX9_does 89 = .ok (.iconst 0, 1) := by decide +kernel
theorem dX9_does_90 : decode cX9_does 90 = .ok (.ireturn, 1) := by decide +kernel
theorem dX9_run_0 : decode cX9_run 0 = .ok (.aload_n 0, 1) := by decide +kernel
theorem dX9_run_1 : decode cX9_run 1 = .ok (.aload_n 0, 1) := by decide +kernel
theorem dX9_run_2 : decode cX9_run 2 = .ok (.invokevirtual 236, 3) := by decide +kernel
theorem dX9_run_5 : decode cX9_run 5 = .ok (.ifCond .eq 7, 3) := by decide +kernel
theorem dX9_run_8 : decode cX9_run 8 = .ok (.iconst 0, 1) := by decide +kernel
theorem dX9_run_9 : decode cX9_run 9 = .ok (.goto 4, 3) := by decide +kernel
theorem dX9_run_12 : decode cX9_run 12 = .ok (.iconst 1, 1) := by decide +kernel
theorem dX9_run_13 : decode cX9_run 13 = .ok (.invokevirtual 109, 3) := by decide +kernel
theorem dX9_run_16 : decode cX9_run 16 = .ok (.ifCond .ne 5, 3) := by decide +kernel
theorem dX9_run_19 : decode cX9_run 19 = .ok (.iconst 0, 1) := by decide +kernel
theorem dX9_run_20 : decode cX9_run 20 = .ok (.ireturn, 1) := by decide +kernel
theorem dX9_run_21 : decode cX9_run 21 = .ok (.aload_n 0, 1) := by decide +kernel
theorem dX9_run_22 : decode cX9_run 22 = .ok (.iconst 0, 1) := by decide +kernel
theorem dX9_run_23 : decode cX9_run 23 = .ok (.putfield 218, 3) := by decide +kernel
theorem dX9_run_26 : decode cX9_run 26 = .ok (.iconst 0, 1) := by decide +kernel
theorem dX9_run_27 : decode cX9_run 27 = .ok (.istore_n 1, 1) := by decide +kernel
theorem dX9_run_28 : decode cX9_run 28 = .ok (.aload_n 0, 1) := by decide +kernel
theorem dX9_run_29 : decode cX9_run 29 = .ok (.invokevirtual 233, 3) := by decide +kernel
theorem dX9_run_32 : decode cX9_run 32 = .ok (.ifCond .eq 23, 3) := by decide +kernel
theorem dX9_run_35 : decode cX9_run 35 = .ok (.iload_n 1, 1) := by decide +kernel
theorem dX9_run_36 : decode cX9_run 36 = .ok (.aload_n 0, 1) := by decide +kernel
theorem dX9_run_37 : decode cX9_run 37 = .ok (.invokevirtual 239, 3) := by decide +kernel
theorem dX9_run_40 : decode cX9_run 40 = .ok (.iadd, 1) := by decide +kernel
theorem dX9_run_41 : decode cX9_run 41 = .ok (.istore_n 1, 1) := by decide +kernel
theorem dX9_run_42 : decode cX9_run 42 = .ok (.aload_n 0, 1) := by decide +kernel
theorem dX9_run_43 : decode cX9_run 43 = .ok (.dup, 1) := by decide +kernel
theorem dX9_run_44 : decode cX9_run 44 = .ok (.getfield 218, 3) := by decide +kernel
theorem dX9_run_47 : decode cX9_run 47 = .ok (.iconst 1, 1) := by decide +kernel
theorem dX9_run_48 : decode cX9_run 48 = .ok (.iadd, 1) := by decide +kernel
theorem dX9_run_49 : decode cX9_run 49 = .ok (.putfield 218, 3) := by decide +kernel
theorem dX9_run_52 : decode cX9_run 52 = .ok (.goto (-24), 3) := by decide +kernel
theorem dX9_run_55 : decode cX9_run 55 = .ok (.aload_n 0, 1) := by decide +kernel
theorem dX9_run_56 : decode cX9_run 56 = .ok (.iconst 0, 1) := by decide +kernel
theorem dX9_run_57 : decode cX9_run 57 = .ok (.putfield 215, 3) := by decide +kernel
theorem dX9_run_60 : decode cX9_run 60 = .ok (.iload_n 1, 1) := by decide +kernel
theorem dX9_run_61 : decode cX9_run 61 = .ok (.ireturn, 1) := by decide +kernel
theorem dX9_mix_0 : decode cX9_mix 0 = .ok (.aload_n 0, 1) := by decide +kernel
theorem dX9_mix_1 : decode cX9_mix 1 = .ok (.ldc2_w 242, 3) := by decide +kernel
theorem dX9_mix_4 : decode cX9_mix 4 = .ok (.aload_n 0, 1) := by decide +kernel
theorem dX9_mix_5 : decode cX9_mix 5 = .ok (.getfield 244, 3) := by decide +kernel
theorem dX9_mix_8 : decode cX9_mix 8 = .ok (.lmul, 1) := by decide +kernel
theorem dX9_mix_9 : decode cX9_mix 9 = .ok (.lload_n 1, 1) := by decide +kernel
theorem dX9_mix_10 : decode cX9_mix 10 = .ok (.ladd, 1) := by decide +kernel
theorem dX9_mix_11 : decode cX9_mix 11 = .ok (.putfield 244, 3) := by decide +kernel
theorem dX9_mix_14 : decode cX9_mix 14 = .ok (.return_, 1) := by decide +kernel
theorem dX9_bits_0 : decode cX9_bits 0 = .ok (.fload_n 0, 1) := by decide +kernel
theorem dX9_bits_1 : decode cX9_bits 1 = .ok (.fconst 0, 1) := by decide +kernel
theorem dX9_bits_2 : decode cX9_bits 2 = .ok (.fcmp .l, 1) := by decide +kernel
theorem dX9_bits_3 : decode cX9_bits 3 = .ok (.ifCond .ne 5, 3) := by decide +kernel
theorem dX9_bits_6 : decode cX9_bits 6 = .ok (.iconst 0, 1) := by decide +kernel
theorem dX9_bits_7 : decode cX9_bits 7 = .ok (.ireturn, 1) := by decide +kernel
theorem dX9_bits_8 : decode cX9_bits 8 = .ok (.fload_n 0, 1) := by decide +kernel
theorem dX9_bits_9 : decode cX9_bits 9 = .ok (.fstore_n 1, 1) := by decide +kernel
theorem dX9_bits_10 : decode cX9_bits 10 = .ok (.bipush 127, 2) := by decide +kernel
theorem dX9_bits_12 : decode cX9_bits 12 = .ok (.istore_n 2, 1) := by decide +kernel
theorem dX9_bits_13 : decode cX9_bits 13 = .ok (.fload_n 1, 1) := by decide +kernel
theorem dX9_bits_14 : decode cX9_bits 14 = .ok (.fconst 1, 1) := by decide +kernel
theorem dX9_bits_15 : decode cX9_bits 15 = .ok (.fcmp .g, 1) := by decide +kernel
theorem dX9_bits_16 : decode cX9_bits 16 = .ok (.ifCond .ge 13, 3) := by decide +kernel
theorem dX9_bits_19 : decode cX9_bits 19 = .ok (.fload_n 1, 1) := by decide +kernel
theorem dX9_bits_20 : decode cX9_bits 20 = .ok (.fconst 2, 1) := by decide +kernel
theorem dX9_bits_21 : decode cX9_bits 21 = .ok (.fmul, 1) := by decide +kernel
theorem dX9_bits_22 : decode cX9_bits 22 = .ok (.fstore_n 1, 1) := by decide +kernel
theorem dX9_bits_23 : decode cX9_bits 23 = .ok (.iinc 2 (-1), 3) := by decide +kernel
theorem dX9_bits_26 : decode cX9_bits 26 = .ok (.goto (-13), 3) := by decide +kernel
theorem dX9_bits_29 : decode cX9_bits 29 = .ok (.iload_n 2, 1) := by decide +kernel
theorem dX9_bits_30 : decode cX9_bits 30 = .ok (.ldc 248, 2) := by decide +kernel
theorem dX9_bits_32 : decode cX9_bits 32 = .ok (.imul, 1) := by decide +kernel
theorem dX9_bits_33 : decode cX9_bits 33 = .ok (.fload_n 1, 1) := by decide +kernel
theorem dX9_bits_34 : decode cX9_bits 34 = .ok (.fconst 1, 1) := by decide +kernel
theorem dX9_bits_35 : decode cX9_bits 35 = .ok (.fsub, 1) := by decide +kernel
theorem dX9_bits_36 : decode cX9_bits 36 = .ok (.ldc 249, 2) := by decide +kernel
theorem dX9_bits_38 : decode cX9_bits 38 = .ok (.fmul, 1) := by decide +kernel
theorem dX9_bits_39 : decode cX9_bits 39 = .ok (.f2i, 1) := by decide +kernel
theorem dX9_bits_40 : decode cX9_bits 40 = .ok (.iadd, 1) := by decide +kernel
theorem dX9_bits_41 : decode cX9_bits 41 = .ok (.ireturn, 1) := by decide +kernel
theorem dX9_digest_0 : decode cX9_digest 0 = .ok (.aload_n 0, 1) := by decide +kernel
theorem dX9_digest_1 : decode cX9_digest 1 = .ok (.iconst 0, 1) := by decide +kernel
theorem dX9_digest_2 : decode cX9_digest 2 = .ok (.putfield 66, 3) := by decide +kernel
theorem dX9_digest_5 : decode cX9_digest 5 = .ok (.aload_n 0, 1) := by decide +kernel
theorem dX9_digest_6 : decode cX9_digest 6 = .ok (.ldc2_w 250, 3) := by decide +kernel
theorem dX9_digest_9 : decode cX9_digest 9 = .ok (.putfield 244, 3) := by decide +kernel
theorem dX9_digest_12 : decode cX9_digest 12 = .ok (.aload_n 0, 1) := by decide +kernel
theorem dX9_digest_13 : decode cX9_digest 13 = .ok (.aload_n 0, 1) := by decide +kernel
theorem dX9_digest_14 : decode cX9_digest 14 = .ok (.getfield 62, 3) := by decide +kernel
theorem dX9_digest_17 : decode cX9_digest 17 = .ok (.i2l, 1) := by decide +kernel
theorem dX9_digest_18 : decode cX9_digest 18 = .ok (.invokevirtual 252, 3) := by decide +kernel
theorem dX9_digest_21 : decode cX9_digest 21 = .ok (.aload_n 0, 1) := by decide +kernel
theorem dX9_digest_22 : decode cX9_digest 22 = .ok (.aload_n 0, 1) := by decide +kernel
theorem dX9_digest_23 : decode cX9_digest 23 = .ok (.getfield 83, 3) := by decide +kernel
theorem dX9_digest_26 : decode cX9_digest 26 = .ok (.i2l, 1) := by decide +kernel
theorem dX9_digest_27 : decode cX9_digest 27 = .ok (.invokevirtual 252, 3) := by decide +kernel
theorem dX9_digest_30 : decode cX9_digest 30 = .ok (.aload_n 0, 1) := by decide +kernel
theorem dX9_digest_31 : decode cX9_digest 31 = .ok (.aload_n 0, 1) := by decide +kernel
theorem dX9_digest_32 : decode cX9_digest 32 = .ok (.getfield 77, 3) := by decide +kernel
theorem dX9_digest_35 : decode cX9_digest 35 = .ok (.i2l, 1) := by decide +kernel
theorem dX9_digest_36 : decode cX9_digest 36 = .ok (.invokevirtual 252, 3) := by decide +kernel
theorem dX9_digest_39 : decode cX9_digest 39 = .ok (.aload_n 0, 1) := by decide +kernel
theorem dX9_digest_40 : decode cX9_digest 40 = .ok (.aload_n 0, 1) := by decide +kernel
theorem dX9_digest_41 : decode cX9_digest 41 = .ok (.getfield 86, 3) := by decide +kernel
theorem dX9_digest_44 : decode cX9_digest 44 = .ok (.i2l, 1) := by decide +kernel
theorem dX9_digest_45 : decode cX9_digest 45 = .ok (.invokevirtual 252, 3) := by decide +kernel
theorem dX9_digest_48 : decode cX9_digest 48 = .ok (.aload_n 0, 1) := by decide +kernel
theorem dX9_digest_49 : decode cX9_digest 49 = .ok (.aload_n 0, 1) := by decide +kernel
theorem dX9_digest_50 : decode cX9_digest 50 = .ok (.aload_n 0, 1) := by decide +kernel
theorem dX9_digest_51 : decode cX9_digest 51 = .ok (.getfield 86, 3) := by decide +kernel
theorem dX9_digest_54 : decode cX9_digest 54 = .ok (.invokevirtual 125, 3) := by decide +kernel
theorem dX9_digest_57 : decode cX9_digest 57 = .ok (.i2l, 1) := by decide +kernel
theorem dX9_digest_58 : decode cX9_digest 58 = .ok (.invokevirtual 252, 3) := by decide +kernel
theorem dX9_digest_61 : decode cX9_digest 61 = .ok (.aload_n 0, 1) := by decide +kernel
theorem dX9_digest_62 : decode cX9_digest 62 = .ok (.aload_n 0, 1) := by decide +kernel
theorem dX9_digest_63 : decode cX9_digest 63 = .ok (.invokevirtual 179, 3) := by decide +kernel
theorem dX9_digest_66 : decode cX9_digest 66 = .ok (.i2l, 1) := by decide +kernel
theorem dX9_digest_67 : decode cX9_digest 67 = .ok (.invokevirtual 252, 3) := by decide +kernel
theorem dX9_digest_70 : decode cX9_digest 70 = .ok (.aload_n 0, 1) := by decide +kernel
theorem dX9_digest_71 : decode cX9_digest 71 = .ok (.aload_n 0, 1) := by decide +kernel
theorem dX9_digest_72 : decode cX9_digest 72 = .ok (.getfield 141, 3) := by decide +kernel
theorem dX9_digest_75 : decode cX9_digest 75 = .ok (.i2l, 1) := by decide +kernel
theorem dX9_digest_76 : decode cX9_digest 76 = .ok (.invokevirtual 252, 3) := by decide +kernel
theorem dX9_digest_79 : decode cX9_digest 79 = .ok (.aload_n 0, 1) := by decide +kernel
theorem dX9_digest_80 : decode cX9_digest 80 = .ok (.aload_n 0, 1) := by decide +kernel
theorem dX9_digest_81 : decode cX9_digest 81 = .ok (.getfield 150, 3) := by decide +kernel
theorem dX9_digest_84 : decode cX9_digest 84 = .ok (.i2l, 1) := by decide +kernel
theorem dX9_digest_85 : decode cX9_digest 85 = .ok (.invokevirtual 252, 3) := by decide +kernel
theorem dX9_digest_88 : decode cX9_digest 88 = .ok (.aload_n 0, 1) := by decide +kernel
theorem dX9_digest_89 : decode cX9_digest 89 = .ok (.aload_n 0, 1) := by decide +kernel
theorem dX9_digest_90 : decode cX9_digest 90 = .ok (.getfield 147, 3) := by decide +kernel
theorem dX9_digest_93 : decode cX9_digest 93 = .ok (.i2l, 1) := by decide +kernel
theorem dX9_digest_94 : decode cX9_digest 94 = .ok (.invokevirtual 252, 3) := by decide +kernel
theorem dX9_digest_97 : decode cX9_digest 97 = .ok (.aload_n 0, 1) := by decide +kernel
theorem dX9_digest_98 : decode cX9_digest 98 = .ok (.aload_n 0, 1) := by decide +kernel
theorem dX9_digest_99 : decode cX9_digest 99 = .ok (.invokevirtual 208, 3) := by decide +kernel
theorem dX9_digest_102 : decode cX9_digest 102 = .ok (.i2l, 1) := by decide +kernel
theorem dX9_digest_103 : decode cX9_digest 103 = .ok (.invokevirtual 252, 3) := by decide +kernel
theorem dX9_digest_106 : decode cX9_digest 106 = .ok (.iconst 0, 1) := by decide +kernel
theorem dX9_digest_107 : decode cX9_digest 107 = .ok (.istore_n 1, 1) := by decide +kernel
theorem dX9_digest_108 : decode cX9_digest 108 = .ok (.iload_n 1, 1) := by decide +kernel
theorem dX9_digest_109 : decode cX9_digest 109 = .ok (.aload_n 0, 1) := by decide +kernel
theorem dX9_digest_110 : decode cX9_digest 110 = .ok (.getfield 62, 3) := by decide +kernel
theorem dX9_digest_113 : decode cX9_digest 113 = .ok (.if_icmp .ge 71, 3) := by decide +kernel
theorem dX9_digest_116 : decode cX9_digest 116 = .ok (.aload_n 0, 1) := by decide +kernel
theorem dX9_digest_117 : decode cX9_digest 117 = .ok (.aload_n 0, 1) := by decide +kernel
theorem dX9_digest_118 : decode cX9_digest 118 = .ok (.getfield 7, 3) := by decide +kernel
theorem dX9_digest_121 : decode cX9_digest 121 = .ok (.iload_n 1, 1) := by decide +kernel
theorem dX9_digest_122 : decode cX9_digest 122 = .ok (.iaload, 1) := by decide +kernel
theorem dX9_digest_123 : decode cX9_digest 123 = .ok (.i2l, 1) := by decide +kernel
theorem dX9_digest_124 : decode cX9_digest 124 = .ok (.invokevirtual 252, 3) := by decide +kernel
theorem dX9_digest_127 : decode cX9_digest 127 = .ok (.aload_n 0, 1) := by decide +kernel
theorem dX9_digest_128 : decode cX9_digest 128 = .ok (.aload_n 0, 1) := by decide +kernel
theorem dX9_digest_129 : decode cX9_digest 129 = .ok (.getfield 13, 3) := by decide +kernel
theorem dX9_digest_132 : decode cX9_digest 132 = .ok (.iload_n 1, 1) := by decide +kernel
theorem dX9_digest_133 : decode cX9_digest 133 = .ok (.iaload, 1) := by decide +kernel
theorem dX9_digest_134 : decode cX9_digest 134 = .ok (.i2l, 1) := by decide +kernel
theorem dX9_digest_135 : decode cX9_digest 135 = .ok (.invokevirtual 252, 3) := by decide +kernel
theorem dX9_digest_138 : decode cX9_digest 138 = .ok (.aload_n 0, 1) := by decide +kernel
theorem dX9_digest_139 : decode cX9_digest 139 = .ok (.aload_n 0, 1) := by decide +kernel
theorem dX9_digest_140 : decode cX9_digest 140 = .ok (.iload_n 1, 1) := by decide +kernel
theorem dX9_digest_141 : decode cX9_digest 141 = .ok (.invokevirtual 116, 3) := by decide +kernel
theorem dX9_digest_144 : decode cX9_digest 144 = .ok (.ifCond .eq 7, 3) := by decide +kernel
theorem dX9_digest_147 : decode cX9_digest 147 = .ok (.lconst 1, 1) := by decide +kernel
theorem dX9_digest_148 : decode cX9_digest 148 = .ok (.goto 4, 3) := by decide +kernel
theorem dX9_digest_151 : decode cX9_digest 151 = .ok (.lconst 0, 1) := by decide +kernel
theorem dX9_digest_152 : decode cX9_digest 152 = .ok (.invokevirtual 252, 3) := by decide +kernel
theorem dX9_digest_155 : decode cX9_digest 155 = .ok (.aload_n 0, 1) := by decide +kernel
theorem dX9_digest_156 : decode cX9_digest 156 = .ok (.aload_n 0, 1) := by decide +kernel
theorem dX9_digest_157 : decode cX9_digest 157 = .ok (.iload_n 1, 1) := by decide +kernel
theorem dX9_digest_158 : decode cX9_digest 158 = .ok (.invokevirtual 100, 3) := by decide +kernel
theorem dX9_digest_161 : decode cX9_digest 161 = .ok (.ifCond .eq 7, 3) := by decide +kernel
theorem dX9_digest_164 : decode cX9_digest 164 = .ok (.lconst 0, 1) := by decide +kernel
theorem dX9_digest_165 : decode cX9_digest 165 = .ok (.goto 10, 3) := by decide +kernel
theorem dX9_digest_168 : decode cX9_digest 168 = .ok (.aload_n 0, 1) := by decide +kernel
theorem dX9_digest_169 : decode cX9_digest 169 = .ok (.getfield 25, 3) := by decide +kernel
theorem dX9_digest_172 : decode cX9_digest 172 = .ok (.iload_n 1, 1) := by decide +kernel
theorem dX9_digest_173 : decode cX9_digest 173 = .ok (.iaload, 1) := by decide +kernel
theorem dX9_digest_174 : decode cX9_digest 174 = .ok (.i2l, 1) := by decide +kernel
theorem dX9_digest_175 : decode cX9_digest 175 = .ok (.invokevirtual 252, 3) := by decide +kernel
theorem dX9_digest_178 : decode cX9_digest 178 = .ok (.iinc 1 1, 3) := by decide +kernel
theorem dX9_digest_181 : decode cX9_digest 181 = .ok (.goto (-73), 3) := by decide +kernel
theorem dX9_digest_184 : decode cX9_digest 184 = .ok (.iconst 0, 1) := by decide +kernel
theorem dX9_digest_185 : decode cX9_digest 185 = .ok (.istore_n 1, 1) := by decide +kernel
theorem dX9_digest_186 : decode cX9_digest 186 = .ok (.iload_n 1, 1) := by decide +kernel
theorem dX9_digest_187 : decode cX9_digest 187 = .ok (.bipush 8, 2) := by decide +kernel
theorem dX9_digest_189 : decode cX9_digest 189 = .ok (.if_icmp .ge 20, 3) := by decide +kernel
theorem dX9_digest_192 : decode cX9_digest 192 = .ok (.aload_n 0, 1) := by decide +kernel
theorem dX9_digest_193 : decode cX9_digest 193 = .ok (.aload_n 0, 1) := by decide +kernel
theorem dX9_digest_194 : decode cX9_digest 194 = .ok (.getfield 41, 3) := by decide +kernel
theorem dX9_digest_197 : decode cX9_digest 197 = .ok (.iload_n 1, 1) := by decide +kernel
theorem dX9_digest_198 : decode cX9_digest 198 = .ok (.iaload, 1) := by decide +kernel
theorem dX9_digest_199 : decode cX9_digest 199 = .ok (.i2l, 1) := by decide +kernel
theorem dX9_digest_200 : decode cX9_digest 200 = .ok (.invokevirtual 252, 3) := by decide +kernel
theorem dX9_digest_203 : decode cX9_digest 203 = .ok (.iinc 1 1, 3) := by decide +kernel
theorem dX9_digest_206 : decode cX9_digest 206 = .ok (.goto (-20), 3) := by decide +kernel
theorem dX9_digest_209 : decode cX9_digest 209 = .ok (.iconst 0, 1) := by decide +kernel
theorem dX9_digest_210 : decode cX9_digest 210 = .ok (.istore_n 1, 1) := by decide +kernel
theorem dX9_digest_211 : decode cX9_digest 211 = .ok (.iload_n 1, 1) := by decide +kernel
theorem dX9_digest_212 : decode cX9_digest 212 = .ok (.iconst 2, 1) := by decide +kernel
theorem dX9_digest_213 : decode cX9_digest 213 = .ok (.if_icmp .ge 39, 3) := by decide +kernel
theorem dX9_digest_216 : decode cX9_digest 216 = .ok (.aload_n 0, 1) := by decide +kernel
theorem dX9_digest_217 : decode cX9_digest 217 = .ok (.iload_n 1, 1) := by decide +kernel
theorem dX9_digest_218 : decode cX9_digest 218 = .ok (.invokevirtual 205, 3) := by decide +kernel
theorem dX9_digest_221 : decode cX9_digest 221 = .ok (.iconst 0, 1) := by decide +kernel
theorem dX9_digest_222 : decode cX9_digest 222 = .ok (.istore_n 2, 1) := by decide +kernel
theorem dX9_digest_223 : decode cX9_digest 223 = .ok (.iload_n 2, 1) := by decide +kernel
theorem dX9_digest_224 : decode cX9_digest 224 = .ok (.bipush 16, 2) := by decide +kernel
theorem dX9_digest_226 : decode cX9_digest 226 = .ok (.if_icmp .ge 20, 3) := by decide +kernel
theorem dX9_digest_229 : decode cX9_digest 229 = .ok (.aload_n 0, 1) := by decide +kernel
theorem dX9_digest_230 : decode cX9_digest 230 = .ok (.aload_n 0, 1) := by decide +kernel
theorem dX9_digest_231 : decode cX9_digest 231 = .ok (.getfield 59, 3) := by decide +kernel
theorem dX9_digest_234 : decode cX9_digest 234 = .ok (.iload_n 2, 1) := by decide +kernel
theorem dX9_digest_235 : decode cX9_digest 235 = .ok (.iaload, 1) := by decide +kernel
theorem dX9_digest_236 : decode cX9_digest 236 = .ok (.i2l, 1) := by decide +kernel
theorem dX9_digest_237 : decode cX9_digest 237 = .ok (.invokevirtual 252, 3) := by decide +kernel
theorem dX9_digest_240 : decode cX9_digest 240 = .ok (.iinc 2 1, 3) := by decide +kernel
theorem dX9_digest_243 : decode cX9_digest 243 = .ok (.goto (-20), 3) := by decide +kernel
theorem dX9_digest_246 : decode cX9_digest 246 = .ok (.iinc 1 1, 3) := by decide +kernel
theorem dX9_digest_249 : decode cX9_digest 249 = .ok (.goto (-38), 3) := by decide +kernel
theorem dX9_digest_252 : decode cX9_digest 252 = .ok (.aload_n 0, 1) := by decide +kernel
theorem dX9_digest_253 : decode cX9_digest 253 = .ok (.aload_n 0, 1) := by decide +kernel
theorem dX9_digest_254 : decode cX9_digest 254 = .ok (.invokevirtual 211, 3) := by decide +kernel
theorem dX9_digest_257 : decode cX9_digest 257 = .ok (.d2f, 1) := by decide +kernel
theorem dX9_digest_258 : decode cX9_digest 258 = .ok (.invokestatic 256, 3) := by decide +kernel
theorem dX9_digest_261 : decode cX9_digest 261 = .ok (.i2l, 1) := by decide +kernel
theorem dX9_digest_262 : decode cX9_digest 262 = .ok (.invokevirtual 252, 3) := by decide +kernel
theorem dX9_digest_265 : decode cX9_digest 265 = .ok (.aload_n 0, 1) := by decide +kernel
theorem dX9_digest_266 : decode cX9_digest 266 = .ok (.getfield 244, 3) := by decide +kernel
theorem dX9_digest_269 : decode cX9_digest 269 = .ok (.lreturn, 1) := by decide +kernel
