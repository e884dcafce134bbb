theorem dX5_init_0 : decode cX5_init 0 = .ok (.aload_n 0, 1) := by decide +kernel
theorem dX5_init_1 : decode cX5_init 1 = .ok (.invokespecial 1, 3) := by decide +kernel
theorem dX5_init_4 : decode cX5_init 4 = .ok (.aload_n 0, 1) := by decide +kernel
theorem dX5_init_5 : decode cX5_init 5 = .ok (.bipush 50, 2) := by decide +kernel
theorem dX5_init_7 : decode cX5_init 7 = .ok (.newarray .int, 2) := by decide +kernel
theorem dX5_init_9 : decode cX5_init 9 = .ok (.putfield 7, 3) := by decide +kernel
theorem dX5_init_12 : decode cX5_init 12 = .ok (.aload_n 0, 1) := by decide +kernel
theorem dX5_init_13 : decode cX5_init 13 = .ok (.bipush 12, 2) := by decide +kernel
theorem dX5_init_15 : decode cX5_init 15 = .ok (.newarray .int, 2) := by decide +kernel
theorem dX5_init_17 : decode cX5_init 17 = .ok (.putfield 13, 3) := by decide +kernel
theorem dX5_init_20 : decode cX5_init 20 = .ok (.aload_n 0, 1) := by decide +kernel
theorem dX5_init_21 : decode cX5_init 21 = .ok (.bipush 120, 2) := by decide +kernel
theorem dX5_init_23 : decode cX5_init 23 = .ok (.newarray .int, 2) := by decide +kernel
theorem dX5_init_25 : decode cX5_init 25 = .ok (.putfield 16, 3) := by decide +kernel
theorem dX5_init_28 : decode cX5_init 28 = .ok (.aload_n 0, 1) := by decide +kernel
theorem dX5_init_29 : decode cX5_init 29 = .ok (.bipush 120, 2) := by decide +kernel
theorem dX5_init_31 : decode cX5_init 31 = .ok (.newarray .int, 2) := by decide +kernel
theorem dX5_init_33 : decode cX5_init 33 = .ok (.putfield 19, 3) := by decide +kernel
theorem dX5_init_36 : decode cX5_init 36 = .ok (.aload_n 0, 1) := by decide +kernel
theorem dX5_init_37 : decode cX5_init 37 = .ok (.bipush 120, 2) := by decide +kernel
theorem dX5_init_39 : decode cX5_init 39 = .ok (.newarray .int, 2) := by decide +kernel
theorem dX5_init_41 : decode cX5_init 41 = .ok (.putfield 22, 3) := by decide +kernel
theorem dX5_init_44 : decode cX5_init 44 = .ok (.aload_n 0, 1) := by decide +kernel
theorem dX5_init_45 : decode cX5_init 45 = .ok (.bipush 120, 2) := by decide +kernel
theorem dX5_init_47 : decode cX5_init 47 = .ok (.newarray .boolean, 2) := by decide +kernel
theorem dX5_init_49 : decode cX5_init 49 = .ok (.putfield 25, 3) := by decide +kernel
theorem dX5_init_52 : decode cX5_init 52 = .ok (.aload_n 0, 1) := by decide +kernel
theorem dX5_init_53 : decode cX5_init 53 = .ok (.bipush 96, 2) := by decide +kernel
theorem dX5_init_55 : decode cX5_init 55 = .ok (.newarray .boolean, 2) := by decide +kernel
theorem dX5_init_57 : decode cX5_init 57 = .ok (.putfield 29, 3) := by decide +kernel
theorem dX5_init_60 : decode cX5_init 60 = .ok (.aload_n 0, 1) := by decide +kernel
theorem dX5_init_61 : decode cX5_init 61 = .ok (.bipush 10, 2) := by decide +kernel
theorem dX5_init_63 : decode cX5_init 63 = .ok (.newarray .int, 2) := by decide +kernel
theorem dX5_init_65 : decode cX5_init 65 = .ok (.putfield 32, 3) := by decide +kernel
theorem dX5_init_68 : decode cX5_init 68 = .ok (.aload_n 0, 1) := by decide +kernel
theorem dX5_init_69 : decode cX5_init 69 = .ok (.bipush 80, 2) := by decide +kernel
theorem dX5_init_71 : decode cX5_init 71 = .ok (.newarray .int, 2) := by decide +kernel
theorem dX5_init_73 : decode cX5_init 73 = .ok (.putfield 35, 3) := by decide +kernel
theorem dX5_init_76 : decode cX5_init 76 = .ok (.aload_n 0, 1) := by decide +kernel
theorem dX5_init_77 : decode cX5_init 77 = .ok (.bipush 10, 2) := by decide +kernel
theorem dX5_init_79 : decode cX5_init 79 = .ok (.newarray .int, 2) := by decide +kernel
theorem dX5_init_81 : decode cX5_init 81 = .ok (.putfield 38, 3) := by decide +kernel
theorem dX5_init_84 : decode cX5_init 84 = .ok (.aload_n 0, 1) := by decide +kernel
theorem dX5_init_85 : decode cX5_init 85 = .ok (.sipush 300, 3) := by decide +kernel
theorem dX5_init_88 : decode cX5_init 88 = .ok (.newarray .int, 2) := by decide +kernel
theorem dX5_init_90 : decode cX5_init 90 = .ok (.putfield 41, 3) := by decide +kernel
theorem dX5_init_93 : decode cX5_init 93 = .ok (.aload_n 0, 1) := by decide +kernel
theorem dX5_init_94 : decode cX5_init 94 = .ok (.sipush 300, 3) := by decide +kernel
theorem dX5_init_97 : decode cX5_init 97 = .ok (.newarray .int, 2) := by decide +kernel
theorem dX5_init_99 : decode cX5_init 99 = .ok (.putfield 44, 3) := by decide +kernel
theorem dX5_init_102 : decode cX5_init 102 = .ok (.aload_n 0, 1) := by decide +kernel
theorem dX5_init_103 : decode cX5_init 103 = .ok (.sipush 300, 3) := by decide +kernel
theorem dX5_init_106 : decode cX5_init 106 = .ok (.newarray .int, 2) := by decide +kernel
theorem dX5_init_108 : decode cX5_init 108 = .ok (.putfield 47, 3) := by decide +kernel
theorem dX5_init_111 : decode cX5_init 111 = .ok (.aload_n 0, 1) := by decide +kernel
theorem dX5_init_112 : decode cX5_init 112 = .ok (.sipush 300, 3) := by decide +kernel
theorem dX5_init_115 : decode cX5_init 115 = .ok (.newarray .int, 2) := by decide +kernel
theorem dX5_init_117 : decode cX5_init 117 = .ok (.putfield 50, 3) := by decide +kernel
theorem dX5_init_120 : decode cX5_init 120 = .ok (.aload_n 0, 1) := by decide +kernel
theorem dX5_init_121 : decode cX5_init 121 = .ok (.bipush 12, 2) := by decide +kernel
theorem dX5_init_123 : decode cX5_init 123 = .ok (.newarray .int, 2) := by decide +kernel
theorem dX5_init_125 : decode cX5_init 125 = .ok (.putfield 53, 3) := by decide +kernel
theorem dX5_init_128 : decode cX5_init 128 = .ok (.aload_n 0, 1) := by decide +kernel
theorem dX5_init_129 : decode cX5_init 129 = .ok (.bipush 12, 2) := by decide +kernel
theorem dX5_init_131 : decode cX5_init 131 = .ok (.newarray .long, 2) := by decide +kernel
theorem dX5_init_133 : decode cX5_init 133 = .ok (.putfield 56, 3) := by decide +kernel
theorem dX5_init_136 : decode cX5_init 136 = .ok (.aload_n 0, 1) := by decide +kernel
theorem dX5_init_137 : decode cX5_init 137 = .ok (.bipush 12, 2) := by decide +kernel
theorem dX5_init_139 : decode cX5_init 139 = .ok (.newarray .long, 2) := by decide +kernel
theorem dX5_init_141 : decode cX5_init 141 = .ok (.putfield 60, 3) := by decide +kernel
theorem dX5_init_144 : decode cX5_init 144 = .ok (.aload_n 0, 1) := by decide +kernel
theorem dX5_init_145 : decode cX5_init 145 = .ok (.bipush 12, 2) := by decide +kernel
theorem dX5_init_147 : decode cX5_init 147 = .ok (.newarray .int, 2) := by decide +kernel
theorem dX5_init_149 : decode cX5_init 149 = .ok (.putfield 63, 3) := by decide +kernel
theorem dX5_init_152 : decode cX5_init 152 = .ok (.aload_n 0, 1) := by decide +kernel
theorem dX5_init_153 : decode cX5_init 153 = .ok (.sipush 144, 3) := by decide +kernel
theorem dX5_init_156 : decode cX5_init 156 = .ok (.newarray .boolean, 2) := by decide +kernel
theorem dX5_init_158 : decode cX5_init 158 = .ok (.putfield 66, 3) := by decide +kernel
theorem dX5_init_161 : decode cX5_init 161 = .ok (.aload_n 0, 1) := by decide +kernel
theorem dX5_init_162 : decode cX5_init 162 = .ok (.bipush 10, 2) := by decide +kernel
theorem dX5_init_164 : decode cX5_init 164 = .ok (.newarray .int, 2) := by decide +kernel
theorem dX5_init_166 : decode cX5_init 166 = .ok (.putfield 69, 3) := by decide +kernel
theorem dX5_init_169 : decode cX5_init 169 = .ok (.aload_n 0, 1) := by decide +kernel
theorem dX5_init_170 : decode cX5_init 170 = .ok (.bipush 10, 2) := by decide +kernel
theorem dX5_init_172 : decode cX5_init 172 = .ok (.newarray .int, 2) := by decide +kernel
theorem dX5_init_174 : decode cX5_init 174 = .ok (.putfield 72, 3) := by decide +kernel
theorem dX5_init_177 : decode cX5_init 177 = .ok (.aload_n 0, 1) := by decide +kernel
theorem dX5_init_178 : decode cX5_init 178 = .ok (.sipush 1024, 3) := by decide +kernel
theorem dX5_init_181 : decode cX5_init 181 = .ok (.newarray .boolean, 2) := by decide +kernel
theorem dX5_init_183 : decode cX5_init 183 = .ok (.putfield 75, 3) := by decide +kernel
theorem dX5_init_186 : decode cX5_init 186 = .ok (.iconst 0, 1) := by decide +kernel
theorem dX5_init_187 : decode cX5_init 187 = .ok (.istore_n 1, 1) := by decide +kernel
theorem dX5_init_188 : decode cX5_init 188 = .ok (.iload_n 1, 1) := by decide +kernel
theorem dX5_init_189 : decode cX5_init 189 = .ok (.bipush 12, 2) := by decide +kernel
theorem dX5_init_191 : decode cX5_init 191 = .ok (.if_icmp .ge 16, 3) := by decide +kernel
theorem dX5_init_194 : decode cX5_init 194 = .ok (.aload_n 0, 1) := by decide +kernel
theorem dX5_init_195 : decode cX5_init 195 = .ok (.getfield 63, 3) := by decide +kernel
theorem dX5_init_198 : decode cX5_init 198 = .ok (.iload_n 1, 1) := by decide +kernel
theorem dX5_init_199 : decode cX5_init 199 = .ok (.iconst (-1), 1) := by decide +kernel
theorem dX5_init_200 : decode cX5_init 200 = .ok (.iastore, 1) := by decide +kernel
theorem dX5_init_201 : decode cX5_init 201 = .ok (.iinc 1 1, 3) := by decide +kernel
theorem dX5_init_204 : decode cX5_init 204 = .ok (.goto (-16), 3) := by decide +kernel
theorem dX5_init_207 : decode cX5_init 207 = .ok (.return_, 1) := by decide +kernel
theorem dX5_thrown_0 : decode cX5_thrown 0 = .ok (.aload_n 0, 1) := by decide +kernel
theorem dX5_thrown_1 : decode cX5_thrown 1 = .ok (.getfield 78, 3) := by decide +kernel
theorem dX5_thrown_4 : decode cX5_thrown 4 = .ok (.ireturn, 1) := by decide +kernel
theorem dX5_goes_0 : decode cX5_goes 0 = .ok (.aload_n 0, 1) := by decide +kernel
theorem dX5_goes_1 : decode cX5_goes 1 = .ok (.iload_n 1, 1) := by decide +kernel
theorem dX5_goes_2 : decode cX5_goes 2 = .ok (.ifCond .ne 7, 3) := by decide +kernel
theorem dX5_goes_5 : decode cX5_goes 5 = .ok (.iconst 1, 1) := by decide +kernel
theorem dX5_goes_6 : decode cX5_goes 6 = .ok (.goto 20, 3) := by decide +kernel
theorem dX5_goes_9 : decode cX5_goes 9 = .ok (.iload_n 2, 1) := by decide +kernel
theorem dX5_goes_10 : decode cX5_goes 10 = .ok (.ifCond .ne 7, 3) := by decide +kernel
theorem dX5_goes_13 : decode cX5_goes 13 = .ok (.iconst 2, 1) := by decide +kernel
theorem dX5_goes_14 : decode cX5_goes 14 = .ok (.goto 12, 3) := by decide +kernel
theorem dX5_goes_17 : decode cX5_goes 17 = .ok (.iload_n 3, 1) := by decide +kernel
theorem dX5_goes_18 : decode cX5_goes 18 = .ok (.ifCond .ne 7, 3) := by decide +kernel
theorem dX5_goes_21 : decode cX5_goes 21 = .ok (.iconst 3, 1) := by decide +kernel
theorem dX5_goes_22 : decode cX5_goes 22 = .ok (.goto 4, 3) := by decide +kernel
theorem dX5_goes_25 : decode cX5_goes 25 = .ok (.iconst 0, 1) := by decide +kernel
theorem dX5_goes_26 : decode cX5_goes 26 = .ok (.putfield 78, 3) := by decide +kernel
theorem dX5_goes_29 : decode cX5_goes 29 = .ok (.aload_n 0, 1) := by decide +kernel
theorem dX5_goes_30 : decode cX5_goes 30 = .ok (.getfield 78, 3) := by decide +kernel
theorem dX5_goes_33 : decode cX5_goes 33 = .ok (.ifCond .ne 7, 3) := by decide +kernel
theorem dX5_goes_36 : decode cX5_goes 36 = .ok (.iconst 1, 1) := by decide +kernel
theorem dX5_goes_37 : decode cX5_goes 37 = .ok (.goto 4, 3) := by decide +kernel
theorem dX5_goes_40 : decode cX5_goes 40 = .ok (.iconst 0, 1) := by decide +kernel
theorem dX5_goes_41 : decode cX5_goes 41 = .ok (.ireturn, 1) := by decide +kernel
theorem dX5_below_0 : decode cX5_below 0 = .ok (.iload_n 0, 1) := by decide +kernel
theorem dX5_below_1 : decode cX5_below 1 = .ok (.ifCond .lt 12, 3) := by decide +kernel
theorem dX5_below_4 : decode cX5_below 4 = .ok (.iload_n 0, 1) := by decide +kernel
theorem dX5_below_5 : decode cX5_below 5 = .ok (.iload_n 1, 1) := by decide +kernel
theorem dX5_below_6 : decode cX5_below 6 = .ok (.if_icmp .ge 7, 3) := by decide +kernel
theorem dX5_below_9 : decode cX5_below 9 = .ok (.iconst 1, 1) := by decide +kernel
theorem dX5_below_10 : decode cX5_below 10 = .ok (.goto 4, 3) := by decide +kernel
theorem dX5_below_13 : decode cX5_below 13 = .ok (.iconst 0, 1) := by decide +kernel
theorem dX5_below_14 : decode cX5_below 14 = .ok (.ireturn, 1) := by decide +kernel
theorem dX5_unit_0 : decode cX5_unit 0 = .ok (.aload_n 0, 1) := by decide +kernel
theorem dX5_unit_1 : decode cX5_unit 1 = .ok (.aload_n 0, 1) := by decide +kernel
theorem dX5_unit_2 : decode cX5_unit 2 = .ok (.getfield 82, 3) := by decide +kernel
theorem dX5_unit_5 : decode cX5_unit 5 = .ok (.bipush 50, 2) := by decide +kernel
theorem dX5_unit_7 : decode cX5_unit 7 = .ok (.if_icmp .ge 7, 3) := by decide +kernel
theorem dX5_unit_10 : decode cX5_unit 10 = .ok (.iconst 1, 1) := by decide +kernel
theorem dX5_unit_11 : decode cX5_unit 11 = .ok (.goto 4, 3) := by decide +kernel
theorem dX5_unit_14 : decode cX5_unit 14 = .ok (.iconst 0, 1) := by decide +kernel
theorem dX5_unit_15 : decode cX5_unit 15 = .ok (.iload_n 1, 1) := by decide +kernel
theorem dX5_unit_16 : decode cX5_unit 16 = .ok (.bipush 33, 2) := by decide +kernel
theorem dX5_unit_18 : decode cX5_unit 18 = .ok (.if_icmp .lt 13, 3) := by decide +kernel
theorem dX5_unit_21 : decode cX5_unit 21 = .ok (.iload_n 1, 1) := by decide +kernel
theorem dX5_unit_22 : decode cX5_unit 22 = .ok (.bipush 126, 2) := by decide +kernel
theorem dX5_unit_24 : decode cX5_unit 24 = .ok (.if_icmp .gt 7, 3) := by decide +kernel
theorem dX5_unit_27 : decode cX5_unit 27 = .ok (.iconst 1, 1) := by decide +kernel
theorem dX5_unit_28 : decode cX5_unit 28 = .ok (.goto 4, 3) := by decide +kernel
theorem dX5_unit_31 : decode cX5_unit 31 = .ok (.iconst 0, 1) := by decide +kernel
theorem dX5_unit_32 : decode cX5_unit 32 = .ok (.iconst 1, 1) := by decide +kernel
theorem dX5_unit_33 : decode cX5_unit 33 = .ok (.invokevirtual 85, 3) := by decide +kernel
theorem dX5_unit_36 : decode cX5_unit 36 = .ok (.ifCond .ne 5, 3) := by decide +kernel
theorem dX5_unit_39 : decode cX5_unit 39 = .ok (.iconst 0, 1) := by decide +kernel
theorem dX5_unit_40 : decode cX5_unit 40 = .ok (.ireturn, 1) := by decide +kernel
theorem dX5_unit_41 : decode cX5_unit 41 = .ok (.aload_n 0, 1) := by decide +kernel
theorem dX5_unit_42 : decode cX5_unit 42 = .ok (.getfield 7, 3) := by decide +kernel
theorem dX5_unit_45 : decode cX5_unit 45 = .ok (.aload_n 0, 1) := by decide +kernel
theorem dX5_unit_46 : decode cX5_unit 46 = .ok (.getfield 82, 3) := by decide +kernel
theorem dX5_unit_49 : decode cX5_unit 49 = .ok (.iload_n 1, 1) := by decide +kernel
theorem dX5_unit_50 : decode cX5_unit 50 = .ok (.iastore, 1) := by decide +kernel
theorem dX5_unit_51 : decode cX5_unit 51 = .ok (.aload_n 0, 1) := by decide +kernel
theorem dX5_unit_52 : decode cX5_unit 52 = .ok (.dup, 1) := by decide +kernel
theorem dX5_unit_53 : decode cX5_unit 53 = .ok (.getfield 82, 3) := by decide +kernel
theorem dX5_unit_56 : decode cX5_unit 56 = .ok (.iconst 1, 1) := by decide +kernel
theorem dX5_unit_57 : decode cX5_unit 57 = .ok (.iadd, 1) := by decide +kernel
theorem dX5_unit_58 : decode cX5_unit 58 = .ok (.putfield 82, 3) := by decide +kernel
theorem dX5_unit_61 : decode cX5_unit 61 = .ok (.aload_n 0, 1) := by decide +kernel
theorem dX5_unit_62 : decode cX5_unit 62 = .ok (.getfield 82, 3) := by decide +kernel
theorem dX5_unit_65 : decode cX5_unit 65 = .ok (.ireturn, 1) := by decide +kernel
theorem dX5_greatest_0 : decode cX5_greatest 0 = .ok (.iload_n 0, 1) := by decide +kernel
theorem dX5_greatest_1 : decode cX5_greatest 1 = .ok (.bipush 98, 2) := by decide +kernel
theorem dX5_greatest_3 : decode cX5_greatest 3 = .ok (.if_icmp .ne 8, 3) := by decide +kernel
theorem dX5_greatest_6 : decode cX5_greatest 6 = .ok (.bipush 9, 2) := by decide +kernel
theorem dX5_greatest_8 : decode cX5_greatest 8 = .ok (.goto 5, 3) := by decide +kernel
theorem dX5_greatest_11 : decode cX5_greatest 11 = .ok (.bipush 11, 2) := by decide +kernel
theorem dX5_greatest_13 : decode cX5_greatest 13 = .ok (.ireturn, 1) := by decide +kernel
theorem dX5_isLetter_0 : decode cX5_isLetter 0 = .ok (.iload_n 0, 1) := by decide +kernel
theorem dX5_isLetter_1 : decode cX5_isLetter 1 = .ok (.bipush 117, 2) := by decide +kernel
theorem dX5_isLetter_3 : decode cX5_isLetter 3 = .ok (.if_icmp .eq 33, 3) := by decide +kernel
theorem dX5_isLetter_6 : decode cX5_isLetter 6 = .ok (.iload_n 0, 1) := by decide +kernel
theorem dX5_isLetter_7 : decode cX5_isLetter 7 = .ok (.bipush 98, 2) := by decide +kernel
theorem dX5_isLetter_9 : decode cX5_isLetter 9 = .ok (.if_icmp .eq 27, 3) := by decide +kernel
theorem dX5_isLetter_12 : decode cX5_isLetter 12 = .ok (.iload_n 0, 1) := by decide +kernel
theorem dX5_isLetter_13 : decode cX5_isLetter 13 = .ok (.bipush 120, 2) := by decide +kernel
theorem dX5_isLetter_15 : decode cX5_isLetter 15 = .ok (.if_icmp .eq 21, 3) := by decide +kernel
theorem dX5_isLetter_18 : decode cX5_isLetter 18 = .ok (.iload_n 0, 1) := by decide +kernel
theorem dX5_isLetter_19 : decode cX5_isLetter 19 = .ok (.bipush 97, 2) := by decide +kernel
theorem dX5_isLetter_21 : decode cX5_isLetter 21 = .ok (.if_icmp .eq 15, 3) := by decide +kernel
theorem dX5_isLetter_24 : decode cX5_isLetter 24 = .ok (.iload_n 0, 1) := by decide +kernel
theorem dX5_isLetter_25 : decode cX5_isLetter 25 = .ok (.bipush 116, 2) := by decide +kernel
theorem dX5_isLetter_27 : decode cX5_isLetter 27 = .ok (.if_icmp .eq 9, 3) := by decide +kernel
theorem dX5_isLetter_30 : decode cX5_isLetter 30 = .ok (.iload_n 0, 1) := by decide +kernel
theorem dX5_isLetter_31 : decode cX5_isLetter 31 = .ok (.bipush 105, 2) := by decide +kernel
theorem dX5_isLetter_33 : decode cX5_isLetter 33 = .ok (.if_icmp .ne 7, 3) := by decide +kernel
theorem dX5_isLetter_36 : decode cX5_isLetter 36 = .ok (.iconst 1, 1) := by decide +kernel
theorem dX5_isLetter_37 : decode cX5_isLetter 37 = .ok (.goto 4, 3) := by decide +kernel
theorem dX5_isLetter_40 : decode cX5_isLetter 40 = .ok (.iconst 0, 1) := by decide +kernel
theorem dX5_isLetter_41 : decode cX5_isLetter 41 = .ok (.ireturn, 1) := by decide +kernel
theorem dX5_fault_0 : decode cX5_fault 0 = .ok (.iconst 0, 1) := by decide +kernel
theorem dX5_fault_1 : decode cX5_fault 1 = .ok (.istore_n 1, 1) := by decide +kernel
theorem dX5_fault_2 : decode cX5_fault 2 = .ok (.iconst 0, 1) := by decide +kernel
theorem dX5_fault_3 : decode cX5_fault 3 = .ok (.istore_n 2, 1) := by decide +kernel
theorem dX5_fault_4 : decode cX5_fault 4 = .ok (.iconst 0, 1) := by decide +kernel
theorem dX5_fault_5 : decode cX5_fault 5 = .ok (.istore_n 3, 1) := by decide +kernel
theorem dX5_fault_6 : decode cX5_fault 6 = .ok (.iconst 0, 1) := by decide +kernel
theorem dX5_fault_7 : decode cX5_fault 7 = .ok (.istore 4, 2) := by decide +kernel
theorem dX5_fault_9 : decode cX5_fault 9 = .ok (.iload 4, 2) := by decide +kernel
theorem dX5_fault_11 : decode cX5_fault 11 = .ok (.aload_n 0, 1) := by decide +kernel
theorem dX5_fault_12 : decode cX5_fault 12 = .ok (.getfield 82, 3) := by decide +kernel
theorem dX5_fault_15 : decode cX5_fault 15 = .ok (.if_icmp .ge 424, 3) := by decide +kernel
theorem dX5_fault_18 : decode cX5_fault 18 = .ok (.aload_n 0, 1) := by decide +kernel
theorem dX5_fault_19 : decode cX5_fault 19 = .ok (.getfield 7, 3) := by decide +kernel
theorem dX5_fault_22 : decode cX5_fault 22 = .ok (.iload 4, 2) := by decide +kernel
theorem dX5_fault_24 : decode cX5_fault 24 = .ok (.iaload, 1) := by decide +kernel
theorem dX5_fault_25 : decode cX5_fault 25 = .ok (.istore 5, 2) := by decide +kernel
theorem dX5_fault_27 : decode cX5_fault 27 = .ok (.bipush 10, 2) := by decide +kernel
theorem dX5_fault_29 : decode cX5_fault 29 = .ok (.aload_n 0, 1) := by decide +kernel
theorem dX5_fault_30 : decode cX5_fault 30 = .ok (.getfield 89, 3) := by decide +kernel
theorem dX5_fault_33 : decode cX5_fault 33 = .ok (.imul, 1) := by decide +kernel
theorem dX5_fault_34 : decode cX5_fault 34 = .ok (.iload_n 2, 1) := by decide +kernel
theorem dX5_fault_35 : decode cX5_fault 35 = .ok (.iadd, 1) := by decide +kernel
theorem dX5_fault_36 : decode cX5_fault 36 = .ok (.istore 6, 2) := by decide +kernel
theorem dX5_fault_38 : decode cX5_fault 38 = .ok (.iconst 1, 1) := by decide +kernel
theorem dX5_fault_39 : decode cX5_fault 39 = .ok (.istore 7, 2) := by decide +kernel
theorem dX5_fault_41 : decode cX5_fault 41 = .ok (.iload_n 1, 1) := by decide +kernel
theorem dX5_fault_42 : decode cX5_fault 42 = .ok (.ifCond .ne 60, 3) := by decide +kernel
theorem dX5_fault_45 : decode cX5_fault 45 = .ok (.iload 5, 2) := by decide +kernel
theorem dX5_fault_47 : decode cX5_fault 47 = .ok (.invokestatic 92, 3) := by decide +kernel
theorem dX5_fault_50 : decode cX5_fault 50 = .ok (.istore 7, 2) := by decide +kernel
theorem dX5_fault_52 : decode cX5_fault 52 = .ok (.aload_n 0, 1) := by decide +kernel
theorem dX5_fault_53 : decode cX5_fault 53 = .ok (.getfield 16, 3) := by decide +kernel
theorem dX5_fault_56 : decode cX5_fault 56 = .ok (.iload 6, 2) := by decide +kernel
theorem dX5_fault_58 : decode cX5_fault 58 = .ok (.iload 5, 2) := by decide +kernel
theorem dX5_fault_60 : decode cX5_fault 60 = .ok (.iastore, 1) := by decide +kernel
theorem dX5_fault_61 : decode cX5_fault 61 = .ok (.aload_n 0, 1) := by decide +kernel
theorem dX5_fault_62 : decode cX5_fault 62 = .ok (.getfield 19, 3) := by decide +kernel
theorem dX5_fault_65 : decode cX5_fault 65 = .ok (.iload 6, 2) := by decide +kernel
theorem dX5_fault_67 : decode cX5_fault 67 = .ok (.iconst 0, 1) := by decide +kernel
theorem dX5_fault_68 : decode cX5_fault 68 = .ok (.iastore, 1) := by decide +kernel
theorem dX5_fault_69 : decode cX5_fault 69 = .ok (.aload_n 0, 1) := by decide +kernel
theorem dX5_fault_70 : decode cX5_fault 70 = .ok (.getfield 22, 3) := by decide +kernel
theorem dX5_fault_73 : decode cX5_fault 73 = .ok (.iload 6, 2) := by decide +kernel
theorem dX5_fault_75 : decode cX5_fault 75 = .ok (.iconst 0, 1) := by decide +kernel
theorem dX5_fault_76 : decode cX5_fault 76 = .ok (.iastore, 1) := by decide +kernel
theorem dX5_fault_77 : decode cX5_fault 77 = .ok (.iconst 0, 1) := by decide +kernel
theorem dX5_fault_78 : decode cX5_fault 78 = .ok (.istore_n 3, 1) := by decide +kernel
theorem dX5_fault_79 : decode cX5_fault 79 = .ok (.iload 5, 2) := by decide +kernel
theorem dX5_fault_81 : decode cX5_fault 81 = .ok (.bipush 116, 2) := by decide +kernel
theorem dX5_fault_83 : decode cX5_fault 83 = .ok (.if_icmp .eq 10, 3) := by decide +kernel
theorem dX5_fault_86 : decode cX5_fault 86 = .ok (.iload 5, 2) := by decide +kernel
theorem dX5_fault_88 : decode cX5_fault 88 = .ok (.bipush 105, 2) := by decide +kernel
theorem dX5_fault_90 : decode cX5_fault 90 = .ok (.if_icmp .ne 7, 3) := by decide +kernel
theorem dX5_fault_93 : decode cX5_fault 93 = .ok (.iconst 5, 1) := by decide +kernel
theorem dX5_fault_94 : decode cX5_fault 94 = .ok (.goto 4, 3) := by decide +kernel
theorem dX5_fault_97 : decode cX5_fault 97 = .ok (.iconst 1, 1) := by decide +kernel
theorem dX5_fault_98 : decode cX5_fault 98 = .ok (.istore_n 1, 1) := by decide +kernel
theorem dX5_fault_99 : decode cX5_fault 99 = .ok (.goto 326, 3) := by decide +kernel
theorem dX5_fault_102 : decode cX5_fault 102 = .ok (.iload 5, 2) := by decide +kernel
theorem dX5_fault_104 : decode cX5_fault 104 = .ok (.bipush 48, 2) := by decide +kernel
theorem dX5_fault_106 : decode cX5_fault 106 = .ok (.if_icmp .lt 178, 3) := by decide +kernel
theorem dX5_fault_109 : decode cX5_fault 109 = .ok (.iload 5, 2) := by decide +kernel
theorem dX5_fault_111 : decode cX5_fault 111 = .ok (.bipush 57, 2) := by decide +kernel
theorem dX5_fault_113 : decode cX5_fault 113 = .ok (.if_icmp .gt 171, 3) := by decide +kernel
theorem dX5_fault_116 : decode cX5_fault 116 = .ok (.iload_n 1, 1) := by decide +kernel
theorem dX5_fault_117 : decode cX5_fault 117 = .ok (.iconst 5, 1) := by decide +kernel
theorem dX5_fault_118 : decode cX5_fault 118 = .ok (.if_icmp .ge 166, 3) := by decide +kernel
theorem dX5_fault_121 : decode cX5_fault 121 = .ok (.iinc 3 1, 3) := by decide +kernel
theorem dX5_fault_124 : decode cX5_fault 124 = .ok (.bipush 10, 2) := by decide +kernel
theorem dX5_fault_126 : decode cX5_fault 126 = .ok (.iload_n 1, 1) := by decide +kernel
theorem dX5_fault_127 : decode cX5_fault 127 = .ok (.iconst 3, 1) := by decide +kernel
theorem dX5_fault_128 : decode cX5_fault 128 = .ok (.if_icmp .ge 13, 3) := by decide +kernel
theorem dX5_fault_131 : decode cX5_fault 131 = .ok (.aload_n 0, 1) := by decide +kernel
theorem dX5_fault_132 : decode cX5_fault 132 = .ok (.getfield 19, 3) := by decide +kernel
theorem dX5_fault_135 : decode cX5_fault 135 = .ok (.iload 6, 2) := by decide +kernel
theorem dX5_fault_137 : decode cX5_fault 137 = .ok (.iaload, 1) := by decide +kernel
theorem dX5_fault_138 : decode cX5_fault 138 = .ok (.goto 10, 3) := by decide +kernel
theorem dX5_fault_141 : decode cX5_fault 141 = .ok (.aload_n 0, 1) := by decide +kernel
theorem dX5_fault_142 : decode cX5_fault 142 = .ok (.getfield 22, 3) := by decide +kernel
theorem dX5_fault_145 : decode cX5_fault 145 = .ok (.iload 6, 2) := by decide +kernel
theorem dX5_fault_147 : decode cX5_fault 147 = .ok (.iaload, 1) := by decide +kernel
theorem dX5_fault_148 : decode cX5_fault 148 = .ok (.imul, 1) := by decide +kernel
theorem dX5_fault_149 : decode cX5_fault 149 = .ok (.iload 5, 2) := by decide +kernel
theorem dX5_fault_151 : decode cX5_fault 151 = .ok (.iadd, 1) := by decide +kernel
theorem dX5_fault_152 : decode cX5_fault 152 = .ok (.bipush 48, 2) := by decide +kernel
theorem dX5_fault_154 : decode cX5_fault 154 = .ok (.isub, 1) := by decide +kernel
theorem dX5_fault_155 : decode cX5_fault 155 = .ok (.istore 8, 2) := by decide +kernel
theorem dX5_fault_157 : decode cX5_fault 157 = .ok (.aload_n 0, 1) := by decide +kernel
theorem dX5_fault_158 : decode cX5_fault 158 = .ok (.getfield 16, 3) := by decide +kernel
theorem dX5_fault_161 : decode cX5_fault 161 = .ok (.iload 6, 2) := by decide +kernel
theorem dX5_fault_163 : decode cX5_fault 163 = .ok (.iaload, 1) := by decide +kernel
theorem dX5_fault_164 : decode cX5_fault 164 = .ok (.bipush 117, 2) := by decide +kernel
theorem dX5_fault_166 : decode cX5_fault 166 = .ok (.if_icmp .ne 12, 3) := by decide +kernel
theorem dX5_fault_169 : decode cX5_fault 169 = .ok (.iload_n 1, 1) := by decide +kernel
theorem dX5_fault_170 : decode cX5_fault 170 = .ok (.iconst 2, 1) := by decide +kernel
theorem dX5_fault_171 : decode cX5_fault 171 = .ok (.if_icmp .le 7, 3) := by decide +kernel
theorem dX5_fault_174 : decode cX5_fault 174 = .ok (.iconst 1, 1) := by decide +kernel
theorem dX5_fault_175 : decode cX5_fault 175 = .ok (.goto 4, 3) := by decide +kernel
theorem dX5_fault_178 : decode cX5_fault 178 = .ok (.iconst 0, 1) := by decide +kernel
theorem dX5_fault_179 : decode cX5_fault 179 = .ok (.istore 9, 2) := by decide +kernel
theorem dX5_fault_181 : decode cX5_fault 181 = .ok (.iload_n 3, 1) := by decide +kernel
theorem dX5_fault_182 : decode cX5_fault 182 = .ok (.iconst 5, 1) := by decide +kernel
theorem dX5_fault_183 : decode cX5_fault 183 = .ok (.if_icmp .ge 42, 3) := by decide +kernel
theorem dX5_fault_186 : decode cX5_fault 186 = .ok (.iload_n 1, 1) := by decide +kernel
theorem dX5_fault_187 : decode cX5_fault 187 = .ok (.iconst 2, 1) := by decide +kernel
theorem dX5_fault_188 : decode cX5_fault 188 = .ok (.if_icmp .gt 18, 3) := by decide +kernel
theorem dX5_fault_191 : decode cX5_fault 191 = .ok (.iload 8, 2) := by decide +kernel
theorem dX5_fault_193 : decode cX5_fault 193 = .ok (.aload_n 0, 1) := by decide +kernel
theorem dX5_fault_194 : decode cX5_fault 194 = .ok (.getfield 16, 3) := by decide +kernel
theorem dX5_fault_197 : decode cX5_fault 197 = .ok (.iload 6, 2) := by decide +kernel
theorem dX5_fault_199 : decode cX5_fault 199 = .ok (.iaload, 1) := by decide +kernel
theorem dX5_fault_200 : decode cX5_fault 200 = .ok (.invokestatic 96, 3) := by decide +kernel
theorem dX5_fault_203 : decode cX5_fault 203 = .ok (.if_icmp .gt 22, 3) := by decide +kernel
theorem dX5_fault_206 : decode cX5_fault 206 = .ok (.iload 9, 2) := by decide +kernel
theorem dX5_fault_208 : decode cX5_fault 208 = .ok (.ifCond .eq 13, 3) := by decide +kernel
theorem dX5_fault_211 : decode cX5_fault 211 = .ok (.iload 8, 2) := by decide +kernel
theorem dX5_fault_213 : decode cX5_fault 213 = .ok (.ifCond .gt 8, 3) := by decide +kernel
theorem dX5_fault_216 : decode cX5_fault 216 = .ok (.iload_n 3, 1) := by decide +kernel
theorem dX5_fault_217 : decode cX5_fault 217 = .ok (.iconst 4, 1) := by decide +kernel
theorem dX5_fault_218 : decode cX5_fault 218 = .ok (.if_icmp .ge 7, 3) := by decide +kernel
theorem dX5_fault_221 : decode cX5_fault 221 = .ok (.iconst 1, 1) := by decide +kernel
theorem dX5_fault_222 : decode cX5_fault 222 = .ok (.goto 4, 3) := by decide +kernel
theorem dX5_fault_225 : decode cX5_fault 225 = .ok (.iconst 0, 1) := by decide +kernel
theorem dX5_fault_226 : decode cX5_fault 226 = .ok (.istore 7, 2) := by decide +kernel
theorem dX5_fault_228 : decode cX5_fault 228 = .ok (.aload_n 0, 1) := by decide +kernel
theorem dX5_fault_229 : decode cX5_fault 229 = .ok (.getfield 19, 3) := by decide +kernel
theorem dX5_fault_232 : decode cX5_fault 232 = .ok (.iload 6, 2) := by decide +kernel
theorem dX5_fault_234 : decode cX5_fault 234 = .ok (.iload_n 1, 1) := by decide +kernel
theorem dX5_fault_235 : decode cX5_fault 235 = .ok (.iconst 3, 1) := by decide +kernel
theorem dX5_fault_236 : decode cX5_fault 236 = .ok (.if_icmp .ge 8, 3) := by decide +kernel
theorem dX5_fault_239 : decode cX5_fault 239 = .ok (.iload 8, 2) := by decide +kernel
theorem dX5_fault_241 : decode cX5_fault 241 = .ok (.goto 10, 3) := by decide +kernel
theorem dX5_fault_244 : decode cX5_fault 244 = .ok (.aload_n 0, 1) := by decide +kernel
theorem dX5_fault_245 : decode cX5_fault 245 = .ok (.getfield 19, 3) := by decide +kernel
theorem dX5_fault_248 : decode cX5_fault 248 = .ok (.iload 6, 2) := by decide +kernel
theorem dX5_fault_250 : decode cX5_fault 250 = .ok (.iaload, 1) := by decide +kernel
theorem dX5_fault_251 : decode cX5_fault 251 = .ok (.iastore, 1) := by decide +kernel
theorem dX5_fault_252 : decode cX5_fault 252 = .ok (.aload_n 0, 1) := by decide +kernel
theorem dX5_fault_253 : decode cX5_fault 253 = .ok (.getfield 22, 3) := by decide +kernel
theorem dX5_fault_256 : decode cX5_fault 256 = .ok (.iload 6, 2) := by decide +kernel
theorem dX5_fault_258 : decode cX5_fault 258 = .ok (.iload_n 1, 1) := by decide +kernel
theorem dX5_fault_259 : decode cX5_fault 259 = .ok (.iconst 3, 1) := by decide +kernel
theorem dX5_fault_260 : decode cX5_fault 260 = .ok (.if_icmp .ge 7, 3) := by decide +kernel
theorem dX5_fault_263 : decode cX5_fault 263 = .ok (.iconst 0, 1) := by decide +kernel
theorem dX5_fault_264 : decode cX5_fault 264 = .ok (.goto 5, 3) := by decide +kernel
theorem dX5_fault_267 : decode cX5_fault 267 = .ok (.iload 8, 2) := by decide +kernel
theorem dX5_fault_269 : decode cX5_fault 269 = .ok (.iastore, 1) := by decide +kernel
theorem dX5_fault_270 : decode cX5_fault 270 = .ok (.iload_n 1, 1) := by decide +kernel
theorem dX5_fault_271 : decode cX5_fault 271 = .ok (.iconst 3, 1) := by decide +kernel
theorem dX5_fault_272 : decode cX5_fault 272 = .ok (.if_icmp .ge 7, 3) := by decide +kernel
theorem dX5_fault_275 : decode cX5_fault 275 = .ok (.iconst 2, 1) := by decide +kernel
theorem dX5_fault_276 : decode cX5_fault 276 = .ok (.goto 4, 3) := by decide +kernel
theorem dX5_fault_279 : decode cX5_fault 279 = .ok (.iconst 4, 1) := by decide +kernel
theorem dX5_fault_280 : decode cX5_fault 280 = .ok (.istore_n 1, 1) := by decide +kernel
theorem dX5_fault_281 : decode cX5_fault 281 = .ok (.goto 144, 3) := by decide +kernel
theorem dX5_fault_284 : decode cX5_fault 284 = .ok (.iload_n 1, 1) := by decide +kernel
theorem dX5_fault_285 : decode cX5_fault 285 = .ok (.iconst 2, 1) := by decide +kernel
theorem dX5_fault_286 : decode cX5_fault 286 = .ok (.if_icmp .ne 65, 3) := by decide +kernel
theorem dX5_fault_289 : decode cX5_fault 289 = .ok (.aload_n 0, 1) := by decide +kernel
theorem dX5_fault_290 : decode cX5_fault 290 = .ok (.getfield 16, 3) := by decide +kernel
theorem dX5_fault_293 : decode cX5_fault 293 = .ok (.iload 6, 2) := by decide +kernel
theorem dX5_fault_295 : decode cX5_fault 295 = .ok (.iaload, 1) := by decide +kernel
theorem dX5_fault_296 : decode cX5_fault 296 = .ok (.bipush 117, 2) := by decide +kernel
theorem dX5_fault_298 : decode cX5_fault 298 = .ok (.if_icmp .eq 15, 3) := by decide +kernel
theorem dX5_fault_301 : decode cX5_fault 301 = .ok (.aload_n 0, 1) := by decide +kernel
theorem dX5_fault_302 : decode cX5_fault 302 = .ok (.getfield 16, 3) := by decide +kernel
theorem dX5_fault_305 : decode cX5_fault 305 = .ok (.iload 6, 2) := by decide +kernel
theorem dX5_fault_307 : decode cX5_fault 307 = .ok (.iaload, 1) := by decide +kernel
theorem dX5_fault_308 : decode cX5_fault 308 = .ok (.bipush 97, 2) := by decide +kernel
theorem dX5_fault_310 : decode cX5_fault 310 = .ok (.if_icmp .ne 41, 3) := by decide +kernel
theorem dX5_fault_313 : decode cX5_fault 313 = .ok (.iload 5, 2) := by decide +kernel
theorem dX5_fault_315 : decode cX5_fault 315 = .ok (.aload_n 0, 1) := by decide +kernel
theorem dX5_fault_316 : decode cX5_fault 316 = .ok (.getfield 16, 3) := by decide +kernel
theorem dX5_fault_319 : decode cX5_fault 319 = .ok (.iload 6, 2) := by decide +kernel
theorem dX5_fault_321 : decode cX5_fault 321 = .ok (.iaload, 1) := by decide +kernel
theorem dX5_fault_322 : decode cX5_fault 322 = .ok (.bipush 117, 2) := by decide +kernel
theorem dX5_fault_324 : decode cX5_fault 324 = .ok (.if_icmp .ne 8, 3) := by decide +kernel
theorem dX5_fault_327 : decode cX5_fault 327 = .ok (.bipush 42, 2) := by decide +kernel
theorem dX5_fault_329 : decode cX5_fault 329 = .ok (.goto 5, 3) := by decide +kernel
theorem dX5_fault_332 : decode cX5_fault 332 = .ok (.bipush 58, 2) := by decide +kernel
theorem dX5_fault_334 : decode cX5_fault 334 = .ok (.if_icmp .ne 7, 3) := by decide +kernel
theorem dX5_fault_337 : decode cX5_fault 337 = .ok (.iconst 1, 1) := by decide +kernel
theorem dX5_fault_338 : decode cX5_fault 338 = .ok (.goto 4, 3) := by decide +kernel
theorem dX5_fault_341 : decode cX5_fault 341 = .ok (.iconst 0, 1) := by decide +kernel
theorem dX5_fault_342 : decode cX5_fault 342 = .ok (.istore 7, 2) := by decide +kernel
theorem dX5_fault_344 : decode cX5_fault 344 = .ok (.iconst 0, 1) := by decide +kernel
theorem dX5_fault_345 : decode cX5_fault 345 = .ok (.istore_n 3, 1) := by decide +kernel
theorem dX5_fault_346 : decode cX5_fault 346 = .ok (.iconst 3, 1) := by decide +kernel
theorem dX5_fault_347 : decode cX5_fault 347 = .ok (.istore_n 1, 1) := by decide +kernel
theorem dX5_fault_348 : decode cX5_fault 348 = .ok (.goto 77, 3) := by decide +kernel
theorem dX5_fault_351 : decode cX5_fault 351 = .ok (.iload_n 1, 1) := by decide +kernel
theorem dX5_fault_352 : decode cX5_fault 352 = .ok (.iconst 5, 1) := by decide +kernel
theorem dX5_fault_353 : decode cX5_fault 353 = .ok (.if_icmp .eq 35, 3) := by decide +kernel
theorem dX5_fault_356 : decode cX5_fault 356 = .ok (.iload_n 1, 1) := by decide +kernel
theorem dX5_fault_357 : decode cX5_fault 357 = .ok (.iconst 2, 1) := by decide +kernel
theorem dX5_fault_358 : decode cX5_fault 358 = .ok (.if_icmp .eq 30, 3) := by decide +kernel
theorem dX5_fault_361 : decode cX5_fault 361 = .ok (.iload_n 1, 1) := by decide +kernel
theorem dX5_fault_362 : decode cX5_fault 362 = .ok (.iconst 4, 1) := by decide +kernel
theorem dX5_fault_363 : decode cX5_fault 363 = .ok (.if_icmp .ne 29, 3) := by decide +kernel
theorem dX5_fault_366 : decode cX5_fault 366 = .ok (.aload_n 0, 1) := by decide +kernel
theorem dX5_fault_367 : decode cX5_fault 367 = .ok (.getfield 16, 3) := by decide +kernel
theorem dX5_fault_370 : decode cX5_fault 370 = .ok (.iload 6, 2) := by decide +kernel
theorem dX5_fault_372 : decode cX5_fault 372 = .ok (.iaload, 1) := by decide +kernel
theorem dX5_fault_373 : decode cX5_fault 373 = .ok (.bipush 97, 2) := by decide +kernel
theorem dX5_fault_375 : decode cX5_fault 375 = .ok (.if_icmp .eq 13, 3) := by decide +kernel
theorem dX5_fault_378 : decode cX5_fault 378 = .ok (.aload_n 0, 1) := by decide +kernel
theorem dX5_fault_379 : decode cX5_fault 379 = .ok (.getfield 22, 3) := by decide +kernel
theorem dX5_fault_382 : decode cX5_fault 382 = .ok (.iload 6, 2) := by decide +kernel
theorem dX5_fault_384 : decode cX5_fault 384 = .ok (.iaload, 1) := by decide +kernel
theorem dX5_fault_385 : decode cX5_fault 385 = .ok (.ifCond .le 7, 3) := by decide +kernel
theorem dX5_fault_388 : decode cX5_fault 388 = .ok (.iconst 1, 1) := by decide +kernel
theorem dX5_fault_389 : decode cX5_fault 389 = .ok (.goto 4, 3) := by decide +kernel
theorem dX5_fault_392 : decode cX5_fault 392 = .ok (.iconst 0, 1) := by decide +kernel
theorem dX5_fault_393 : decode cX5_fault 393 = .ok (.istore 8, 2) := by decide +kernel
theorem dX5_fault_395 : decode cX5_fault 395 = .ok (.iload 8, 2) := by decide +kernel
theorem dX5_fault_397 : decode cX5_fault 397 = .ok (.ifCond .eq 20, 3) := by decide +kernel
theorem dX5_fault_400 : decode cX5_fault 400 = .ok (.iload 5, 2) := by decide +kernel
theorem dX5_fault_402 : decode cX5_fault 402 = .ok (.bipush 44, 2) := by decide +kernel
theorem dX5_fault_404 : decode cX5_fault 404 = .ok (.if_icmp .ne 13, 3) := by decide +kernel
theorem dX5_fault_407 : decode cX5_fault 407 = .ok (.iload_n 2, 1) := by decide +kernel
theorem dX5_fault_408 : decode cX5_fault 408 = .ok (.bipush 9, 2) := by decide +kernel
theorem dX5_fault_410 : decode cX5_fault 410 = .ok (.if_icmp .ge 7, 3) := by decide +kernel
theorem dX5_fault_413 : decode cX5_fault 413 = .ok (.iconst 1, 1) := by decide +kernel
theorem dX5_fault_414 : decode cX5_fault 414 = .ok (.goto 4, 3) := by decide +kernel
theorem dX5_fault_417 : decode cX5_fault 417 = .ok (.iconst 0, 1) := by decide +kernel
theorem dX5_fault_418 : decode cX5_fault 418 = .ok (.istore 7, 2) := by decide +kernel
theorem dX5_fault_420 : decode cX5_fault 420 = .ok (.iinc 2 1, 3) := by decide +kernel
theorem dX5_fault_423 : decode cX5_fault 423 = .ok (.iconst 0, 1) := by decide +kernel
theorem dX5_fault_424 : decode cX5_fault 424 = .ok (.istore_n 1, 1) := by decide +kernel
theorem dX5_fault_425 : decode cX5_fault 425 = .ok (.iload 7, 2) := by decide +kernel
theorem dX5_fault_427 : decode cX5_fault 427 = .ok (.ifCond .ne 6, 3) := by decide +kernel
theorem dX5_fault_430 : decode cX5_fault 430 = .ok (.iload 4, 2) := by decide +kernel
theorem dX5_fault_432 : decode cX5_fault 432 = .ok (.ireturn, 1) := by decide +kernel
theorem dX5_fault_433 : decode cX5_fault 433 = .ok (.iinc 4 1, 3) := by decide +kernel
theorem dX5_fault_436 : decode cX5_fault 436 = .ok (.goto (-427), 3) := by decide +kernel
theorem dX5_fault_439 : decode cX5_fault 439 = .ok (.bipush 10, 2) := by decide +kernel
theorem dX5_fault_441 : decode cX5_fault 441 = .ok (.aload_n 0, 1) := by decide +kernel
theorem dX5_fault_442 : decode cX5_fault 442 = .ok (.getfield 89, 3) := by decide +kernel
theorem dX5_fault_445 : decode cX5_fault 445 = .ok (.imul, 1) := by decide +kernel
theorem dX5_fault_446 : decode cX5_fault 446 = .ok (.iload_n 2, 1) := by decide +kernel
theorem dX5_fault_447 : decode cX5_fault 447 = .ok (.iadd, 1) := by decide +kernel
theorem dX5_fault_448 : decode cX5_fault 448 = .ok (.istore 4, 2) := by decide +kernel
theorem dX5_fault_450 : decode cX5_fault 450 = .ok (.aload_n 0, 1) := by decide +kernel
theorem dX5_fault_451 : decode cX5_fault 451 = .ok (.getfield 82, 3) := by decide +kernel
theorem dX5_fault_454 : decode cX5_fault 454 = .ok (.ifCond .eq 64, 3) := by decide +kernel
theorem dX5_fault_457 : decode cX5_fault 457 = .ok (.iload_n 1, 1) := by decide +kernel
theorem dX5_fault_458 : decode cX5_fault 458 = .ok (.iconst 5, 1) := by decide +kernel
theorem dX5_fault_459 : decode cX5_fault 459 = .ok (.if_icmp .eq 59, 3) := by decide +kernel
theorem dX5_fault_462 : decode cX5_fault 462 = .ok (.iload_n 1, 1) := by decide +kernel
theorem dX5_fault_463 : decode cX5_fault 463 = .ok (.iconst 2, 1) := by decide +kernel
theorem dX5_fault_464 : decode cX5_fault 464 = .ok (.if_icmp .ne 27, 3) := by decide +kernel
theorem dX5_fault_467 : decode cX5_fault 467 = .ok (.aload_n 0, 1) := by decide +kernel
theorem dX5_fault_468 : decode cX5_fault 468 = .ok (.getfield 16, 3) := by decide +kernel
theorem dX5_fault_471 : decode cX5_fault 471 = .ok (.iload 4, 2) := by decide +kernel
theorem dX5_fault_473 : decode cX5_fault 473 = .ok (.iaload, 1) := by decide +kernel
theorem dX5_fault_474 : decode cX5_fault 474 = .ok (.bipush 117, 2) := by decide +kernel
theorem dX5_fault_476 : decode cX5_fault 476 = .ok (.if_icmp .eq 15, 3) := by decide +kernel
theorem dX5_fault_479 : decode cX5_fault 479 = .ok (.aload_n 0, 1) := by decide +kernel
theorem dX5_fault_480 : decode cX5_fault 480 = .ok (.getfield 16, 3) := by decide +kernel
theorem dX5_fault_483 : decode cX5_fault 483 = .ok (.iload 4, 2) := by decide +kernel
theorem dX5_fault_485 : decode cX5_fault 485 = .ok (.iaload, 1) := by decide +kernel
theorem dX5_fault_486 : decode cX5_fault 486 = .ok (.bipush 97, 2) := by decide +kernel
theorem dX5_fault_488 : decode cX5_fault 488 = .ok (.if_icmp .ne 30, 3) := by decide +kernel
theorem dX5_fault_491 : decode cX5_fault 491 = .ok (.iload_n 1, 1) := by decide +kernel
theorem dX5_fault_492 : decode cX5_fault 492 = .ok (.iconst 4, 1) := by decide +kernel
theorem dX5_fault_493 : decode cX5_fault 493 = .ok (.if_icmp .ne 29, 3) := by decide +kernel
theorem dX5_fault_496 : decode cX5_fault 496 = .ok (.aload_n 0, 1) := by decide +kernel
theorem dX5_fault_497 : decode cX5_fault 497 = .ok (.getfield 16, 3) := by decide +kernel
theorem dX5_fault_500 : decode cX5_fault 500 = .ok (.iload 4, 2) := by decide +kernel
theorem dX5_fault_502 : decode cX5_fault 502 = .ok (.iaload, 1) := by decide +kernel
theorem dX5_fault_503 : decode cX5_fault 503 = .ok (.bipush 97, 2) := by decide +kernel
theorem dX5_fault_505 : decode cX5_fault 505 = .ok (.if_icmp .eq 13, 3) := by decide +kernel
theorem dX5_fault_508 : decode cX5_fault 508 = .ok (.aload_n 0, 1) := by decide +kernel
theorem dX5_fault_509 : decode cX5_fault 509 = .ok (.getfield 22, 3) := by decide +kernel
theorem dX5_fault_512 : decode cX5_fault 512 = .ok (.iload 4, 2) := by decide +kernel
theorem dX5_fault_514 : decode cX5_fault 514 = .ok (.iaload, 1) := by decide +kernel
theorem dX5_fault_515 : decode cX5_fault 515 = .ok (.ifCond .le 7, 3) := by decide +kernel
theorem dX5_fault_518 : decode cX5_fault 518 = .ok (.iconst 1, 1) := by decide +kernel
theorem dX5_fault_519 : decode cX5_fault 519 = .ok (.goto 4, 3) := by decide +kernel
theorem dX5_fault_522 : decode cX5_fault 522 = .ok (.iconst 0, 1) := by decide +kernel
theorem dX5_fault_523 : decode cX5_fault 523 = .ok (.istore 5, 2) := by decide +kernel
theorem dX5_fault_525 : decode cX5_fault 525 = .ok (.aload_n 0, 1) := by decide +kernel
theorem dX5_fault_526 : decode cX5_fault 526 = .ok (.getfield 13, 3) := by decide +kernel
theorem dX5_fault_529 : decode cX5_fault 529 = .ok (.aload_n 0, 1) := by decide +kernel
theorem dX5_fault_530 : decode cX5_fault 530 = .ok (.getfield 89, 3) := by decide +kernel
theorem dX5_fault_533 : decode cX5_fault 533 = .ok (.aload_n 0, 1) := by decide +kernel
theorem dX5_fault_534 : decode cX5_fault 534 = .ok (.getfield 82, 3) := by decide +kernel
theorem dX5_fault_537 : decode cX5_fault 537 = .ok (.ifCond .ne 7, 3) := by decide +kernel
theorem dX5_fault_540 : decode cX5_fault 540 = .ok (.iconst 0, 1) := by decide +kernel
theorem dX5_fault_541 : decode cX5_fault 541 = .ok (.goto 6, 3) := by decide +kernel
theorem dX5_fault_544 : decode cX5_fault 544 = .ok (.iload_n 2, 1) := by decide +kernel
theorem dX5_fault_545 : decode cX5_fault 545 = .ok (.iconst 1, 1) := by decide +kernel
theorem dX5_fault_546 : decode cX5_fault 546 = .ok (.iadd, 1) := by decide +kernel
theorem dX5_fault_547 : decode cX5_fault 547 = .ok (.iastore, 1) := by decide +kernel
theorem dX5_fault_548 : decode cX5_fault 548 = .ok (.iload 5, 2) := by decide +kernel
theorem dX5_fault_550 : decode cX5_fault 550 = .ok (.ifCond .eq 7, 3) := by decide +kernel
theorem dX5_fault_553 : decode cX5_fault 553 = .ok (.iconst (-1), 1) := by decide +kernel
theorem dX5_fault_554 : decode cX5_fault 554 = .ok (.goto 7, 3) := by decide +kernel
theorem dX5_fault_557 : decode cX5_fault 557 = .ok (.aload_n 0, 1) := by decide +kernel
theorem dX5_fault_558 : decode cX5_fault 558 = .ok (.getfield 82, 3) := by decide +kernel
theorem dX5_fault_561 : decode cX5_fault 561 = .ok (.ireturn, 1) := by decide +kernel
theorem dX5_read_0 : decode cX5_read 0 = .ok (.aload_n 0, 1) := by decide +kernel
theorem dX5_read_1 : decode cX5_read 1 = .ok (.aload_n 0, 1) := by decide +kernel
theorem dX5_read_2 : decode cX5_read 2 = .ok (.getfield 89, 3) := by decide +kernel
theorem dX5_read_5 : decode cX5_read 5 = .ok (.bipush 12, 2) := by decide +kernel
theorem dX5_read_7 : decode cX5_read 7 = .ok (.if_icmp .ge 7, 3) := by decide +kernel
theorem dX5_read_10 : decode cX5_read 10 = .ok (.iconst 1, 1) := by decide +kernel
theorem dX5_read_11 : decode cX5_read 11 = .ok (.goto 4, 3) := by decide +kernel
theorem dX5_read_14 : decode cX5_read 14 = .ok (.iconst 0, 1) := by decide +kernel
theorem dX5_read_15 : decode cX5_read 15 = .ok (.iconst 1, 1) := by decide +kernel
theorem dX5_read_16 : decode cX5_read 16 = .ok (.iconst 1, 1) := by decide +kernel
theorem dX5_read_17 : decode cX5_read 17 = .ok (.invokevirtual 85, 3) := by decide +kernel
theorem dX5_read_20 : decode cX5_read 20 = .ok (.ifCond .ne 5, 3) := by decide +kernel
theorem dX5_read_23 : decode cX5_read 23 = .ok (.iconst 0, 1) := by decide +kernel
theorem dX5_read_24 : decode cX5_read 24 = .ok (.ireturn, 1) := by decide +kernel
theorem dX5_read_25 : decode cX5_read 25 = .ok (.aload_n 0, 1) := by decide +kernel
theorem dX5_read_26 : decode cX5_read 26 = .ok (.invokevirtual 100, 3) := by decide +kernel
theorem dX5_read_29 : decode cX5_read 29 = .ok (.istore_n 1, 1) := by decide +kernel
theorem dX5_read_30 : decode cX5_read 30 = .ok (.aload_n 0, 1) := by decide +kernel
theorem dX5_read_31 : decode cX5_read 31 = .ok (.iload_n 1, 1) := by decide +kernel
theorem dX5_read_32 : decode cX5_read 32 = .ok (.iconst (-1), 1) := by decide +kernel
theorem dX5_read_33 : decode cX5_read 33 = .ok (.if_icmp .ne 12, 3) := by decide +kernel
theorem dX5_read_36 : decode cX5_read 36 = .ok (.aload_n 0, 1) := by decide +kernel
theorem dX5_read_37 : decode cX5_read 37 = .ok (.getfield 89, 3) := by decide +kernel
theorem dX5_read_40 : decode cX5_read 40 = .ok (.iconst 1, 1) := by decide +kernel
theorem dX5_read_41 : decode cX5_read 41 = .ok (.iadd, 1) := by decide +kernel
theorem dX5_read_42 : decode cX5_read 42 = .ok (.goto 7, 3) := by decide +kernel
theorem dX5_read_45 : decode cX5_read 45 = .ok (.aload_n 0, 1) := by decide +kernel
theorem dX5_read_46 : decode cX5_read 46 = .ok (.getfield 89, 3) := by decide +kernel
theorem dX5_read_49 : decode cX5_read 49 = .ok (.putfield 89, 3) := by decide +kernel
theorem dX5_read_52 : decode cX5_read 52 = .ok (.aload_n 0, 1) := by decide +kernel
theorem dX5_read_53 : decode cX5_read 53 = .ok (.iconst 0, 1) := by decide +kernel
theorem dX5_read_54 : decode cX5_read 54 = .ok (.putfield 82, 3) := by decide +kernel
theorem dX5_read_57 : decode cX5_read 57 = .ok (.iload_n 1, 1) := by decide +kernel
theorem dX5_read_58 : decode cX5_read 58 = .ok (.iconst (-1), 1) := by decide +kernel
theorem dX5_read_59 : decode cX5_read 59 = .ok (.if_icmp .ne 12, 3) := by decide +kernel
theorem dX5_read_62 : decode cX5_read 62 = .ok (.aload_n 0, 1) := by decide +kernel
theorem dX5_read_63 : decode cX5_read 63 = .ok (.getfield 89, 3) := by decide +kernel
theorem dX5_read_66 : decode cX5_read 66 = .ok (.iconst 1, 1) := by decide +kernel
theorem dX5_read_67 : decode cX5_read 67 = .ok (.isub, 1) := by decide +kernel
theorem dX5_read_68 : decode cX5_read 68 = .ok (.goto 6, 3) := by decide +kernel
theorem dX5_read_71 : decode cX5_read 71 = .ok (.iconst (-1), 1) := by decide +kernel
theorem dX5_read_72 : decode cX5_read 72 = .ok (.iload_n 1, 1) := by decide +kernel
theorem dX5_read_73 : decode cX5_read 73 = .ok (.isub, 1) := by decide +kernel
theorem dX5_read_74 : decode cX5_read 74 = .ok (.ireturn, 1) := by decide +kernel
theorem dX5_isMethod_0 : decode cX5_isMethod 0 = .ok (.iload_n 1, 1) := by decide +kernel
theorem dX5_isMethod_1 : decode cX5_isMethod 1 = .ok (.aload_n 0, 1) := by decide +kernel
theorem dX5_isMethod_2 : decode cX5_isMethod 2 = .ok (.getfield 89, 3) := by decide +kernel
theorem dX5_isMethod_5 : decode cX5_isMethod 5 = .ok (.invokestatic 104, 3) := by decide +kernel
theorem dX5_isMethod_8 : decode cX5_isMethod 8 = .ok (.ireturn, 1) := by decide +kernel
theorem dX5_used_0 : decode cX5_used 0 = .ok (.iconst 0, 1) := by decide +kernel
theorem dX5_used_1 : decode cX5_used 1 = .ok (.istore_n 3, 1) := by decide +kernel
theorem dX5_used_2 : decode cX5_used 2 = .ok (.bipush 10, 2) := by decide +kernel
theorem dX5_used_4 : decode cX5_used 4 = .ok (.iload_n 1, 1) := by decide +kernel
theorem dX5_used_5 : decode cX5_used 5 = .ok (.imul, 1) := by decide +kernel
theorem dX5_used_6 : decode cX5_used 6 = .ok (.istore 4, 2) := by decide +kernel
theorem dX5_used_8 : decode cX5_used 8 = .ok (.iload 4, 2) := by decide +kernel
theorem dX5_used_10 : decode cX5_used 10 = .ok (.bipush 10, 2) := by decide +kernel
theorem dX5_used_12 : decode cX5_used 12 = .ok (.iload_n 1, 1) := by decide +kernel
theorem dX5_used_13 : decode cX5_used 13 = .ok (.imul, 1) := by decide +kernel
theorem dX5_used_14 : decode cX5_used 14 = .ok (.aload_n 0, 1) := by decide +kernel
theorem dX5_used_15 : decode cX5_used 15 = .ok (.getfield 13, 3) := by decide +kernel
theorem dX5_used_18 : decode cX5_used 18 = .ok (.iload_n 1, 1) := by decide +kernel
theorem dX5_used_19 : decode cX5_used 19 = .ok (.iaload, 1) := by decide +kernel
theorem dX5_used_20 : decode cX5_used 20 = .ok (.iadd, 1) := by decide +kernel
theorem dX5_used_21 : decode cX5_used 21 = .ok (.if_icmp .ge 46, 3) := by decide +kernel
theorem dX5_used_24 : decode cX5_used 24 = .ok (.aload_n 0, 1) := by decide +kernel
theorem dX5_used_25 : decode cX5_used 25 = .ok (.getfield 16, 3) := by decide +kernel
theorem dX5_used_28 : decode cX5_used 28 = .ok (.iload 4, 2) := by decide +kernel
theorem dX5_used_30 : decode cX5_used 30 = .ok (.iaload, 1) := by decide +kernel
theorem dX5_used_31 : decode cX5_used 31 = .ok (.bipush 117, 2) := by decide +kernel
theorem dX5_used_33 : decode cX5_used 33 = .ok (.if_icmp .ne 26, 3) := by decide +kernel
theorem dX5_used_36 : decode cX5_used 36 = .ok (.aload_n 0, 1) := by decide +kernel
theorem dX5_used_37 : decode cX5_used 37 = .ok (.getfield 19, 3) := by decide +kernel
theorem dX5_used_40 : decode cX5_used 40 = .ok (.iload 4, 2) := by decide +kernel
theorem dX5_used_42 : decode cX5_used 42 = .ok (.iaload, 1) := by decide +kernel
theorem dX5_used_43 : decode cX5_used 43 = .ok (.iload_n 2, 1) := by decide +kernel
theorem dX5_used_44 : decode cX5_used 44 = .ok (.if_icmp .ne 15, 3) := by decide +kernel
theorem dX5_used_47 : decode cX5_used 47 = .ok (.iload_n 3, 1) := by decide +kernel
theorem dX5_used_48 : decode cX5_used 48 = .ok (.aload_n 0, 1) := by decide +kernel
theorem dX5_used_49 : decode cX5_used 49 = .ok (.getfield 22, 3) := by decide +kernel
theorem dX5_used_52 : decode cX5_used 52 = .ok (.iload 4, 2) := by decide +kernel
theorem dX5_used_54 : decode cX5_used 54 = .ok (.iaload, 1) := by decide +kernel
theorem dX5_used_55 : decode cX5_used 55 = .ok (.iadd, 1) := by decide +kernel
theorem dX5_used_56 : decode cX5_used 56 = .ok (.goto 4, 3) := by decide +kernel
theorem dX5_used_59 : decode cX5_used 59 = .ok (.iload_n 3, 1) := by decide +kernel
theorem dX5_used_60 : decode cX5_used 60 = .ok (.istore_n 3, 1) := by decide +kernel
theorem dX5_used_61 : decode cX5_used 61 = .ok (.iinc 4 1, 3) := by decide +kernel
theorem dX5_used_64 : decode cX5_used 64 = .ok (.goto (-56), 3) := by decide +kernel
theorem dX5_used_67 : decode cX5_used 67 = .ok (.iload_n 3, 1) := by decide +kernel
theorem dX5_used_68 : decode cX5_used 68 = .ok (.ireturn, 1) := by decide +kernel
theorem dX5_uses_0 : decode cX5_uses 0 = .ok (.aload_n 0, 1) := by decide +kernel
theorem dX5_uses_1 : decode cX5_uses 1 = .ok (.aload_n 0, 1) := by decide +kernel
theorem dX5_uses_2 : decode cX5_uses 2 = .ok (.iload_n 1, 1) := by decide +kernel
theorem dX5_uses_3 : decode cX5_uses 3 = .ok (.invokevirtual 108, 3) := by decide +kernel
theorem dX5_uses_6 : decode cX5_uses 6 = .ok (.ifCond .eq 16, 3) := by decide +kernel
theorem dX5_uses_9 : decode cX5_uses 9 = .ok (.iload_n 2, 1) := by decide +kernel
theorem dX5_uses_10 : decode cX5_uses 10 = .ok (.bipush 12, 2) := by decide +kernel
theorem dX5_uses_12 : decode cX5_uses 12 = .ok (.invokestatic 104, 3) := by decide +kernel
theorem dX5_uses_15 : decode cX5_uses 15 = .ok (.ifCond .eq 7, 3) := by decide +kernel
theorem dX5_uses_18 : decode cX5_uses 18 = .ok (.iconst 1, 1) := by decide +kernel
theorem dX5_uses_19 : decode cX5_uses 19 = .ok (.goto 4, 3) := by decide +kernel
theorem dX5_uses_22 : decode cX5_uses 22 = .ok (.iconst 0, 1) := by decide +kernel
theorem dX5_uses_23 : decode cX5_uses 23 = .ok (.iconst 1, 1) := by decide +kernel
theorem dX5_uses_24 : decode cX5_uses 24 = .ok (.iconst 1, 1) := by decide +kernel
theorem dX5_uses_25 : decode cX5_uses 25 = .ok (.invokevirtual 85, 3) := by decide +kernel
theorem dX5_uses_28 : decode cX5_uses 28 = .ok (.ifCond .eq 12, 3) := by decide +kernel
theorem dX5_uses_31 : decode cX5_uses 31 = .ok (.aload_n 0, 1) := by decide +kernel
theorem dX5_uses_32 : decode cX5_uses 32 = .ok (.iload_n 1, 1) := by decide +kernel
theorem dX5_uses_33 : decode cX5_uses 33 = .ok (.iload_n 2, 1) := by decide +kernel
theorem dX5_uses_34 : decode cX5_uses 34 = .ok (.invokevirtual 111, 3) := by decide +kernel
theorem dX5_uses_37 : decode cX5_uses 37 = .ok (.goto 4, 3) := by decide +kernel
theorem dX5_uses_40 : decode cX5_uses 40 = .ok (.iconst 0, 1) := by decide +kernel
theorem dX5_uses_41 : decode cX5_uses 41 = .ok (.ireturn, 1) := by decide +kernel
theorem dX5_has_0 : decode cX5_has 0 = .ok (.iconst 0, 1) := by decide +kernel
theorem dX5_has_1 : decode cX5_has 1 = .ok (.istore 4, 2) := by decide +kernel
theorem dX5_has_3 : decode cX5_has 3 = .ok (.bipush 10, 2) := by decide +kernel
theorem dX5_has_5 : decode cX5_has 5 = .ok (.iload_n 1, 1) := by decide +kernel
theorem dX5_has_6 : decode cX5_has 6 = .ok (.imul, 1) := by decide +kernel
theorem dX5_has_7 : decode cX5_has 7 = .ok (.istore 5, 2) := by decide +kernel
theorem dX5_has_9 : decode cX5_has 9 = .ok (.iload 5, 2) := by decide +kernel
theorem dX5_has_11 : decode cX5_has 11 = .ok (.bipush 10, 2) := by decide +kernel
theorem dX5_has_13 : decode cX5_has 13 = .ok (.iload_n 1, 1) := by decide +kernel
theorem dX5_has_14 : decode cX5_has 14 = .ok (.imul, 1) := by decide +kernel
theorem dX5_has_15 : decode cX5_has 15 = .ok (.aload_n 0, 1) := by decide +kernel
theorem dX5_has_16 : decode cX5_has 16 = .ok (.getfield 13, 3) := by decide +kernel
theorem dX5_has_19 : decode cX5_has 19 = .ok (.iload_n 1, 1) := by decide +kernel
theorem dX5_has_20 : decode cX5_has 20 = .ok (.iaload, 1) := by decide +kernel
theorem dX5_has_21 : decode cX5_has 21 = .ok (.iadd, 1) := by decide +kernel
theorem dX5_has_22 : decode cX5_has 22 = .ok (.if_icmp .ge 48, 3) := by decide +kernel
theorem dX5_has_25 : decode cX5_has 25 = .ok (.iload 4, 2) := by decide +kernel
theorem dX5_has_27 : decode cX5_has 27 = .ok (.ifCond .ne 30, 3) := by decide +kernel
theorem dX5_has_30 : decode cX5_has 30 = .ok (.aload_n 0, 1) := by decide +kernel
theorem dX5_has_31 : decode cX5_has 31 = .ok (.getfield 16, 3) := by decide +kernel
theorem dX5_has_34 : decode cX5_has 34 = .ok (.iload 5, 2) := by decide +kernel
theorem dX5_has_36 : decode cX5_has 36 = .ok (.iaload, 1) := by decide +kernel
theorem dX5_has_37 : decode cX5_has 37 = .ok (.iload_n 2, 1) := by decide +kernel
theorem dX5_has_38 : decode cX5_has 38 = .ok (.if_icmp .ne 23, 3) := by decide +kernel
theorem dX5_has_41 : decode cX5_has 41 = .ok (.iload_n 3, 1) := by decide +kernel
theorem dX5_has_42 : decode cX5_has 42 = .ok (.iconst (-1), 1) := by decide +kernel
theorem dX5_has_43 : decode cX5_has 43 = .ok (.if_icmp .eq 14, 3) := by decide +kernel
theorem dX5_has_46 : decode cX5_has 46 = .ok (.aload_n 0, 1) := by decide +kernel
theorem dX5_has_47 : decode cX5_has 47 = .ok (.getfield 19, 3) := by decide +kernel
theorem dX5_has_50 : decode cX5_has 50 = .ok (.iload 5, 2) := by decide +kernel
theorem dX5_has_52 : decode cX5_has 52 = .ok (.iaload, 1) := by decide +kernel
theorem dX5_has_53 : decode cX5_has 53 = .ok (.iload_n 3, 1) := by decide +kernel
theorem dX5_has_54 : decode cX5_has 54 = .ok (.if_icmp .ne 7, 3) := by decide +kernel
theorem dX5_has_57 : decode cX5_has 57 = .ok (.iconst 1, 1) := by decide +kernel
theorem dX5_has_58 : decode cX5_has 58 = .ok (.goto 4, 3) := by decide +kernel
theorem dX5_has_61 : decode cX5_has 61 = .ok (.iconst 0, 1) := by decide +kernel
theorem dX5_has_62 : decode cX5_has 62 = .ok (.istore 4, 2) := by decide +kernel
theorem dX5_has_64 : decode cX5_has 64 = .ok (.iinc 5 1, 3) := by decide +kernel
theorem dX5_has_67 : decode cX5_has 67 = .ok (.goto (-58), 3) := by decide +kernel
theorem dX5_has_70 : decode cX5_has 70 = .ok (.iload 4, 2) := by decide +kernel
theorem dX5_has_72 : decode cX5_has 72 = .ok (.ireturn, 1) := by decide +kernel
theorem dX5_object_0 : decode cX5_object 0 = .ok (.aload_n 0, 1) := by decide +kernel
theorem dX5_object_1 : decode cX5_object 1 = .ok (.aload_n 0, 1) := by decide +kernel
theorem dX5_object_2 : decode cX5_object 2 = .ok (.getfield 115, 3) := by decide +kernel
theorem dX5_object_5 : decode cX5_object 5 = .ok (.bipush 10, 2) := by decide +kernel
theorem dX5_object_7 : decode cX5_object 7 = .ok (.if_icmp .ge 7, 3) := by decide +kernel
theorem dX5_object_10 : decode cX5_object 10 = .ok (.iconst 1, 1) := by decide +kernel
theorem dX5_object_11 : decode cX5_object 11 = .ok (.goto 4, 3) := by decide +kernel
theorem dX5_object_14 : decode cX5_object 14 = .ok (.iconst 0, 1) := by decide +kernel
theorem dX5_object_15 : decode cX5_object 15 = .ok (.iconst 1, 1) := by decide +kernel
theorem dX5_object_16 : decode cX5_object 16 = .ok (.iconst 1, 1) := by decide +kernel
theorem dX5_object_17 : decode cX5_object 17 = .ok (.invokevirtual 85, 3) := by decide +kernel
theorem dX5_object_20 : decode cX5_object 20 = .ok (.ifCond .ne 5, 3) := by decide +kernel
theorem dX5_object_23 : decode cX5_object 23 = .ok (.iconst 0, 1) := by decide +kernel
theorem dX5_object_24 : decode cX5_object 24 = .ok (.ireturn, 1) := by decide +kernel
theorem dX5_object_25 : decode cX5_object 25 = .ok (.aload_n 0, 1) := by decide +kernel
theorem dX5_object_26 : decode cX5_object 26 = .ok (.dup, 1) := by decide +kernel
theorem dX5_object_27 : decode cX5_object 27 = .ok (.getfield 115, 3) := by decide +kernel
theorem dX5_object_30 : decode cX5_object 30 = .ok (.iconst 1, 1) := by decide +kernel
theorem dX5_object_31 : decode cX5_object 31 = .ok (.iadd, 1) := by decide +kernel
theorem dX5_object_32 : decode cX5_object 32 = .ok (.putfield 115, 3) := by decide +kernel
theorem dX5_object_35 : decode cX5_object 35 = .ok (.aload_n 0, 1) := by decide +kernel
theorem dX5_object_36 : decode cX5_object 36 = .ok (.getfield 115, 3) := by decide +kernel
theorem dX5_object_39 : decode cX5_object 39 = .ok (.iconst 1, 1) := by decide +kernel
theorem dX5_object_40 : decode cX5_object 40 = .ok (.isub, 1) := by decide +kernel
theorem dX5_object_41 : decode cX5_object 41 = .ok (.ireturn, 1) := by decide +kernel
theorem dX5_isObject_0 : decode cX5_isObject 0 = .ok (.iload_n 1, 1) := by decide +kernel
theorem dX5_isObject_1 : decode cX5_isObject 1 = .ok (.aload_n 0, 1) := by decide +kernel
theorem dX5_isObject_2 : decode cX5_isObject 2 = .ok (.getfield 115, 3) := by decide +kernel
theorem dX5_isObject_5 : decode cX5_isObject 5 = .ok (.invokestatic 104, 3) := by decide +kernel
theorem dX5_isObject_8 : decode cX5_isObject 8 = .ok (.ireturn, 1) := by decide +kernel
theorem dX5_part_0 : decode cX5_part 0 = .ok (.aload_n 0, 1) := by decide +kernel
theorem dX5_part_1 : decode cX5_part 1 = .ok (.iload_n 1, 1) := by decide +kernel
theorem dX5_part_2 : decode cX5_part 2 = .ok (.invokevirtual 118, 3) := by decide +kernel
theorem dX5_part_5 : decode cX5_part 5 = .ok (.ifCond .eq 16, 3) := by decide +kernel
theorem dX5_part_8 : decode cX5_part 8 = .ok (.iload_n 2, 1) := by decide +kernel
theorem dX5_part_9 : decode cX5_part 9 = .ok (.bipush 10, 2) := by decide +kernel
theorem dX5_part_11 : decode cX5_part 11 = .ok (.invokestatic 104, 3) := by decide +kernel
theorem dX5_part_14 : decode cX5_part 14 = .ok (.ifCond .eq 7, 3) := by decide +kernel
theorem dX5_part_17 : decode cX5_part 17 = .ok (.iconst 1, 1) := by decide +kernel
theorem dX5_part_18 : decode cX5_part 18 = .ok (.goto 4, 3) := by decide +kernel
theorem dX5_part_21 : decode cX5_part 21 = .ok (.iconst 0, 1) := by decide +kernel
theorem dX5_part_22 : decode cX5_part 22 = .ok (.istore_n 3, 1) := by decide +kernel
theorem dX5_part_23 : decode cX5_part 23 = .ok (.aload_n 0, 1) := by decide +kernel
theorem dX5_part_24 : decode cX5_part 24 = .ok (.iload_n 3, 1) := by decide +kernel
theorem dX5_part_25 : decode cX5_part 25 = .ok (.iload_n 3, 1) := by decide +kernel
theorem dX5_part_26 : decode cX5_part 26 = .ok (.ifCond .eq 18, 3) := by decide +kernel
theorem dX5_part_29 : decode cX5_part 29 = .ok (.aload_n 0, 1) := by decide +kernel
theorem dX5_part_30 : decode cX5_part 30 = .ok (.getfield 32, 3) := by decide +kernel
theorem dX5_part_33 : decode cX5_part 33 = .ok (.iload_n 1, 1) := by decide +kernel
theorem dX5_part_34 : decode cX5_part 34 = .ok (.iaload, 1) := by decide +kernel
theorem dX5_part_35 : decode cX5_part 35 = .ok (.bipush 8, 2) := by decide +kernel
theorem dX5_part_37 : decode cX5_part 37 = .ok (.if_icmp .ge 7, 3) := by decide +kernel
theorem dX5_part_40 : decode cX5_part 40 = .ok (.iconst 1, 1) := by decide +kernel
theorem dX5_part_41 : decode cX5_part 41 = .ok (.goto 4, 3) := by decide +kernel
theorem dX5_part_44 : decode cX5_part 44 = .ok (.iconst 0, 1) := by decide +kernel
theorem dX5_part_45 : decode cX5_part 45 = .ok (.iconst 1, 1) := by decide +kernel
theorem dX5_part_46 : decode cX5_part 46 = .ok (.invokevirtual 85, 3) := by decide +kernel
theorem dX5_part_49 : decode cX5_part 49 = .ok (.ifCond .ne 5, 3) := by decide +kernel
theorem dX5_part_52 : decode cX5_part 52 = .ok (.iconst 0, 1) := by decide +kernel
theorem dX5_part_53 : decode cX5_part 53 = .ok (.ireturn, 1) := by decide +kernel
theorem dX5_part_54 : decode cX5_part 54 = .ok (.aload_n 0, 1) := by decide +kernel
theorem dX5_part_55 : decode cX5_part 55 = .ok (.getfield 35, 3) := by decide +kernel
theorem dX5_part_58 : decode cX5_part 58 = .ok (.bipush 8, 2) := by decide +kernel
theorem dX5_part_60 : decode cX5_part 60 = .ok (.iload_n 1, 1) := by decide +kernel
theorem dX5_part_61 : decode cX5_part 61 = .ok (.imul, 1) := by decide +kernel
theorem dX5_part_62 : decode cX5_part 62 = .ok (.aload_n 0, 1) := by decide +kernel
theorem dX5_part_63 : decode cX5_part 63 = .ok (.getfield 32, 3) := by decide +kernel
theorem dX5_part_66 : decode cX5_part 66 = .ok (.iload_n 1, 1) := by decide +kernel
theorem dX5_part_67 : decode cX5_part 67 = .ok (.iaload, 1) := by decide +kernel
theorem dX5_part_68 : decode cX5_part 68 = .ok (.iadd, 1) := by decide +kernel
theorem dX5_part_69 : decode cX5_part 69 = .ok (.iload_n 2, 1) := by decide +kernel
theorem dX5_part_70 : decode cX5_part 70 = .ok (.iastore, 1) := by decide +kernel
theorem dX5_part_71 : decode cX5_part 71 = .ok (.aload_n 0, 1) := by decide +kernel
theorem dX5_part_72 : decode cX5_part 72 = .ok (.getfield 32, 3) := by decide +kernel
theorem dX5_part_75 : decode cX5_part 75 = .ok (.iload_n 1, 1) := by decide +kernel
theorem dX5_part_76 : decode cX5_part 76 = .ok (.dup2, 1) := by decide +kernel
theorem dX5_part_77 : decode cX5_part 77 = .ok (.iaload, 1) := by decide +kernel
theorem dX5_part_78 : decode cX5_part 78 = .ok (.iconst 1, 1) := by decide +kernel
theorem dX5_part_79 : decode cX5_part 79 = .ok (.iadd, 1) := by decide +kernel
theorem dX5_part_80 : decode cX5_part 80 = .ok (.iastore, 1) := by decide +kernel
theorem dX5_part_81 : decode cX5_part 81 = .ok (.aload_n 0, 1) := by decide +kernel
theorem dX5_part_82 : decode cX5_part 82 = .ok (.getfield 32, 3) := by decide +kernel
theorem dX5_part_85 : decode cX5_part 85 = .ok (.iload_n 1, 1) := by decide +kernel
theorem dX5_part_86 : decode cX5_part 86 = .ok (.iaload, 1) := by decide +kernel
theorem dX5_part_87 : decode cX5_part 87 = .ok (.iconst 1, 1) := by decide +kernel
theorem dX5_part_88 : decode cX5_part 88 = .ok (.isub, 1) := by decide +kernel
theorem dX5_part_89 : decode cX5_part 89 = .ok (.ireturn, 1) := by decide +kernel
theorem dX5_right_0 : decode cX5_right 0 = .ok (.aload_n 0, 1) := by decide +kernel
theorem dX5_right_1 : decode cX5_right 1 = .ok (.iload_n 1, 1) := by decide +kernel
theorem dX5_right_2 : decode cX5_right 2 = .ok (.bipush 8, 2) := by decide +kernel
theorem dX5_right_4 : decode cX5_right 4 = .ok (.invokestatic 104, 3) := by decide +kernel
theorem dX5_right_7 : decode cX5_right 7 = .ok (.ifCond .eq 15, 3) := by decide +kernel
theorem dX5_right_10 : decode cX5_right 10 = .ok (.aload_n 0, 1) := by decide +kernel
theorem dX5_right_11 : decode cX5_right 11 = .ok (.iload_n 2, 1) := by decide +kernel
theorem dX5_right_12 : decode cX5_right 12 = .ok (.invokevirtual 108, 3) := by decide +kernel
theorem dX5_right_15 : decode cX5_right 15 = .ok (.ifCond .eq 7, 3) := by decide +kernel
theorem dX5_right_18 : decode cX5_right 18 = .ok (.iconst 1, 1) := by decide +kernel
theorem dX5_right_19 : decode cX5_right 19 = .ok (.goto 4, 3) := by decide +kernel
theorem dX5_right_22 : decode cX5_right 22 = .ok (.iconst 0, 1) := by decide +kernel
theorem dX5_right_23 : decode cX5_right 23 = .ok (.iconst 1, 1) := by decide +kernel
theorem dX5_right_24 : decode cX5_right 24 = .ok (.iconst 1, 1) := by decide +kernel
theorem dX5_right_25 : decode cX5_right 25 = .ok (.invokevirtual 85, 3) := by decide +kernel
theorem dX5_right_28 : decode cX5_right 28 = .ok (.ifCond .ne 5, 3) := by decide +kernel
theorem dX5_right_31 : decode cX5_right 31 = .ok (.iconst 0, 1) := by decide +kernel
theorem dX5_right_32 : decode cX5_right 32 = .ok (.ireturn, 1) := by decide +kernel
theorem dX5_right_33 : decode cX5_right 33 = .ok (.aload_n 0, 1) := by decide +kernel
theorem dX5_right_34 : decode cX5_right 34 = .ok (.getfield 29, 3) := by decide +kernel
theorem dX5_right_37 : decode cX5_right 37 = .ok (.bipush 12, 2) := by decide +kernel
theorem dX5_right_39 : decode cX5_right 39 = .ok (.iload_n 1, 1) := by decide +kernel
theorem dX5_right_40 : decode cX5_right 40 = .ok (.imul, 1) := by decide +kernel
theorem dX5_right_41 : decode cX5_right 41 = .ok (.iload_n 2, 1) := by decide +kernel
theorem dX5_right_42 : decode cX5_right 42 = .ok (.iadd, 1) := by decide +kernel
theorem dX5_right_43 : decode cX5_right 43 = .ok (.baload, 1) := by decide +kernel
theorem dX5_right_44 : decode cX5_right 44 = .ok (.istore 4, 2) := by decide +kernel
theorem dX5_right_46 : decode cX5_right 46 = .ok (.aload_n 0, 1) := by decide +kernel
theorem dX5_right_47 : decode cX5_right 47 = .ok (.getfield 29, 3) := by decide +kernel
theorem dX5_right_50 : decode cX5_right 50 = .ok (.bipush 12, 2) := by decide +kernel
theorem dX5_right_52 : decode cX5_right 52 = .ok (.iload_n 1, 1) := by decide +kernel
theorem dX5_right_53 : decode cX5_right 53 = .ok (.imul, 1) := by decide +kernel
theorem dX5_right_54 : decode cX5_right 54 = .ok (.iload_n 2, 1) := by decide +kernel
theorem dX5_right_55 : decode cX5_right 55 = .ok (.iadd, 1) := by decide +kernel
theorem dX5_right_56 : decode cX5_right 56 = .ok (.iload_n 3, 1) := by decide +kernel
theorem dX5_right_57 : decode cX5_right 57 = .ok (.bastore, 1) := by decide +kernel
theorem dX5_right_58 : decode cX5_right 58 = .ok (.iload 4, 2) := by decide +kernel
theorem dX5_right_60 : decode cX5_right 60 = .ok (.iload_n 3, 1) := by decide +kernel
theorem dX5_right_61 : decode cX5_right 61 = .ok (.if_icmp .eq 7, 3) := by decide +kernel
theorem dX5_right_64 : decode cX5_right 64 = .ok (.iconst 1, 1) := by decide +kernel
theorem dX5_right_65 : decode cX5_right 65 = .ok (.goto 4, 3) := by decide +kernel
theorem dX5_right_68 : decode cX5_right 68 = .ok (.iconst 0, 1) := by decide +kernel
theorem dX5_right_69 : decode cX5_right 69 = .ok (.ireturn, 1) := by decide +kernel
theorem dX5_trial_0 : decode cX5_trial 0 = .ok (.aload_n 0, 1) := by decide +kernel
theorem dX5_trial_1 : decode cX5_trial 1 = .ok (.aload_n 0, 1) := by decide +kernel
theorem dX5_trial_2 : decode cX5_trial 2 = .ok (.iload_n 1, 1) := by decide +kernel
theorem dX5_trial_3 : decode cX5_trial 3 = .ok (.invokevirtual 108, 3) := by decide +kernel
theorem dX5_trial_6 : decode cX5_trial 6 = .ok (.ifCond .eq 16, 3) := by decide +kernel
theorem dX5_trial_9 : decode cX5_trial 9 = .ok (.iload_n 2, 1) := by decide +kernel
theorem dX5_trial_10 : decode cX5_trial 10 = .ok (.bipush 10, 2) := by decide +kernel
theorem dX5_trial_12 : decode cX5_trial 12 = .ok (.invokestatic 104, 3) := by decide +kernel
theorem dX5_trial_15 : decode cX5_trial 15 = .ok (.ifCond .eq 7, 3) := by decide +kernel
theorem dX5_trial_18 : decode cX5_trial 18 = .ok (.iconst 1, 1) := by decide +kernel
theorem dX5_trial_19 : decode cX5_trial 19 = .ok (.goto 4, 3) := by decide +kernel
theorem dX5_trial_22 : decode cX5_trial 22 = .ok (.iconst 0, 1) := by decide +kernel
theorem dX5_trial_23 : decode cX5_trial 23 = .ok (.iconst 1, 1) := by decide +kernel
theorem dX5_trial_24 : decode cX5_trial 24 = .ok (.iconst 1, 1) := by decide +kernel
theorem dX5_trial_25 : decode cX5_trial 25 = .ok (.invokevirtual 85, 3) := by decide +kernel
theorem dX5_trial_28 : decode cX5_trial 28 = .ok (.ifCond .ne 5, 3) := by decide +kernel
theorem dX5_trial_31 : decode cX5_trial 31 = .ok (.iconst 0, 1) := by decide +kernel
theorem dX5_trial_32 : decode cX5_trial 32 = .ok (.ireturn, 1) := by decide +kernel
theorem dX5_trial_33 : decode cX5_trial 33 = .ok (.aload_n 0, 1) := by decide +kernel
theorem dX5_trial_34 : decode cX5_trial 34 = .ok (.getfield 25, 3) := by decide +kernel
theorem dX5_trial_37 : decode cX5_trial 37 = .ok (.bipush 10, 2) := by decide +kernel
theorem dX5_trial_39 : decode cX5_trial 39 = .ok (.iload_n 1, 1) := by decide +kernel
theorem dX5_trial_40 : decode cX5_trial 40 = .ok (.imul, 1) := by decide +kernel
theorem dX5_trial_41 : decode cX5_trial 41 = .ok (.iload_n 2, 1) := by decide +kernel
theorem dX5_trial_42 : decode cX5_trial 42 = .ok (.iadd, 1) := by decide +kernel
theorem dX5_trial_43 : decode cX5_trial 43 = .ok (.baload, 1) := by decide +kernel
theorem dX5_trial_44 : decode cX5_trial 44 = .ok (.istore 4, 2) := by decide +kernel
theorem dX5_trial_46 : decode cX5_trial 46 = .ok (.aload_n 0, 1) := by decide +kernel
theorem dX5_trial_47 : decode cX5_trial 47 = .ok (.getfield 25, 3) := by decide +kernel
theorem dX5_trial_50 : decode cX5_trial 50 = .ok (.bipush 10, 2) := by decide +kernel
theorem dX5_trial_52 : decode cX5_trial 52 = .ok (.iload_n 1, 1) := by decide +kernel
theorem dX5_trial_53 : decode cX5_trial 53 = .ok (.imul, 1) := by decide +kernel
theorem dX5_trial_54 : decode cX5_trial 54 = .ok (.iload_n 2, 1) := by decide +kernel
theorem dX5_trial_55 : decode cX5_trial 55 = .ok (.iadd, 1) := by decide +kernel
theorem dX5_trial_56 : decode cX5_trial 56 = .ok (.iload_n 3, 1) := by decide +kernel
theorem dX5_trial_57 : decode cX5_trial 57 = .ok (.bastore, 1) := by decide +kernel
theorem dX5_trial_58 : decode cX5_trial 58 = .ok (.iload 4, 2) := by decide +kernel
theorem dX5_trial_60 : decode cX5_trial 60 = .ok (.ireturn, 1) := by decide +kernel
theorem dX5_latest_0 : decode cX5_latest 0 = .ok (.iconst (-1), 1) := by decide +kernel
theorem dX5_latest_1 : decode cX5_latest 1 = .ok (.istore_n 3, 1) := by decide +kernel
theorem dX5_latest_2 : decode cX5_latest 2 = .ok (.bipush 30, 2) := by decide +kernel
theorem dX5_latest_4 : decode cX5_latest 4 = .ok (.iload_n 1, 1) := by decide +kernel
theorem dX5_latest_5 : decode cX5_latest 5 = .ok (.imul, 1) := by decide +kernel
theorem dX5_latest_6 : decode cX5_latest 6 = .ok (.istore 4, 2) := by decide +kernel
theorem dX5_latest_8 : decode cX5_latest 8 = .ok (.iload 4, 2) := by decide +kernel
theorem dX5_latest_10 : decode cX5_latest 10 = .ok (.bipush 30, 2) := by decide +kernel
theorem dX5_latest_12 : decode cX5_latest 12 = .ok (.iload_n 1, 1) := by decide +kernel
theorem dX5_latest_13 : decode cX5_latest 13 = .ok (.imul, 1) := by decide +kernel
theorem dX5_latest_14 : decode cX5_latest 14 = .ok (.aload_n 0, 1) := by decide +kernel
theorem dX5_latest_15 : decode cX5_latest 15 = .ok (.getfield 38, 3) := by decide +kernel
theorem dX5_latest_18 : decode cX5_latest 18 = .ok (.iload_n 1, 1) := by decide +kernel
theorem dX5_latest_19 : decode cX5_latest 19 = .ok (.iaload, 1) := by decide +kernel
theorem dX5_latest_20 : decode cX5_latest 20 = .ok (.iadd, 1) := by decide +kernel
theorem dX5_latest_21 : decode cX5_latest 21 = .ok (.if_icmp .ge 32, 3) := by decide +kernel
theorem dX5_latest_24 : decode cX5_latest 24 = .ok (.aload_n 0, 1) := by decide +kernel
theorem dX5_latest_25 : decode cX5_latest 25 = .ok (.getfield 41, 3) := by decide +kernel
theorem dX5_latest_28 : decode cX5_latest 28 = .ok (.iload 4, 2) := by decide +kernel
theorem dX5_latest_30 : decode cX5_latest 30 = .ok (.iaload, 1) := by decide +kernel
theorem dX5_latest_31 : decode cX5_latest 31 = .ok (.iload_n 2, 1) := by decide +kernel
theorem dX5_latest_32 : decode cX5_latest 32 = .ok (.if_icmp .ne 13, 3) := by decide +kernel
theorem dX5_latest_35 : decode cX5_latest 35 = .ok (.aload_n 0, 1) := by decide +kernel
theorem dX5_latest_36 : decode cX5_latest 36 = .ok (.getfield 44, 3) := by decide +kernel
theorem dX5_latest_39 : decode cX5_latest 39 = .ok (.iload 4, 2) := by decide +kernel
theorem dX5_latest_41 : decode cX5_latest 41 = .ok (.iaload, 1) := by decide +kernel
theorem dX5_latest_42 : decode cX5_latest 42 = .ok (.goto 4, 3) := by decide +kernel
theorem dX5_latest_45 : decode cX5_latest 45 = .ok (.iload_n 3, 1) := by decide +kernel
theorem dX5_latest_46 : decode cX5_latest 46 = .ok (.istore_n 3, 1) := by decide +kernel
theorem dX5_latest_47 : decode cX5_latest 47 = .ok (.iinc 4 1, 3) := by decide +kernel
theorem dX5_latest_50 : decode cX5_latest 50 = .ok (.goto (-42), 3) := by decide +kernel
theorem dX5_latest_53 : decode cX5_latest 53 = .ok (.iload_n 3, 1) := by decide +kernel
theorem dX5_latest_54 : decode cX5_latest 54 = .ok (.ireturn, 1) := by decide +kernel
theorem dX5_barred_0 : decode cX5_barred 0 = .ok (.iconst 0, 1) := by decide +kernel
theorem dX5_barred_1 : decode cX5_barred 1 = .ok (.istore_n 3, 1) := by decide +kernel
theorem dX5_barred_2 : decode cX5_barred 2 = .ok (.iload_n 3, 1) := by decide +kernel
theorem dX5_barred_3 : decode cX5_barred 3 = .ok (.aload_n 0, 1) := by decide +kernel
theorem dX5_barred_4 : decode cX5_barred 4 = .ok (.getfield 32, 3) := by decide +kernel
theorem dX5_barred_7 : decode cX5_barred 7 = .ok (.iload_n 1, 1) := by decide +kernel
theorem dX5_barred_8 : decode cX5_barred 8 = .ok (.iaload, 1) := by decide +kernel
theorem dX5_barred_9 : decode cX5_barred 9 = .ok (.if_icmp .ge 32, 3) := by decide +kernel
theorem dX5_barred_12 : decode cX5_barred 12 = .ok (.aload_n 0, 1) := by decide +kernel
theorem dX5_barred_13 : decode cX5_barred 13 = .ok (.iload_n 2, 1) := by decide +kernel
theorem dX5_barred_14 : decode cX5_barred 14 = .ok (.bipush 98, 2) := by decide +kernel
theorem dX5_barred_16 : decode cX5_barred 16 = .ok (.aload_n 0, 1) := by decide +kernel
theorem dX5_barred_17 : decode cX5_barred 17 = .ok (.getfield 35, 3) := by decide +kernel
theorem dX5_barred_20 : decode cX5_barred 20 = .ok (.bipush 8, 2) := by decide +kernel
theorem dX5_barred_22 : decode cX5_barred 22 = .ok (.iload_n 1, 1) := by decide +kernel
theorem dX5_barred_23 : decode cX5_barred 23 = .ok (.imul, 1) := by decide +kernel
theorem dX5_barred_24 : decode cX5_barred 24 = .ok (.iload_n 3, 1) := by decide +kernel
theorem dX5_barred_25 : decode cX5_barred 25 = .ok (.iadd, 1) := by decide +kernel
theorem dX5_barred_26 : decode cX5_barred 26 = .ok (.iaload, 1) := by decide +kernel
theorem dX5_barred_27 : decode cX5_barred 27 = .ok (.invokevirtual 121, 3) := by decide +kernel
theorem dX5_barred_30 : decode cX5_barred 30 = .ok (.ifCond .eq 5, 3) := by decide +kernel
theorem dX5_barred_33 : decode cX5_barred 33 = .ok (.iload_n 3, 1) := by decide +kernel
theorem dX5_barred_34 : decode cX5_barred 34 = .ok (.ireturn, 1) := by decide +kernel
theorem dX5_barred_35 : decode cX5_barred 35 = .ok (.iinc 3 1, 3) := by decide +kernel
theorem dX5_barred_38 : decode cX5_barred 38 = .ok (.goto (-36), 3) := by decide +kernel
theorem dX5_barred_41 : decode cX5_barred 41 = .ok (.iconst (-1), 1) := by decide +kernel
theorem dX5_barred_42 : decode cX5_barred 42 = .ok (.ireturn, 1) := by decide +kernel
theorem dX5_waits_0 : decode cX5_waits 0 = .ok (.iconst 0, 1) := by decide +kernel
theorem dX5_waits_1 : decode cX5_waits 1 = .ok (.istore 5, 2) := by decide +kernel
theorem dX5_waits_3 : decode cX5_waits 3 = .ok (.bipush 10, 2) := by decide +kernel
theorem dX5_waits_5 : decode cX5_waits 5 = .ok (.iload_n 2, 1) := by decide +kernel
theorem dX5_waits_6 : decode cX5_waits 6 = .ok (.imul, 1) := by decide +kernel
theorem dX5_waits_7 : decode cX5_waits 7 = .ok (.istore 6, 2) := by decide +kernel
theorem dX5_waits_9 : decode cX5_waits 9 = .ok (.iload 6, 2) := by decide +kernel
theorem dX5_waits_11 : decode cX5_waits 11 = .ok (.bipush 10, 2) := by decide +kernel
theorem dX5_waits_13 : decode cX5_waits 13 = .ok (.iload_n 2, 1) := by decide +kernel
theorem dX5_waits_14 : decode cX5_waits 14 = .ok (.imul, 1) := by decide +kernel
theorem dX5_waits_15 : decode cX5_waits 15 = .ok (.aload_n 0, 1) := by decide +kernel
theorem dX5_waits_16 : decode cX5_waits 16 = .ok (.getfield 13, 3) := by decide +kernel
theorem dX5_waits_19 : decode cX5_waits 19 = .ok (.iload_n 2, 1) := by decide +kernel
theorem dX5_waits_20 : decode cX5_waits 20 = .ok (.iaload, 1) := by decide +kernel
theorem dX5_waits_21 : decode cX5_waits 21 = .ok (.iadd, 1) := by decide +kernel
theorem dX5_waits_22 : decode cX5_waits 22 = .ok (.if_icmp .ge 85, 3) := by decide +kernel
theorem dX5_waits_25 : decode cX5_waits 25 = .ok (.aload_n 0, 1) := by decide +kernel
theorem dX5_waits_26 : decode cX5_waits 26 = .ok (.getfield 16, 3) := by decide +kernel
theorem dX5_waits_29 : decode cX5_waits 29 = .ok (.iload 6, 2) := by decide +kernel
theorem dX5_waits_31 : decode cX5_waits 31 = .ok (.iaload, 1) := by decide +kernel
theorem dX5_waits_32 : decode cX5_waits 32 = .ok (.bipush 97, 2) := by decide +kernel
theorem dX5_waits_34 : decode cX5_waits 34 = .ok (.if_icmp .ne 18, 3) := by decide +kernel
theorem dX5_waits_37 : decode cX5_waits 37 = .ok (.aload_n 0, 1) := by decide +kernel
theorem dX5_waits_38 : decode cX5_waits 38 = .ok (.getfield 19, 3) := by decide +kernel
theorem dX5_waits_41 : decode cX5_waits 41 = .ok (.iload 6, 2) := by decide +kernel
theorem dX5_waits_43 : decode cX5_waits 43 = .ok (.iaload, 1) := by decide +kernel
theorem dX5_waits_44 : decode cX5_waits 44 = .ok (.iload_n 3, 1) := by decide +kernel
theorem dX5_waits_45 : decode cX5_waits 45 = .ok (.if_icmp .ne 7, 3) := by decide +kernel
theorem dX5_waits_48 : decode cX5_waits 48 = .ok (.iconst 1, 1) := by decide +kernel
theorem dX5_waits_49 : decode cX5_waits 49 = .ok (.goto 4, 3) := by decide +kernel
theorem dX5_waits_52 : decode cX5_waits 52 = .ok (.iconst 0, 1) := by decide +kernel
theorem dX5_waits_53 : decode cX5_waits 53 = .ok (.istore 7, 2) := by decide +kernel
theorem dX5_waits_55 : decode cX5_waits 55 = .ok (.iload 5, 2) := by decide +kernel
theorem dX5_waits_57 : decode cX5_waits 57 = .ok (.ifCond .ne 37, 3) := by decide +kernel
theorem dX5_waits_60 : decode cX5_waits 60 = .ok (.iload 7, 2) := by decide +kernel
theorem dX5_waits_62 : decode cX5_waits 62 = .ok (.ifCond .eq 36, 3) := by decide +kernel
theorem dX5_waits_65 : decode cX5_waits 65 = .ok (.aload_n 0, 1) := by decide +kernel
theorem dX5_waits_66 : decode cX5_waits 66 = .ok (.iload_n 1, 1) := by decide +kernel
theorem dX5_waits_67 : decode cX5_waits 67 = .ok (.iload_n 3, 1) := by decide +kernel
theorem dX5_waits_68 : decode cX5_waits 68 = .ok (.invokevirtual 125, 3) := by decide +kernel
theorem dX5_waits_71 : decode cX5_waits 71 = .ok (.iconst (-1), 1) := by decide +kernel
theorem dX5_waits_72 : decode cX5_waits 72 = .ok (.if_icmp .eq 22, 3) := by decide +kernel
theorem dX5_waits_75 : decode cX5_waits 75 = .ok (.aload_n 0, 1) := by decide +kernel
theorem dX5_waits_76 : decode cX5_waits 76 = .ok (.iload_n 1, 1) := by decide +kernel
theorem dX5_waits_77 : decode cX5_waits 77 = .ok (.iload_n 3, 1) := by decide +kernel
theorem dX5_waits_78 : decode cX5_waits 78 = .ok (.invokevirtual 125, 3) := by decide +kernel
theorem dX5_waits_81 : decode cX5_waits 81 = .ok (.aload_n 0, 1) := by decide +kernel
theorem dX5_waits_82 : decode cX5_waits 82 = .ok (.getfield 22, 3) := by decide +kernel
theorem dX5_waits_85 : decode cX5_waits 85 = .ok (.iload 6, 2) := by decide +kernel
theorem dX5_waits_87 : decode cX5_waits 87 = .ok (.iaload, 1) := by decide +kernel
theorem dX5_waits_88 : decode cX5_waits 88 = .ok (.iadd, 1) := by decide +kernel
theorem dX5_waits_89 : decode cX5_waits 89 = .ok (.iload 4, 2) := by decide +kernel
theorem dX5_waits_91 : decode cX5_waits 91 = .ok (.if_icmp .le 7, 3) := by decide +kernel
theorem dX5_waits_94 : decode cX5_waits 94 = .ok (.iconst 1, 1) := by decide +kernel
theorem dX5_waits_95 : decode cX5_waits 95 = .ok (.goto 4, 3) := by decide +kernel
theorem dX5_waits_98 : decode cX5_waits 98 = .ok (.iconst 0, 1) := by decide +kernel
theorem dX5_waits_99 : decode cX5_waits 99 = .ok (.istore 5, 2) := by decide +kernel
theorem dX5_waits_101 : decode cX5_waits 101 = .ok (.iinc 6 1, 3) := by decide +kernel
theorem dX5_waits_104 : decode cX5_waits 104 = .ok (.goto (-95), 3) := by decide +kernel
theorem dX5_waits_107 : decode cX5_waits 107 = .ok (.iload 5, 2) := by decide +kernel
theorem dX5_waits_109 : decode cX5_waits 109 = .ok (.ireturn, 1) := by decide +kernel
theorem dX5_hasPart_0 : decode cX5_hasPart 0 = .ok (.iconst 0, 1) := by decide +kernel
theorem dX5_hasPart_1 : decode cX5_hasPart 1 = .ok (.istore_n 3, 1) := by decide +kernel
theorem dX5_hasPart_2 : decode cX5_hasPart 2 = .ok (.iconst 0, 1) := by decide +kernel
theorem dX5_hasPart_3 : decode cX5_hasPart 3 = .ok (.istore 4, 2) := by decide +kernel
theorem dX5_hasPart_5 : decode cX5_hasPart 5 = .ok (.iload 4, 2) := by decide +kernel
theorem dX5_hasPart_7 : decode cX5_hasPart 7 = .ok (.aload_n 0, 1) := by decide +kernel
theorem dX5_hasPart_8 : decode cX5_hasPart 8 = .ok (.getfield 32, 3) := by decide +kernel
theorem dX5_hasPart_11 : decode cX5_hasPart 11 = .ok (.iload_n 1, 1) := by decide +kernel
theorem dX5_hasPart_12 : decode cX5_hasPart 12 = .ok (.iaload, 1) := by decide +kernel
theorem dX5_hasPart_13 : decode cX5_hasPart 13 = .ok (.if_icmp .ge 35, 3) := by decide +kernel
theorem dX5_hasPart_16 : decode cX5_hasPart 16 = .ok (.iload_n 3, 1) := by decide +kernel
theorem dX5_hasPart_17 : decode cX5_hasPart 17 = .ok (.ifCond .ne 19, 3) := by decide +kernel
theorem dX5_hasPart_20 : decode cX5_hasPart 20 = .ok (.aload_n 0, 1) := by decide +kernel
theorem dX5_hasPart_21 : decode cX5_hasPart 21 = .ok (.getfield 35, 3) := by decide +kernel
theorem dX5_hasPart_24 : decode cX5_hasPart 24 = .ok (.bipush 8, 2) := by decide +kernel
theorem dX5_hasPart_26 : decode cX5_hasPart 26 = .ok (.iload_n 1, 1) := by decide +kernel
theorem dX5_hasPart_27 : decode cX5_hasPart 27 = .ok (.imul, 1) := by decide +kernel
theorem dX5_hasPart_28 : decode cX5_hasPart 28 = .ok (.iload 4, 2) := by decide +kernel
theorem dX5_hasPart_30 : decode cX5_hasPart 30 = .ok (.iadd, 1) := by decide +kernel
theorem dX5_hasPart_31 : decode cX5_hasPart 31 = .ok (.iaload, 1) := by decide +kernel
theorem dX5_hasPart_32 : decode cX5_hasPart 32 = .ok (.iload_n 2, 1) := by decide +kernel
theorem dX5_hasPart_33 : decode cX5_hasPart 33 = .ok (.if_icmp .ne 7, 3) := by decide +kernel
theorem dX5_hasPart_36 : decode cX5_hasPart 36 = .ok (.iconst 1, 1) := by decide +kernel
theorem dX5_hasPart_37 : decode cX5_hasPart 37 = .ok (.goto 4, 3) := by decide +kernel
theorem dX5_hasPart_40 : decode cX5_hasPart 40 = .ok (.iconst 0, 1) := by decide +kernel
theorem dX5_hasPart_41 : decode cX5_hasPart 41 = .ok (.istore_n 3, 1) := by decide +kernel
theorem dX5_hasPart_42 : decode cX5_hasPart 42 = .ok (.iinc 4 1, 3) := by decide +kernel
theorem dX5_hasPart_45 : decode cX5_hasPart 45 = .ok (.goto (-40), 3) := by decide +kernel
theorem dX5_hasPart_48 : decode cX5_hasPart 48 = .ok (.iload_n 3, 1) := by decide +kernel
theorem dX5_hasPart_49 : decode cX5_hasPart 49 = .ok (.ireturn, 1) := by decide +kernel
theorem dX5_why_0 : decode cX5_why 0 = .ok (.aload_n 0, 1) := by decide +kernel
theorem dX5_why_1 : decode cX5_why 1 = .ok (.iload_n 1, 1) := by decide +kernel
theorem dX5_why_2 : decode cX5_why 2 = .ok (.iload_n 2, 1) := by decide +kernel
theorem dX5_why_3 : decode cX5_why 3 = .ok (.invokevirtual 128, 3) := by decide +kernel
theorem dX5_why_6 : decode cX5_why 6 = .ok (.iconst (-1), 1) := by decide +kernel
theorem dX5_why_7 : decode cX5_why 7 = .ok (.if_icmp .eq 13, 3) := by decide +kernel
theorem dX5_why_10 : decode cX5_why 10 = .ok (.bipush 100, 2) := by decide +kernel
theorem dX5_why_12 : decode cX5_why 12 = .ok (.aload_n 0, 1) := by decide +kernel
theorem dX5_why_13 : decode cX5_why 13 = .ok (.iload_n 1, 1) := by decide +kernel
theorem dX5_why_14 : decode cX5_why 14 = .ok (.iload_n 2, 1) := by decide +kernel
theorem dX5_why_15 : decode cX5_why 15 = .ok (.invokevirtual 128, 3) := by decide +kernel
theorem dX5_why_18 : decode cX5_why 18 = .ok (.iadd, 1) := by decide +kernel
theorem dX5_why_19 : decode cX5_why 19 = .ok (.ireturn, 1) := by decide +kernel
theorem dX5_why_20 : decode cX5_why 20 = .ok (.iconst 0, 1) := by decide +kernel
theorem dX5_why_21 : decode cX5_why 21 = .ok (.istore 5, 2) := by decide +kernel
theorem dX5_why_23 : decode cX5_why 23 = .ok (.iload 5, 2) := by decide +kernel
theorem dX5_why_25 : decode cX5_why 25 = .ok (.bipush 12, 2) := by decide +kernel
theorem dX5_why_27 : decode cX5_why 27 = .ok (.if_icmp .ge 39, 3) := by decide +kernel
theorem dX5_why_30 : decode cX5_why 30 = .ok (.aload_n 0, 1) := by decide +kernel
theorem dX5_why_31 : decode cX5_why 31 = .ok (.iload_n 2, 1) := by decide +kernel
theorem dX5_why_32 : decode cX5_why 32 = .ok (.bipush 120, 2) := by decide +kernel
theorem dX5_why_34 : decode cX5_why 34 = .ok (.iload 5, 2) := by decide +kernel
theorem dX5_why_36 : decode cX5_why 36 = .ok (.invokevirtual 121, 3) := by decide +kernel
theorem dX5_why_39 : decode cX5_why 39 = .ok (.ifCond .eq 21, 3) := by decide +kernel
theorem dX5_why_42 : decode cX5_why 42 = .ok (.aload_n 0, 1) := by decide +kernel
theorem dX5_why_43 : decode cX5_why 43 = .ok (.iload_n 1, 1) := by decide +kernel
theorem dX5_why_44 : decode cX5_why 44 = .ok (.iload 5, 2) := by decide +kernel
theorem dX5_why_46 : decode cX5_why 46 = .ok (.invokevirtual 125, 3) := by decide +kernel
theorem dX5_why_49 : decode cX5_why 49 = .ok (.iconst (-1), 1) := by decide +kernel
theorem dX5_why_50 : decode cX5_why 50 = .ok (.if_icmp .eq 10, 3) := by decide +kernel
theorem dX5_why_53 : decode cX5_why 53 = .ok (.sipush 200, 3) := by decide +kernel
theorem dX5_why_56 : decode cX5_why 56 = .ok (.iload 5, 2) := by decide +kernel
theorem dX5_why_58 : decode cX5_why 58 = .ok (.iadd, 1) := by decide +kernel
theorem dX5_why_59 : decode cX5_why 59 = .ok (.ireturn, 1) := by decide +kernel
theorem dX5_why_60 : decode cX5_why 60 = .ok (.iinc 5 1, 3) := by decide +kernel
theorem dX5_why_63 : decode cX5_why 63 = .ok (.goto (-40), 3) := by decide +kernel
theorem dX5_why_66 : decode cX5_why 66 = .ok (.iconst 0, 1) := by decide +kernel
theorem dX5_why_67 : decode cX5_why 67 = .ok (.istore 5, 2) := by decide +kernel
theorem dX5_why_69 : decode cX5_why 69 = .ok (.iload 5, 2) := by decide +kernel
theorem dX5_why_71 : decode cX5_why 71 = .ok (.bipush 12, 2) := by decide +kernel
theorem dX5_why_73 : decode cX5_why 73 = .ok (.if_icmp .ge 29, 3) := by decide +kernel
theorem dX5_why_76 : decode cX5_why 76 = .ok (.aload_n 0, 1) := by decide +kernel
theorem dX5_why_77 : decode cX5_why 77 = .ok (.iload_n 1, 1) := by decide +kernel
theorem dX5_why_78 : decode cX5_why 78 = .ok (.iload_n 2, 1) := by decide +kernel
theorem dX5_why_79 : decode cX5_why 79 = .ok (.iload 5, 2) := by decide +kernel
theorem dX5_why_81 : decode cX5_why 81 = .ok (.iload 4, 2) := by decide +kernel
theorem dX5_why_83 : decode cX5_why 83 = .ok (.invokevirtual 131, 3) := by decide +kernel
theorem dX5_why_86 : decode cX5_why 86 = .ok (.ifCond .eq 10, 3) := by decide +kernel
theorem dX5_why_89 : decode cX5_why 89 = .ok (.sipush 300, 3) := by decide +kernel
theorem dX5_why_92 : decode cX5_why 92 = .ok (.iload 5, 2) := by decide +kernel
theorem dX5_why_94 : decode cX5_why 94 = .ok (.iadd, 1) := by decide +kernel
theorem dX5_why_95 : decode cX5_why 95 = .ok (.ireturn, 1) := by decide +kernel
theorem dX5_why_96 : decode cX5_why 96 = .ok (.iinc 5 1, 3) := by decide +kernel
theorem dX5_why_99 : decode cX5_why 99 = .ok (.goto (-30), 3) := by decide +kernel
theorem dX5_why_102 : decode cX5_why 102 = .ok (.iconst 0, 1) := by decide +kernel
theorem dX5_why_103 : decode cX5_why 103 = .ok (.istore 5, 2) := by decide +kernel
theorem dX5_why_105 : decode cX5_why 105 = .ok (.iload 5, 2) := by decide +kernel
theorem dX5_why_107 : decode cX5_why 107 = .ok (.bipush 10, 2) := by decide +kernel
theorem dX5_why_109 : decode cX5_why 109 = .ok (.if_icmp .ge 52, 3) := by decide +kernel
theorem dX5_why_112 : decode cX5_why 112 = .ok (.aload_n 0, 1) := by decide +kernel
theorem dX5_why_113 : decode cX5_why 113 = .ok (.iload_n 2, 1) := by decide +kernel
theorem dX5_why_114 : decode cX5_why 114 = .ok (.bipush 116, 2) := by decide +kernel
theorem dX5_why_116 : decode cX5_why 116 = .ok (.iconst (-1), 1) := by decide +kernel
theorem dX5_why_117 : decode cX5_why 117 = .ok (.invokevirtual 121, 3) := by decide +kernel
theorem dX5_why_120 : decode cX5_why 120 = .ok (.ifCond .eq 35, 3) := by decide +kernel
theorem dX5_why_123 : decode cX5_why 123 = .ok (.aload_n 0, 1) := by decide +kernel
theorem dX5_why_124 : decode cX5_why 124 = .ok (.iload_n 1, 1) := by decide +kernel
theorem dX5_why_125 : decode cX5_why 125 = .ok (.iload 5, 2) := by decide +kernel
theorem dX5_why_127 : decode cX5_why 127 = .ok (.invokevirtual 135, 3) := by decide +kernel
theorem dX5_why_130 : decode cX5_why 130 = .ok (.ifCond .eq 25, 3) := by decide +kernel
theorem dX5_why_133 : decode cX5_why 133 = .ok (.aload_n 0, 1) := by decide +kernel
theorem dX5_why_134 : decode cX5_why 134 = .ok (.getfield 25, 3) := by decide +kernel
theorem dX5_why_137 : decode cX5_why 137 = .ok (.bipush 10, 2) := by decide +kernel
theorem dX5_why_139 : decode cX5_why 139 = .ok (.iload_n 2, 1) := by decide +kernel
theorem dX5_why_140 : decode cX5_why 140 = .ok (.imul, 1) := by decide +kernel
theorem dX5_why_141 : decode cX5_why 141 = .ok (.iload 5, 2) := by decide +kernel
theorem dX5_why_143 : decode cX5_why 143 = .ok (.iadd, 1) := by decide +kernel
theorem dX5_why_144 : decode cX5_why 144 = .ok (.baload, 1) := by decide +kernel
theorem dX5_why_145 : decode cX5_why 145 = .ok (.ifCond .ne 10, 3) := by decide +kernel
theorem dX5_why_148 : decode cX5_why 148 = .ok (.sipush 400, 3) := by decide +kernel
theorem dX5_why_151 : decode cX5_why 151 = .ok (.iload 5, 2) := by decide +kernel
theorem dX5_why_153 : decode cX5_why 153 = .ok (.iadd, 1) := by decide +kernel
theorem dX5_why_154 : decode cX5_why 154 = .ok (.ireturn, 1) := by decide +kernel
theorem dX5_why_155 : decode cX5_why 155 = .ok (.iinc 5 1, 3) := by decide +kernel
theorem dX5_why_158 : decode cX5_why 158 = .ok (.goto (-53), 3) := by decide +kernel
theorem dX5_why_161 : decode cX5_why 161 = .ok (.iconst 0, 1) := by decide +kernel
theorem dX5_why_162 : decode cX5_why 162 = .ok (.istore 5, 2) := by decide +kernel
theorem dX5_why_164 : decode cX5_why 164 = .ok (.iload 5, 2) := by decide +kernel
theorem dX5_why_166 : decode cX5_why 166 = .ok (.bipush 12, 2) := by decide +kernel
theorem dX5_why_168 : decode cX5_why 168 = .ok (.if_icmp .ge 33, 3) := by decide +kernel
theorem dX5_why_171 : decode cX5_why 171 = .ok (.aload_n 0, 1) := by decide +kernel
theorem dX5_why_172 : decode cX5_why 172 = .ok (.iload_n 2, 1) := by decide +kernel
theorem dX5_why_173 : decode cX5_why 173 = .ok (.iload 5, 2) := by decide +kernel
theorem dX5_why_175 : decode cX5_why 175 = .ok (.invokevirtual 111, 3) := by decide +kernel
theorem dX5_why_178 : decode cX5_why 178 = .ok (.aload_n 0, 1) := by decide +kernel
theorem dX5_why_179 : decode cX5_why 179 = .ok (.getfield 53, 3) := by decide +kernel
theorem dX5_why_182 : decode cX5_why 182 = .ok (.iload 5, 2) := by decide +kernel
theorem dX5_why_184 : decode cX5_why 184 = .ok (.iaload, 1) := by decide +kernel
theorem dX5_why_185 : decode cX5_why 185 = .ok (.if_icmp .le 10, 3) := by decide +kernel
theorem dX5_why_188 : decode cX5_why 188 = .ok (.sipush 500, 3) := by decide +kernel
theorem dX5_why_191 : decode cX5_why 191 = .ok (.iload 5, 2) := by decide +kernel
theorem dX5_why_193 : decode cX5_why 193 = .ok (.iadd, 1) := by decide +kernel
theorem dX5_why_194 : decode cX5_why 194 = .ok (.ireturn, 1) := by decide +kernel
theorem dX5_why_195 : decode cX5_why 195 = .ok (.iinc 5 1, 3) := by decide +kernel
theorem dX5_why_198 : decode cX5_why 198 = .ok (.goto (-34), 3) := by decide +kernel
theorem dX5_why_201 : decode cX5_why 201 = .ok (.aload_n 0, 1) := by decide +kernel
theorem dX5_why_202 : decode cX5_why 202 = .ok (.getfield 29, 3) := by decide +kernel
theorem dX5_why_205 : decode cX5_why 205 = .ok (.bipush 12, 2) := by decide +kernel
theorem dX5_why_207 : decode cX5_why 207 = .ok (.iload_n 3, 1) := by decide +kernel
theorem dX5_why_208 : decode cX5_why 208 = .ok (.imul, 1) := by decide +kernel
theorem dX5_why_209 : decode cX5_why 209 = .ok (.iload_n 2, 1) := by decide +kernel
theorem dX5_why_210 : decode cX5_why 210 = .ok (.iadd, 1) := by decide +kernel
theorem dX5_why_211 : decode cX5_why 211 = .ok (.baload, 1) := by decide +kernel
theorem dX5_why_212 : decode cX5_why 212 = .ok (.ifCond .eq 7, 3) := by decide +kernel
theorem dX5_why_215 : decode cX5_why 215 = .ok (.iconst 0, 1) := by decide +kernel
theorem dX5_why_216 : decode cX5_why 216 = .ok (.goto 6, 3) := by decide +kernel
theorem dX5_why_219 : decode cX5_why 219 = .ok (.sipush 600, 3) := by decide +kernel
theorem dX5_why_222 : decode cX5_why 222 = .ok (.ireturn, 1) := by decide +kernel
theorem dX5_isHour_0 : decode cX5_isHour 0 = .ok (.iload_n 0, 1) := by decide +kernel
theorem dX5_isHour_1 : decode cX5_isHour 1 = .ok (.ifCond .lt 13, 3) := by decide +kernel
theorem dX5_isHour_4 : decode cX5_isHour 4 = .ok (.iload_n 0, 1) := by decide +kernel
theorem dX5_isHour_5 : decode cX5_isHour 5 = .ok (.ldc 138, 2) := by decide +kernel
theorem dX5_isHour_7 : decode cX5_isHour 7 = .ok (.if_icmp .gt 7, 3) := by decide +kernel
theorem dX5_isHour_10 : decode cX5_isHour 10 = .ok (.iconst 1, 1) := by decide +kernel
theorem dX5_isHour_11 : decode cX5_isHour 11 = .ok (.goto 4, 3) := by decide +kernel
theorem dX5_isHour_14 : decode cX5_isHour 14 = .ok (.iconst 0, 1) := by decide +kernel
theorem dX5_isHour_15 : decode cX5_isHour 15 = .ok (.ireturn, 1) := by decide +kernel
theorem dX5_reason_0 : decode cX5_reason 0 = .ok (.aload_n 0, 1) := by decide +kernel
theorem dX5_reason_1 : decode cX5_reason 1 = .ok (.aload_n 0, 1) := by decide +kernel
theorem dX5_reason_2 : decode cX5_reason 2 = .ok (.iload_n 1, 1) := by decide +kernel
theorem dX5_reason_3 : decode cX5_reason 3 = .ok (.invokevirtual 118, 3) := by decide +kernel
theorem dX5_reason_6 : decode cX5_reason 6 = .ok (.ifCond .eq 24, 3) := by decide +kernel
theorem dX5_reason_9 : decode cX5_reason 9 = .ok (.aload_n 0, 1) := by decide +kernel
theorem dX5_reason_10 : decode cX5_reason 10 = .ok (.iload_n 2, 1) := by decide +kernel
theorem dX5_reason_11 : decode cX5_reason 11 = .ok (.invokevirtual 108, 3) := by decide +kernel
theorem dX5_reason_14 : decode cX5_reason 14 = .ok (.ifCond .eq 16, 3) := by decide +kernel
theorem dX5_reason_17 : decode cX5_reason 17 = .ok (.iload_n 3, 1) := by decide +kernel
theorem dX5_reason_18 : decode cX5_reason 18 = .ok (.bipush 8, 2) := by decide +kernel
theorem dX5_reason_20 : decode cX5_reason 20 = .ok (.invokestatic 104, 3) := by decide +kernel
theorem dX5_reason_23 : decode cX5_reason 23 = .ok (.ifCond .eq 7, 3) := by decide +kernel
theorem dX5_reason_26 : decode cX5_reason 26 = .ok (.iconst 1, 1) := by decide +kernel
theorem dX5_reason_27 : decode cX5_reason 27 = .ok (.goto 4, 3) := by decide +kernel
theorem dX5_reason_30 : decode cX5_reason 30 = .ok (.iconst 0, 1) := by decide +kernel
theorem dX5_reason_31 : decode cX5_reason 31 = .ok (.iload 4, 2) := by decide +kernel
theorem dX5_reason_33 : decode cX5_reason 33 = .ok (.invokestatic 139, 3) := by decide +kernel
theorem dX5_reason_36 : decode cX5_reason 36 = .ok (.iconst 1, 1) := by decide +kernel
theorem dX5_reason_37 : decode cX5_reason 37 = .ok (.invokevirtual 85, 3) := by decide +kernel
theorem dX5_reason_40 : decode cX5_reason 40 = .ok (.ifCond .eq 15, 3) := by decide +kernel
theorem dX5_reason_43 : decode cX5_reason 43 = .ok (.aload_n 0, 1) := by decide +kernel
theorem dX5_reason_44 : decode cX5_reason 44 = .ok (.iload_n 1, 1) := by decide +kernel
theorem dX5_reason_45 : decode cX5_reason 45 = .ok (.iload_n 2, 1) := by decide +kernel
theorem dX5_reason_46 : decode cX5_reason 46 = .ok (.iload_n 3, 1) := by decide +kernel
theorem dX5_reason_47 : decode cX5_reason 47 = .ok (.iload 4, 2) := by decide +kernel
theorem dX5_reason_49 : decode cX5_reason 49 = .ok (.invokevirtual 142, 3) := by decide +kernel
theorem dX5_reason_52 : decode cX5_reason 52 = .ok (.goto 4, 3) := by decide +kernel
theorem dX5_reason_55 : decode cX5_reason 55 = .ok (.iconst 0, 1) := by decide +kernel
theorem dX5_reason_56 : decode cX5_reason 56 = .ok (.ireturn, 1) := by decide +kernel
theorem dX5_done_0 : decode cX5_done 0 = .ok (.aload_n 0, 1) := by decide +kernel
theorem dX5_done_1 : decode cX5_done 1 = .ok (.iload_n 1, 1) := by decide +kernel
theorem dX5_done_2 : decode cX5_done 2 = .ok (.invokevirtual 118, 3) := by decide +kernel
theorem dX5_done_5 : decode cX5_done 5 = .ok (.ifCond .eq 34, 3) := by decide +kernel
theorem dX5_done_8 : decode cX5_done 8 = .ok (.aload_n 0, 1) := by decide +kernel
theorem dX5_done_9 : decode cX5_done 9 = .ok (.iload_n 2, 1) := by decide +kernel
theorem dX5_done_10 : decode cX5_done 10 = .ok (.invokevirtual 108, 3) := by decide +kernel
theorem dX5_done_13 : decode cX5_done 13 = .ok (.ifCond .eq 26, 3) := by decide +kernel
theorem dX5_done_16 : decode cX5_done 16 = .ok (.iload_n 3, 1) := by decide +kernel
theorem dX5_done_17 : decode cX5_done 17 = .ok (.bipush 8, 2) := by decide +kernel
theorem dX5_done_19 : decode cX5_done 19 = .ok (.invokestatic 104, 3) := by decide +kernel
theorem dX5_done_22 : decode cX5_done 22 = .ok (.ifCond .eq 17, 3) := by decide +kernel
theorem dX5_done_25 : decode cX5_done 25 = .ok (.iload 4, 2) := by decide +kernel
theorem dX5_done_27 : decode cX5_done 27 = .ok (.bipush 8, 2) := by decide +kernel
theorem dX5_done_29 : decode cX5_done 29 = .ok (.invokestatic 104, 3) := by decide +kernel
theorem dX5_done_32 : decode cX5_done 32 = .ok (.ifCond .eq 7, 3) := by decide +kernel
theorem dX5_done_35 : decode cX5_done 35 = .ok (.iconst 1, 1) := by decide +kernel
theorem dX5_done_36 : decode cX5_done 36 = .ok (.goto 4, 3) := by decide +kernel
theorem dX5_done_39 : decode cX5_done 39 = .ok (.iconst 0, 1) := by decide +kernel
theorem dX5_done_40 : decode cX5_done 40 = .ok (.istore 6, 2) := by decide +kernel
theorem dX5_done_42 : decode cX5_done 42 = .ok (.iload 6, 2) := by decide +kernel
theorem dX5_done_44 : decode cX5_done 44 = .ok (.ifCond .eq 12, 3) := by decide +kernel
theorem dX5_done_47 : decode cX5_done 47 = .ok (.aload_n 0, 1) := by decide +kernel
theorem dX5_done_48 : decode cX5_done 48 = .ok (.getfield 38, 3) := by decide +kernel
theorem dX5_done_51 : decode cX5_done 51 = .ok (.iload_n 1, 1) := by decide +kernel
theorem dX5_done_52 : decode cX5_done 52 = .ok (.iaload, 1) := by decide +kernel
theorem dX5_done_53 : decode cX5_done 53 = .ok (.goto 4, 3) := by decide +kernel
theorem dX5_done_56 : decode cX5_done 56 = .ok (.iconst 0, 1) := by decide +kernel
theorem dX5_done_57 : decode cX5_done 57 = .ok (.istore 7, 2) := by decide +kernel
theorem dX5_done_59 : decode cX5_done 59 = .ok (.iload 6, 2) := by decide +kernel
theorem dX5_done_61 : decode cX5_done 61 = .ok (.ifCond .eq 31, 3) := by decide +kernel
theorem dX5_done_64 : decode cX5_done 64 = .ok (.iload 7, 2) := by decide +kernel
theorem dX5_done_66 : decode cX5_done 66 = .ok (.ifCond .eq 22, 3) := by decide +kernel
theorem dX5_done_69 : decode cX5_done 69 = .ok (.iload 5, 2) := by decide +kernel
theorem dX5_done_71 : decode cX5_done 71 = .ok (.aload_n 0, 1) := by decide +kernel
theorem dX5_done_72 : decode cX5_done 72 = .ok (.getfield 44, 3) := by decide +kernel
theorem dX5_done_75 : decode cX5_done 75 = .ok (.bipush 30, 2) := by decide +kernel
theorem dX5_done_77 : decode cX5_done 77 = .ok (.iload_n 1, 1) := by decide +kernel
theorem dX5_done_78 : decode cX5_done 78 = .ok (.imul, 1) := by decide +kernel
theorem dX5_done_79 : decode cX5_done 79 = .ok (.iload 7, 2) := by decide +kernel
theorem dX5_done_81 : decode cX5_done 81 = .ok (.iadd, 1) := by decide +kernel
theorem dX5_done_82 : decode cX5_done 82 = .ok (.iconst 1, 1) := by decide +kernel
theorem dX5_done_83 : decode cX5_done 83 = .ok (.isub, 1) := by decide +kernel
theorem dX5_done_84 : decode cX5_done 84 = .ok (.iaload, 1) := by decide +kernel
theorem dX5_done_85 : decode cX5_done 85 = .ok (.if_icmp .lt 7, 3) := by decide +kernel
theorem dX5_done_88 : decode cX5_done 88 = .ok (.iconst 1, 1) := by decide +kernel
theorem dX5_done_89 : decode cX5_done 89 = .ok (.goto 4, 3) := by decide +kernel
theorem dX5_done_92 : decode cX5_done 92 = .ok (.iconst 0, 1) := by decide +kernel
theorem dX5_done_93 : decode cX5_done 93 = .ok (.istore 8, 2) := by decide +kernel
theorem dX5_done_95 : decode cX5_done 95 = .ok (.aload_n 0, 1) := by decide +kernel
theorem dX5_done_96 : decode cX5_done 96 = .ok (.iload 6, 2) := by decide +kernel
theorem dX5_done_98 : decode cX5_done 98 = .ok (.iload 7, 2) := by decide +kernel
theorem dX5_done_100 : decode cX5_done 100 = .ok (.bipush 30, 2) := by decide +kernel
theorem dX5_done_102 : decode cX5_done 102 = .ok (.if_icmp .ge 7, 3) := by decide +kernel
theorem dX5_done_105 : decode cX5_done 105 = .ok (.iconst 1, 1) := by decide +kernel
theorem dX5_done_106 : decode cX5_done 106 = .ok (.goto 4, 3) := by decide +kernel
theorem dX5_done_109 : decode cX5_done 109 = .ok (.iconst 0, 1) := by decide +kernel
theorem dX5_done_110 : decode cX5_done 110 = .ok (.iload 5, 2) := by decide +kernel
theorem dX5_done_112 : decode cX5_done 112 = .ok (.invokestatic 139, 3) := by decide +kernel
theorem dX5_done_115 : decode cX5_done 115 = .ok (.ifCond .eq 12, 3) := by decide +kernel
theorem dX5_done_118 : decode cX5_done 118 = .ok (.iload 8, 2) := by decide +kernel
theorem dX5_done_120 : decode cX5_done 120 = .ok (.ifCond .eq 7, 3) := by decide +kernel
theorem dX5_done_123 : decode cX5_done 123 = .ok (.iconst 1, 1) := by decide +kernel
theorem dX5_done_124 : decode cX5_done 124 = .ok (.goto 4, 3) := by decide +kernel
theorem dX5_done_127 : decode cX5_done 127 = .ok (.iconst 0, 1) := by decide +kernel
theorem dX5_done_128 : decode cX5_done 128 = .ok (.invokevirtual 85, 3) := by decide +kernel
theorem dX5_done_131 : decode cX5_done 131 = .ok (.ifCond .ne 5, 3) := by decide +kernel
theorem dX5_done_134 : decode cX5_done 134 = .ok (.iconst 0, 1) := by decide +kernel
theorem dX5_done_135 : decode cX5_done 135 = .ok (.ireturn, 1) := by decide +kernel
theorem dX5_done_136 : decode cX5_done 136 = .ok (.aload_n 0, 1) := by decide +kernel
theorem dX5_done_137 : decode cX5_done 137 = .ok (.iload_n 1, 1) := by decide +kernel
theorem dX5_done_138 : decode cX5_done 138 = .ok (.iload_n 2, 1) := by decide +kernel
theorem dX5_done_139 : decode cX5_done 139 = .ok (.iload_n 3, 1) := by decide +kernel
theorem dX5_done_140 : decode cX5_done 140 = .ok (.iload 5, 2) := by decide +kernel
theorem dX5_done_142 : decode cX5_done 142 = .ok (.invokevirtual 142, 3) := by decide +kernel
theorem dX5_done_145 : decode cX5_done 145 = .ok (.istore 9, 2) := by decide +kernel
theorem dX5_done_147 : decode cX5_done 147 = .ok (.aload_n 0, 1) := by decide +kernel
theorem dX5_done_148 : decode cX5_done 148 = .ok (.iload_n 2, 1) := by decide +kernel
theorem dX5_done_149 : decode cX5_done 149 = .ok (.bipush 105, 2) := by decide +kernel
theorem dX5_done_151 : decode cX5_done 151 = .ok (.iconst (-1), 1) := by decide +kernel
theorem dX5_done_152 : decode cX5_done 152 = .ok (.invokevirtual 121, 3) := by decide +kernel
theorem dX5_done_155 : decode cX5_done 155 = .ok (.istore 10, 2) := by decide +kernel
theorem dX5_done_157 : decode cX5_done 157 = .ok (.iload 9, 2) := by decide +kernel
theorem dX5_done_159 : decode cX5_done 159 = .ok (.ifCond .eq 6, 3) := by decide +kernel
theorem dX5_done_162 : decode cX5_done 162 = .ok (.iload 9, 2) := by decide +kernel
theorem dX5_done_164 : decode cX5_done 164 = .ok (.ireturn, 1) := by decide +kernel
theorem dX5_done_165 : decode cX5_done 165 = .ok (.iload 10, 2) := by decide +kernel
theorem dX5_done_167 : decode cX5_done 167 = .ok (.ifCond .eq 28, 3) := by decide +kernel
theorem dX5_done_170 : decode cX5_done 170 = .ok (.iload 4, 2) := by decide +kernel
theorem dX5_done_172 : decode cX5_done 172 = .ok (.iload_n 3, 1) := by decide +kernel
theorem dX5_done_173 : decode cX5_done 173 = .ok (.if_icmp .eq 18, 3) := by decide +kernel
theorem dX5_done_176 : decode cX5_done 176 = .ok (.aload_n 0, 1) := by decide +kernel
theorem dX5_done_177 : decode cX5_done 177 = .ok (.getfield 29, 3) := by decide +kernel
theorem dX5_done_180 : decode cX5_done 180 = .ok (.bipush 12, 2) := by decide +kernel
theorem dX5_done_182 : decode cX5_done 182 = .ok (.iload 4, 2) := by decide +kernel
theorem dX5_done_184 : decode cX5_done 184 = .ok (.imul, 1) := by decide +kernel
theorem dX5_done_185 : decode cX5_done 185 = .ok (.iload_n 2, 1) := by decide +kernel
theorem dX5_done_186 : decode cX5_done 186 = .ok (.iadd, 1) := by decide +kernel
theorem dX5_done_187 : decode cX5_done 187 = .ok (.baload, 1) := by decide +kernel
theorem dX5_done_188 : decode cX5_done 188 = .ok (.ifCond .ne 7, 3) := by decide +kernel
theorem dX5_done_191 : decode cX5_done 191 = .ok (.sipush 700, 3) := by decide +kernel
theorem dX5_done_194 : decode cX5_done 194 = .ok (.ireturn, 1) := by decide +kernel
theorem dX5_done_195 : decode cX5_done 195 = .ok (.iconst 0, 1) := by decide +kernel
theorem dX5_done_196 : decode cX5_done 196 = .ok (.istore 11, 2) := by decide +kernel
theorem dX5_done_198 : decode cX5_done 198 = .ok (.iload 11, 2) := by decide +kernel
theorem dX5_done_200 : decode cX5_done 200 = .ok (.bipush 12, 2) := by decide +kernel
theorem dX5_done_202 : decode cX5_done 202 = .ok (.if_icmp .ge 54, 3) := by decide +kernel
theorem dX5_done_205 : decode cX5_done 205 = .ok (.aload_n 0, 1) := by decide +kernel
theorem dX5_done_206 : decode cX5_done 206 = .ok (.getfield 53, 3) := by decide +kernel
theorem dX5_done_209 : decode cX5_done 209 = .ok (.iload 11, 2) := by decide +kernel
theorem dX5_done_211 : decode cX5_done 211 = .ok (.aload_n 0, 1) := by decide +kernel
theorem dX5_done_212 : decode cX5_done 212 = .ok (.getfield 53, 3) := by decide +kernel
theorem dX5_done_215 : decode cX5_done 215 = .ok (.iload 11, 2) := by decide +kernel
theorem dX5_done_217 : decode cX5_done 217 = .ok (.iaload, 1) := by decide +kernel
theorem dX5_done_218 : decode cX5_done 218 = .ok (.aload_n 0, 1) := by decide +kernel
theorem dX5_done_219 : decode cX5_done 219 = .ok (.iload_n 2, 1) := by decide +kernel
theorem dX5_done_220 : decode cX5_done 220 = .ok (.iload 11, 2) := by decide +kernel
theorem dX5_done_222 : decode cX5_done 222 = .ok (.invokevirtual 111, 3) := by decide +kernel
theorem dX5_done_225 : decode cX5_done 225 = .ok (.isub, 1) := by decide +kernel
theorem dX5_done_226 : decode cX5_done 226 = .ok (.iastore, 1) := by decide +kernel
theorem dX5_done_227 : decode cX5_done 227 = .ok (.aload_n 0, 1) := by decide +kernel
theorem dX5_done_228 : decode cX5_done 228 = .ok (.getfield 60, 3) := by decide +kernel
theorem dX5_done_231 : decode cX5_done 231 = .ok (.iload 11, 2) := by decide +kernel
theorem dX5_done_233 : decode cX5_done 233 = .ok (.aload_n 0, 1) := by decide +kernel
theorem dX5_done_234 : decode cX5_done 234 = .ok (.getfield 60, 3) := by decide +kernel
theorem dX5_done_237 : decode cX5_done 237 = .ok (.iload 11, 2) := by decide +kernel
theorem dX5_done_239 : decode cX5_done 239 = .ok (.laload, 1) := by decide +kernel
theorem dX5_done_240 : decode cX5_done 240 = .ok (.aload_n 0, 1) := by decide +kernel
theorem dX5_done_241 : decode cX5_done 241 = .ok (.iload_n 2, 1) := by decide +kernel
theorem dX5_done_242 : decode cX5_done 242 = .ok (.iload 11, 2) := by decide +kernel
theorem dX5_done_244 : decode cX5_done 244 = .ok (.invokevirtual 111, 3) := by decide +kernel
theorem dX5_done_247 : decode cX5_done 247 = .ok (.i2l, 1) := by decide +kernel
theorem dX5_done_248 : decode cX5_done 248 = .ok (.ladd, 1) := by decide +kernel
theorem dX5_done_249 : decode cX5_done 249 = .ok (.lastore, 1) := by decide +kernel
theorem dX5_done_250 : decode cX5_done 250 = .ok (.iinc 11 1, 3) := by decide +kernel
theorem dX5_done_253 : decode cX5_done 253 = .ok (.goto (-55), 3) := by decide +kernel
theorem dX5_done_256 : decode cX5_done 256 = .ok (.bipush 30, 2) := by decide +kernel
theorem dX5_done_258 : decode cX5_done 258 = .ok (.iload_n 1, 1) := by decide +kernel
theorem dX5_done_259 : decode cX5_done 259 = .ok (.imul, 1) := by decide +kernel
theorem dX5_done_260 : decode cX5_done 260 = .ok (.iload 7, 2) := by decide +kernel
theorem dX5_done_262 : decode cX5_done 262 = .ok (.iadd, 1) := by decide +kernel
theorem dX5_done_263 : decode cX5_done 263 = .ok (.istore 11, 2) := by decide +kernel
theorem dX5_done_265 : decode cX5_done 265 = .ok (.aload_n 0, 1) := by decide +kernel
theorem dX5_done_266 : decode cX5_done 266 = .ok (.getfield 41, 3) := by decide +kernel
theorem dX5_done_269 : decode cX5_done 269 = .ok (.iload 11, 2) := by decide +kernel
theorem dX5_done_271 : decode cX5_done 271 = .ok (.iload_n 2, 1) := by decide +kernel
theorem dX5_done_272 : decode cX5_done 272 = .ok (.iastore, 1) := by decide +kernel
theorem dX5_done_273 : decode cX5_done 273 = .ok (.aload_n 0, 1) := by decide +kernel
theorem dX5_done_274 : decode cX5_done 274 = .ok (.getfield 44, 3) := by decide +kernel
theorem dX5_done_277 : decode cX5_done 277 = .ok (.iload 11, 2) := by decide +kernel
theorem dX5_done_279 : decode cX5_done 279 = .ok (.iload 5, 2) := by decide +kernel
theorem dX5_done_281 : decode cX5_done 281 = .ok (.iastore, 1) := by decide +kernel
theorem dX5_done_282 : decode cX5_done 282 = .ok (.aload_n 0, 1) := by decide +kernel
theorem dX5_done_283 : decode cX5_done 283 = .ok (.getfield 47, 3) := by decide +kernel
theorem dX5_done_286 : decode cX5_done 286 = .ok (.iload 11, 2) := by decide +kernel
theorem dX5_done_288 : decode cX5_done 288 = .ok (.iload_n 3, 1) := by decide +kernel
theorem dX5_done_289 : decode cX5_done 289 = .ok (.iastore, 1) := by decide +kernel
theorem dX5_done_290 : decode cX5_done 290 = .ok (.aload_n 0, 1) := by decide +kernel
theorem dX5_done_291 : decode cX5_done 291 = .ok (.getfield 50, 3) := by decide +kernel
theorem dX5_done_294 : decode cX5_done 294 = .ok (.iload 11, 2) := by decide +kernel
theorem dX5_done_296 : decode cX5_done 296 = .ok (.iload 10, 2) := by decide +kernel
theorem dX5_done_298 : decode cX5_done 298 = .ok (.ifCond .eq 8, 3) := by decide +kernel
theorem dX5_done_301 : decode cX5_done 301 = .ok (.iload 4, 2) := by decide +kernel
theorem dX5_done_303 : decode cX5_done 303 = .ok (.goto 4, 3) := by decide +kernel
theorem dX5_done_306 : decode cX5_done 306 = .ok (.iconst (-1), 1) := by decide +kernel
theorem dX5_done_307 : decode cX5_done 307 = .ok (.iastore, 1) := by decide +kernel
theorem dX5_done_308 : decode cX5_done 308 = .ok (.aload_n 0, 1) := by decide +kernel
theorem dX5_done_309 : decode cX5_done 309 = .ok (.getfield 38, 3) := by decide +kernel
theorem dX5_done_312 : decode cX5_done 312 = .ok (.iload_n 1, 1) := by decide +kernel
theorem dX5_done_313 : decode cX5_done 313 = .ok (.dup2, 1) := by decide +kernel
theorem dX5_done_314 : decode cX5_done 314 = .ok (.iaload, 1) := by decide +kernel
theorem dX5_done_315 : decode cX5_done 315 = .ok (.iconst 1, 1) := by decide +kernel
theorem dX5_done_316 : decode cX5_done 316 = .ok (.iadd, 1) := by decide +kernel
theorem dX5_done_317 : decode cX5_done 317 = .ok (.iastore, 1) := by decide +kernel
theorem dX5_done_318 : decode cX5_done 318 = .ok (.iconst 0, 1) := by decide +kernel
theorem dX5_done_319 : decode cX5_done 319 = .ok (.ireturn, 1) := by decide +kernel
theorem dX5_row_0 : decode cX5_row 0 = .ok (.aload_n 0, 1) := by decide +kernel
theorem dX5_row_1 : decode cX5_row 1 = .ok (.iload_n 1, 1) := by decide +kernel
theorem dX5_row_2 : decode cX5_row 2 = .ok (.invokevirtual 118, 3) := by decide +kernel
theorem dX5_row_5 : decode cX5_row 5 = .ok (.ifCond .eq 21, 3) := by decide +kernel
theorem dX5_row_8 : decode cX5_row 8 = .ok (.iload_n 2, 1) := by decide +kernel
theorem dX5_row_9 : decode cX5_row 9 = .ok (.iconst (-1), 1) := by decide +kernel
theorem dX5_row_10 : decode cX5_row 10 = .ok (.if_icmp .lt 16, 3) := by decide +kernel
theorem dX5_row_13 : decode cX5_row 13 = .ok (.iload_n 3, 1) := by decide +kernel
theorem dX5_row_14 : decode cX5_row 14 = .ok (.ifCond .lt 12, 3) := by decide +kernel
theorem dX5_row_17 : decode cX5_row 17 = .ok (.iload_n 3, 1) := by decide +kernel
theorem dX5_row_18 : decode cX5_row 18 = .ok (.iconst 3, 1) := by decide +kernel
theorem dX5_row_19 : decode cX5_row 19 = .ok (.if_icmp .gt 7, 3) := by decide +kernel
theorem dX5_row_22 : decode cX5_row 22 = .ok (.iconst 1, 1) := by decide +kernel
theorem dX5_row_23 : decode cX5_row 23 = .ok (.goto 4, 3) := by decide +kernel
theorem dX5_row_26 : decode cX5_row 26 = .ok (.iconst 0, 1) := by decide +kernel
theorem dX5_row_27 : decode cX5_row 27 = .ok (.istore 4, 2) := by decide +kernel
theorem dX5_row_29 : decode cX5_row 29 = .ok (.aload_n 0, 1) := by decide +kernel
theorem dX5_row_30 : decode cX5_row 30 = .ok (.iload 4, 2) := by decide +kernel
theorem dX5_row_32 : decode cX5_row 32 = .ok (.ifCond .eq 17, 3) := by decide +kernel
theorem dX5_row_35 : decode cX5_row 35 = .ok (.iload_n 2, 1) := by decide +kernel
theorem dX5_row_36 : decode cX5_row 36 = .ok (.aload_n 0, 1) := by decide +kernel
theorem dX5_row_37 : decode cX5_row 37 = .ok (.getfield 38, 3) := by decide +kernel
theorem dX5_row_40 : decode cX5_row 40 = .ok (.iload_n 1, 1) := by decide +kernel
theorem dX5_row_41 : decode cX5_row 41 = .ok (.iaload, 1) := by decide +kernel
theorem dX5_row_42 : decode cX5_row 42 = .ok (.if_icmp .ge 7, 3) := by decide +kernel
theorem dX5_row_45 : decode cX5_row 45 = .ok (.iconst 1, 1) := by decide +kernel
theorem dX5_row_46 : decode cX5_row 46 = .ok (.goto 4, 3) := by decide +kernel
theorem dX5_row_49 : decode cX5_row 49 = .ok (.iconst 0, 1) := by decide +kernel
theorem dX5_row_50 : decode cX5_row 50 = .ok (.iconst 1, 1) := by decide +kernel
theorem dX5_row_51 : decode cX5_row 51 = .ok (.iconst 1, 1) := by decide +kernel
theorem dX5_row_52 : decode cX5_row 52 = .ok (.invokevirtual 85, 3) := by decide +kernel
theorem dX5_row_55 : decode cX5_row 55 = .ok (.ifCond .ne 5, 3) := by decide +kernel
theorem dX5_row_58 : decode cX5_row 58 = .ok (.iconst 0, 1) := by decide +kernel
theorem dX5_row_59 : decode cX5_row 59 = .ok (.ireturn, 1) := by decide +kernel
theorem dX5_row_60 : decode cX5_row 60 = .ok (.bipush 30, 2) := by decide +kernel
theorem dX5_row_62 : decode cX5_row 62 = .ok (.iload_n 1, 1) := by decide +kernel
theorem dX5_row_63 : decode cX5_row 63 = .ok (.imul, 1) := by decide +kernel
theorem dX5_row_64 : decode cX5_row 64 = .ok (.iload_n 2, 1) := by decide +kernel
theorem dX5_row_65 : decode cX5_row 65 = .ok (.iadd, 1) := by decide +kernel
theorem dX5_row_66 : decode cX5_row 66 = .ok (.istore 5, 2) := by decide +kernel
theorem dX5_row_68 : decode cX5_row 68 = .ok (.iload_n 2, 1) := by decide +kernel
theorem dX5_row_69 : decode cX5_row 69 = .ok (.iconst (-1), 1) := by decide +kernel
theorem dX5_row_70 : decode cX5_row 70 = .ok (.if_icmp .ne 12, 3) := by decide +kernel
theorem dX5_row_73 : decode cX5_row 73 = .ok (.aload_n 0, 1) := by decide +kernel
theorem dX5_row_74 : decode cX5_row 74 = .ok (.getfield 38, 3) := by decide +kernel
theorem dX5_row_77 : decode cX5_row 77 = .ok (.iload_n 1, 1) := by decide +kernel
theorem dX5_row_78 : decode cX5_row 78 = .ok (.iaload, 1) := by decide +kernel
theorem dX5_row_79 : decode cX5_row 79 = .ok (.goto 54, 3) := by decide +kernel
theorem dX5_row_82 : decode cX5_row 82 = .ok (.iload_n 3, 1) := by decide +kernel
theorem dX5_row_83 : decode cX5_row 83 = .ok (.ifCond .ne 13, 3) := by decide +kernel
theorem dX5_row_86 : decode cX5_row 86 = .ok (.aload_n 0, 1) := by decide +kernel
theorem dX5_row_87 : decode cX5_row 87 = .ok (.getfield 41, 3) := by decide +kernel
theorem dX5_row_90 : decode cX5_row 90 = .ok (.iload 5, 2) := by decide +kernel
theorem dX5_row_92 : decode cX5_row 92 = .ok (.iaload, 1) := by decide +kernel
theorem dX5_row_93 : decode cX5_row 93 = .ok (.goto 40, 3) := by decide +kernel
theorem dX5_row_96 : decode cX5_row 96 = .ok (.iload_n 3, 1) := by decide +kernel
theorem dX5_row_97 : decode cX5_row 97 = .ok (.iconst 1, 1) := by decide +kernel
theorem dX5_row_98 : decode cX5_row 98 = .ok (.if_icmp .ne 13, 3) := by decide +kernel
theorem dX5_row_101 : decode cX5_row 101 = .ok (.aload_n 0, 1) := by decide +kernel
theorem dX5_row_102 : decode cX5_row 102 = .ok (.getfield 44, 3) := by decide +kernel
theorem dX5_row_105 : decode cX5_row 105 = .ok (.iload 5, 2) := by decide +kernel
theorem dX5_row_107 : decode cX5_row 107 = .ok (.iaload, 1) := by decide +kernel
theorem dX5_row_108 : decode cX5_row 108 = .ok (.goto 25, 3) := by decide +kernel
theorem dX5_row_111 : decode cX5_row 111 = .ok (.iload_n 3, 1) := by decide +kernel
theorem dX5_row_112 : decode cX5_row 112 = .ok (.iconst 2, 1) := by decide +kernel
theorem dX5_row_113 : decode cX5_row 113 = .ok (.if_icmp .ne 13, 3) := by decide +kernel
theorem dX5_row_116 : decode cX5_row 116 = .ok (.aload_n 0, 1) := by decide +kernel
theorem dX5_row_117 : decode cX5_row 117 = .ok (.getfield 47, 3) := by decide +kernel
theorem dX5_row_120 : decode cX5_row 120 = .ok (.iload 5, 2) := by decide +kernel
theorem dX5_row_122 : decode cX5_row 122 = .ok (.iaload, 1) := by decide +kernel
theorem dX5_row_123 : decode cX5_row 123 = .ok (.goto 10, 3) := by decide +kernel
theorem dX5_row_126 : decode cX5_row 126 = .ok (.aload_n 0, 1) := by decide +kernel
theorem dX5_row_127 : decode cX5_row 127 = .ok (.getfield 50, 3) := by decide +kernel
theorem dX5_row_130 : decode cX5_row 130 = .ok (.iload 5, 2) := by decide +kernel
theorem dX5_row_132 : decode cX5_row 132 = .ok (.iaload, 1) := by decide +kernel
theorem dX5_row_133 : decode cX5_row 133 = .ok (.ireturn, 1) := by decide +kernel
theorem dX5_stock_0 : decode cX5_stock 0 = .ok (.aload_n 0, 1) := by decide +kernel
theorem dX5_stock_1 : decode cX5_stock 1 = .ok (.iload_n 1, 1) := by decide +kernel
theorem dX5_stock_2 : decode cX5_stock 2 = .ok (.bipush 12, 2) := by decide +kernel
theorem dX5_stock_4 : decode cX5_stock 4 = .ok (.invokestatic 104, 3) := by decide +kernel
theorem dX5_stock_7 : decode cX5_stock 7 = .ok (.iload_n 2, 1) := by decide +kernel
theorem dX5_stock_8 : decode cX5_stock 8 = .ok (.ldc 146, 2) := by decide +kernel
theorem dX5_stock_10 : decode cX5_stock 10 = .ok (.if_icmp .lt 13, 3) := by decide +kernel
theorem dX5_stock_13 : decode cX5_stock 13 = .ok (.iload_n 2, 1) := by decide +kernel
theorem dX5_stock_14 : decode cX5_stock 14 = .ok (.ldc 138, 2) := by decide +kernel
theorem dX5_stock_16 : decode cX5_stock 16 = .ok (.if_icmp .gt 7, 3) := by decide +kernel
theorem dX5_stock_19 : decode cX5_stock 19 = .ok (.iconst 1, 1) := by decide +kernel
theorem dX5_stock_20 : decode cX5_stock 20 = .ok (.goto 4, 3) := by decide +kernel
theorem dX5_stock_23 : decode cX5_stock 23 = .ok (.iconst 0, 1) := by decide +kernel
theorem dX5_stock_24 : decode cX5_stock 24 = .ok (.iconst 1, 1) := by decide +kernel
theorem dX5_stock_25 : decode cX5_stock 25 = .ok (.invokevirtual 85, 3) := by decide +kernel
theorem dX5_stock_28 : decode cX5_stock 28 = .ok (.ifCond .ne 5, 3) := by decide +kernel
theorem dX5_stock_31 : decode cX5_stock 31 = .ok (.iconst 0, 1) := by decide +kernel
theorem dX5_stock_32 : decode cX5_stock 32 = .ok (.ireturn, 1) := by decide +kernel
theorem dX5_stock_33 : decode cX5_stock 33 = .ok (.aload_n 0, 1) := by decide +kernel
theorem dX5_stock_34 : decode cX5_stock 34 = .ok (.getfield 53, 3) := by decide +kernel
theorem dX5_stock_37 : decode cX5_stock 37 = .ok (.iload_n 1, 1) := by decide +kernel
theorem dX5_stock_38 : decode cX5_stock 38 = .ok (.iaload, 1) := by decide +kernel
theorem dX5_stock_39 : decode cX5_stock 39 = .ok (.iload_n 2, 1) := by decide +kernel
theorem dX5_stock_40 : decode cX5_stock 40 = .ok (.iadd, 1) := by decide +kernel
theorem dX5_stock_41 : decode cX5_stock 41 = .ok (.istore_n 3, 1) := by decide +kernel
theorem dX5_stock_42 : decode cX5_stock 42 = .ok (.iload_n 3, 1) := by decide +kernel
theorem dX5_stock_43 : decode cX5_stock 43 = .ok (.ifCond .lt 9, 3) := by decide +kernel
theorem dX5_stock_46 : decode cX5_stock 46 = .ok (.iload_n 3, 1) := by decide +kernel
theorem dX5_stock_47 : decode cX5_stock 47 = .ok (.ldc 138, 2) := by decide +kernel
theorem dX5_stock_49 : decode cX5_stock 49 = .ok (.if_icmp .le 5, 3) := by decide +kernel
theorem dX5_stock_52 : decode cX5_stock 52 = .ok (.iconst (-1), 1) := by decide +kernel
theorem dX5_stock_53 : decode cX5_stock 53 = .ok (.ireturn, 1) := by decide +kernel
theorem dX5_stock_54 : decode cX5_stock 54 = .ok (.aload_n 0, 1) := by decide +kernel
theorem dX5_stock_55 : decode cX5_stock 55 = .ok (.getfield 53, 3) := by decide +kernel
theorem dX5_stock_58 : decode cX5_stock 58 = .ok (.iload_n 1, 1) := by decide +kernel
theorem dX5_stock_59 : decode cX5_stock 59 = .ok (.iload_n 3, 1) := by decide +kernel
theorem dX5_stock_60 : decode cX5_stock 60 = .ok (.iastore, 1) := by decide +kernel
theorem dX5_stock_61 : decode cX5_stock 61 = .ok (.aload_n 0, 1) := by decide +kernel
theorem dX5_stock_62 : decode cX5_stock 62 = .ok (.getfield 56, 3) := by decide +kernel
theorem dX5_stock_65 : decode cX5_stock 65 = .ok (.iload_n 1, 1) := by decide +kernel
theorem dX5_stock_66 : decode cX5_stock 66 = .ok (.iload_n 2, 1) := by decide +kernel
theorem dX5_stock_67 : decode cX5_stock 67 = .ok (.ifCond .le 15, 3) := by decide +kernel
theorem dX5_stock_70 : decode cX5_stock 70 = .ok (.aload_n 0, 1) := by decide +kernel
theorem dX5_stock_71 : decode cX5_stock 71 = .ok (.getfield 56, 3) := by decide +kernel
theorem dX5_stock_74 : decode cX5_stock 74 = .ok (.iload_n 1, 1) := by decide +kernel
theorem dX5_stock_75 : decode cX5_stock 75 = .ok (.laload, 1) := by decide +kernel
theorem dX5_stock_76 : decode cX5_stock 76 = .ok (.iload_n 2, 1) := by decide +kernel
theorem dX5_stock_77 : decode cX5_stock 77 = .ok (.i2l, 1) := by decide +kernel
theorem dX5_stock_78 : decode cX5_stock 78 = .ok (.ladd, 1) := by decide +kernel
theorem dX5_stock_79 : decode cX5_stock 79 = .ok (.goto 9, 3) := by decide +kernel
theorem dX5_stock_82 : decode cX5_stock 82 = .ok (.aload_n 0, 1) := by decide +kernel
theorem dX5_stock_83 : decode cX5_stock 83 = .ok (.getfield 56, 3) := by decide +kernel
theorem dX5_stock_86 : decode cX5_stock 86 = .ok (.iload_n 1, 1) := by decide +kernel
theorem dX5_stock_87 : decode cX5_stock 87 = .ok (.laload, 1) := by decide +kernel
theorem dX5_stock_88 : decode cX5_stock 88 = .ok (.lastore, 1) := by decide +kernel
theorem dX5_stock_89 : decode cX5_stock 89 = .ok (.aload_n 0, 1) := by decide +kernel
theorem dX5_stock_90 : decode cX5_stock 90 = .ok (.getfield 60, 3) := by decide +kernel
theorem dX5_stock_93 : decode cX5_stock 93 = .ok (.iload_n 1, 1) := by decide +kernel
theorem dX5_stock_94 : decode cX5_stock 94 = .ok (.iload_n 2, 1) := by decide +kernel
theorem dX5_stock_95 : decode cX5_stock 95 = .ok (.ifCond .ge 15, 3) := by decide +kernel
theorem dX5_stock_98 : decode cX5_stock 98 = .ok (.aload_n 0, 1) := by decide +kernel
theorem dX5_stock_99 : decode cX5_stock 99 = .ok (.getfield 60, 3) := by decide +kernel
theorem dX5_stock_102 : decode cX5_stock 102 = .ok (.iload_n 1, 1) := by decide +kernel
theorem dX5_stock_103 : decode cX5_stock 103 = .ok (.laload, 1) := by decide +kernel
theorem dX5_stock_104 : decode cX5_stock 104 = .ok (.iload_n 2, 1) := by decide +kernel
theorem dX5_stock_105 : decode cX5_stock 105 = .ok (.i2l, 1) := by decide +kernel
theorem dX5_stock_106 : decode cX5_stock 106 = .ok (.lsub, 1) := by decide +kernel
theorem dX5_stock_107 : decode cX5_stock 107 = .ok (.goto 9, 3) := by decide +kernel
theorem dX5_stock_110 : decode cX5_stock 110 = .ok (.aload_n 0, 1) := by decide +kernel
theorem dX5_stock_111 : decode cX5_stock 111 = .ok (.getfield 60, 3) := by decide +kernel
theorem dX5_stock_114 : decode cX5_stock 114 = .ok (.iload_n 1, 1) := by decide +kernel
theorem dX5_stock_115 : decode cX5_stock 115 = .ok (.laload, 1) := by decide +kernel
theorem dX5_stock_116 : decode cX5_stock 116 = .ok (.lastore, 1) := by decide +kernel
theorem dX5_stock_117 : decode cX5_stock 117 = .ok (.iload_n 3, 1) := by decide +kernel
theorem dX5_stock_118 : decode cX5_stock 118 = .ok (.ireturn, 1) := by decide +kernel
theorem dX5_about_0 : decode cX5_about 0 = .ok (.aload_n 0, 1) := by decide +kernel
theorem dX5_about_1 : decode cX5_about 1 = .ok (.iload_n 1, 1) := by decide +kernel
theorem dX5_about_2 : decode cX5_about 2 = .ok (.bipush 12, 2) := by decide +kernel
theorem dX5_about_4 : decode cX5_about 4 = .ok (.invokestatic 104, 3) := by decide +kernel
theorem dX5_about_7 : decode cX5_about 7 = .ok (.ifCond .eq 16, 3) := by decide +kernel
theorem dX5_about_10 : decode cX5_about 10 = .ok (.iload_n 2, 1) := by decide +kernel
theorem dX5_about_11 : decode cX5_about 11 = .ok (.ifCond .lt 12, 3) := by decide +kernel
theorem dX5_about_14 : decode cX5_about 14 = .ok (.iload_n 2, 1) := by decide +kernel
theorem dX5_about_15 : decode cX5_about 15 = .ok (.iconst 3, 1) := by decide +kernel
theorem dX5_about_16 : decode cX5_about 16 = .ok (.if_icmp .gt 7, 3) := by decide +kernel
theorem dX5_about_19 : decode cX5_about 19 = .ok (.iconst 1, 1) := by decide +kernel
theorem dX5_about_20 : decode cX5_about 20 = .ok (.goto 4, 3) := by decide +kernel
theorem dX5_about_23 : decode cX5_about 23 = .ok (.iconst 0, 1) := by decide +kernel
theorem dX5_about_24 : decode cX5_about 24 = .ok (.iconst 1, 1) := by decide +kernel
theorem dX5_about_25 : decode cX5_about 25 = .ok (.iconst 1, 1) := by decide +kernel
theorem dX5_about_26 : decode cX5_about 26 = .ok (.invokevirtual 85, 3) := by decide +kernel
theorem dX5_about_29 : decode cX5_about 29 = .ok (.ifCond .ne 5, 3) := by decide +kernel
theorem dX5_about_32 : decode cX5_about 32 = .ok (.lconst 0, 1) := by decide +kernel
theorem dX5_about_33 : decode cX5_about 33 = .ok (.lreturn, 1) := by decide +kernel
theorem dX5_about_34 : decode cX5_about 34 = .ok (.iload_n 2, 1) := by decide +kernel
theorem dX5_about_35 : decode cX5_about 35 = .ok (.ifCond .ne 13, 3) := by decide +kernel
theorem dX5_about_38 : decode cX5_about 38 = .ok (.aload_n 0, 1) := by decide +kernel
theorem dX5_about_39 : decode cX5_about 39 = .ok (.getfield 53, 3) := by decide +kernel
theorem dX5_about_42 : decode cX5_about 42 = .ok (.iload_n 1, 1) := by decide +kernel
theorem dX5_about_43 : decode cX5_about 43 = .ok (.iaload, 1) := by decide +kernel
theorem dX5_about_44 : decode cX5_about 44 = .ok (.i2l, 1) := by decide +kernel
theorem dX5_about_45 : decode cX5_about 45 = .ok (.goto 38, 3) := by decide +kernel
theorem dX5_about_48 : decode cX5_about 48 = .ok (.iload_n 2, 1) := by decide +kernel
theorem dX5_about_49 : decode cX5_about 49 = .ok (.iconst 1, 1) := by decide +kernel
theorem dX5_about_50 : decode cX5_about 50 = .ok (.if_icmp .ne 12, 3) := by decide +kernel
theorem dX5_about_53 : decode cX5_about 53 = .ok (.aload_n 0, 1) := by decide +kernel
theorem dX5_about_54 : decode cX5_about 54 = .ok (.getfield 56, 3) := by decide +kernel
theorem dX5_about_57 : decode cX5_about 57 = .ok (.iload_n 1, 1) := by decide +kernel
theorem dX5_about_58 : decode cX5_about 58 = .ok (.laload, 1) := by decide +kernel
theorem dX5_about_59 : decode cX5_about 59 = .ok (.goto 24, 3) := by decide +kernel
theorem dX5_about_62 : decode cX5_about 62 = .ok (.iload_n 2, 1) := by decide +kernel
theorem dX5_about_63 : decode cX5_about 63 = .ok (.iconst 2, 1) := by decide +kernel
theorem dX5_about_64 : decode cX5_about 64 = .ok (.if_icmp .ne 12, 3) := by decide +kernel
theorem dX5_about_67 : decode cX5_about 67 = .ok (.aload_n 0, 1) := by decide +kernel
theorem dX5_about_68 : decode cX5_about 68 = .ok (.getfield 60, 3) := by decide +kernel
theorem dX5_about_71 : decode cX5_about 71 = .ok (.iload_n 1, 1) := by decide +kernel
theorem dX5_about_72 : decode cX5_about 72 = .ok (.laload, 1) := by decide +kernel
theorem dX5_about_73 : decode cX5_about 73 = .ok (.goto 10, 3) := by decide +kernel
theorem dX5_about_76 : decode cX5_about 76 = .ok (.aload_n 0, 1) := by decide +kernel
theorem dX5_about_77 : decode cX5_about 77 = .ok (.getfield 63, 3) := by decide +kernel
theorem dX5_about_80 : decode cX5_about 80 = .ok (.iload_n 1, 1) := by decide +kernel
theorem dX5_about_81 : decode cX5_about 81 = .ok (.iaload, 1) := by decide +kernel
theorem dX5_about_82 : decode cX5_about 82 = .ok (.i2l, 1) := by decide +kernel
theorem dX5_about_83 : decode cX5_about 83 = .ok (.lreturn, 1) := by decide +kernel
theorem dX5_apart_0 : decode cX5_apart 0 = .ok (.aload_n 0, 1) := by decide +kernel
theorem dX5_apart_1 : decode cX5_apart 1 = .ok (.iload_n 1, 1) := by decide +kernel
theorem dX5_apart_2 : decode cX5_apart 2 = .ok (.bipush 12, 2) := by decide +kernel
theorem dX5_apart_4 : decode cX5_apart 4 = .ok (.invokestatic 104, 3) := by decide +kernel
theorem dX5_apart_7 : decode cX5_apart 7 = .ok (.ifCond .eq 16, 3) := by decide +kernel
theorem dX5_apart_10 : decode cX5_apart 10 = .ok (.iload_n 2, 1) := by decide +kernel
theorem dX5_apart_11 : decode cX5_apart 11 = .ok (.bipush 12, 2) := by decide +kernel
theorem dX5_apart_13 : decode cX5_apart 13 = .ok (.invokestatic 104, 3) := by decide +kernel
theorem dX5_apart_16 : decode cX5_apart 16 = .ok (.ifCond .eq 7, 3) := by decide +kernel
theorem dX5_apart_19 : decode cX5_apart 19 = .ok (.iconst 1, 1) := by decide +kernel
theorem dX5_apart_20 : decode cX5_apart 20 = .ok (.goto 4, 3) := by decide +kernel
theorem dX5_apart_23 : decode cX5_apart 23 = .ok (.iconst 0, 1) := by decide +kernel
theorem dX5_apart_24 : decode cX5_apart 24 = .ok (.iconst 1, 1) := by decide +kernel
theorem dX5_apart_25 : decode cX5_apart 25 = .ok (.iconst 1, 1) := by decide +kernel
theorem dX5_apart_26 : decode cX5_apart 26 = .ok (.invokevirtual 85, 3) := by decide +kernel
theorem dX5_apart_29 : decode cX5_apart 29 = .ok (.ifCond .ne 5, 3) := by decide +kernel
theorem dX5_apart_32 : decode cX5_apart 32 = .ok (.iconst 0, 1) := by decide +kernel
theorem dX5_apart_33 : decode cX5_apart 33 = .ok (.ireturn, 1) := by decide +kernel
theorem dX5_apart_34 : decode cX5_apart 34 = .ok (.iload_n 1, 1) := by decide +kernel
theorem dX5_apart_35 : decode cX5_apart 35 = .ok (.iload_n 2, 1) := by decide +kernel
theorem dX5_apart_36 : decode cX5_apart 36 = .ok (.if_icmp .eq 28, 3) := by decide +kernel
theorem dX5_apart_39 : decode cX5_apart 39 = .ok (.aload_n 0, 1) := by decide +kernel
theorem dX5_apart_40 : decode cX5_apart 40 = .ok (.getfield 63, 3) := by decide +kernel
theorem dX5_apart_43 : decode cX5_apart 43 = .ok (.iload_n 1, 1) := by decide +kernel
theorem dX5_apart_44 : decode cX5_apart 44 = .ok (.iaload, 1) := by decide +kernel
theorem dX5_apart_45 : decode cX5_apart 45 = .ok (.iconst (-1), 1) := by decide +kernel
theorem dX5_apart_46 : decode cX5_apart 46 = .ok (.if_icmp .eq 20, 3) := by decide +kernel
theorem dX5_apart_49 : decode cX5_apart 49 = .ok (.aload_n 0, 1) := by decide +kernel
theorem dX5_apart_50 : decode cX5_apart 50 = .ok (.getfield 63, 3) := by decide +kernel
theorem dX5_apart_53 : decode cX5_apart 53 = .ok (.iload_n 1, 1) := by decide +kernel
theorem dX5_apart_54 : decode cX5_apart 54 = .ok (.iaload, 1) := by decide +kernel
theorem dX5_apart_55 : decode cX5_apart 55 = .ok (.aload_n 0, 1) := by decide +kernel
theorem dX5_apart_56 : decode cX5_apart 56 = .ok (.getfield 63, 3) := by decide +kernel
theorem dX5_apart_59 : decode cX5_apart 59 = .ok (.iload_n 2, 1) := by decide +kernel
theorem dX5_apart_60 : decode cX5_apart 60 = .ok (.iaload, 1) := by decide +kernel
theorem dX5_apart_61 : decode cX5_apart 61 = .ok (.if_icmp .ne 5, 3) := by decide +kernel
theorem dX5_apart_64 : decode cX5_apart 64 = .ok (.iconst 0, 1) := by decide +kernel
theorem dX5_apart_65 : decode cX5_apart 65 = .ok (.ireturn, 1) := by decide +kernel
theorem dX5_apart_66 : decode cX5_apart 66 = .ok (.aload_n 0, 1) := by decide +kernel
theorem dX5_apart_67 : decode cX5_apart 67 = .ok (.getfield 66, 3) := by decide +kernel
theorem dX5_apart_70 : decode cX5_apart 70 = .ok (.bipush 12, 2) := by decide +kernel
theorem dX5_apart_72 : decode cX5_apart 72 = .ok (.iload_n 1, 1) := by decide +kernel
theorem dX5_apart_73 : decode cX5_apart 73 = .ok (.imul, 1) := by decide +kernel
theorem dX5_apart_74 : decode cX5_apart 74 = .ok (.iload_n 2, 1) := by decide +kernel
theorem dX5_apart_75 : decode cX5_apart 75 = .ok (.iadd, 1) := by decide +kernel
theorem dX5_apart_76 : decode cX5_apart 76 = .ok (.iconst 1, 1) := by decide +kernel
theorem dX5_apart_77 : decode cX5_apart 77 = .ok (.bastore, 1) := by decide +kernel
theorem dX5_apart_78 : decode cX5_apart 78 = .ok (.aload_n 0, 1) := by decide +kernel
theorem dX5_apart_79 : decode cX5_apart 79 = .ok (.getfield 66, 3) := by decide +kernel
theorem dX5_apart_82 : decode cX5_apart 82 = .ok (.bipush 12, 2) := by decide +kernel
theorem dX5_apart_84 : decode cX5_apart 84 = .ok (.iload_n 2, 1) := by decide +kernel
theorem dX5_apart_85 : decode cX5_apart 85 = .ok (.imul, 1) := by decide +kernel
theorem dX5_apart_86 : decode cX5_apart 86 = .ok (.iload_n 1, 1) := by decide +kernel
theorem dX5_apart_87 : decode cX5_apart 87 = .ok (.iadd, 1) := by decide +kernel
theorem dX5_apart_88 : decode cX5_apart 88 = .ok (.iconst 1, 1) := by decide +kernel
theorem dX5_apart_89 : decode cX5_apart 89 = .ok (.bastore, 1) := by decide +kernel
theorem dX5_apart_90 : decode cX5_apart 90 = .ok (.iconst 1, 1) := by decide +kernel
theorem dX5_apart_91 : decode cX5_apart 91 = .ok (.ireturn, 1) := by decide +kernel
theorem dX5_put_0 : decode cX5_put 0 = .ok (.aload_n 0, 1) := by decide +kernel
theorem dX5_put_1 : decode cX5_put 1 = .ok (.iload_n 1, 1) := by decide +kernel
theorem dX5_put_2 : decode cX5_put 2 = .ok (.bipush 12, 2) := by decide +kernel
theorem dX5_put_4 : decode cX5_put 4 = .ok (.invokestatic 104, 3) := by decide +kernel
theorem dX5_put_7 : decode cX5_put 7 = .ok (.ifCond .eq 17, 3) := by decide +kernel
theorem dX5_put_10 : decode cX5_put 10 = .ok (.iload_n 2, 1) := by decide +kernel
theorem dX5_put_11 : decode cX5_put 11 = .ok (.iconst (-1), 1) := by decide +kernel
theorem dX5_put_12 : decode cX5_put 12 = .ok (.if_icmp .lt 12, 3) := by decide +kernel
theorem dX5_put_15 : decode cX5_put 15 = .ok (.iload_n 2, 1) := by decide +kernel
theorem dX5_put_16 : decode cX5_put 16 = .ok (.iconst 5, 1) := by decide +kernel
theorem dX5_put_17 : decode cX5_put 17 = .ok (.if_icmp .gt 7, 3) := by decide +kernel
theorem dX5_put_20 : decode cX5_put 20 = .ok (.iconst 1, 1) := by decide +kernel
theorem dX5_put_21 : decode cX5_put 21 = .ok (.goto 4, 3) := by decide +kernel
theorem dX5_put_24 : decode cX5_put 24 = .ok (.iconst 0, 1) := by decide +kernel
theorem dX5_put_25 : decode cX5_put 25 = .ok (.iconst 1, 1) := by decide +kernel
theorem dX5_put_26 : decode cX5_put 26 = .ok (.iconst 1, 1) := by decide +kernel
theorem dX5_put_27 : decode cX5_put 27 = .ok (.invokevirtual 85, 3) := by decide +kernel
theorem dX5_put_30 : decode cX5_put 30 = .ok (.ifCond .ne 5, 3) := by decide +kernel
theorem dX5_put_33 : decode cX5_put 33 = .ok (.iconst 0, 1) := by decide +kernel
theorem dX5_put_34 : decode cX5_put 34 = .ok (.ireturn, 1) := by decide +kernel
theorem dX5_put_35 : decode cX5_put 35 = .ok (.iconst 0, 1) := by decide +kernel
theorem dX5_put_36 : decode cX5_put 36 = .ok (.istore_n 3, 1) := by decide +kernel
theorem dX5_put_37 : decode cX5_put 37 = .ok (.iload_n 3, 1) := by decide +kernel
theorem dX5_put_38 : decode cX5_put 38 = .ok (.bipush 12, 2) := by decide +kernel
theorem dX5_put_40 : decode cX5_put 40 = .ok (.if_icmp .ge 47, 3) := by decide +kernel
theorem dX5_put_43 : decode cX5_put 43 = .ok (.iload_n 2, 1) := by decide +kernel
theorem dX5_put_44 : decode cX5_put 44 = .ok (.iconst (-1), 1) := by decide +kernel
theorem dX5_put_45 : decode cX5_put 45 = .ok (.if_icmp .eq 36, 3) := by decide +kernel
theorem dX5_put_48 : decode cX5_put 48 = .ok (.iload_n 3, 1) := by decide +kernel
theorem dX5_put_49 : decode cX5_put 49 = .ok (.iload_n 1, 1) := by decide +kernel
theorem dX5_put_50 : decode cX5_put 50 = .ok (.if_icmp .eq 31, 3) := by decide +kernel
theorem dX5_put_53 : decode cX5_put 53 = .ok (.aload_n 0, 1) := by decide +kernel
theorem dX5_put_54 : decode cX5_put 54 = .ok (.getfield 63, 3) := by decide +kernel
theorem dX5_put_57 : decode cX5_put 57 = .ok (.iload_n 3, 1) := by decide +kernel
theorem dX5_put_58 : decode cX5_put 58 = .ok (.iaload, 1) := by decide +kernel
theorem dX5_put_59 : decode cX5_put 59 = .ok (.iload_n 2, 1) := by decide +kernel
theorem dX5_put_60 : decode cX5_put 60 = .ok (.if_icmp .ne 21, 3) := by decide +kernel
theorem dX5_put_63 : decode cX5_put 63 = .ok (.aload_n 0, 1) := by decide +kernel
theorem dX5_put_64 : decode cX5_put 64 = .ok (.getfield 66, 3) := by decide +kernel
theorem dX5_put_67 : decode cX5_put 67 = .ok (.bipush 12, 2) := by decide +kernel
theorem dX5_put_69 : decode cX5_put 69 = .ok (.iload_n 1, 1) := by decide +kernel
theorem dX5_put_70 : decode cX5_put 70 = .ok (.imul, 1) := by decide +kernel
theorem dX5_put_71 : decode cX5_put 71 = .ok (.iload_n 3, 1) := by decide +kernel
theorem dX5_put_72 : decode cX5_put 72 = .ok (.iadd, 1) := by decide +kernel
theorem dX5_put_73 : decode cX5_put 73 = .ok (.baload, 1) := by decide +kernel
theorem dX5_put_74 : decode cX5_put 74 = .ok (.ifCond .eq 7, 3) := by decide +kernel
theorem dX5_put_77 : decode cX5_put 77 = .ok (.iconst 1, 1) := by decide +kernel
theorem dX5_put_78 : decode cX5_put 78 = .ok (.iload_n 3, 1) := by decide +kernel
theorem dX5_put_79 : decode cX5_put 79 = .ok (.iadd, 1) := by decide +kernel
theorem dX5_put_80 : decode cX5_put 80 = .ok (.ireturn, 1) := by decide +kernel
theorem dX5_put_81 : decode cX5_put 81 = .ok (.iinc 3 1, 3) := by decide +kernel
theorem dX5_put_84 : decode cX5_put 84 = .ok (.goto (-47), 3) := by decide +kernel
theorem dX5_put_87 : decode cX5_put 87 = .ok (.aload_n 0, 1) := by decide +kernel
theorem dX5_put_88 : decode cX5_put 88 = .ok (.getfield 63, 3) := by decide +kernel
theorem dX5_put_91 : decode cX5_put 91 = .ok (.iload_n 1, 1) := by decide +kernel
theorem dX5_put_92 : decode cX5_put 92 = .ok (.iload_n 2, 1) := by decide +kernel
theorem dX5_put_93 : decode cX5_put 93 = .ok (.iastore, 1) := by decide +kernel
theorem dX5_put_94 : decode cX5_put 94 = .ok (.iconst 0, 1) := by decide +kernel
theorem dX5_put_95 : decode cX5_put 95 = .ok (.ireturn, 1) := by decide +kernel
theorem dX5_mayCome_0 : decode cX5_mayCome 0 = .ok (.iconst 1, 1) := by decide +kernel
theorem dX5_mayCome_1 : decode cX5_mayCome 1 = .ok (.istore 4, 2) := by decide +kernel
theorem dX5_mayCome_3 : decode cX5_mayCome 3 = .ok (.iconst 0, 1) := by decide +kernel
theorem dX5_mayCome_4 : decode cX5_mayCome 4 = .ok (.istore 5, 2) := by decide +kernel
theorem dX5_mayCome_6 : decode cX5_mayCome 6 = .ok (.iload 5, 2) := by decide +kernel
theorem dX5_mayCome_8 : decode cX5_mayCome 8 = .ok (.bipush 12, 2) := by decide +kernel
theorem dX5_mayCome_10 : decode cX5_mayCome 10 = .ok (.if_icmp .ge 83, 3) := by decide +kernel
theorem dX5_mayCome_13 : decode cX5_mayCome 13 = .ok (.iload_n 3, 1) := by decide +kernel
theorem dX5_mayCome_14 : decode cX5_mayCome 14 = .ok (.iload 5, 2) := by decide +kernel
theorem dX5_mayCome_16 : decode cX5_mayCome 16 = .ok (.ishr, 1) := by decide +kernel
theorem dX5_mayCome_17 : decode cX5_mayCome 17 = .ok (.iconst 1, 1) := by decide +kernel
theorem dX5_mayCome_18 : decode cX5_mayCome 18 = .ok (.iand, 1) := by decide +kernel
theorem dX5_mayCome_19 : decode cX5_mayCome 19 = .ok (.iconst 1, 1) := by decide +kernel
theorem dX5_mayCome_20 : decode cX5_mayCome 20 = .ok (.if_icmp .eq 14, 3) := by decide +kernel
theorem dX5_mayCome_23 : decode cX5_mayCome 23 = .ok (.aload_n 0, 1) := by decide +kernel
theorem dX5_mayCome_24 : decode cX5_mayCome 24 = .ok (.iload_n 1, 1) := by decide +kernel
theorem dX5_mayCome_25 : decode cX5_mayCome 25 = .ok (.iload 5, 2) := by decide +kernel
theorem dX5_mayCome_27 : decode cX5_mayCome 27 = .ok (.invokevirtual 125, 3) := by decide +kernel
theorem dX5_mayCome_30 : decode cX5_mayCome 30 = .ok (.iconst (-1), 1) := by decide +kernel
theorem dX5_mayCome_31 : decode cX5_mayCome 31 = .ok (.if_icmp .eq 7, 3) := by decide +kernel
theorem dX5_mayCome_34 : decode cX5_mayCome 34 = .ok (.iconst 1, 1) := by decide +kernel
theorem dX5_mayCome_35 : decode cX5_mayCome 35 = .ok (.goto 4, 3) := by decide +kernel
theorem dX5_mayCome_38 : decode cX5_mayCome 38 = .ok (.iconst 0, 1) := by decide +kernel
theorem dX5_mayCome_39 : decode cX5_mayCome 39 = .ok (.istore 6, 2) := by decide +kernel
theorem dX5_mayCome_41 : decode cX5_mayCome 41 = .ok (.iload 4, 2) := by decide +kernel
theorem dX5_mayCome_43 : decode cX5_mayCome 43 = .ok (.ifCond .eq 41, 3) := by decide +kernel
theorem dX5_mayCome_46 : decode cX5_mayCome 46 = .ok (.aload_n 0, 1) := by decide +kernel
theorem dX5_mayCome_47 : decode cX5_mayCome 47 = .ok (.iload_n 2, 1) := by decide +kernel
theorem dX5_mayCome_48 : decode cX5_mayCome 48 = .ok (.bipush 97, 2) := by decide +kernel
theorem dX5_mayCome_50 : decode cX5_mayCome 50 = .ok (.iload 5, 2) := by decide +kernel
theorem dX5_mayCome_52 : decode cX5_mayCome 52 = .ok (.invokevirtual 121, 3) := by decide +kernel
theorem dX5_mayCome_55 : decode cX5_mayCome 55 = .ok (.ifCond .eq 8, 3) := by decide +kernel
theorem dX5_mayCome_58 : decode cX5_mayCome 58 = .ok (.iload 6, 2) := by decide +kernel
theorem dX5_mayCome_60 : decode cX5_mayCome 60 = .ok (.ifCond .eq 24, 3) := by decide +kernel
theorem dX5_mayCome_63 : decode cX5_mayCome 63 = .ok (.aload_n 0, 1) := by decide +kernel
theorem dX5_mayCome_64 : decode cX5_mayCome 64 = .ok (.iload_n 2, 1) := by decide +kernel
theorem dX5_mayCome_65 : decode cX5_mayCome 65 = .ok (.bipush 120, 2) := by decide +kernel
theorem dX5_mayCome_67 : decode cX5_mayCome 67 = .ok (.iload 5, 2) := by decide +kernel
theorem dX5_mayCome_69 : decode cX5_mayCome 69 = .ok (.invokevirtual 121, 3) := by decide +kernel
theorem dX5_mayCome_72 : decode cX5_mayCome 72 = .ok (.ifCond .eq 8, 3) := by decide +kernel
theorem dX5_mayCome_75 : decode cX5_mayCome 75 = .ok (.iload 6, 2) := by decide +kernel
theorem dX5_mayCome_77 : decode cX5_mayCome 77 = .ok (.ifCond .ne 7, 3) := by decide +kernel
theorem dX5_mayCome_80 : decode cX5_mayCome 80 = .ok (.iconst 1, 1) := by decide +kernel
theorem dX5_mayCome_81 : decode cX5_mayCome 81 = .ok (.goto 4, 3) := by decide +kernel
theorem dX5_mayCome_84 : decode cX5_mayCome 84 = .ok (.iconst 0, 1) := by decide +kernel
theorem dX5_mayCome_85 : decode cX5_mayCome 85 = .ok (.istore 4, 2) := by decide +kernel
theorem dX5_mayCome_87 : decode cX5_mayCome 87 = .ok (.iinc 5 1, 3) := by decide +kernel
theorem dX5_mayCome_90 : decode cX5_mayCome 90 = .ok (.goto (-84), 3) := by decide +kernel
theorem dX5_mayCome_93 : decode cX5_mayCome 93 = .ok (.iload 4, 2) := by decide +kernel
theorem dX5_mayCome_95 : decode cX5_mayCome 95 = .ok (.ireturn, 1) := by decide +kernel
theorem dX5_methodsOf_0 : decode cX5_methodsOf 0 = .ok (.iconst 0, 1) := by decide +kernel
theorem dX5_methodsOf_1 : decode cX5_methodsOf 1 = .ok (.istore_n 3, 1) := by decide +kernel
theorem dX5_methodsOf_2 : decode cX5_methodsOf 2 = .ok (.iconst 0, 1) := by decide +kernel
theorem dX5_methodsOf_3 : decode cX5_methodsOf 3 = .ok (.istore 4, 2) := by decide +kernel
theorem dX5_methodsOf_5 : decode cX5_methodsOf 5 = .ok (.iload 4, 2) := by decide +kernel
theorem dX5_methodsOf_7 : decode cX5_methodsOf 7 = .ok (.iload_n 2, 1) := by decide +kernel
theorem dX5_methodsOf_8 : decode cX5_methodsOf 8 = .ok (.if_icmp .ge 35, 3) := by decide +kernel
theorem dX5_methodsOf_11 : decode cX5_methodsOf 11 = .ok (.iload_n 1, 1) := by decide +kernel
theorem dX5_methodsOf_12 : decode cX5_methodsOf 12 = .ok (.iload 4, 2) := by decide +kernel
theorem dX5_methodsOf_14 : decode cX5_methodsOf 14 = .ok (.ishr, 1) := by decide +kernel
theorem dX5_methodsOf_15 : decode cX5_methodsOf 15 = .ok (.iconst 1, 1) := by decide +kernel
theorem dX5_methodsOf_16 : decode cX5_methodsOf 16 = .ok (.iand, 1) := by decide +kernel
theorem dX5_methodsOf_17 : decode cX5_methodsOf 17 = .ok (.iconst 1, 1) := by decide +kernel
theorem dX5_methodsOf_18 : decode cX5_methodsOf 18 = .ok (.if_icmp .ne 17, 3) := by decide +kernel
theorem dX5_methodsOf_21 : decode cX5_methodsOf 21 = .ok (.iload_n 3, 1) := by decide +kernel
theorem dX5_methodsOf_22 : decode cX5_methodsOf 22 = .ok (.iconst 1, 1) := by decide +kernel
theorem dX5_methodsOf_23 : decode cX5_methodsOf 23 = .ok (.aload_n 0, 1) := by decide +kernel
theorem dX5_methodsOf_24 : decode cX5_methodsOf 24 = .ok (.getfield 72, 3) := by decide +kernel
theorem dX5_methodsOf_27 : decode cX5_methodsOf 27 = .ok (.iload 4, 2) := by decide +kernel
theorem dX5_methodsOf_29 : decode cX5_methodsOf 29 = .ok (.iaload, 1) := by decide +kernel
theorem dX5_methodsOf_30 : decode cX5_methodsOf 30 = .ok (.ishl, 1) := by decide +kernel
theorem dX5_methodsOf_31 : decode cX5_methodsOf 31 = .ok (.ior, 1) := by decide +kernel
theorem dX5_methodsOf_32 : decode cX5_methodsOf 32 = .ok (.goto 4, 3) := by decide +kernel
theorem dX5_methodsOf_35 : decode cX5_methodsOf 35 = .ok (.iload_n 3, 1) := by decide +kernel
theorem dX5_methodsOf_36 : decode cX5_methodsOf 36 = .ok (.istore_n 3, 1) := by decide +kernel
theorem dX5_methodsOf_37 : decode cX5_methodsOf 37 = .ok (.iinc 4 1, 3) := by decide +kernel
theorem dX5_methodsOf_40 : decode cX5_methodsOf 40 = .ok (.goto (-35), 3) := by decide +kernel
theorem dX5_methodsOf_43 : decode cX5_methodsOf 43 = .ok (.iload_n 3, 1) := by decide +kernel
theorem dX5_methodsOf_44 : decode cX5_methodsOf 44 = .ok (.ireturn, 1) := by decide +kernel
theorem dX5_closed_0 : decode cX5_closed 0 = .ok (.iload_n 1, 1) := by decide +kernel
theorem dX5_closed_1 : decode cX5_closed 1 = .ok (.istore_n 2, 1) := by decide +kernel
theorem dX5_closed_2 : decode cX5_closed 2 = .ok (.iconst 0, 1) := by decide +kernel
theorem dX5_closed_3 : decode cX5_closed 3 = .ok (.istore_n 3, 1) := by decide +kernel
theorem dX5_closed_4 : decode cX5_closed 4 = .ok (.iload_n 3, 1) := by decide +kernel
theorem dX5_closed_5 : decode cX5_closed 5 = .ok (.bipush 12, 2) := by decide +kernel
theorem dX5_closed_7 : decode cX5_closed 7 = .ok (.if_icmp .ge 96, 3) := by decide +kernel
theorem dX5_closed_10 : decode cX5_closed 10 = .ok (.iconst 0, 1) := by decide +kernel
theorem dX5_closed_11 : decode cX5_closed 11 = .ok (.istore 4, 2) := by decide +kernel
theorem dX5_closed_13 : decode cX5_closed 13 = .ok (.iload 4, 2) := by decide +kernel
theorem dX5_closed_15 : decode cX5_closed 15 = .ok (.sipush 144, 3) := by decide +kernel
theorem dX5_closed_18 : decode cX5_closed 18 = .ok (.if_icmp .ge 79, 3) := by decide +kernel
theorem dX5_closed_21 : decode cX5_closed 21 = .ok (.iload_n 2, 1) := by decide +kernel
theorem dX5_closed_22 : decode cX5_closed 22 = .ok (.iload 4, 2) := by decide +kernel
theorem dX5_closed_24 : decode cX5_closed 24 = .ok (.bipush 12, 2) := by decide +kernel
theorem dX5_closed_26 : decode cX5_closed 26 = .ok (.idiv, 1) := by decide +kernel
theorem dX5_closed_27 : decode cX5_closed 27 = .ok (.ishr, 1) := by decide +kernel
theorem dX5_closed_28 : decode cX5_closed 28 = .ok (.iconst 1, 1) := by decide +kernel
theorem dX5_closed_29 : decode cX5_closed 29 = .ok (.iand, 1) := by decide +kernel
theorem dX5_closed_30 : decode cX5_closed 30 = .ok (.iconst 1, 1) := by decide +kernel
theorem dX5_closed_31 : decode cX5_closed 31 = .ok (.if_icmp .ne 38, 3) := by decide +kernel
theorem dX5_closed_34 : decode cX5_closed 34 = .ok (.iload 4, 2) := by decide +kernel
theorem dX5_closed_36 : decode cX5_closed 36 = .ok (.bipush 12, 2) := by decide +kernel
theorem dX5_closed_38 : decode cX5_closed 38 = .ok (.idiv, 1) := by decide +kernel
theorem dX5_closed_39 : decode cX5_closed 39 = .ok (.aload_n 0, 1) := by decide +kernel
theorem dX5_closed_40 : decode cX5_closed 40 = .ok (.getfield 89, 3) := by decide +kernel
theorem dX5_closed_43 : decode cX5_closed 43 = .ok (.if_icmp .ge 26, 3) := by decide +kernel
theorem dX5_closed_46 : decode cX5_closed 46 = .ok (.aload_n 0, 1) := by decide +kernel
theorem dX5_closed_47 : decode cX5_closed 47 = .ok (.iload 4, 2) := by decide +kernel
theorem dX5_closed_49 : decode cX5_closed 49 = .ok (.bipush 12, 2) := by decide +kernel
theorem dX5_closed_51 : decode cX5_closed 51 = .ok (.idiv, 1) := by decide +kernel
theorem dX5_closed_52 : decode cX5_closed 52 = .ok (.bipush 97, 2) := by decide +kernel
theorem dX5_closed_54 : decode cX5_closed 54 = .ok (.iload 4, 2) := by decide +kernel
theorem dX5_closed_56 : decode cX5_closed 56 = .ok (.bipush 12, 2) := by decide +kernel
theorem dX5_closed_58 : decode cX5_closed 58 = .ok (.irem, 1) := by decide +kernel
theorem dX5_closed_59 : decode cX5_closed 59 = .ok (.invokevirtual 121, 3) := by decide +kernel
theorem dX5_closed_62 : decode cX5_closed 62 = .ok (.ifCond .eq 7, 3) := by decide +kernel
theorem dX5_closed_65 : decode cX5_closed 65 = .ok (.iconst 1, 1) := by decide +kernel
theorem dX5_closed_66 : decode cX5_closed 66 = .ok (.goto 4, 3) := by decide +kernel
theorem dX5_closed_69 : decode cX5_closed 69 = .ok (.iconst 0, 1) := by decide +kernel
theorem dX5_closed_70 : decode cX5_closed 70 = .ok (.istore 5, 2) := by decide +kernel
theorem dX5_closed_72 : decode cX5_closed 72 = .ok (.iload 5, 2) := by decide +kernel
theorem dX5_closed_74 : decode cX5_closed 74 = .ok (.ifCond .eq 15, 3) := by decide +kernel
theorem dX5_closed_77 : decode cX5_closed 77 = .ok (.iload_n 2, 1) := by decide +kernel
theorem dX5_closed_78 : decode cX5_closed 78 = .ok (.iconst 1, 1) := by decide +kernel
theorem dX5_closed_79 : decode cX5_closed 79 = .ok (.iload 4, 2) := by decide +kernel
theorem dX5_closed_81 : decode cX5_closed 81 = .ok (.bipush 12, 2) := by decide +kernel
theorem dX5_closed_83 : decode cX5_closed 83 = .ok (.irem, 1) := by decide +kernel
theorem dX5_closed_84 : decode cX5_closed 84 = .ok (.ishl, 1) := by decide +kernel
theorem dX5_closed_85 : decode cX5_closed 85 = .ok (.ior, 1) := by decide +kernel
theorem dX5_closed_86 : decode cX5_closed 86 = .ok (.goto 4, 3) := by decide +kernel
theorem dX5_closed_89 : decode cX5_closed 89 = .ok (.iload_n 2, 1) := by decide +kernel
theorem dX5_closed_90 : decode cX5_closed 90 = .ok (.istore_n 2, 1) := by decide +kernel
theorem dX5_closed_91 : decode cX5_closed 91 = .ok (.iinc 4 1, 3) := by decide +kernel
theorem dX5_closed_94 : decode cX5_closed 94 = .ok (.goto (-81), 3) := by decide +kernel
theorem dX5_closed_97 : decode cX5_closed 97 = .ok (.iinc 3 1, 3) := by decide +kernel
theorem dX5_closed_100 : decode cX5_closed 100 = .ok (.goto (-96), 3) := by decide +kernel
theorem dX5_closed_103 : decode cX5_closed 103 = .ok (.iload_n 2, 1) := by decide +kernel
theorem dX5_closed_104 : decode cX5_closed 104 = .ok (.ireturn, 1) := by decide +kernel
theorem dX5_orders_0 : decode cX5_orders 0 = .ok (.iconst 1, 1) := by decide +kernel
theorem dX5_orders_1 : decode cX5_orders 1 = .ok (.iload_n 2, 1) := by decide +kernel
theorem dX5_orders_2 : decode cX5_orders 2 = .ok (.ishl, 1) := by decide +kernel
theorem dX5_orders_3 : decode cX5_orders 3 = .ok (.iconst 1, 1) := by decide +kernel
theorem dX5_orders_4 : decode cX5_orders 4 = .ok (.isub, 1) := by decide +kernel
theorem dX5_orders_5 : decode cX5_orders 5 = .ok (.istore_n 3, 1) := by decide +kernel
theorem dX5_orders_6 : decode cX5_orders 6 = .ok (.iload_n 3, 1) := by decide +kernel
theorem dX5_orders_7 : decode cX5_orders 7 = .ok (.ifCond .lt 120, 3) := by decide +kernel
theorem dX5_orders_10 : decode cX5_orders 10 = .ok (.aload_n 0, 1) := by decide +kernel
theorem dX5_orders_11 : decode cX5_orders 11 = .ok (.getfield 75, 3) := by decide +kernel
theorem dX5_orders_14 : decode cX5_orders 14 = .ok (.iload_n 3, 1) := by decide +kernel
theorem dX5_orders_15 : decode cX5_orders 15 = .ok (.iload_n 3, 1) := by decide +kernel
theorem dX5_orders_16 : decode cX5_orders 16 = .ok (.iconst 1, 1) := by decide +kernel
theorem dX5_orders_17 : decode cX5_orders 17 = .ok (.iload_n 2, 1) := by decide +kernel
theorem dX5_orders_18 : decode cX5_orders 18 = .ok (.ishl, 1) := by decide +kernel
theorem dX5_orders_19 : decode cX5_orders 19 = .ok (.iconst 1, 1) := by decide +kernel
theorem dX5_orders_20 : decode cX5_orders 20 = .ok (.isub, 1) := by decide +kernel
theorem dX5_orders_21 : decode cX5_orders 21 = .ok (.if_icmp .ne 7, 3) := by decide +kernel
theorem dX5_orders_24 : decode cX5_orders 24 = .ok (.iconst 1, 1) := by decide +kernel
theorem dX5_orders_25 : decode cX5_orders 25 = .ok (.goto 4, 3) := by decide +kernel
theorem dX5_orders_28 : decode cX5_orders 28 = .ok (.iconst 0, 1) := by decide +kernel
theorem dX5_orders_29 : decode cX5_orders 29 = .ok (.bastore, 1) := by decide +kernel
theorem dX5_orders_30 : decode cX5_orders 30 = .ok (.iconst 0, 1) := by decide +kernel
theorem dX5_orders_31 : decode cX5_orders 31 = .ok (.istore 4, 2) := by decide +kernel
theorem dX5_orders_33 : decode cX5_orders 33 = .ok (.iload 4, 2) := by decide +kernel
theorem dX5_orders_35 : decode cX5_orders 35 = .ok (.iload_n 2, 1) := by decide +kernel
theorem dX5_orders_36 : decode cX5_orders 36 = .ok (.if_icmp .ge 85, 3) := by decide +kernel
theorem dX5_orders_39 : decode cX5_orders 39 = .ok (.iload_n 3, 1) := by decide +kernel
theorem dX5_orders_40 : decode cX5_orders 40 = .ok (.iload 4, 2) := by decide +kernel
theorem dX5_orders_42 : decode cX5_orders 42 = .ok (.ishr, 1) := by decide +kernel
theorem dX5_orders_43 : decode cX5_orders 43 = .ok (.iconst 1, 1) := by decide +kernel
theorem dX5_orders_44 : decode cX5_orders 44 = .ok (.iand, 1) := by decide +kernel
theorem dX5_orders_45 : decode cX5_orders 45 = .ok (.ifCond .ne 42, 3) := by decide +kernel
theorem dX5_orders_48 : decode cX5_orders 48 = .ok (.aload_n 0, 1) := by decide +kernel
theorem dX5_orders_49 : decode cX5_orders 49 = .ok (.getfield 75, 3) := by decide +kernel
theorem dX5_orders_52 : decode cX5_orders 52 = .ok (.iload_n 3, 1) := by decide +kernel
theorem dX5_orders_53 : decode cX5_orders 53 = .ok (.iconst 1, 1) := by decide +kernel
theorem dX5_orders_54 : decode cX5_orders 54 = .ok (.iload 4, 2) := by decide +kernel
theorem dX5_orders_56 : decode cX5_orders 56 = .ok (.ishl, 1) := by decide +kernel
theorem dX5_orders_57 : decode cX5_orders 57 = .ok (.ior, 1) := by decide +kernel
theorem dX5_orders_58 : decode cX5_orders 58 = .ok (.baload, 1) := by decide +kernel
theorem dX5_orders_59 : decode cX5_orders 59 = .ok (.ifCond .eq 28, 3) := by decide +kernel
theorem dX5_orders_62 : decode cX5_orders 62 = .ok (.aload_n 0, 1) := by decide +kernel
theorem dX5_orders_63 : decode cX5_orders 63 = .ok (.iload_n 1, 1) := by decide +kernel
theorem dX5_orders_64 : decode cX5_orders 64 = .ok (.aload_n 0, 1) := by decide +kernel
theorem dX5_orders_65 : decode cX5_orders 65 = .ok (.getfield 72, 3) := by decide +kernel
theorem dX5_orders_68 : decode cX5_orders 68 = .ok (.iload 4, 2) := by decide +kernel
theorem dX5_orders_70 : decode cX5_orders 70 = .ok (.iaload, 1) := by decide +kernel
theorem dX5_orders_71 : decode cX5_orders 71 = .ok (.aload_n 0, 1) := by decide +kernel
theorem dX5_orders_72 : decode cX5_orders 72 = .ok (.iload_n 3, 1) := by decide +kernel
theorem dX5_orders_73 : decode cX5_orders 73 = .ok (.iload_n 2, 1) := by decide +kernel
theorem dX5_orders_74 : decode cX5_orders 74 = .ok (.invokevirtual 147, 3) := by decide +kernel
theorem dX5_orders_77 : decode cX5_orders 77 = .ok (.invokevirtual 150, 3) := by decide +kernel
theorem dX5_orders_80 : decode cX5_orders 80 = .ok (.ifCond .eq 7, 3) := by decide +kernel
theorem dX5_orders_83 : decode cX5_orders 83 = .ok (.iconst 1, 1) := by decide +kernel
theorem dX5_orders_84 : decode cX5_orders 84 = .ok (.goto 4, 3) := by decide +kernel
theorem dX5_orders_87 : decode cX5_orders 87 = .ok (.iconst 0, 1) := by decide +kernel
theorem dX5_orders_88 : decode cX5_orders 88 = .ok (.istore 5, 2) := by decide +kernel
theorem dX5_orders_90 : decode cX5_orders 90 = .ok (.aload_n 0, 1) := by decide +kernel
theorem dX5_orders_91 : decode cX5_orders 91 = .ok (.getfield 75, 3) := by decide +kernel
theorem dX5_orders_94 : decode cX5_orders 94 = .ok (.iload_n 3, 1) := by decide +kernel
theorem dX5_orders_95 : decode cX5_orders 95 = .ok (.aload_n 0, 1) := by decide +kernel
theorem dX5_orders_96 : decode cX5_orders 96 = .ok (.getfield 75, 3) := by decide +kernel
theorem dX5_orders_99 : decode cX5_orders 99 = .ok (.iload_n 3, 1) := by decide +kernel
theorem dX5_orders_100 : decode cX5_orders 100 = .ok (.baload, 1) := by decide +kernel
theorem dX5_orders_101 : decode cX5_orders 101 = .ok (.ifCond .ne 8, 3) := by decide +kernel
theorem dX5_orders_104 : decode cX5_orders 104 = .ok (.iload 5, 2) := by decide +kernel
theorem dX5_orders_106 : decode cX5_orders 106 = .ok (.ifCond .eq 7, 3) := by decide +kernel
theorem dX5_orders_109 : decode cX5_orders 109 = .ok (.iconst 1, 1) := by decide +kernel
theorem dX5_orders_110 : decode cX5_orders 110 = .ok (.goto 4, 3) := by decide +kernel
theorem dX5_orders_113 : decode cX5_orders 113 = .ok (.iconst 0, 1) := by decide +kernel
theorem dX5_orders_114 : decode cX5_orders 114 = .ok (.bastore, 1) := by decide +kernel
theorem dX5_orders_115 : decode cX5_orders 115 = .ok (.iinc 4 1, 3) := by decide +kernel
theorem dX5_orders_118 : decode cX5_orders 118 = .ok (.goto (-85), 3) := by decide +kernel
theorem dX5_orders_121 : decode cX5_orders 121 = .ok (.iinc 3 (-1), 3) := by decide +kernel
theorem dX5_orders_124 : decode cX5_orders 124 = .ok (.goto (-118), 3) := by decide +kernel
theorem dX5_orders_127 : decode cX5_orders 127 = .ok (.aload_n 0, 1) := by decide +kernel
theorem dX5_orders_128 : decode cX5_orders 128 = .ok (.getfield 75, 3) := by decide +kernel
theorem dX5_orders_131 : decode cX5_orders 131 = .ok (.iconst 0, 1) := by decide +kernel
theorem dX5_orders_132 : decode cX5_orders 132 = .ok (.baload, 1) := by decide +kernel
theorem dX5_orders_133 : decode cX5_orders 133 = .ok (.ireturn, 1) := by decide +kernel
theorem dX5_plan_0 : decode cX5_plan 0 = .ok (.aload_n 0, 1) := by decide +kernel
theorem dX5_plan_1 : decode cX5_plan 1 = .ok (.aload_n 0, 1) := by decide +kernel
theorem dX5_plan_2 : decode cX5_plan 2 = .ok (.iload_n 1, 1) := by decide +kernel
theorem dX5_plan_3 : decode cX5_plan 3 = .ok (.invokevirtual 118, 3) := by decide +kernel
theorem dX5_plan_6 : decode cX5_plan 6 = .ok (.ifCond .eq 21, 3) := by decide +kernel
theorem dX5_plan_9 : decode cX5_plan 9 = .ok (.iload_n 2, 1) := by decide +kernel
theorem dX5_plan_10 : decode cX5_plan 10 = .ok (.ifCond .lt 17, 3) := by decide +kernel
theorem dX5_plan_13 : decode cX5_plan 13 = .ok (.iload_n 2, 1) := by decide +kernel
theorem dX5_plan_14 : decode cX5_plan 14 = .ok (.iconst 1, 1) := by decide +kernel
theorem dX5_plan_15 : decode cX5_plan 15 = .ok (.aload_n 0, 1) := by decide +kernel
theorem dX5_plan_16 : decode cX5_plan 16 = .ok (.getfield 89, 3) := by decide +kernel
theorem dX5_plan_19 : decode cX5_plan 19 = .ok (.ishl, 1) := by decide +kernel
theorem dX5_plan_20 : decode cX5_plan 20 = .ok (.if_icmp .ge 7, 3) := by decide +kernel
theorem dX5_plan_23 : decode cX5_plan 23 = .ok (.iconst 1, 1) := by decide +kernel
theorem dX5_plan_24 : decode cX5_plan 24 = .ok (.goto 4, 3) := by decide +kernel
theorem dX5_plan_27 : decode cX5_plan 27 = .ok (.iconst 0, 1) := by decide +kernel
theorem dX5_plan_28 : decode cX5_plan 28 = .ok (.iconst 1, 1) := by decide +kernel
theorem dX5_plan_29 : decode cX5_plan 29 = .ok (.iconst 1, 1) := by decide +kernel
theorem dX5_plan_30 : decode cX5_plan 30 = .ok (.invokevirtual 85, 3) := by decide +kernel
theorem dX5_plan_33 : decode cX5_plan 33 = .ok (.ifCond .ne 5, 3) := by decide +kernel
theorem dX5_plan_36 : decode cX5_plan 36 = .ok (.iconst 0, 1) := by decide +kernel
theorem dX5_plan_37 : decode cX5_plan 37 = .ok (.ireturn, 1) := by decide +kernel
theorem dX5_plan_38 : decode cX5_plan 38 = .ok (.aload_n 0, 1) := by decide +kernel
theorem dX5_plan_39 : decode cX5_plan 39 = .ok (.iload_n 2, 1) := by decide +kernel
theorem dX5_plan_40 : decode cX5_plan 40 = .ok (.invokevirtual 153, 3) := by decide +kernel
theorem dX5_plan_43 : decode cX5_plan 43 = .ok (.istore_n 3, 1) := by decide +kernel
theorem dX5_plan_44 : decode cX5_plan 44 = .ok (.iconst 0, 1) := by decide +kernel
theorem dX5_plan_45 : decode cX5_plan 45 = .ok (.istore 4, 2) := by decide +kernel
theorem dX5_plan_47 : decode cX5_plan 47 = .ok (.iconst 1, 1) := by decide +kernel
theorem dX5_plan_48 : decode cX5_plan 48 = .ok (.istore 5, 2) := by decide +kernel
theorem dX5_plan_50 : decode cX5_plan 50 = .ok (.iconst 0, 1) := by decide +kernel
theorem dX5_plan_51 : decode cX5_plan 51 = .ok (.istore 6, 2) := by decide +kernel
theorem dX5_plan_53 : decode cX5_plan 53 = .ok (.iload 6, 2) := by decide +kernel
theorem dX5_plan_55 : decode cX5_plan 55 = .ok (.bipush 12, 2) := by decide +kernel
theorem dX5_plan_57 : decode cX5_plan 57 = .ok (.if_icmp .ge 81, 3) := by decide +kernel
theorem dX5_plan_60 : decode cX5_plan 60 = .ok (.iload_n 3, 1) := by decide +kernel
theorem dX5_plan_61 : decode cX5_plan 61 = .ok (.iload 6, 2) := by decide +kernel
theorem dX5_plan_63 : decode cX5_plan 63 = .ok (.ishr, 1) := by decide +kernel
theorem dX5_plan_64 : decode cX5_plan 64 = .ok (.iconst 1, 1) := by decide +kernel
theorem dX5_plan_65 : decode cX5_plan 65 = .ok (.iand, 1) := by decide +kernel
theorem dX5_plan_66 : decode cX5_plan 66 = .ok (.iconst 1, 1) := by decide +kernel
theorem dX5_plan_67 : decode cX5_plan 67 = .ok (.if_icmp .ne 65, 3) := by decide +kernel
theorem dX5_plan_70 : decode cX5_plan 70 = .ok (.aload_n 0, 1) := by decide +kernel
theorem dX5_plan_71 : decode cX5_plan 71 = .ok (.iload_n 1, 1) := by decide +kernel
theorem dX5_plan_72 : decode cX5_plan 72 = .ok (.iload 6, 2) := by decide +kernel
theorem dX5_plan_74 : decode cX5_plan 74 = .ok (.invokevirtual 125, 3) := by decide +kernel
theorem dX5_plan_77 : decode cX5_plan 77 = .ok (.iconst (-1), 1) := by decide +kernel
theorem dX5_plan_78 : decode cX5_plan 78 = .ok (.if_icmp .ne 54, 3) := by decide +kernel
theorem dX5_plan_81 : decode cX5_plan 81 = .ok (.iload 5, 2) := by decide +kernel
theorem dX5_plan_83 : decode cX5_plan 83 = .ok (.ifCond .eq 27, 3) := by decide +kernel
theorem dX5_plan_86 : decode cX5_plan 86 = .ok (.iload 6, 2) := by decide +kernel
theorem dX5_plan_88 : decode cX5_plan 88 = .ok (.aload_n 0, 1) := by decide +kernel
theorem dX5_plan_89 : decode cX5_plan 89 = .ok (.getfield 89, 3) := by decide +kernel
theorem dX5_plan_92 : decode cX5_plan 92 = .ok (.if_icmp .ge 18, 3) := by decide +kernel
theorem dX5_plan_95 : decode cX5_plan 95 = .ok (.aload_n 0, 1) := by decide +kernel
theorem dX5_plan_96 : decode cX5_plan 96 = .ok (.iload_n 1, 1) := by decide +kernel
theorem dX5_plan_97 : decode cX5_plan 97 = .ok (.iload 6, 2) := by decide +kernel
theorem dX5_plan_99 : decode cX5_plan 99 = .ok (.invokevirtual 128, 3) := by decide +kernel
theorem dX5_plan_102 : decode cX5_plan 102 = .ok (.iconst (-1), 1) := by decide +kernel
theorem dX5_plan_103 : decode cX5_plan 103 = .ok (.if_icmp .ne 7, 3) := by decide +kernel
theorem dX5_plan_106 : decode cX5_plan 106 = .ok (.iconst 1, 1) := by decide +kernel
theorem dX5_plan_107 : decode cX5_plan 107 = .ok (.goto 4, 3) := by decide +kernel
theorem dX5_plan_110 : decode cX5_plan 110 = .ok (.iconst 0, 1) := by decide +kernel
theorem dX5_plan_111 : decode cX5_plan 111 = .ok (.istore 5, 2) := by decide +kernel
theorem dX5_plan_113 : decode cX5_plan 113 = .ok (.iload 4, 2) := by decide +kernel
theorem dX5_plan_115 : decode cX5_plan 115 = .ok (.bipush 10, 2) := by decide +kernel
theorem dX5_plan_117 : decode cX5_plan 117 = .ok (.if_icmp .ge 12, 3) := by decide +kernel
theorem dX5_plan_120 : decode cX5_plan 120 = .ok (.aload_n 0, 1) := by decide +kernel
theorem dX5_plan_121 : decode cX5_plan 121 = .ok (.getfield 72, 3) := by decide +kernel
theorem dX5_plan_124 : decode cX5_plan 124 = .ok (.iload 4, 2) := by decide +kernel
theorem dX5_plan_126 : decode cX5_plan 126 = .ok (.iload 6, 2) := by decide +kernel
theorem dX5_plan_128 : decode cX5_plan 128 = .ok (.iastore, 1) := by decide +kernel
theorem dX5_plan_129 : decode cX5_plan 129 = .ok (.iinc 4 1, 3) := by decide +kernel
theorem dX5_plan_132 : decode cX5_plan 132 = .ok (.iinc 6 1, 3) := by decide +kernel
theorem dX5_plan_135 : decode cX5_plan 135 = .ok (.goto (-82), 3) := by decide +kernel
theorem dX5_plan_138 : decode cX5_plan 138 = .ok (.iload 4, 2) := by decide +kernel
theorem dX5_plan_140 : decode cX5_plan 140 = .ok (.bipush 10, 2) := by decide +kernel
theorem dX5_plan_142 : decode cX5_plan 142 = .ok (.if_icmp .le 6, 3) := by decide +kernel
theorem dX5_plan_145 : decode cX5_plan 145 = .ok (.bipush (-2), 2) := by decide +kernel
theorem dX5_plan_147 : decode cX5_plan 147 = .ok (.ireturn, 1) := by decide +kernel
theorem dX5_plan_148 : decode cX5_plan 148 = .ok (.iload 5, 2) := by decide +kernel
theorem dX5_plan_150 : decode cX5_plan 150 = .ok (.ifCond .eq 13, 3) := by decide +kernel
theorem dX5_plan_153 : decode cX5_plan 153 = .ok (.aload_n 0, 1) := by decide +kernel
theorem dX5_plan_154 : decode cX5_plan 154 = .ok (.iload_n 1, 1) := by decide +kernel
theorem dX5_plan_155 : decode cX5_plan 155 = .ok (.iload 4, 2) := by decide +kernel
theorem dX5_plan_157 : decode cX5_plan 157 = .ok (.invokevirtual 156, 3) := by decide +kernel
theorem dX5_plan_160 : decode cX5_plan 160 = .ok (.ifCond .ne 5, 3) := by decide +kernel
theorem dX5_plan_163 : decode cX5_plan 163 = .ok (.iconst (-1), 1) := by decide +kernel
theorem dX5_plan_164 : decode cX5_plan 164 = .ok (.ireturn, 1) := by decide +kernel
theorem dX5_plan_165 : decode cX5_plan 165 = .ok (.iconst 0, 1) := by decide +kernel
theorem dX5_plan_166 : decode cX5_plan 166 = .ok (.istore 6, 2) := by decide +kernel
theorem dX5_plan_168 : decode cX5_plan 168 = .ok (.iconst 0, 1) := by decide +kernel
theorem dX5_plan_169 : decode cX5_plan 169 = .ok (.istore 7, 2) := by decide +kernel
theorem dX5_plan_171 : decode cX5_plan 171 = .ok (.iload 7, 2) := by decide +kernel
theorem dX5_plan_173 : decode cX5_plan 173 = .ok (.iload 4, 2) := by decide +kernel
theorem dX5_plan_175 : decode cX5_plan 175 = .ok (.if_icmp .ge 90, 3) := by decide +kernel
theorem dX5_plan_178 : decode cX5_plan 178 = .ok (.iconst 0, 1) := by decide +kernel
theorem dX5_plan_179 : decode cX5_plan 179 = .ok (.istore 8, 2) := by decide +kernel
theorem dX5_plan_181 : decode cX5_plan 181 = .ok (.iload 6, 2) := by decide +kernel
theorem dX5_plan_183 : decode cX5_plan 183 = .ok (.iload 8, 2) := by decide +kernel
theorem dX5_plan_185 : decode cX5_plan 185 = .ok (.ishr, 1) := by decide +kernel
theorem dX5_plan_186 : decode cX5_plan 186 = .ok (.iconst 1, 1) := by decide +kernel
theorem dX5_plan_187 : decode cX5_plan 187 = .ok (.iand, 1) := by decide +kernel
theorem dX5_plan_188 : decode cX5_plan 188 = .ok (.iconst 1, 1) := by decide +kernel
theorem dX5_plan_189 : decode cX5_plan 189 = .ok (.if_icmp .eq 41, 3) := by decide +kernel
theorem dX5_plan_192 : decode cX5_plan 192 = .ok (.aload_n 0, 1) := by decide +kernel
theorem dX5_plan_193 : decode cX5_plan 193 = .ok (.getfield 75, 3) := by decide +kernel
theorem dX5_plan_196 : decode cX5_plan 196 = .ok (.iload 6, 2) := by decide +kernel
theorem dX5_plan_198 : decode cX5_plan 198 = .ok (.iconst 1, 1) := by decide +kernel
theorem dX5_plan_199 : decode cX5_plan 199 = .ok (.iload 8, 2) := by decide +kernel
theorem dX5_plan_201 : decode cX5_plan 201 = .ok (.ishl, 1) := by decide +kernel
theorem dX5_plan_202 : decode cX5_plan 202 = .ok (.ior, 1) := by decide +kernel
theorem dX5_plan_203 : decode cX5_plan 203 = .ok (.baload, 1) := by decide +kernel
theorem dX5_plan_204 : decode cX5_plan 204 = .ok (.ifCond .eq 26, 3) := by decide +kernel
theorem dX5_plan_207 : decode cX5_plan 207 = .ok (.aload_n 0, 1) := by decide +kernel
theorem dX5_plan_208 : decode cX5_plan 208 = .ok (.iload_n 1, 1) := by decide +kernel
theorem dX5_plan_209 : decode cX5_plan 209 = .ok (.aload_n 0, 1) := by decide +kernel
theorem dX5_plan_210 : decode cX5_plan 210 = .ok (.getfield 72, 3) := by decide +kernel
theorem dX5_plan_213 : decode cX5_plan 213 = .ok (.iload 8, 2) := by decide +kernel
theorem dX5_plan_215 : decode cX5_plan 215 = .ok (.iaload, 1) := by decide +kernel
theorem dX5_plan_216 : decode cX5_plan 216 = .ok (.aload_n 0, 1) := by decide +kernel
theorem dX5_plan_217 : decode cX5_plan 217 = .ok (.iload 6, 2) := by decide +kernel
theorem dX5_plan_219 : decode cX5_plan 219 = .ok (.iload 4, 2) := by decide +kernel
theorem dX5_plan_221 : decode cX5_plan 221 = .ok (.invokevirtual 147, 3) := by decide +kernel
theorem dX5_plan_224 : decode cX5_plan 224 = .ok (.invokevirtual 150, 3) := by decide +kernel
theorem dX5_plan_227 : decode cX5_plan 227 = .ok (.ifCond .ne 9, 3) := by decide +kernel
theorem dX5_plan_230 : decode cX5_plan 230 = .ok (.iinc 8 1, 3) := by decide +kernel
theorem dX5_plan_233 : decode cX5_plan 233 = .ok (.goto (-52), 3) := by decide +kernel
theorem dX5_plan_236 : decode cX5_plan 236 = .ok (.aload_n 0, 1) := by decide +kernel
theorem dX5_plan_237 : decode cX5_plan 237 = .ok (.getfield 69, 3) := by decide +kernel
theorem dX5_plan_240 : decode cX5_plan 240 = .ok (.iload 7, 2) := by decide +kernel
theorem dX5_plan_242 : decode cX5_plan 242 = .ok (.aload_n 0, 1) := by decide +kernel
theorem dX5_plan_243 : decode cX5_plan 243 = .ok (.getfield 72, 3) := by decide +kernel
theorem dX5_plan_246 : decode cX5_plan 246 = .ok (.iload 8, 2) := by decide +kernel
theorem dX5_plan_248 : decode cX5_plan 248 = .ok (.iaload, 1) := by decide +kernel
theorem dX5_plan_249 : decode cX5_plan 249 = .ok (.iastore, 1) := by decide +kernel
theorem dX5_plan_250 : decode cX5_plan 250 = .ok (.iload 6, 2) := by decide +kernel
theorem dX5_plan_252 : decode cX5_plan 252 = .ok (.iconst 1, 1) := by decide +kernel
theorem dX5_plan_253 : decode cX5_plan 253 = .ok (.iload 8, 2) := by decide +kernel
theorem dX5_plan_255 : decode cX5_plan 255 = .ok (.ishl, 1) := by decide +kernel
theorem dX5_plan_256 : decode cX5_plan 256 = .ok (.ior, 1) := by decide +kernel
theorem dX5_plan_257 : decode cX5_plan 257 = .ok (.istore 6, 2) := by decide +kernel
theorem dX5_plan_259 : decode cX5_plan 259 = .ok (.iinc 7 1, 3) := by decide +kernel
theorem dX5_plan_262 : decode cX5_plan 262 = .ok (.goto (-91), 3) := by decide +kernel
theorem dX5_plan_265 : decode cX5_plan 265 = .ok (.aload_n 0, 1) := by decide +kernel
theorem dX5_plan_266 : decode cX5_plan 266 = .ok (.iload 4, 2) := by decide +kernel
theorem dX5_plan_268 : decode cX5_plan 268 = .ok (.putfield 159, 3) := by decide +kernel
theorem dX5_plan_271 : decode cX5_plan 271 = .ok (.iload 4, 2) := by decide +kernel
theorem dX5_plan_273 : decode cX5_plan 273 = .ok (.ireturn, 1) := by decide +kernel
theorem dX5_step_0 : decode cX5_step 0 = .ok (.aload_n 0, 1) := by decide +kernel
theorem dX5_step_1 : decode cX5_step 1 = .ok (.iload_n 1, 1) := by decide +kernel
theorem dX5_step_2 : decode cX5_step 2 = .ok (.aload_n 0, 1) := by decide +kernel
theorem dX5_step_3 : decode cX5_step 3 = .ok (.getfield 159, 3) := by decide +kernel
theorem dX5_step_6 : decode cX5_step 6 = .ok (.invokestatic 104, 3) := by decide +kernel
theorem dX5_step_9 : decode cX5_step 9 = .ok (.iconst 1, 1) := by decide +kernel
theorem dX5_step_10 : decode cX5_step 10 = .ok (.iconst 1, 1) := by decide +kernel
theorem dX5_step_11 : decode cX5_step 11 = .ok (.invokevirtual 85, 3) := by decide +kernel
theorem dX5_step_14 : decode cX5_step 14 = .ok (.ifCond .eq 12, 3) := by decide +kernel
theorem dX5_step_17 : decode cX5_step 17 = .ok (.aload_n 0, 1) := by decide +kernel
theorem dX5_step_18 : decode cX5_step 18 = .ok (.getfield 69, 3) := by decide +kernel
theorem dX5_step_21 : decode cX5_step 21 = .ok (.iload_n 1, 1) := by decide +kernel
theorem dX5_step_22 : decode cX5_step 22 = .ok (.iaload, 1) := by decide +kernel
theorem dX5_step_23 : decode cX5_step 23 = .ok (.goto 4, 3) := by decide +kernel
theorem dX5_step_26 : decode cX5_step 26 = .ok (.iconst 0, 1) := by decide +kernel
theorem dX5_step_27 : decode cX5_step 27 = .ok (.ireturn, 1) := by decide +kernel
theorem dX5_count_0 : decode cX5_count 0 = .ok (.aload_n 0, 1) := by decide +kernel
theorem dX5_count_1 : decode cX5_count 1 = .ok (.iload_n 1, 1) := by decide +kernel
theorem dX5_count_2 : decode cX5_count 2 = .ok (.iconst 5, 1) := by decide +kernel
theorem dX5_count_3 : decode cX5_count 3 = .ok (.invokestatic 104, 3) := by decide +kernel
theorem dX5_count_6 : decode cX5_count 6 = .ok (.iconst 1, 1) := by decide +kernel
theorem dX5_count_7 : decode cX5_count 7 = .ok (.iconst 1, 1) := by decide +kernel
theorem dX5_count_8 : decode cX5_count 8 = .ok (.invokevirtual 85, 3) := by decide +kernel
theorem dX5_count_11 : decode cX5_count 11 = .ok (.ifCond .ne 5, 3) := by decide +kernel
theorem dX5_count_14 : decode cX5_count 14 = .ok (.iconst 0, 1) := by decide +kernel
theorem dX5_count_15 : decode cX5_count 15 = .ok (.ireturn, 1) := by decide +kernel
theorem dX5_count_16 : decode cX5_count 16 = .ok (.iconst 0, 1) := by decide +kernel
theorem dX5_count_17 : decode cX5_count 17 = .ok (.istore_n 2, 1) := by decide +kernel
theorem dX5_count_18 : decode cX5_count 18 = .ok (.iconst 0, 1) := by decide +kernel
theorem dX5_count_19 : decode cX5_count 19 = .ok (.istore_n 3, 1) := by decide +kernel
theorem dX5_count_20 : decode cX5_count 20 = .ok (.iload_n 3, 1) := by decide +kernel
theorem dX5_count_21 : decode cX5_count 21 = .ok (.aload_n 0, 1) := by decide +kernel
theorem dX5_count_22 : decode cX5_count 22 = .ok (.getfield 115, 3) := by decide +kernel
theorem dX5_count_25 : decode cX5_count 25 = .ok (.if_icmp .ge 18, 3) := by decide +kernel
theorem dX5_count_28 : decode cX5_count 28 = .ok (.iload_n 2, 1) := by decide +kernel
theorem dX5_count_29 : decode cX5_count 29 = .ok (.aload_n 0, 1) := by decide +kernel
theorem dX5_count_30 : decode cX5_count 30 = .ok (.getfield 38, 3) := by decide +kernel
theorem dX5_count_33 : decode cX5_count 33 = .ok (.iload_n 3, 1) := by decide +kernel
theorem dX5_count_34 : decode cX5_count 34 = .ok (.iaload, 1) := by decide +kernel
theorem dX5_count_35 : decode cX5_count 35 = .ok (.iadd, 1) := by decide +kernel
theorem dX5_count_36 : decode cX5_count 36 = .ok (.istore_n 2, 1) := by decide +kernel
theorem dX5_count_37 : decode cX5_count 37 = .ok (.iinc 3 1, 3) := by decide +kernel
theorem dX5_count_40 : decode cX5_count 40 = .ok (.goto (-20), 3) := by decide +kernel
theorem dX5_count_43 : decode cX5_count 43 = .ok (.iload_n 1, 1) := by decide +kernel
theorem dX5_count_44 : decode cX5_count 44 = .ok (.ifCond .ne 10, 3) := by decide +kernel
theorem dX5_count_47 : decode cX5_count 47 = .ok (.aload_n 0, 1) := by decide +kernel
theorem dX5_count_48 : decode cX5_count 48 = .ok (.getfield 82, 3) := by decide +kernel
theorem dX5_count_51 : decode cX5_count 51 = .ok (.goto 40, 3) := by decide +kernel
theorem dX5_count_54 : decode cX5_count 54 = .ok (.iload_n 1, 1) := by decide +kernel
theorem dX5_count_55 : decode cX5_count 55 = .ok (.iconst 1, 1) := by decide +kernel
theorem dX5_count_56 : decode cX5_count 56 = .ok (.if_icmp .ne 10, 3) := by decide +kernel
theorem dX5_count_59 : decode cX5_count 59 = .ok (.aload_n 0, 1) := by decide +kernel
theorem dX5_count_60 : decode cX5_count 60 = .ok (.getfield 89, 3) := by decide +kernel
theorem dX5_count_63 : decode cX5_count 63 = .ok (.goto 28, 3) := by decide +kernel
theorem dX5_count_66 : decode cX5_count 66 = .ok (.iload_n 1, 1) := by decide +kernel
theorem dX5_count_67 : decode cX5_count 67 = .ok (.iconst 2, 1) := by decide +kernel
theorem dX5_count_68 : decode cX5_count 68 = .ok (.if_icmp .ne 10, 3) := by decide +kernel
theorem dX5_count_71 : decode cX5_count 71 = .ok (.aload_n 0, 1) := by decide +kernel
theorem dX5_count_72 : decode cX5_count 72 = .ok (.getfield 115, 3) := by decide +kernel
theorem dX5_count_75 : decode cX5_count 75 = .ok (.goto 16, 3) := by decide +kernel
theorem dX5_count_78 : decode cX5_count 78 = .ok (.iload_n 1, 1) := by decide +kernel
theorem dX5_count_79 : decode cX5_count 79 = .ok (.iconst 3, 1) := by decide +kernel
theorem dX5_count_80 : decode cX5_count 80 = .ok (.if_icmp .ne 7, 3) := by decide +kernel
theorem dX5_count_83 : decode cX5_count 83 = .ok (.iload_n 2, 1) := by decide +kernel
theorem dX5_count_84 : decode cX5_count 84 = .ok (.goto 7, 3) := by decide +kernel
theorem dX5_count_87 : decode cX5_count 87 = .ok (.aload_n 0, 1) := by decide +kernel
theorem dX5_count_88 : decode cX5_count 88 = .ok (.getfield 159, 3) := by decide +kernel
theorem dX5_count_91 : decode cX5_count 91 = .ok (.ireturn, 1) := by decide +kernel
