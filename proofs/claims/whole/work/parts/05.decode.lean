theorem dX4_row_62 : decode cX4_row 62 = .ok (.aload_n 0, 1) := by decide +kernel
theorem dX4_row_63 : decode cX4_row 63 = .ok (.getfield 135, 3) := by decide +kernel
theorem dX4_row_66 : decode cX4_row 66 = .ok (.dload_n 1, 1) := by decide +kernel
theorem dX4_row_67 : decode cX4_row 67 = .ok (.dastore, 1) := by decide +kernel
theorem dX4_row_68 : decode cX4_row 68 = .ok (.aload_n 0, 1) := by decide +kernel
theorem dX4_row_69 : decode cX4_row 69 = .ok (.getfield 51, 3) := by decide +kernel
theorem dX4_row_72 : decode cX4_row 72 = .ok (.aload_n 0, 1) := by decide +kernel
theorem dX4_row_73 : decode cX4_row 73 = .ok (.getfield 135, 3) := by decide +kernel
theorem dX4_row_76 : decode cX4_row 76 = .ok (.dload_n 3, 1) := by decide +kernel
theorem dX4_row_77 : decode cX4_row 77 = .ok (.dastore, 1) := by decide +kernel
theorem dX4_row_78 : decode cX4_row 78 = .ok (.aload_n 0, 1) := by decide +kernel
theorem dX4_row_79 : decode cX4_row 79 = .ok (.dup, 1) := by decide +kernel
theorem dX4_row_80 : decode cX4_row 80 = .ok (.getfield 135, 3) := by decide +kernel
theorem dX4_row_83 : decode cX4_row 83 = .ok (.iconst 1, 1) := by decide +kernel
theorem dX4_row_84 : decode cX4_row 84 = .ok (.iadd, 1) := by decide +kernel
theorem dX4_row_85 : decode cX4_row 85 = .ok (.putfield 135, 3) := by decide +kernel
theorem dX4_row_88 : decode cX4_row 88 = .ok (.iconst 1, 1) := by decide +kernel
theorem dX4_row_89 : decode cX4_row 89 = .ok (.ireturn, 1) := by decide +kernel
theorem dX4_warm_0 : decode cX4_warm 0 = .ok (.aload_n 0, 1) := by decide +kernel
theorem dX4_warm_1 : decode cX4_warm 1 = .ok (.iload_n 1, 1) := by decide +kernel
theorem dX4_warm_2 : decode cX4_warm 2 = .ok (.invokevirtual 108, 3) := by decide +kernel
theorem dX4_warm_5 : decode cX4_warm 5 = .ok (.ifCond .eq 38, 3) := by decide +kernel
theorem dX4_warm_8 : decode cX4_warm 8 = .ok (.aload_n 0, 1) := by decide +kernel
theorem dX4_warm_9 : decode cX4_warm 9 = .ok (.getfield 23, 3) := by decide +kernel
theorem dX4_warm_12 : decode cX4_warm 12 = .ok (.iload_n 1, 1) := by decide +kernel
theorem dX4_warm_13 : decode cX4_warm 13 = .ok (.iaload, 1) := by decide +kernel
theorem dX4_warm_14 : decode cX4_warm 14 = .ok (.iconst 2, 1) := by decide +kernel
theorem dX4_warm_15 : decode cX4_warm 15 = .ok (.if_icmp .ge 28, 3) := by decide +kernel
theorem dX4_warm_18 : decode cX4_warm 18 = .ok (.iload_n 2, 1) := by decide +kernel
theorem dX4_warm_19 : decode cX4_warm 19 = .ok (.i2l, 1) := by decide +kernel
theorem dX4_warm_20 : decode cX4_warm 20 = .ok (.lconst 0, 1) := by decide +kernel
theorem dX4_warm_21 : decode cX4_warm 21 = .ok (.ldc2_w 144, 3) := by decide +kernel
theorem dX4_warm_24 : decode cX4_warm 24 = .ok (.invokestatic 88, 3) := by decide +kernel
theorem dX4_warm_27 : decode cX4_warm 27 = .ok (.ifCond .eq 16, 3) := by decide +kernel
theorem dX4_warm_30 : decode cX4_warm 30 = .ok (.dload_n 3, 1) := by decide +kernel
theorem dX4_warm_31 : decode cX4_warm 31 = .ok (.ldc2_w 138, 3) := by decide +kernel
theorem dX4_warm_34 : decode cX4_warm 34 = .ok (.ldc2_w 146, 3) := by decide +kernel
theorem dX4_warm_37 : decode cX4_warm 37 = .ok (.invokestatic 125, 3) := by decide +kernel
theorem dX4_warm_40 : decode cX4_warm 40 = .ok (.ifCond .ne 7, 3) := by decide +kernel
theorem dX4_warm_43 : decode cX4_warm 43 = .ok (.ldc2_w 148, 3) := by decide +kernel
theorem dX4_warm_46 : decode cX4_warm 46 = .ok (.dreturn, 1) := by decide +kernel
theorem dX4_warm_47 : decode cX4_warm 47 = .ok (.iconst 0, 1) := by decide +kernel
theorem dX4_warm_48 : decode cX4_warm 48 = .ok (.istore 5, 2) := by decide +kernel
theorem dX4_warm_50 : decode cX4_warm 50 = .ok (.iload 5, 2) := by decide +kernel
theorem dX4_warm_52 : decode cX4_warm 52 = .ok (.iload_n 2, 1) := by decide +kernel
theorem dX4_warm_53 : decode cX4_warm 53 = .ok (.if_icmp .ge 152, 3) := by decide +kernel
theorem dX4_warm_56 : decode cX4_warm 56 = .ok (.aload_n 0, 1) := by decide +kernel
theorem dX4_warm_57 : decode cX4_warm 57 = .ok (.getfield 26, 3) := by decide +kernel
theorem dX4_warm_60 : decode cX4_warm 60 = .ok (.iload_n 1, 1) := by decide +kernel
theorem dX4_warm_61 : decode cX4_warm 61 = .ok (.daload, 1) := by decide +kernel
theorem dX4_warm_62 : decode cX4_warm 62 = .ok (.dstore 6, 2) := by decide +kernel
theorem dX4_warm_64 : decode cX4_warm 64 = .ok (.dconst 0, 1) := by decide +kernel
theorem dX4_warm_65 : decode cX4_warm 65 = .ok (.dstore 8, 2) := by decide +kernel
theorem dX4_warm_67 : decode cX4_warm 67 = .ok (.iconst 0, 1) := by decide +kernel
theorem dX4_warm_68 : decode cX4_warm 68 = .ok (.istore 10, 2) := by decide +kernel
theorem dX4_warm_70 : decode cX4_warm 70 = .ok (.iload 10, 2) := by decide +kernel
theorem dX4_warm_72 : decode cX4_warm 72 = .ok (.aload_n 0, 1) := by decide +kernel
theorem dX4_warm_73 : decode cX4_warm 73 = .ok (.getfield 135, 3) := by decide +kernel
theorem dX4_warm_76 : decode cX4_warm 76 = .ok (.if_icmp .ge 36, 3) := by decide +kernel
theorem dX4_warm_79 : decode cX4_warm 79 = .ok (.aload_n 0, 1) := by decide +kernel
theorem dX4_warm_80 : decode cX4_warm 80 = .ok (.getfield 48, 3) := by decide +kernel
theorem dX4_warm_83 : decode cX4_warm 83 = .ok (.iload 10, 2) := by decide +kernel
theorem dX4_warm_85 : decode cX4_warm 85 = .ok (.daload, 1) := by decide +kernel
theorem dX4_warm_86 : decode cX4_warm 86 = .ok (.dload 6, 2) := by decide +kernel
theorem dX4_warm_88 : decode cX4_warm 88 = .ok (.dcmp .g, 1) := by decide +kernel
theorem dX4_warm_89 : decode cX4_warm 89 = .ok (.ifCond .gt 13, 3) := by decide +kernel
theorem dX4_warm_92 : decode cX4_warm 92 = .ok (.aload_n 0, 1) := by decide +kernel
theorem dX4_warm_93 : decode cX4_warm 93 = .ok (.getfield 51, 3) := by decide +kernel
theorem dX4_warm_96 : decode cX4_warm 96 = .ok (.iload 10, 2) := by decide +kernel
theorem dX4_warm_98 : decode cX4_warm 98 = .ok (.daload, 1) := by decide +kernel
theorem dX4_warm_99 : decode cX4_warm 99 = .ok (.goto 5, 3) := by decide +kernel
theorem dX4_warm_102 : decode cX4_warm 102 = .ok (.dload 8, 2) := by decide +kernel
theorem dX4_warm_104 : decode cX4_warm 104 = .ok (.dstore 8, 2) := by decide +kernel
theorem dX4_warm_106 : decode cX4_warm 106 = .ok (.iinc 10 1, 3) := by decide +kernel
theorem dX4_warm_109 : decode cX4_warm 109 = .ok (.goto (-39), 3) := by decide +kernel
theorem dX4_warm_112 : decode cX4_warm 112 = .ok (.aload_n 0, 1) := by decide +kernel
theorem dX4_warm_113 : decode cX4_warm 113 = .ok (.getfield 26, 3) := by decide +kernel
theorem dX4_warm_116 : decode cX4_warm 116 = .ok (.iload_n 1, 1) := by decide +kernel
theorem dX4_warm_117 : decode cX4_warm 117 = .ok (.dload 6, 2) := by decide +kernel
theorem dX4_warm_119 : decode cX4_warm 119 = .ok (.dload 8, 2) := by decide +kernel
theorem dX4_warm_121 : decode cX4_warm 121 = .ok (.dadd, 1) := by decide +kernel
theorem dX4_warm_122 : decode cX4_warm 122 = .ok (.dload 6, 2) := by decide +kernel
theorem dX4_warm_124 : decode cX4_warm 124 = .ok (.dload_n 3, 1) := by decide +kernel
theorem dX4_warm_125 : decode cX4_warm 125 = .ok (.dsub, 1) := by decide +kernel
theorem dX4_warm_126 : decode cX4_warm 126 = .ok (.ldc2_w 133, 3) := by decide +kernel
theorem dX4_warm_129 : decode cX4_warm 129 = .ok (.dmul, 1) := by decide +kernel
theorem dX4_warm_130 : decode cX4_warm 130 = .ok (.dsub, 1) := by decide +kernel
theorem dX4_warm_131 : decode cX4_warm 131 = .ok (.dastore, 1) := by decide +kernel
theorem dX4_warm_132 : decode cX4_warm 132 = .ok (.aload_n 0, 1) := by decide +kernel
theorem dX4_warm_133 : decode cX4_warm 133 = .ok (.getfield 33, 3) := by decide +kernel
theorem dX4_warm_136 : decode cX4_warm 136 = .ok (.iload_n 1, 1) := by decide +kernel
theorem dX4_warm_137 : decode cX4_warm 137 = .ok (.aload_n 0, 1) := by decide +kernel
theorem dX4_warm_138 : decode cX4_warm 138 = .ok (.getfield 26, 3) := by decide +kernel
theorem dX4_warm_141 : decode cX4_warm 141 = .ok (.iload_n 1, 1) := by decide +kernel
theorem dX4_warm_142 : decode cX4_warm 142 = .ok (.daload, 1) := by decide +kernel
theorem dX4_warm_143 : decode cX4_warm 143 = .ok (.ldc2_w 146, 3) := by decide +kernel
theorem dX4_warm_146 : decode cX4_warm 146 = .ok (.dcmp .l, 1) := by decide +kernel
theorem dX4_warm_147 : decode cX4_warm 147 = .ok (.ifCond .lt 14, 3) := by decide +kernel
theorem dX4_warm_150 : decode cX4_warm 150 = .ok (.aload_n 0, 1) := by decide +kernel
theorem dX4_warm_151 : decode cX4_warm 151 = .ok (.getfield 33, 3) := by decide +kernel
theorem dX4_warm_154 : decode cX4_warm 154 = .ok (.iload_n 1, 1) := by decide +kernel
theorem dX4_warm_155 : decode cX4_warm 155 = .ok (.iaload, 1) := by decide +kernel
theorem dX4_warm_156 : decode cX4_warm 156 = .ok (.iconst 1, 1) := by decide +kernel
theorem dX4_warm_157 : decode cX4_warm 157 = .ok (.iadd, 1) := by decide +kernel
theorem dX4_warm_158 : decode cX4_warm 158 = .ok (.goto 4, 3) := by decide +kernel
theorem dX4_warm_161 : decode cX4_warm 161 = .ok (.iconst 0, 1) := by decide +kernel
theorem dX4_warm_162 : decode cX4_warm 162 = .ok (.iastore, 1) := by decide +kernel
theorem dX4_warm_163 : decode cX4_warm 163 = .ok (.aload_n 0, 1) := by decide +kernel
theorem dX4_warm_164 : decode cX4_warm 164 = .ok (.getfield 30, 3) := by decide +kernel
theorem dX4_warm_167 : decode cX4_warm 167 = .ok (.iload_n 1, 1) := by decide +kernel
theorem dX4_warm_168 : decode cX4_warm 168 = .ok (.aload_n 0, 1) := by decide +kernel
theorem dX4_warm_169 : decode cX4_warm 169 = .ok (.getfield 33, 3) := by decide +kernel
theorem dX4_warm_172 : decode cX4_warm 172 = .ok (.iload_n 1, 1) := by decide +kernel
theorem dX4_warm_173 : decode cX4_warm 173 = .ok (.iaload, 1) := by decide +kernel
theorem dX4_warm_174 : decode cX4_warm 174 = .ok (.aload_n 0, 1) := by decide +kernel
theorem dX4_warm_175 : decode cX4_warm 175 = .ok (.getfield 30, 3) := by decide +kernel
theorem dX4_warm_178 : decode cX4_warm 178 = .ok (.iload_n 1, 1) := by decide +kernel
theorem dX4_warm_179 : decode cX4_warm 179 = .ok (.iaload, 1) := by decide +kernel
theorem dX4_warm_180 : decode cX4_warm 180 = .ok (.if_icmp .le 12, 3) := by decide +kernel
theorem dX4_warm_183 : decode cX4_warm 183 = .ok (.aload_n 0, 1) := by decide +kernel
theorem dX4_warm_184 : decode cX4_warm 184 = .ok (.getfield 33, 3) := by decide +kernel
theorem dX4_warm_187 : decode cX4_warm 187 = .ok (.iload_n 1, 1) := by decide +kernel
theorem dX4_warm_188 : decode cX4_warm 188 = .ok (.iaload, 1) := by decide +kernel
theorem dX4_warm_189 : decode cX4_warm 189 = .ok (.goto 9, 3) := by decide +kernel
theorem dX4_warm_192 : decode cX4_warm 192 = .ok (.aload_n 0, 1) := by decide +kernel
theorem dX4_warm_193 : decode cX4_warm 193 = .ok (.getfield 30, 3) := by decide +kernel
theorem dX4_warm_196 : decode cX4_warm 196 = .ok (.iload_n 1, 1) := by decide +kernel
theorem dX4_warm_197 : decode cX4_warm 197 = .ok (.iaload, 1) := by decide +kernel
theorem dX4_warm_198 : decode cX4_warm 198 = .ok (.iastore, 1) := by decide +kernel
theorem dX4_warm_199 : decode cX4_warm 199 = .ok (.iinc 5 1, 3) := by decide +kernel
theorem dX4_warm_202 : decode cX4_warm 202 = .ok (.goto (-152), 3) := by decide +kernel
theorem dX4_warm_205 : decode cX4_warm 205 = .ok (.aload_n 0, 1) := by decide +kernel
theorem dX4_warm_206 : decode cX4_warm 206 = .ok (.getfield 26, 3) := by decide +kernel
theorem dX4_warm_209 : decode cX4_warm 209 = .ok (.iload_n 1, 1) := by decide +kernel
theorem dX4_warm_210 : decode cX4_warm 210 = .ok (.daload, 1) := by decide +kernel
theorem dX4_warm_211 : decode cX4_warm 211 = .ok (.dreturn, 1) := by decide +kernel
theorem dX4_hold_0 : decode cX4_hold 0 = .ok (.iload_n 1, 1) := by decide +kernel
theorem dX4_hold_1 : decode cX4_hold 1 = .ok (.i2l, 1) := by decide +kernel
theorem dX4_hold_2 : decode cX4_hold 2 = .ok (.lconst 1, 1) := by decide +kernel
theorem dX4_hold_3 : decode cX4_hold 3 = .ok (.ldc2_w 150, 3) := by decide +kernel
theorem dX4_hold_6 : decode cX4_hold 6 = .ok (.invokestatic 88, 3) := by decide +kernel
theorem dX4_hold_9 : decode cX4_hold 9 = .ok (.ifCond .ne 5, 3) := by decide +kernel
theorem dX4_hold_12 : decode cX4_hold 12 = .ok (.iconst 0, 1) := by decide +kernel
theorem dX4_hold_13 : decode cX4_hold 13 = .ok (.ireturn, 1) := by decide +kernel
theorem dX4_hold_14 : decode cX4_hold 14 = .ok (.aload_n 0, 1) := by decide +kernel
theorem dX4_hold_15 : decode cX4_hold 15 = .ok (.iload_n 1, 1) := by decide +kernel
theorem dX4_hold_16 : decode cX4_hold 16 = .ok (.putfield 54, 3) := by decide +kernel
theorem dX4_hold_19 : decode cX4_hold 19 = .ok (.iconst 1, 1) := by decide +kernel
theorem dX4_hold_20 : decode cX4_hold 20 = .ok (.ireturn, 1) := by decide +kernel
theorem dX4_alarm_0 : decode cX4_alarm 0 = .ok (.iconst 0, 1) := by decide +kernel
theorem dX4_alarm_1 : decode cX4_alarm 1 = .ok (.istore_n 2, 1) := by decide +kernel
theorem dX4_alarm_2 : decode cX4_alarm 2 = .ok (.iconst 0, 1) := by decide +kernel
theorem dX4_alarm_3 : decode cX4_alarm 3 = .ok (.istore_n 3, 1) := by decide +kernel
theorem dX4_alarm_4 : decode cX4_alarm 4 = .ok (.iload_n 3, 1) := by decide +kernel
theorem dX4_alarm_5 : decode cX4_alarm 5 = .ok (.aload_n 0, 1) := by decide +kernel
theorem dX4_alarm_6 : decode cX4_alarm 6 = .ok (.getfield 76, 3) := by decide +kernel
theorem dX4_alarm_9 : decode cX4_alarm 9 = .ok (.if_icmp .ge 42, 3) := by decide +kernel
theorem dX4_alarm_12 : decode cX4_alarm 12 = .ok (.aload_n 0, 1) := by decide +kernel
theorem dX4_alarm_13 : decode cX4_alarm 13 = .ok (.getfield 23, 3) := by decide +kernel
theorem dX4_alarm_16 : decode cX4_alarm 16 = .ok (.iload_n 3, 1) := by decide +kernel
theorem dX4_alarm_17 : decode cX4_alarm 17 = .ok (.iaload, 1) := by decide +kernel
theorem dX4_alarm_18 : decode cX4_alarm 18 = .ok (.iconst 2, 1) := by decide +kernel
theorem dX4_alarm_19 : decode cX4_alarm 19 = .ok (.if_icmp .ge 26, 3) := by decide +kernel
theorem dX4_alarm_22 : decode cX4_alarm 22 = .ok (.aload_n 0, 1) := by decide +kernel
theorem dX4_alarm_23 : decode cX4_alarm 23 = .ok (.getfield 30, 3) := by decide +kernel
theorem dX4_alarm_26 : decode cX4_alarm 26 = .ok (.iload_n 3, 1) := by decide +kernel
theorem dX4_alarm_27 : decode cX4_alarm 27 = .ok (.iaload, 1) := by decide +kernel
theorem dX4_alarm_28 : decode cX4_alarm 28 = .ok (.aload_n 0, 1) := by decide +kernel
theorem dX4_alarm_29 : decode cX4_alarm 29 = .ok (.getfield 54, 3) := by decide +kernel
theorem dX4_alarm_32 : decode cX4_alarm 32 = .ok (.if_icmp .lt 13, 3) := by decide +kernel
theorem dX4_alarm_35 : decode cX4_alarm 35 = .ok (.iload_n 2, 1) := by decide +kernel
theorem dX4_alarm_36 : decode cX4_alarm 36 = .ok (.iload_n 1, 1) := by decide +kernel
theorem dX4_alarm_37 : decode cX4_alarm 37 = .ok (.if_icmp .ne 5, 3) := by decide +kernel
theorem dX4_alarm_40 : decode cX4_alarm 40 = .ok (.iload_n 3, 1) := by decide +kernel
theorem dX4_alarm_41 : decode cX4_alarm 41 = .ok (.ireturn, 1) := by decide +kernel
theorem dX4_alarm_42 : decode cX4_alarm 42 = .ok (.iinc 2 1, 3) := by decide +kernel
theorem dX4_alarm_45 : decode cX4_alarm 45 = .ok (.iinc 3 1, 3) := by decide +kernel
theorem dX4_alarm_48 : decode cX4_alarm 48 = .ok (.goto (-44), 3) := by decide +kernel
theorem dX4_alarm_51 : decode cX4_alarm 51 = .ok (.iconst (-1), 1) := by decide +kernel
theorem dX4_alarm_52 : decode cX4_alarm 52 = .ok (.ireturn, 1) := by decide +kernel
theorem dX4_stack_0 : decode cX4_stack 0 = .ok (.aload_n 0, 1) := by decide +kernel
theorem dX4_stack_1 : decode cX4_stack 1 = .ok (.getfield 152, 3) := by decide +kernel
theorem dX4_stack_4 : decode cX4_stack 4 = .ok (.iconst 4, 1) := by decide +kernel
theorem dX4_stack_5 : decode cX4_stack 5 = .ok (.if_icmp .eq 27, 3) := by decide +kernel
theorem dX4_stack_8 : decode cX4_stack 8 = .ok (.iload_n 1, 1) := by decide +kernel
theorem dX4_stack_9 : decode cX4_stack 9 = .ok (.i2l, 1) := by decide +kernel
theorem dX4_stack_10 : decode cX4_stack 10 = .ok (.lconst 0, 1) := by decide +kernel
theorem dX4_stack_11 : decode cX4_stack 11 = .ok (.ldc2_w 121, 3) := by decide +kernel
theorem dX4_stack_14 : decode cX4_stack 14 = .ok (.invokestatic 88, 3) := by decide +kernel
theorem dX4_stack_17 : decode cX4_stack 17 = .ok (.ifCond .eq 15, 3) := by decide +kernel
theorem dX4_stack_20 : decode cX4_stack 20 = .ok (.iload_n 2, 1) := by decide +kernel
theorem dX4_stack_21 : decode cX4_stack 21 = .ok (.i2l, 1) := by decide +kernel
theorem dX4_stack_22 : decode cX4_stack 22 = .ok (.lconst 1, 1) := by decide +kernel
theorem dX4_stack_23 : decode cX4_stack 23 = .ok (.ldc2_w 155, 3) := by decide +kernel
theorem dX4_stack_26 : decode cX4_stack 26 = .ok (.invokestatic 88, 3) := by decide +kernel
theorem dX4_stack_29 : decode cX4_stack 29 = .ok (.ifCond .ne 5, 3) := by decide +kernel
theorem dX4_stack_32 : decode cX4_stack 32 = .ok (.iconst (-1), 1) := by decide +kernel
theorem dX4_stack_33 : decode cX4_stack 33 = .ok (.ireturn, 1) := by decide +kernel
theorem dX4_stack_34 : decode cX4_stack 34 = .ok (.aload_n 0, 1) := by decide +kernel
theorem dX4_stack_35 : decode cX4_stack 35 = .ok (.getfield 58, 3) := by decide +kernel
theorem dX4_stack_38 : decode cX4_stack 38 = .ok (.aload_n 0, 1) := by decide +kernel
theorem dX4_stack_39 : decode cX4_stack 39 = .ok (.getfield 152, 3) := by decide +kernel
theorem dX4_stack_42 : decode cX4_stack 42 = .ok (.iload_n 1, 1) := by decide +kernel
theorem dX4_stack_43 : decode cX4_stack 43 = .ok (.iastore, 1) := by decide +kernel
theorem dX4_stack_44 : decode cX4_stack 44 = .ok (.aload_n 0, 1) := by decide +kernel
theorem dX4_stack_45 : decode cX4_stack 45 = .ok (.getfield 61, 3) := by decide +kernel
theorem dX4_stack_48 : decode cX4_stack 48 = .ok (.aload_n 0, 1) := by decide +kernel
theorem dX4_stack_49 : decode cX4_stack 49 = .ok (.getfield 152, 3) := by decide +kernel
theorem dX4_stack_52 : decode cX4_stack 52 = .ok (.iload_n 2, 1) := by decide +kernel
theorem dX4_stack_53 : decode cX4_stack 53 = .ok (.iastore, 1) := by decide +kernel
theorem dX4_stack_54 : decode cX4_stack 54 = .ok (.aload_n 0, 1) := by decide +kernel
theorem dX4_stack_55 : decode cX4_stack 55 = .ok (.dup, 1) := by decide +kernel
theorem dX4_stack_56 : decode cX4_stack 56 = .ok (.getfield 152, 3) := by decide +kernel
theorem dX4_stack_59 : decode cX4_stack 59 = .ok (.iconst 1, 1) := by decide +kernel
theorem dX4_stack_60 : decode cX4_stack 60 = .ok (.iadd, 1) := by decide +kernel
theorem dX4_stack_61 : decode cX4_stack 61 = .ok (.putfield 152, 3) := by decide +kernel
theorem dX4_stack_64 : decode cX4_stack 64 = .ok (.aload_n 0, 1) := by decide +kernel
theorem dX4_stack_65 : decode cX4_stack 65 = .ok (.getfield 152, 3) := by decide +kernel
theorem dX4_stack_68 : decode cX4_stack 68 = .ok (.iconst 1, 1) := by decide +kernel
theorem dX4_stack_69 : decode cX4_stack 69 = .ok (.isub, 1) := by decide +kernel
theorem dX4_stack_70 : decode cX4_stack 70 = .ok (.ireturn, 1) := by decide +kernel
theorem dX4_isClose_0 : decode cX4_isClose 0 = .ok (.iload_n 1, 1) := by decide +kernel
theorem dX4_isClose_1 : decode cX4_isClose 1 = .ok (.iload_n 2, 1) := by decide +kernel
theorem dX4_isClose_2 : decode cX4_isClose 2 = .ok (.if_icmp .ge 7, 3) := by decide +kernel
theorem dX4_isClose_5 : decode cX4_isClose 5 = .ok (.iload_n 1, 1) := by decide +kernel
theorem dX4_isClose_6 : decode cX4_isClose 6 = .ok (.goto 4, 3) := by decide +kernel
theorem dX4_isClose_9 : decode cX4_isClose 9 = .ok (.iload_n 2, 1) := by decide +kernel
theorem dX4_isClose_10 : decode cX4_isClose 10 = .ok (.istore_n 3, 1) := by decide +kernel
theorem dX4_isClose_11 : decode cX4_isClose 11 = .ok (.iload_n 1, 1) := by decide +kernel
theorem dX4_isClose_12 : decode cX4_isClose 12 = .ok (.iload_n 2, 1) := by decide +kernel
theorem dX4_isClose_13 : decode cX4_isClose 13 = .ok (.if_icmp .ge 7, 3) := by decide +kernel
theorem dX4_isClose_16 : decode cX4_isClose 16 = .ok (.iload_n 2, 1) := by decide +kernel
theorem dX4_isClose_17 : decode cX4_isClose 17 = .ok (.goto 4, 3) := by decide +kernel
theorem dX4_isClose_20 : decode cX4_isClose 20 = .ok (.iload_n 1, 1) := by decide +kernel
theorem dX4_isClose_21 : decode cX4_isClose 21 = .ok (.istore 4, 2) := by decide +kernel
theorem dX4_isClose_23 : decode cX4_isClose 23 = .ok (.iload 4, 2) := by decide +kernel
theorem dX4_isClose_25 : decode cX4_isClose 25 = .ok (.iload_n 3, 1) := by decide +kernel
theorem dX4_isClose_26 : decode cX4_isClose 26 = .ok (.if_icmp .eq 17, 3) := by decide +kernel
theorem dX4_isClose_29 : decode cX4_isClose 29 = .ok (.iload 4, 2) := by decide +kernel
theorem dX4_isClose_31 : decode cX4_isClose 31 = .ok (.iload_n 3, 1) := by decide +kernel
theorem dX4_isClose_32 : decode cX4_isClose 32 = .ok (.isub, 1) := by decide +kernel
theorem dX4_isClose_33 : decode cX4_isClose 33 = .ok (.aload_n 0, 1) := by decide +kernel
theorem dX4_isClose_34 : decode cX4_isClose 34 = .ok (.getfield 58, 3) := by decide +kernel
theorem dX4_isClose_37 : decode cX4_isClose 37 = .ok (.iload 4, 2) := by decide +kernel
theorem dX4_isClose_39 : decode cX4_isClose 39 = .ok (.iaload, 1) := by decide +kernel
theorem dX4_isClose_40 : decode cX4_isClose 40 = .ok (.if_icmp .gt 7, 3) := by decide +kernel
theorem dX4_isClose_43 : decode cX4_isClose 43 = .ok (.iconst 1, 1) := by decide +kernel
theorem dX4_isClose_44 : decode cX4_isClose 44 = .ok (.goto 4, 3) := by decide +kernel
theorem dX4_isClose_47 : decode cX4_isClose 47 = .ok (.iconst 0, 1) := by decide +kernel
theorem dX4_isClose_48 : decode cX4_isClose 48 = .ok (.ireturn, 1) := by decide +kernel
theorem dX4_put_0 : decode cX4_put 0 = .ok (.aload_n 0, 1) := by decide +kernel
theorem dX4_put_1 : decode cX4_put 1 = .ok (.iload_n 1, 1) := by decide +kernel
theorem dX4_put_2 : decode cX4_put 2 = .ok (.invokevirtual 108, 3) := by decide +kernel
theorem dX4_put_5 : decode cX4_put 5 = .ok (.ifCond .eq 15, 3) := by decide +kernel
theorem dX4_put_8 : decode cX4_put 8 = .ok (.iload_n 2, 1) := by decide +kernel
theorem dX4_put_9 : decode cX4_put 9 = .ok (.ifCond .lt 11, 3) := by decide +kernel
theorem dX4_put_12 : decode cX4_put 12 = .ok (.iload_n 2, 1) := by decide +kernel
theorem dX4_put_13 : decode cX4_put 13 = .ok (.aload_n 0, 1) := by decide +kernel
theorem dX4_put_14 : decode cX4_put 14 = .ok (.getfield 152, 3) := by decide +kernel
theorem dX4_put_17 : decode cX4_put 17 = .ok (.if_icmp .lt 5, 3) := by decide +kernel
theorem dX4_put_20 : decode cX4_put 20 = .ok (.iconst 1, 1) := by decide +kernel
theorem dX4_put_21 : decode cX4_put 21 = .ok (.ireturn, 1) := by decide +kernel
theorem dX4_put_22 : decode cX4_put 22 = .ok (.aload_n 0, 1) := by decide +kernel
theorem dX4_put_23 : decode cX4_put 23 = .ok (.getfield 23, 3) := by decide +kernel
theorem dX4_put_26 : decode cX4_put 26 = .ok (.iload_n 1, 1) := by decide +kernel
theorem dX4_put_27 : decode cX4_put 27 = .ok (.iaload, 1) := by decide +kernel
theorem dX4_put_28 : decode cX4_put 28 = .ok (.ifCond .eq 5, 3) := by decide +kernel
theorem dX4_put_31 : decode cX4_put 31 = .ok (.iconst 2, 1) := by decide +kernel
theorem dX4_put_32 : decode cX4_put 32 = .ok (.ireturn, 1) := by decide +kernel
theorem dX4_put_33 : decode cX4_put 33 = .ok (.iconst 0, 1) := by decide +kernel
theorem dX4_put_34 : decode cX4_put 34 = .ok (.istore_n 3, 1) := by decide +kernel
theorem dX4_put_35 : decode cX4_put 35 = .ok (.iconst 0, 1) := by decide +kernel
theorem dX4_put_36 : decode cX4_put 36 = .ok (.istore 4, 2) := by decide +kernel
theorem dX4_put_38 : decode cX4_put 38 = .ok (.aload_n 0, 1) := by decide +kernel
theorem dX4_put_39 : decode cX4_put 39 = .ok (.iload_n 1, 1) := by decide +kernel
theorem dX4_put_40 : decode cX4_put 40 = .ok (.invokevirtual 113, 3) := by decide +kernel
theorem dX4_put_43 : decode cX4_put 43 = .ok (.lstore 5, 2) := by decide +kernel
theorem dX4_put_45 : decode cX4_put 45 = .ok (.iconst 0, 1) := by decide +kernel
theorem dX4_put_46 : decode cX4_put 46 = .ok (.istore 7, 2) := by decide +kernel
theorem dX4_put_48 : decode cX4_put 48 = .ok (.iload 7, 2) := by decide +kernel
theorem dX4_put_50 : decode cX4_put 50 = .ok (.aload_n 0, 1) := by decide +kernel
theorem dX4_put_51 : decode cX4_put 51 = .ok (.getfield 76, 3) := by decide +kernel
theorem dX4_put_54 : decode cX4_put 54 = .ok (.if_icmp .ge 106, 3) := by decide +kernel
theorem dX4_put_57 : decode cX4_put 57 = .ok (.aload_n 0, 1) := by decide +kernel
theorem dX4_put_58 : decode cX4_put 58 = .ok (.getfield 23, 3) := by decide +kernel
theorem dX4_put_61 : decode cX4_put 61 = .ok (.iload 7, 2) := by decide +kernel
theorem dX4_put_63 : decode cX4_put 63 = .ok (.iaload, 1) := by decide +kernel
theorem dX4_put_64 : decode cX4_put 64 = .ok (.iconst 1, 1) := by decide +kernel
theorem dX4_put_65 : decode cX4_put 65 = .ok (.if_icmp .ne 89, 3) := by decide +kernel
theorem dX4_put_68 : decode cX4_put 68 = .ok (.iload_n 3, 1) := by decide +kernel
theorem dX4_put_69 : decode cX4_put 69 = .ok (.aload_n 0, 1) := by decide +kernel
theorem dX4_put_70 : decode cX4_put 70 = .ok (.getfield 36, 3) := by decide +kernel
theorem dX4_put_73 : decode cX4_put 73 = .ok (.iload 7, 2) := by decide +kernel
theorem dX4_put_75 : decode cX4_put 75 = .ok (.iaload, 1) := by decide +kernel
theorem dX4_put_76 : decode cX4_put 76 = .ok (.iload_n 2, 1) := by decide +kernel
theorem dX4_put_77 : decode cX4_put 77 = .ok (.if_icmp .ne 7, 3) := by decide +kernel
theorem dX4_put_80 : decode cX4_put 80 = .ok (.iconst 1, 1) := by decide +kernel
theorem dX4_put_81 : decode cX4_put 81 = .ok (.goto 4, 3) := by decide +kernel
theorem dX4_put_84 : decode cX4_put 84 = .ok (.iconst 0, 1) := by decide +kernel
theorem dX4_put_85 : decode cX4_put 85 = .ok (.iadd, 1) := by decide +kernel
theorem dX4_put_86 : decode cX4_put 86 = .ok (.istore_n 3, 1) := by decide +kernel
theorem dX4_put_87 : decode cX4_put 87 = .ok (.iload 4, 2) := by decide +kernel
theorem dX4_put_89 : decode cX4_put 89 = .ok (.ifCond .ne 28, 3) := by decide +kernel
theorem dX4_put_92 : decode cX4_put 92 = .ok (.aload_n 0, 1) := by decide +kernel
theorem dX4_put_93 : decode cX4_put 93 = .ok (.getfield 36, 3) := by decide +kernel
theorem dX4_put_96 : decode cX4_put 96 = .ok (.iload 7, 2) := by decide +kernel
theorem dX4_put_98 : decode cX4_put 98 = .ok (.iaload, 1) := by decide +kernel
theorem dX4_put_99 : decode cX4_put 99 = .ok (.iload_n 2, 1) := by decide +kernel
theorem dX4_put_100 : decode cX4_put 100 = .ok (.if_icmp .ne 21, 3) := by decide +kernel
theorem dX4_put_103 : decode cX4_put 103 = .ok (.aload_n 0, 1) := by decide +kernel
theorem dX4_put_104 : decode cX4_put 104 = .ok (.iload 7, 2) := by decide +kernel
theorem dX4_put_106 : decode cX4_put 106 = .ok (.invokevirtual 157, 3) := by decide +kernel
theorem dX4_put_109 : decode cX4_put 109 = .ok (.aload_n 0, 1) := by decide +kernel
theorem dX4_put_110 : decode cX4_put 110 = .ok (.iload_n 1, 1) := by decide +kernel
theorem dX4_put_111 : decode cX4_put 111 = .ok (.invokevirtual 157, 3) := by decide +kernel
theorem dX4_put_114 : decode cX4_put 114 = .ok (.if_icmp .eq 7, 3) := by decide +kernel
theorem dX4_put_117 : decode cX4_put 117 = .ok (.iconst 1, 1) := by decide +kernel
theorem dX4_put_118 : decode cX4_put 118 = .ok (.goto 4, 3) := by decide +kernel
theorem dX4_put_121 : decode cX4_put 121 = .ok (.iconst 0, 1) := by decide +kernel
theorem dX4_put_122 : decode cX4_put 122 = .ok (.istore 4, 2) := by decide +kernel
theorem dX4_put_124 : decode cX4_put 124 = .ok (.lload 5, 2) := by decide +kernel
theorem dX4_put_126 : decode cX4_put 126 = .ok (.aload_n 0, 1) := by decide +kernel
theorem dX4_put_127 : decode cX4_put 127 = .ok (.aload_n 0, 1) := by decide +kernel
theorem dX4_put_128 : decode cX4_put 128 = .ok (.getfield 36, 3) := by decide +kernel
theorem dX4_put_131 : decode cX4_put 131 = .ok (.iload 7, 2) := by decide +kernel
theorem dX4_put_133 : decode cX4_put 133 = .ok (.iaload, 1) := by decide +kernel
theorem dX4_put_134 : decode cX4_put 134 = .ok (.iload_n 2, 1) := by decide +kernel
theorem dX4_put_135 : decode cX4_put 135 = .ok (.invokevirtual 161, 3) := by decide +kernel
theorem dX4_put_138 : decode cX4_put 138 = .ok (.ifCond .eq 12, 3) := by decide +kernel
theorem dX4_put_141 : decode cX4_put 141 = .ok (.aload_n 0, 1) := by decide +kernel
theorem dX4_put_142 : decode cX4_put 142 = .ok (.iload 7, 2) := by decide +kernel
theorem dX4_put_144 : decode cX4_put 144 = .ok (.invokevirtual 113, 3) := by decide +kernel
theorem dX4_put_147 : decode cX4_put 147 = .ok (.goto 4, 3) := by decide +kernel
theorem dX4_put_150 : decode cX4_put 150 = .ok (.lconst 0, 1) := by decide +kernel
theorem dX4_put_151 : decode cX4_put 151 = .ok (.ladd, 1) := by decide +kernel
theorem dX4_put_152 : decode cX4_put 152 = .ok (.lstore 5, 2) := by decide +kernel
theorem dX4_put_154 : decode cX4_put 154 = .ok (.iinc 7 1, 3) := by decide +kernel
theorem dX4_put_157 : decode cX4_put 157 = .ok (.goto (-109), 3) := by decide +kernel
theorem dX4_put_160 : decode cX4_put 160 = .ok (.iload_n 3, 1) := by decide +kernel
theorem dX4_put_161 : decode cX4_put 161 = .ok (.aload_n 0, 1) := by decide +kernel
theorem dX4_put_162 : decode cX4_put 162 = .ok (.getfield 61, 3) := by decide +kernel
theorem dX4_put_165 : decode cX4_put 165 = .ok (.iload_n 2, 1) := by decide +kernel
theorem dX4_put_166 : decode cX4_put 166 = .ok (.iaload, 1) := by decide +kernel
theorem dX4_put_167 : decode cX4_put 167 = .ok (.if_icmp .lt 5, 3) := by decide +kernel
theorem dX4_put_170 : decode cX4_put 170 = .ok (.iconst 3, 1) := by decide +kernel
theorem dX4_put_171 : decode cX4_put 171 = .ok (.ireturn, 1) := by decide +kernel
theorem dX4_put_172 : decode cX4_put 172 = .ok (.aload_n 0, 1) := by decide +kernel
theorem dX4_put_173 : decode cX4_put 173 = .ok (.getfield 26, 3) := by decide +kernel
theorem dX4_put_176 : decode cX4_put 176 = .ok (.iload_n 1, 1) := by decide +kernel
theorem dX4_put_177 : decode cX4_put 177 = .ok (.daload, 1) := by decide +kernel
theorem dX4_put_178 : decode cX4_put 178 = .ok (.ldc2_w 146, 3) := by decide +kernel
theorem dX4_put_181 : decode cX4_put 181 = .ok (.dcmp .l, 1) := by decide +kernel
theorem dX4_put_182 : decode cX4_put 182 = .ok (.ifCond .lt 5, 3) := by decide +kernel
theorem dX4_put_185 : decode cX4_put 185 = .ok (.iconst 4, 1) := by decide +kernel
theorem dX4_put_186 : decode cX4_put 186 = .ok (.ireturn, 1) := by decide +kernel
theorem dX4_put_187 : decode cX4_put 187 = .ok (.iload 4, 2) := by decide +kernel
theorem dX4_put_189 : decode cX4_put 189 = .ok (.ifCond .eq 5, 3) := by decide +kernel
theorem dX4_put_192 : decode cX4_put 192 = .ok (.iconst 5, 1) := by decide +kernel
theorem dX4_put_193 : decode cX4_put 193 = .ok (.ireturn, 1) := by decide +kernel
theorem dX4_put_194 : decode cX4_put 194 = .ok (.lload 5, 2) := by decide +kernel
theorem dX4_put_196 : decode cX4_put 196 = .ok (.ldc2_w 92, 3) := by decide +kernel
theorem dX4_put_199 : decode cX4_put 199 = .ok (.lcmp, 1) := by decide +kernel
theorem dX4_put_200 : decode cX4_put 200 = .ok (.ifCond .le 6, 3) := by decide +kernel
theorem dX4_put_203 : decode cX4_put 203 = .ok (.bipush 6, 2) := by decide +kernel
theorem dX4_put_205 : decode cX4_put 205 = .ok (.ireturn, 1) := by decide +kernel
theorem dX4_put_206 : decode cX4_put 206 = .ok (.aload_n 0, 1) := by decide +kernel
theorem dX4_put_207 : decode cX4_put 207 = .ok (.getfield 23, 3) := by decide +kernel
theorem dX4_put_210 : decode cX4_put 210 = .ok (.iload_n 1, 1) := by decide +kernel
theorem dX4_put_211 : decode cX4_put 211 = .ok (.iconst 1, 1) := by decide +kernel
theorem dX4_put_212 : decode cX4_put 212 = .ok (.iastore, 1) := by decide +kernel
theorem dX4_put_213 : decode cX4_put 213 = .ok (.aload_n 0, 1) := by decide +kernel
theorem dX4_put_214 : decode cX4_put 214 = .ok (.getfield 36, 3) := by decide +kernel
theorem dX4_put_217 : decode cX4_put 217 = .ok (.iload_n 1, 1) := by decide +kernel
theorem dX4_put_218 : decode cX4_put 218 = .ok (.iload_n 2, 1) := by decide +kernel
theorem dX4_put_219 : decode cX4_put 219 = .ok (.iastore, 1) := by decide +kernel
theorem dX4_put_220 : decode cX4_put 220 = .ok (.iconst 0, 1) := by decide +kernel
theorem dX4_put_221 : decode cX4_put 221 = .ok (.ireturn, 1) := by decide +kernel
theorem dX4_first_0 : decode cX4_first 0 = .ok (.iconst 0, 1) := by decide +kernel
theorem dX4_first_1 : decode cX4_first 1 = .ok (.istore_n 2, 1) := by decide +kernel
theorem dX4_first_2 : decode cX4_first 2 = .ok (.iload_n 2, 1) := by decide +kernel
theorem dX4_first_3 : decode cX4_first 3 = .ok (.aload_n 0, 1) := by decide +kernel
theorem dX4_first_4 : decode cX4_first 4 = .ok (.getfield 76, 3) := by decide +kernel
theorem dX4_first_7 : decode cX4_first 7 = .ok (.if_icmp .ge 37, 3) := by decide +kernel
theorem dX4_first_10 : decode cX4_first 10 = .ok (.aload_n 0, 1) := by decide +kernel
theorem dX4_first_11 : decode cX4_first 11 = .ok (.getfield 23, 3) := by decide +kernel
theorem dX4_first_14 : decode cX4_first 14 = .ok (.iload_n 2, 1) := by decide +kernel
theorem dX4_first_15 : decode cX4_first 15 = .ok (.iaload, 1) := by decide +kernel
theorem dX4_first_16 : decode cX4_first 16 = .ok (.iconst 1, 1) := by decide +kernel
theorem dX4_first_17 : decode cX4_first 17 = .ok (.if_icmp .ne 21, 3) := by decide +kernel
theorem dX4_first_20 : decode cX4_first 20 = .ok (.aload_n 0, 1) := by decide +kernel
theorem dX4_first_21 : decode cX4_first 21 = .ok (.iload_n 2, 1) := by decide +kernel
theorem dX4_first_22 : decode cX4_first 22 = .ok (.invokevirtual 157, 3) := by decide +kernel
theorem dX4_first_25 : decode cX4_first 25 = .ok (.iload_n 1, 1) := by decide +kernel
theorem dX4_first_26 : decode cX4_first 26 = .ok (.if_icmp .ne 12, 3) := by decide +kernel
theorem dX4_first_29 : decode cX4_first 29 = .ok (.aload_n 0, 1) := by decide +kernel
theorem dX4_first_30 : decode cX4_first 30 = .ok (.getfield 23, 3) := by decide +kernel
theorem dX4_first_33 : decode cX4_first 33 = .ok (.iload_n 2, 1) := by decide +kernel
theorem dX4_first_34 : decode cX4_first 34 = .ok (.iconst 2, 1) := by decide +kernel
theorem dX4_first_35 : decode cX4_first 35 = .ok (.iastore, 1) := by decide +kernel
theorem dX4_first_36 : decode cX4_first 36 = .ok (.iload_n 2, 1) := by decide +kernel
theorem dX4_first_37 : decode cX4_first 37 = .ok (.ireturn, 1) := by decide +kernel
theorem dX4_first_38 : decode cX4_first 38 = .ok (.iinc 2 1, 3) := by decide +kernel
theorem dX4_first_41 : decode cX4_first 41 = .ok (.goto (-39), 3) := by decide +kernel
theorem dX4_first_44 : decode cX4_first 44 = .ok (.iconst (-1), 1) := by decide +kernel
theorem dX4_first_45 : decode cX4_first 45 = .ok (.ireturn, 1) := by decide +kernel
theorem dX4_lorry_0 : decode cX4_lorry 0 = .ok (.aload_n 0, 1) := by decide +kernel
theorem dX4_lorry_1 : decode cX4_lorry 1 = .ok (.getfield 164, 3) := by decide +kernel
theorem dX4_lorry_4 : decode cX4_lorry 4 = .ok (.iconst 3, 1) := by decide +kernel
theorem dX4_lorry_5 : decode cX4_lorry 5 = .ok (.if_icmp .eq 25, 3) := by decide +kernel
theorem dX4_lorry_8 : decode cX4_lorry 8 = .ok (.lload_n 1, 1) := by decide +kernel
theorem dX4_lorry_9 : decode cX4_lorry 9 = .ok (.lconst 0, 1) := by decide +kernel
theorem dX4_lorry_10 : decode cX4_lorry 10 = .ok (.ldc2_w 167, 3) := by decide +kernel
theorem dX4_lorry_13 : decode cX4_lorry 13 = .ok (.invokestatic 88, 3) := by decide +kernel
theorem dX4_lorry_16 : decode cX4_lorry 16 = .ok (.ifCond .eq 14, 3) := by decide +kernel
theorem dX4_lorry_19 : decode cX4_lorry 19 = .ok (.lload_n 3, 1) := by decide +kernel
theorem dX4_lorry_20 : decode cX4_lorry 20 = .ok (.lconst 0, 1) := by decide +kernel
theorem dX4_lorry_21 : decode cX4_lorry 21 = .ok (.ldc2_w 167, 3) := by decide +kernel
theorem dX4_lorry_24 : decode cX4_lorry 24 = .ok (.invokestatic 88, 3) := by decide +kernel
theorem dX4_lorry_27 : decode cX4_lorry 27 = .ok (.ifCond .ne 5, 3) := by decide +kernel
theorem dX4_lorry_30 : decode cX4_lorry 30 = .ok (.iconst (-1), 1) := by decide +kernel
theorem dX4_lorry_31 : decode cX4_lorry 31 = .ok (.ireturn, 1) := by decide +kernel
theorem dX4_lorry_32 : decode cX4_lorry 32 = .ok (.aload_n 0, 1) := by decide +kernel
theorem dX4_lorry_33 : decode cX4_lorry 33 = .ok (.getfield 64, 3) := by decide +kernel
theorem dX4_lorry_36 : decode cX4_lorry 36 = .ok (.aload_n 0, 1) := by decide +kernel
theorem dX4_lorry_37 : decode cX4_lorry 37 = .ok (.getfield 164, 3) := by decide +kernel
theorem dX4_lorry_40 : decode cX4_lorry 40 = .ok (.lload_n 1, 1) := by decide +kernel
theorem dX4_lorry_41 : decode cX4_lorry 41 = .ok (.lastore, 1) := by decide +kernel
theorem dX4_lorry_42 : decode cX4_lorry 42 = .ok (.aload_n 0, 1) := by decide +kernel
theorem dX4_lorry_43 : decode cX4_lorry 43 = .ok (.getfield 67, 3) := by decide +kernel
theorem dX4_lorry_46 : decode cX4_lorry 46 = .ok (.aload_n 0, 1) := by decide +kernel
theorem dX4_lorry_47 : decode cX4_lorry 47 = .ok (.getfield 164, 3) := by decide +kernel
theorem dX4_lorry_50 : decode cX4_lorry 50 = .ok (.lload_n 3, 1) := by decide +kernel
theorem dX4_lorry_51 : decode cX4_lorry 51 = .ok (.lastore, 1) := by decide +kernel
theorem dX4_lorry_52 : decode cX4_lorry 52 = .ok (.aload_n 0, 1) := by decide +kernel
theorem dX4_lorry_53 : decode cX4_lorry 53 = .ok (.dup, 1) := by decide +kernel
theorem dX4_lorry_54 : decode cX4_lorry 54 = .ok (.getfield 164, 3) := by decide +kernel
theorem dX4_lorry_57 : decode cX4_lorry 57 = .ok (.iconst 1, 1) := by decide +kernel
theorem dX4_lorry_58 : decode cX4_lorry 58 = .ok (.iadd, 1) := by decide +kernel
theorem dX4_lorry_59 : decode cX4_lorry 59 = .ok (.putfield 164, 3) := by decide +kernel
theorem dX4_lorry_62 : decode cX4_lorry 62 = .ok (.aload_n 0, 1) := by decide +kernel
theorem dX4_lorry_63 : decode cX4_lorry 63 = .ok (.getfield 164, 3) := by decide +kernel
theorem dX4_lorry_66 : decode cX4_lorry 66 = .ok (.iconst 1, 1) := by decide +kernel
theorem dX4_lorry_67 : decode cX4_lorry 67 = .ok (.isub, 1) := by decide +kernel
theorem dX4_lorry_68 : decode cX4_lorry 68 = .ok (.ireturn, 1) := by decide +kernel
theorem dX4_loadOf_0 : decode cX4_loadOf 0 = .ok (.lconst 0, 1) := by decide +kernel
theorem dX4_loadOf_1 : decode cX4_loadOf 1 = .ok (.lstore_n 3, 1) := by decide +kernel
theorem dX4_loadOf_2 : decode cX4_loadOf 2 = .ok (.iconst 0, 1) := by decide +kernel
theorem dX4_loadOf_3 : decode cX4_loadOf 3 = .ok (.istore 5, 2) := by decide +kernel
theorem dX4_loadOf_5 : decode cX4_loadOf 5 = .ok (.iload 5, 2) := by decide +kernel
theorem dX4_loadOf_7 : decode cX4_loadOf 7 = .ok (.aload_n 0, 1) := by decide +kernel
theorem dX4_loadOf_8 : decode cX4_loadOf 8 = .ok (.getfield 73, 3) := by decide +kernel
theorem dX4_loadOf_11 : decode cX4_loadOf 11 = .ok (.iload_n 1, 1) := by decide +kernel
theorem dX4_loadOf_12 : decode cX4_loadOf 12 = .ok (.iaload, 1) := by decide +kernel
theorem dX4_loadOf_13 : decode cX4_loadOf 13 = .ok (.if_icmp .ge 42, 3) := by decide +kernel
theorem dX4_loadOf_16 : decode cX4_loadOf 16 = .ok (.lload_n 3, 1) := by decide +kernel
theorem dX4_loadOf_17 : decode cX4_loadOf 17 = .ok (.aload_n 0, 1) := by decide +kernel
theorem dX4_loadOf_18 : decode cX4_loadOf 18 = .ok (.aload_n 0, 1) := by decide +kernel
theorem dX4_loadOf_19 : decode cX4_loadOf 19 = .ok (.getfield 70, 3) := by decide +kernel
theorem dX4_loadOf_22 : decode cX4_loadOf 22 = .ok (.bipush 8, 2) := by decide +kernel
theorem dX4_loadOf_24 : decode cX4_loadOf 24 = .ok (.iload_n 1, 1) := by decide +kernel
theorem dX4_loadOf_25 : decode cX4_loadOf 25 = .ok (.imul, 1) := by decide +kernel
theorem dX4_loadOf_26 : decode cX4_loadOf 26 = .ok (.iload 5, 2) := by decide +kernel
theorem dX4_loadOf_28 : decode cX4_loadOf 28 = .ok (.iadd, 1) := by decide +kernel
theorem dX4_loadOf_29 : decode cX4_loadOf 29 = .ok (.iaload, 1) := by decide +kernel
theorem dX4_loadOf_30 : decode cX4_loadOf 30 = .ok (.invokevirtual 113, 3) := by decide +kernel
theorem dX4_loadOf_33 : decode cX4_loadOf 33 = .ok (.iload_n 2, 1) := by decide +kernel
theorem dX4_loadOf_34 : decode cX4_loadOf 34 = .ok (.ifCond .eq 10, 3) := by decide +kernel
theorem dX4_loadOf_37 : decode cX4_loadOf 37 = .ok (.iload 5, 2) := by decide +kernel
theorem dX4_loadOf_39 : decode cX4_loadOf 39 = .ok (.iconst 1, 1) := by decide +kernel
theorem dX4_loadOf_40 : decode cX4_loadOf 40 = .ok (.iadd, 1) := by decide +kernel
theorem dX4_loadOf_41 : decode cX4_loadOf 41 = .ok (.goto 4, 3) := by decide +kernel
theorem dX4_loadOf_44 : decode cX4_loadOf 44 = .ok (.iconst 1, 1) := by decide +kernel
theorem dX4_loadOf_45 : decode cX4_loadOf 45 = .ok (.i2l, 1) := by decide +kernel
theorem dX4_loadOf_46 : decode cX4_loadOf 46 = .ok (.lmul, 1) := by decide +kernel
theorem dX4_loadOf_47 : decode cX4_loadOf 47 = .ok (.ladd, 1) := by decide +kernel
theorem dX4_loadOf_48 : decode cX4_loadOf 48 = .ok (.lstore_n 3, 1) := by decide +kernel
theorem dX4_loadOf_49 : decode cX4_loadOf 49 = .ok (.iinc 5 1, 3) := by decide +kernel
theorem dX4_loadOf_52 : decode cX4_loadOf 52 = .ok (.goto (-47), 3) := by decide +kernel
theorem dX4_loadOf_55 : decode cX4_loadOf 55 = .ok (.lload_n 3, 1) := by decide +kernel
theorem dX4_loadOf_56 : decode cX4_loadOf 56 = .ok (.lreturn, 1) := by decide +kernel
theorem dX4_load_0 : decode cX4_load 0 = .ok (.iload_n 1, 1) := by decide +kernel
theorem dX4_load_1 : decode cX4_load 1 = .ok (.ifCond .lt 49, 3) := by decide +kernel
theorem dX4_load_4 : decode cX4_load 4 = .ok (.iload_n 1, 1) := by decide +kernel
theorem dX4_load_5 : decode cX4_load 5 = .ok (.aload_n 0, 1) := by decide +kernel
theorem dX4_load_6 : decode cX4_load 6 = .ok (.getfield 164, 3) := by decide +kernel
theorem dX4_load_9 : decode cX4_load 9 = .ok (.if_icmp .ge 41, 3) := by decide +kernel
theorem dX4_load_12 : decode cX4_load 12 = .ok (.aload_n 0, 1) := by decide +kernel
theorem dX4_load_13 : decode cX4_load 13 = .ok (.iload_n 2, 1) := by decide +kernel
theorem dX4_load_14 : decode cX4_load 14 = .ok (.invokevirtual 108, 3) := by decide +kernel
theorem dX4_load_17 : decode cX4_load 17 = .ok (.ifCond .eq 33, 3) := by decide +kernel
theorem dX4_load_20 : decode cX4_load 20 = .ok (.aload_n 0, 1) := by decide +kernel
theorem dX4_load_21 : decode cX4_load 21 = .ok (.getfield 23, 3) := by decide +kernel
theorem dX4_load_24 : decode cX4_load 24 = .ok (.iload_n 2, 1) := by decide +kernel
theorem dX4_load_25 : decode cX4_load 25 = .ok (.iaload, 1) := by decide +kernel
theorem dX4_load_26 : decode cX4_load 26 = .ok (.iconst 2, 1) := by decide +kernel
theorem dX4_load_27 : decode cX4_load 27 = .ok (.if_icmp .ne 23, 3) := by decide +kernel
theorem dX4_load_30 : decode cX4_load 30 = .ok (.aload_n 0, 1) := by decide +kernel
theorem dX4_load_31 : decode cX4_load 31 = .ok (.getfield 39, 3) := by decide +kernel
theorem dX4_load_34 : decode cX4_load 34 = .ok (.iload_n 2, 1) := by decide +kernel
theorem dX4_load_35 : decode cX4_load 35 = .ok (.iaload, 1) := by decide +kernel
theorem dX4_load_36 : decode cX4_load 36 = .ok (.ifCond .ge 14, 3) := by decide +kernel
theorem dX4_load_39 : decode cX4_load 39 = .ok (.aload_n 0, 1) := by decide +kernel
theorem dX4_load_40 : decode cX4_load 40 = .ok (.getfield 73, 3) := by decide +kernel
theorem dX4_load_43 : decode cX4_load 43 = .ok (.iload_n 1, 1) := by decide +kernel
theorem dX4_load_44 : decode cX4_load 44 = .ok (.iaload, 1) := by decide +kernel
theorem dX4_load_45 : decode cX4_load 45 = .ok (.bipush 8, 2) := by decide +kernel
theorem dX4_load_47 : decode cX4_load 47 = .ok (.if_icmp .ne 5, 3) := by decide +kernel
theorem dX4_load_50 : decode cX4_load 50 = .ok (.iconst (-1), 1) := by decide +kernel
theorem dX4_load_51 : decode cX4_load 51 = .ok (.ireturn, 1) := by decide +kernel
theorem dX4_load_52 : decode cX4_load 52 = .ok (.aload_n 0, 1) := by decide +kernel
theorem dX4_load_53 : decode cX4_load 53 = .ok (.getfield 73, 3) := by decide +kernel
theorem dX4_load_56 : decode cX4_load 56 = .ok (.iload_n 1, 1) := by decide +kernel
theorem dX4_load_57 : decode cX4_load 57 = .ok (.iaload, 1) := by decide +kernel
theorem dX4_load_58 : decode cX4_load 58 = .ok (.istore_n 3, 1) := by decide +kernel
theorem dX4_load_59 : decode cX4_load 59 = .ok (.aload_n 0, 1) := by decide +kernel
theorem dX4_load_60 : decode cX4_load 60 = .ok (.iload_n 2, 1) := by decide +kernel
theorem dX4_load_61 : decode cX4_load 61 = .ok (.invokevirtual 113, 3) := by decide +kernel
theorem dX4_load_64 : decode cX4_load 64 = .ok (.lstore 4, 2) := by decide +kernel
theorem dX4_load_66 : decode cX4_load 66 = .ok (.aload_n 0, 1) := by decide +kernel
theorem dX4_load_67 : decode cX4_load 67 = .ok (.iload_n 1, 1) := by decide +kernel
theorem dX4_load_68 : decode cX4_load 68 = .ok (.iconst 0, 1) := by decide +kernel
theorem dX4_load_69 : decode cX4_load 69 = .ok (.invokevirtual 169, 3) := by decide +kernel
theorem dX4_load_72 : decode cX4_load 72 = .ok (.lload 4, 2) := by decide +kernel
theorem dX4_load_74 : decode cX4_load 74 = .ok (.ladd, 1) := by decide +kernel
theorem dX4_load_75 : decode cX4_load 75 = .ok (.aload_n 0, 1) := by decide +kernel
theorem dX4_load_76 : decode cX4_load 76 = .ok (.getfield 64, 3) := by decide +kernel
theorem dX4_load_79 : decode cX4_load 79 = .ok (.iload_n 1, 1) := by decide +kernel
theorem dX4_load_80 : decode cX4_load 80 = .ok (.laload, 1) := by decide +kernel
theorem dX4_load_81 : decode cX4_load 81 = .ok (.lcmp, 1) := by decide +kernel
theorem dX4_load_82 : decode cX4_load 82 = .ok (.ifCond .gt 27, 3) := by decide +kernel
theorem dX4_load_85 : decode cX4_load 85 = .ok (.aload_n 0, 1) := by decide +kernel
theorem dX4_load_86 : decode cX4_load 86 = .ok (.iload_n 1, 1) := by decide +kernel
theorem dX4_load_87 : decode cX4_load 87 = .ok (.iconst 1, 1) := by decide +kernel
theorem dX4_load_88 : decode cX4_load 88 = .ok (.invokevirtual 169, 3) := by decide +kernel
theorem dX4_load_91 : decode cX4_load 91 = .ok (.lload 4, 2) := by decide +kernel
theorem dX4_load_93 : decode cX4_load 93 = .ok (.iload_n 3, 1) := by decide +kernel
theorem dX4_load_94 : decode cX4_load 94 = .ok (.iconst 1, 1) := by decide +kernel
theorem dX4_load_95 : decode cX4_load 95 = .ok (.iadd, 1) := by decide +kernel
theorem dX4_load_96 : decode cX4_load 96 = .ok (.i2l, 1) := by decide +kernel
theorem dX4_load_97 : decode cX4_load 97 = .ok (.lmul, 1) := by decide +kernel
theorem dX4_load_98 : decode cX4_load 98 = .ok (.ladd, 1) := by decide +kernel
theorem dX4_load_99 : decode cX4_load 99 = .ok (.aload_n 0, 1) := by decide +kernel
theorem dX4_load_100 : decode cX4_load 100 = .ok (.getfield 67, 3) := by decide +kernel
theorem dX4_load_103 : decode cX4_load 103 = .ok (.iload_n 1, 1) := by decide +kernel
theorem dX4_load_104 : decode cX4_load 104 = .ok (.laload, 1) := by decide +kernel
theorem dX4_load_105 : decode cX4_load 105 = .ok (.lcmp, 1) := by decide +kernel
theorem dX4_load_106 : decode cX4_load 106 = .ok (.ifCond .le 5, 3) := by decide +kernel
theorem dX4_load_109 : decode cX4_load 109 = .ok (.iconst (-1), 1) := by decide +kernel
theorem dX4_load_110 : decode cX4_load 110 = .ok (.ireturn, 1) := by decide +kernel
theorem dX4_load_111 : decode cX4_load 111 = .ok (.aload_n 0, 1) := by decide +kernel
theorem dX4_load_112 : decode cX4_load 112 = .ok (.getfield 70, 3) := by decide +kernel
theorem dX4_load_115 : decode cX4_load 115 = .ok (.bipush 8, 2) := by decide +kernel
theorem dX4_load_117 : decode cX4_load 117 = .ok (.iload_n 1, 1) := by decide +kernel
theorem dX4_load_118 : decode cX4_load 118 = .ok (.imul, 1) := by decide +kernel
theorem dX4_load_119 : decode cX4_load 119 = .ok (.iload_n 3, 1) := by decide +kernel
theorem dX4_load_120 : decode cX4_load 120 = .ok (.iadd, 1) := by decide +kernel
theorem dX4_load_121 : decode cX4_load 121 = .ok (.iload_n 2, 1) := by decide +kernel
theorem dX4_load_122 : decode cX4_load 122 = .ok (.iastore, 1) := by decide +kernel
theorem dX4_load_123 : decode cX4_load 123 = .ok (.aload_n 0, 1) := by decide +kernel
theorem dX4_load_124 : decode cX4_load 124 = .ok (.getfield 73, 3) := by decide +kernel
theorem dX4_load_127 : decode cX4_load 127 = .ok (.iload_n 1, 1) := by decide +kernel
theorem dX4_load_128 : decode cX4_load 128 = .ok (.dup2, 1) := by decide +kernel
theorem dX4_load_129 : decode cX4_load 129 = .ok (.iaload, 1) := by decide +kernel
theorem dX4_load_130 : decode cX4_load 130 = .ok (.iconst 1, 1) := by decide +kernel
theorem dX4_load_131 : decode cX4_load 131 = .ok (.iadd, 1) := by decide +kernel
theorem dX4_load_132 : decode cX4_load 132 = .ok (.iastore, 1) := by decide +kernel
theorem dX4_load_133 : decode cX4_load 133 = .ok (.aload_n 0, 1) := by decide +kernel
theorem dX4_load_134 : decode cX4_load 134 = .ok (.getfield 39, 3) := by decide +kernel
theorem dX4_load_137 : decode cX4_load 137 = .ok (.iload_n 2, 1) := by decide +kernel
theorem dX4_load_138 : decode cX4_load 138 = .ok (.iload_n 1, 1) := by decide +kernel
theorem dX4_load_139 : decode cX4_load 139 = .ok (.iastore, 1) := by decide +kernel
theorem dX4_load_140 : decode cX4_load 140 = .ok (.iload_n 3, 1) := by decide +kernel
theorem dX4_load_141 : decode cX4_load 141 = .ok (.ireturn, 1) := by decide +kernel
theorem dX4_moment_0 : decode cX4_moment 0 = .ok (.iload_n 1, 1) := by decide +kernel
theorem dX4_moment_1 : decode cX4_moment 1 = .ok (.ifCond .lt 39, 3) := by decide +kernel
theorem dX4_moment_4 : decode cX4_moment 4 = .ok (.iload_n 1, 1) := by decide +kernel
theorem dX4_moment_5 : decode cX4_moment 5 = .ok (.aload_n 0, 1) := by decide +kernel
theorem dX4_moment_6 : decode cX4_moment 6 = .ok (.getfield 164, 3) := by decide +kernel
theorem dX4_moment_9 : decode cX4_moment 9 = .ok (.if_icmp .ge 31, 3) := by decide +kernel
theorem dX4_moment_12 : decode cX4_moment 12 = .ok (.iload_n 2, 1) := by decide +kernel
theorem dX4_moment_13 : decode cX4_moment 13 = .ok (.i2l, 1) := by decide +kernel
theorem dX4_moment_14 : decode cX4_moment 14 = .ok (.lconst 0, 1) := by decide +kernel
theorem dX4_moment_15 : decode cX4_moment 15 = .ok (.lconst 1, 1) := by decide +kernel
theorem dX4_moment_16 : decode cX4_moment 16 = .ok (.invokestatic 88, 3) := by decide +kernel
theorem dX4_moment_19 : decode cX4_moment 19 = .ok (.ifCond .eq 21, 3) := by decide +kernel
theorem dX4_moment_22 : decode cX4_moment 22 = .ok (.aload_n 0, 1) := by decide +kernel
theorem dX4_moment_23 : decode cX4_moment 23 = .ok (.iload_n 1, 1) := by decide +kernel
theorem dX4_moment_24 : decode cX4_moment 24 = .ok (.iload_n 2, 1) := by decide +kernel
theorem dX4_moment_25 : decode cX4_moment 25 = .ok (.iconst 1, 1) := by decide +kernel
theorem dX4_moment_26 : decode cX4_moment 26 = .ok (.if_icmp .ne 7, 3) := by decide +kernel
theorem dX4_moment_29 : decode cX4_moment 29 = .ok (.iconst 1, 1) := by decide +kernel
theorem dX4_moment_30 : decode cX4_moment 30 = .ok (.goto 4, 3) := by decide +kernel
theorem dX4_moment_33 : decode cX4_moment 33 = .ok (.iconst 0, 1) := by decide +kernel
theorem dX4_moment_34 : decode cX4_moment 34 = .ok (.invokevirtual 169, 3) := by decide +kernel
theorem dX4_moment_37 : decode cX4_moment 37 = .ok (.goto 6, 3) := by decide +kernel
theorem dX4_moment_40 : decode cX4_moment 40 = .ok (.ldc2_w 111, 3) := by decide +kernel
theorem dX4_moment_43 : decode cX4_moment 43 = .ok (.lreturn, 1) := by decide +kernel
theorem dX4_rebale_0 : decode cX4_rebale 0 = .ok (.aload_n 0, 1) := by decide +kernel
theorem dX4_rebale_1 : decode cX4_rebale 1 = .ok (.iload_n 1, 1) := by decide +kernel
theorem dX4_rebale_2 : decode cX4_rebale 2 = .ok (.invokevirtual 108, 3) := by decide +kernel
theorem dX4_rebale_5 : decode cX4_rebale 5 = .ok (.ifCond .eq 43, 3) := by decide +kernel
theorem dX4_rebale_8 : decode cX4_rebale 8 = .ok (.aload_n 0, 1) := by decide +kernel
theorem dX4_rebale_9 : decode cX4_rebale 9 = .ok (.iload_n 2, 1) := by decide +kernel
theorem dX4_rebale_10 : decode cX4_rebale 10 = .ok (.invokevirtual 108, 3) := by decide +kernel
theorem dX4_rebale_13 : decode cX4_rebale 13 = .ok (.ifCond .eq 35, 3) := by decide +kernel
theorem dX4_rebale_16 : decode cX4_rebale 16 = .ok (.iload_n 1, 1) := by decide +kernel
theorem dX4_rebale_17 : decode cX4_rebale 17 = .ok (.iload_n 2, 1) := by decide +kernel
theorem dX4_rebale_18 : decode cX4_rebale 18 = .ok (.if_icmp .eq 30, 3) := by decide +kernel
theorem dX4_rebale_21 : decode cX4_rebale 21 = .ok (.aload_n 0, 1) := by decide +kernel
theorem dX4_rebale_22 : decode cX4_rebale 22 = .ok (.getfield 23, 3) := by decide +kernel
theorem dX4_rebale_25 : decode cX4_rebale 25 = .ok (.iload_n 1, 1) := by decide +kernel
theorem dX4_rebale_26 : decode cX4_rebale 26 = .ok (.iaload, 1) := by decide +kernel
theorem dX4_rebale_27 : decode cX4_rebale 27 = .ok (.ifCond .ne 21, 3) := by decide +kernel
theorem dX4_rebale_30 : decode cX4_rebale 30 = .ok (.aload_n 0, 1) := by decide +kernel
theorem dX4_rebale_31 : decode cX4_rebale 31 = .ok (.getfield 23, 3) := by decide +kernel
theorem dX4_rebale_34 : decode cX4_rebale 34 = .ok (.iload_n 2, 1) := by decide +kernel
theorem dX4_rebale_35 : decode cX4_rebale 35 = .ok (.iaload, 1) := by decide +kernel
theorem dX4_rebale_36 : decode cX4_rebale 36 = .ok (.ifCond .ne 12, 3) := by decide +kernel
theorem dX4_rebale_39 : decode cX4_rebale 39 = .ok (.aload_n 0, 1) := by decide +kernel
theorem dX4_rebale_40 : decode cX4_rebale 40 = .ok (.getfield 76, 3) := by decide +kernel
theorem dX4_rebale_43 : decode cX4_rebale 43 = .ok (.bipush 12, 2) := by decide +kernel
theorem dX4_rebale_45 : decode cX4_rebale 45 = .ok (.if_icmp .ne 5, 3) := by decide +kernel
theorem dX4_rebale_48 : decode cX4_rebale 48 = .ok (.iconst (-1), 1) := by decide +kernel
theorem dX4_rebale_49 : decode cX4_rebale 49 = .ok (.ireturn, 1) := by decide +kernel
theorem dX4_rebale_50 : decode cX4_rebale 50 = .ok (.aload_n 0, 1) := by decide +kernel
theorem dX4_rebale_51 : decode cX4_rebale 51 = .ok (.invokevirtual 96, 3) := by decide +kernel
theorem dX4_rebale_54 : decode cX4_rebale 54 = .ok (.istore_n 3, 1) := by decide +kernel
theorem dX4_rebale_55 : decode cX4_rebale 55 = .ok (.aload_n 0, 1) := by decide +kernel
theorem dX4_rebale_56 : decode cX4_rebale 56 = .ok (.getfield 42, 3) := by decide +kernel
theorem dX4_rebale_59 : decode cX4_rebale 59 = .ok (.iload_n 3, 1) := by decide +kernel
theorem dX4_rebale_60 : decode cX4_rebale 60 = .ok (.iload_n 1, 1) := by decide +kernel
theorem dX4_rebale_61 : decode cX4_rebale 61 = .ok (.iastore, 1) := by decide +kernel
theorem dX4_rebale_62 : decode cX4_rebale 62 = .ok (.aload_n 0, 1) := by decide +kernel
theorem dX4_rebale_63 : decode cX4_rebale 63 = .ok (.getfield 45, 3) := by decide +kernel
theorem dX4_rebale_66 : decode cX4_rebale 66 = .ok (.iload_n 3, 1) := by decide +kernel
theorem dX4_rebale_67 : decode cX4_rebale 67 = .ok (.iload_n 2, 1) := by decide +kernel
theorem dX4_rebale_68 : decode cX4_rebale 68 = .ok (.iastore, 1) := by decide +kernel
theorem dX4_rebale_69 : decode cX4_rebale 69 = .ok (.aload_n 0, 1) := by decide +kernel
theorem dX4_rebale_70 : decode cX4_rebale 70 = .ok (.getfield 26, 3) := by decide +kernel
theorem dX4_rebale_73 : decode cX4_rebale 73 = .ok (.iload_n 3, 1) := by decide +kernel
theorem dX4_rebale_74 : decode cX4_rebale 74 = .ok (.aload_n 0, 1) := by decide +kernel
theorem dX4_rebale_75 : decode cX4_rebale 75 = .ok (.getfield 26, 3) := by decide +kernel
theorem dX4_rebale_78 : decode cX4_rebale 78 = .ok (.iload_n 1, 1) := by decide +kernel
theorem dX4_rebale_79 : decode cX4_rebale 79 = .ok (.daload, 1) := by decide +kernel
theorem dX4_rebale_80 : decode cX4_rebale 80 = .ok (.aload_n 0, 1) := by decide +kernel
theorem dX4_rebale_81 : decode cX4_rebale 81 = .ok (.getfield 26, 3) := by decide +kernel
theorem dX4_rebale_84 : decode cX4_rebale 84 = .ok (.iload_n 2, 1) := by decide +kernel
theorem dX4_rebale_85 : decode cX4_rebale 85 = .ok (.daload, 1) := by decide +kernel
theorem dX4_rebale_86 : decode cX4_rebale 86 = .ok (.dcmp .l, 1) := by decide +kernel
theorem dX4_rebale_87 : decode cX4_rebale 87 = .ok (.ifCond .le 12, 3) := by decide +kernel
theorem dX4_rebale_90 : decode cX4_rebale 90 = .ok (.aload_n 0, 1) := by decide +kernel
theorem dX4_rebale_91 : decode cX4_rebale 91 = .ok (.getfield 26, 3) := by decide +kernel
theorem dX4_rebale_94 : decode cX4_rebale 94 = .ok (.iload_n 1, 1) := by decide +kernel
theorem dX4_rebale_95 : decode cX4_rebale 95 = .ok (.daload, 1) := by decide +kernel
theorem dX4_rebale_96 : decode cX4_rebale 96 = .ok (.goto 9, 3) := by decide +kernel
theorem dX4_rebale_99 : decode cX4_rebale 99 = .ok (.aload_n 0, 1) := by decide +kernel
theorem dX4_rebale_100 : decode cX4_rebale 100 = .ok (.getfield 26, 3) := by decide +kernel
theorem dX4_rebale_103 : decode cX4_rebale 103 = .ok (.iload_n 2, 1) := by decide +kernel
theorem dX4_rebale_104 : decode cX4_rebale 104 = .ok (.daload, 1) := by decide +kernel
theorem dX4_rebale_105 : decode cX4_rebale 105 = .ok (.dastore, 1) := by decide +kernel
theorem dX4_rebale_106 : decode cX4_rebale 106 = .ok (.aload_n 0, 1) := by decide +kernel
theorem dX4_rebale_107 : decode cX4_rebale 107 = .ok (.getfield 23, 3) := by decide +kernel
theorem dX4_rebale_110 : decode cX4_rebale 110 = .ok (.iload_n 1, 1) := by decide +kernel
theorem dX4_rebale_111 : decode cX4_rebale 111 = .ok (.iconst 3, 1) := by decide +kernel
theorem dX4_rebale_112 : decode cX4_rebale 112 = .ok (.iastore, 1) := by decide +kernel
theorem dX4_rebale_113 : decode cX4_rebale 113 = .ok (.aload_n 0, 1) := by decide +kernel
theorem dX4_rebale_114 : decode cX4_rebale 114 = .ok (.getfield 23, 3) := by decide +kernel
theorem dX4_rebale_117 : decode cX4_rebale 117 = .ok (.iload_n 2, 1) := by decide +kernel
theorem dX4_rebale_118 : decode cX4_rebale 118 = .ok (.iconst 3, 1) := by decide +kernel
theorem dX4_rebale_119 : decode cX4_rebale 119 = .ok (.iastore, 1) := by decide +kernel
theorem dX4_rebale_120 : decode cX4_rebale 120 = .ok (.iload_n 3, 1) := by decide +kernel
theorem dX4_rebale_121 : decode cX4_rebale 121 = .ok (.ireturn, 1) := by decide +kernel
theorem dX4_brought_0 : decode cX4_brought 0 = .ok (.aload_n 0, 1) := by decide +kernel
theorem dX4_brought_1 : decode cX4_brought 1 = .ok (.iload_n 1, 1) := by decide +kernel
theorem dX4_brought_2 : decode cX4_brought 2 = .ok (.invokevirtual 108, 3) := by decide +kernel
theorem dX4_brought_5 : decode cX4_brought 5 = .ok (.ifCond .eq 20, 3) := by decide +kernel
theorem dX4_brought_8 : decode cX4_brought 8 = .ok (.iload_n 2, 1) := by decide +kernel
theorem dX4_brought_9 : decode cX4_brought 9 = .ok (.invokestatic 82, 3) := by decide +kernel
theorem dX4_brought_12 : decode cX4_brought 12 = .ok (.ifCond .eq 13, 3) := by decide +kernel
theorem dX4_brought_15 : decode cX4_brought 15 = .ok (.iload_n 3, 1) := by decide +kernel
theorem dX4_brought_16 : decode cX4_brought 16 = .ok (.i2l, 1) := by decide +kernel
theorem dX4_brought_17 : decode cX4_brought 17 = .ok (.lconst 0, 1) := by decide +kernel
theorem dX4_brought_18 : decode cX4_brought 18 = .ok (.lconst 1, 1) := by decide +kernel
theorem dX4_brought_19 : decode cX4_brought 19 = .ok (.invokestatic 88, 3) := by decide +kernel
theorem dX4_brought_22 : decode cX4_brought 22 = .ok (.ifCond .ne 7, 3) := by decide +kernel
theorem dX4_brought_25 : decode cX4_brought 25 = .ok (.ldc2_w 111, 3) := by decide +kernel
theorem dX4_brought_28 : decode cX4_brought 28 = .ok (.lreturn, 1) := by decide +kernel
theorem dX4_brought_29 : decode cX4_brought 29 = .ok (.aload_n 0, 1) := by decide +kernel
theorem dX4_brought_30 : decode cX4_brought 30 = .ok (.getfield 42, 3) := by decide +kernel
theorem dX4_brought_33 : decode cX4_brought 33 = .ok (.iload_n 1, 1) := by decide +kernel
theorem dX4_brought_34 : decode cX4_brought 34 = .ok (.iaload, 1) := by decide +kernel
theorem dX4_brought_35 : decode cX4_brought 35 = .ok (.ifCond .ge 5, 3) := by decide +kernel
theorem dX4_brought_38 : decode cX4_brought 38 = .ok (.lconst 0, 1) := by decide +kernel
theorem dX4_brought_39 : decode cX4_brought 39 = .ok (.lreturn, 1) := by decide +kernel
theorem dX4_brought_40 : decode cX4_brought 40 = .ok (.aload_n 0, 1) := by decide +kernel
theorem dX4_brought_41 : decode cX4_brought 41 = .ok (.iload_n 3, 1) := by decide +kernel
theorem dX4_brought_42 : decode cX4_brought 42 = .ok (.ifCond .ne 12, 3) := by decide +kernel
theorem dX4_brought_45 : decode cX4_brought 45 = .ok (.aload_n 0, 1) := by decide +kernel
theorem dX4_brought_46 : decode cX4_brought 46 = .ok (.getfield 42, 3) := by decide +kernel
theorem dX4_brought_49 : decode cX4_brought 49 = .ok (.iload_n 1, 1) := by decide +kernel
theorem dX4_brought_50 : decode cX4_brought 50 = .ok (.iaload, 1) := by decide +kernel
theorem dX4_brought_51 : decode cX4_brought 51 = .ok (.goto 9, 3) := by decide +kernel
theorem dX4_brought_54 : decode cX4_brought 54 = .ok (.aload_n 0, 1) := by decide +kernel
theorem dX4_brought_55 : decode cX4_brought 55 = .ok (.getfield 45, 3) := by decide +kernel
theorem dX4_brought_58 : decode cX4_brought 58 = .ok (.iload_n 1, 1) := by decide +kernel
theorem dX4_brought_59 : decode cX4_brought 59 = .ok (.iaload, 1) := by decide +kernel
theorem dX4_brought_60 : decode cX4_brought 60 = .ok (.iload_n 2, 1) := by decide +kernel
theorem dX4_brought_61 : decode cX4_brought 61 = .ok (.invokevirtual 104, 3) := by decide +kernel
theorem dX4_brought_64 : decode cX4_brought 64 = .ok (.lreturn, 1) := by decide +kernel
theorem dX4_say_0 : decode cX4_say 0 = .ok (.aload_n 0, 1) := by decide +kernel
theorem dX4_say_1 : decode cX4_say 1 = .ok (.aload_n 0, 1) := by decide +kernel
theorem dX4_say_2 : decode cX4_say 2 = .ok (.getfield 173, 3) := by decide +kernel
theorem dX4_say_5 : decode cX4_say 5 = .ok (.ifCond .ne 7, 3) := by decide +kernel
theorem dX4_say_8 : decode cX4_say 8 = .ok (.iload_n 1, 1) := by decide +kernel
theorem dX4_say_9 : decode cX4_say 9 = .ok (.goto 7, 3) := by decide +kernel
theorem dX4_say_12 : decode cX4_say 12 = .ok (.aload_n 0, 1) := by decide +kernel
theorem dX4_say_13 : decode cX4_say 13 = .ok (.getfield 176, 3) := by decide +kernel
theorem dX4_say_16 : decode cX4_say 16 = .ok (.putfield 176, 3) := by decide +kernel
theorem dX4_say_19 : decode cX4_say 19 = .ok (.aload_n 0, 1) := by decide +kernel
theorem dX4_say_20 : decode cX4_say 20 = .ok (.dup, 1) := by decide +kernel
theorem dX4_say_21 : decode cX4_say 21 = .ok (.getfield 173, 3) := by decide +kernel
theorem dX4_say_24 : decode cX4_say 24 = .ok (.iconst 1, 1) := by decide +kernel
theorem dX4_say_25 : decode cX4_say 25 = .ok (.isub, 1) := by decide +kernel
theorem dX4_say_26 : decode cX4_say 26 = .ok (.putfield 173, 3) := by decide +kernel
theorem dX4_say_29 : decode cX4_say 29 = .ok (.return_, 1) := by decide +kernel
theorem dX4_sayNumber_0 : decode cX4_sayNumber 0 = .ok (.lconst 1, 1) := by decide +kernel
theorem dX4_sayNumber_1 : decode cX4_sayNumber 1 = .ok (.lstore_n 3, 1) := by decide +kernel
theorem dX4_sayNumber_2 : decode cX4_sayNumber 2 = .ok (.lload_n 1, 1) := by decide +kernel
theorem dX4_sayNumber_3 : decode cX4_sayNumber 3 = .ok (.lload_n 3, 1) := by decide +kernel
theorem dX4_sayNumber_4 : decode cX4_sayNumber 4 = .ok (.ldiv, 1) := by decide +kernel
theorem dX4_sayNumber_5 : decode cX4_sayNumber 5 = .ok (.ldc2_w 179, 3) := by decide +kernel
theorem dX4_sayNumber_8 : decode cX4_sayNumber 8 = .ok (.lcmp, 1) := by decide +kernel
theorem dX4_sayNumber_9 : decode cX4_sayNumber 9 = .ok (.ifCond .le 12, 3) := by decide +kernel
theorem dX4_sayNumber_12 : decode cX4_sayNumber 12 = .ok (.lload_n 3, 1) := by decide +kernel
theorem dX4_sayNumber_13 : decode cX4_sayNumber 13 = .ok (.ldc2_w 181, 3) := by decide +kernel
theorem dX4_sayNumber_16 : decode cX4_sayNumber 16 = .ok (.lmul, 1) := by decide +kernel
theorem dX4_sayNumber_17 : decode cX4_sayNumber 17 = .ok (.lstore_n 3, 1) := by decide +kernel
theorem dX4_sayNumber_18 : decode cX4_sayNumber 18 = .ok (.goto (-16), 3) := by decide +kernel
theorem dX4_sayNumber_21 : decode cX4_sayNumber 21 = .ok (.lload_n 3, 1) := by decide +kernel
theorem dX4_sayNumber_22 : decode cX4_sayNumber 22 = .ok (.lconst 0, 1) := by decide +kernel
theorem dX4_sayNumber_23 : decode cX4_sayNumber 23 = .ok (.lcmp, 1) := by decide +kernel
theorem dX4_sayNumber_24 : decode cX4_sayNumber 24 = .ok (.ifCond .le 28, 3) := by decide +kernel
theorem dX4_sayNumber_27 : decode cX4_sayNumber 27 = .ok (.aload_n 0, 1) := by decide +kernel
theorem dX4_sayNumber_28 : decode cX4_sayNumber 28 = .ok (.ldc2_w 183, 3) := by decide +kernel
theorem dX4_sayNumber_31 : decode cX4_sayNumber 31 = .ok (.lload_n 1, 1) := by decide +kernel
theorem dX4_sayNumber_32 : decode cX4_sayNumber 32 = .ok (.lload_n 3, 1) := by decide +kernel
theorem dX4_sayNumber_33 : decode cX4_sayNumber 33 = .ok (.ldiv, 1) := by decide +kernel
theorem dX4_sayNumber_34 : decode cX4_sayNumber 34 = .ok (.ldc2_w 181, 3) := by decide +kernel
theorem dX4_sayNumber_37 : decode cX4_sayNumber 37 = .ok (.lrem, 1) := by decide +kernel
theorem dX4_sayNumber_38 : decode cX4_sayNumber 38 = .ok (.ladd, 1) := by decide +kernel
theorem dX4_sayNumber_39 : decode cX4_sayNumber 39 = .ok (.l2i, 1) := by decide +kernel
theorem dX4_sayNumber_40 : decode cX4_sayNumber 40 = .ok (.invokevirtual 185, 3) := by decide +kernel
theorem dX4_sayNumber_43 : decode cX4_sayNumber 43 = .ok (.lload_n 3, 1) := by decide +kernel
theorem dX4_sayNumber_44 : decode cX4_sayNumber 44 = .ok (.ldc2_w 181, 3) := by decide +kernel
theorem dX4_sayNumber_47 : decode cX4_sayNumber 47 = .ok (.ldiv, 1) := by decide +kernel
theorem dX4_sayNumber_48 : decode cX4_sayNumber 48 = .ok (.lstore_n 3, 1) := by decide +kernel
theorem dX4_sayNumber_49 : decode cX4_sayNumber 49 = .ok (.goto (-28), 3) := by decide +kernel
theorem dX4_sayNumber_52 : decode cX4_sayNumber 52 = .ok (.return_, 1) := by decide +kernel
theorem dX4_label_0 : decode cX4_label 0 = .ok (.aload_n 0, 1) := by decide +kernel
theorem dX4_label_1 : decode cX4_label 1 = .ok (.iload_n 1, 1) := by decide +kernel
theorem dX4_label_2 : decode cX4_label 2 = .ok (.invokevirtual 108, 3) := by decide +kernel
theorem dX4_label_5 : decode cX4_label 5 = .ok (.ifCond .eq 7, 3) := by decide +kernel
theorem dX4_label_8 : decode cX4_label 8 = .ok (.iload_n 2, 1) := by decide +kernel
theorem dX4_label_9 : decode cX4_label 9 = .ok (.ifCond .ge 5, 3) := by decide +kernel
theorem dX4_label_12 : decode cX4_label 12 = .ok (.iconst (-1), 1) := by decide +kernel
theorem dX4_label_13 : decode cX4_label 13 = .ok (.ireturn, 1) := by decide +kernel
theorem dX4_label_14 : decode cX4_label 14 = .ok (.aload_n 0, 1) := by decide +kernel
theorem dX4_label_15 : decode cX4_label 15 = .ok (.iload_n 2, 1) := by decide +kernel
theorem dX4_label_16 : decode cX4_label 16 = .ok (.putfield 173, 3) := by decide +kernel
theorem dX4_label_19 : decode cX4_label 19 = .ok (.aload_n 0, 1) := by decide +kernel
theorem dX4_label_20 : decode cX4_label 20 = .ok (.iconst (-1), 1) := by decide +kernel
theorem dX4_label_21 : decode cX4_label 21 = .ok (.putfield 176, 3) := by decide +kernel
theorem dX4_label_24 : decode cX4_label 24 = .ok (.aload_n 0, 1) := by decide +kernel
theorem dX4_label_25 : decode cX4_label 25 = .ok (.bipush 66, 2) := by decide +kernel
theorem dX4_label_27 : decode cX4_label 27 = .ok (.invokevirtual 185, 3) := by decide +kernel
theorem dX4_label_30 : decode cX4_label 30 = .ok (.aload_n 0, 1) := by decide +kernel
theorem dX4_label_31 : decode cX4_label 31 = .ok (.iload_n 1, 1) := by decide +kernel
theorem dX4_label_32 : decode cX4_label 32 = .ok (.i2l, 1) := by decide +kernel
theorem dX4_label_33 : decode cX4_label 33 = .ok (.invokevirtual 189, 3) := by decide +kernel
theorem dX4_label_36 : decode cX4_label 36 = .ok (.aload_n 0, 1) := by decide +kernel
theorem dX4_label_37 : decode cX4_label 37 = .ok (.bipush 32, 2) := by decide +kernel
theorem dX4_label_39 : decode cX4_label 39 = .ok (.invokevirtual 185, 3) := by decide +kernel
theorem dX4_label_42 : decode cX4_label 42 = .ok (.aload_n 0, 1) := by decide +kernel
theorem dX4_label_43 : decode cX4_label 43 = .ok (.aload_n 0, 1) := by decide +kernel
theorem dX4_label_44 : decode cX4_label 44 = .ok (.iload_n 1, 1) := by decide +kernel
theorem dX4_label_45 : decode cX4_label 45 = .ok (.invokevirtual 113, 3) := by decide +kernel
theorem dX4_label_48 : decode cX4_label 48 = .ok (.invokevirtual 189, 3) := by decide +kernel
theorem dX4_label_51 : decode cX4_label 51 = .ok (.aload_n 0, 1) := by decide +kernel
theorem dX4_label_52 : decode cX4_label 52 = .ok (.bipush 32, 2) := by decide +kernel
theorem dX4_label_54 : decode cX4_label 54 = .ok (.invokevirtual 185, 3) := by decide +kernel
theorem dX4_label_57 : decode cX4_label 57 = .ok (.aload_n 0, 1) := by decide +kernel
theorem dX4_label_58 : decode cX4_label 58 = .ok (.aload_n 0, 1) := by decide +kernel
theorem dX4_label_59 : decode cX4_label 59 = .ok (.iload_n 1, 1) := by decide +kernel
theorem dX4_label_60 : decode cX4_label 60 = .ok (.invokevirtual 157, 3) := by decide +kernel
theorem dX4_label_63 : decode cX4_label 63 = .ok (.i2l, 1) := by decide +kernel
theorem dX4_label_64 : decode cX4_label 64 = .ok (.invokevirtual 189, 3) := by decide +kernel
theorem dX4_label_67 : decode cX4_label 67 = .ok (.aload_n 0, 1) := by decide +kernel
theorem dX4_label_68 : decode cX4_label 68 = .ok (.getfield 176, 3) := by decide +kernel
theorem dX4_label_71 : decode cX4_label 71 = .ok (.ireturn, 1) := by decide +kernel
theorem dJ5_init_d00df_0 : decode cJ5_init_d00df 0 = .ok (.aload_n 0, 1) := by decide +kernel
theorem dJ5_init_d00df_1 : decode cJ5_init_d00df 1 = .ok (.invokespecial 3, 3) := by decide +kernel
theorem dJ5_init_d00df_4 : decode cJ5_init_d00df 4 = .ok (.getstatic 18, 3) := by decide +kernel
theorem dJ5_init_d00df_7 : decode cJ5_init_d00df 7 = .ok (.ifCond .eq 18, 3) := by decide +kernel
theorem dJ5_init_d00df_10 : decode cJ5_init_d00df 10 = .ok (.aload_n 0, 1) := by decide +kernel
theorem dJ5_init_d00df_11 : decode cJ5_init_d00df 11 = .ok (.iload_n 1, 1) := by decide +kernel
theorem dJ5_init_d00df_12 : decode cJ5_init_d00df 12 = .ok (.newarray .byte, 2) := by decide +kernel
theorem dJ5_init_d00df_14 : decode cJ5_init_d00df 14 = .ok (.putfield 15, 3) := by decide +kernel
theorem dJ5_init_d00df_17 : decode cJ5_init_d00df 17 = .ok (.aload_n 0, 1) := by decide +kernel
theorem dJ5_init_d00df_18 : decode cJ5_init_d00df 18 = .ok (.iconst 0, 1) := by decide +kernel
theorem dJ5_init_d00df_19 : decode cJ5_init_d00df 19 = .ok (.putfield 22, 3) := by decide +kernel
theorem dJ5_init_d00df_22 : decode cJ5_init_d00df 22 = .ok (.goto 16, 3) := by decide +kernel
theorem dJ5_init_d00df_25 : decode cJ5_init_d00df 25 = .ok (.aload_n 0, 1) := by decide +kernel
theorem dJ5_init_d00df_26 : decode cJ5_init_d00df 26 = .ok (.iload_n 1, 1) := by decide +kernel
theorem dJ5_init_d00df_27 : decode cJ5_init_d00df 27 = .ok (.invokestatic 26, 3) := by decide +kernel
theorem dJ5_init_d00df_30 : decode cJ5_init_d00df 30 = .ok (.putfield 15, 3) := by decide +kernel
theorem dJ5_init_d00df_33 : decode cJ5_init_d00df 33 = .ok (.aload_n 0, 1) := by decide +kernel
theorem dJ5_init_d00df_34 : decode cJ5_init_d00df 34 = .ok (.iconst 1, 1) := by decide +kernel
theorem dJ5_init_d00df_35 : decode cJ5_init_d00df 35 = .ok (.putfield 22, 3) := by decide +kernel
theorem dJ5_init_d00df_38 : decode cJ5_init_d00df 38 = .ok (.return_, 1) := by decide +kernel
theorem dJ5_length_8abf5_0 : decode cJ5_length_8abf5 0 = .ok (.aload_n 0, 1) := by decide +kernel
theorem dJ5_length_8abf5_1 : decode cJ5_length_8abf5 1 = .ok (.getfield 79, 3) := by decide +kernel
theorem dJ5_length_8abf5_4 : decode cJ5_length_8abf5 4 = .ok (.ireturn, 1) := by decide +kernel
theorem dJ5_ensureCapacityInternal_d00df_0 : decode cJ5_ensureCapacityInternal_d00df 0 = .ok (.aload_n 0, 1) := by decide +kernel
theorem dJ5_ensureCapacityInternal_d00df_1 : decode cJ5_ensureCapacityInternal_d00df 1 = .ok (.getfield 15, 3) := by decide +kernel
theorem dJ5_ensureCapacityInternal_d00df_4 : decode cJ5_ensureCapacityInternal_d00df 4 = .ok (.arraylength, 1) := by decide +kernel
theorem dJ5_ensureCapacityInternal_d00df_5 : decode cJ5_ensureCapacityInternal_d00df 5 = .ok (.aload_n 0, 1) := by decide +kernel
theorem dJ5_ensureCapacityInternal_d00df_6 : decode cJ5_ensureCapacityInternal_d00df 6 = .ok (.getfield 22, 3) := by decide +kernel
theorem dJ5_ensureCapacityInternal_d00df_9 : decode cJ5_ensureCapacityInternal_d00df 9 = .ok (.ishr, 1) := by decide +kernel
theorem dJ5_ensureCapacityInternal_d00df_10 : decode cJ5_ensureCapacityInternal_d00df 10 = .ok (.istore_n 2, 1) := by decide +kernel
theorem dJ5_ensureCapacityInternal_d00df_11 : decode cJ5_ensureCapacityInternal_d00df 11 = .ok (.iload_n 1, 1) := by decide +kernel
theorem dJ5_ensureCapacityInternal_d00df_12 : decode cJ5_ensureCapacityInternal_d00df 12 = .ok (.iload_n 2, 1) := by decide +kernel
theorem dJ5_ensureCapacityInternal_d00df_13 : decode cJ5_ensureCapacityInternal_d00df 13 = .ok (.isub, 1) := by decide +kernel
theorem dJ5_ensureCapacityInternal_d00df_14 : decode cJ5_ensureCapacityInternal_d00df 14 = .ok (.ifCond .le 24, 3) := by decide +kernel
theorem dJ5_ensureCapacityInternal_d00df_17 : decode cJ5_ensureCapacityInternal_d00df 17 = .ok (.aload_n 0, 1) := by decide +kernel
theorem dJ5_ensureCapacityInternal_d00df_18 : decode cJ5_ensureCapacityInternal_d00df 18 = .ok (.aload_n 0, 1) := by decide +kernel
theorem dJ5_ensureCapacityInternal_d00df_19 : decode cJ5_ensureCapacityInternal_d00df 19 = .ok (.getfield 15, 3) := by decide +kernel
theorem dJ5_ensureCapacityInternal_d00df_22 : decode cJ5_ensureCapacityInternal_d00df 22 = .ok (.aload_n 0, 1) := by decide +kernel
theorem dJ5_ensureCapacityInternal_d00df_23 : decode cJ5_ensureCapacityInternal_d00df 23 = .ok (.iload_n 1, 1) := by decide +kernel
theorem dJ5_ensureCapacityInternal_d00df_24 : decode cJ5_ensureCapacityInternal_d00df 24 = .ok (.invokevirtual 104, 3) := by decide +kernel
theorem dJ5_ensureCapacityInternal_d00df_27 : decode cJ5_ensureCapacityInternal_d00df 27 = .ok (.aload_n 0, 1) := by decide +kernel
theorem dJ5_ensureCapacityInternal_d00df_28 : decode cJ5_ensureCapacityInternal_d00df 28 = .ok (.getfield 22, 3) := by decide +kernel
theorem dJ5_ensureCapacityInternal_d00df_31 : decode cJ5_ensureCapacityInternal_d00df 31 = .ok (.ishl, 1) := by decide +kernel
theorem dJ5_ensureCapacityInternal_d00df_32 : decode cJ5_ensureCapacityInternal_d00df 32 = .ok (.invokestatic 108, 3) := by decide +kernel
theorem dJ5_ensureCapacityInternal_d00df_35 : decode cJ5_ensureCapacityInternal_d00df 35 = .ok (.putfield 15, 3) := by decide +kernel
theorem dJ5_ensureCapacityInternal_d00df_38 : decode cJ5_ensureCapacityInternal_d00df 38 = .ok (.return_, 1) := by decide +kernel
theorem dJ5_setLength_d00df_0 : decode cJ5_setLength_d00df 0 = .ok (.iload_n 1, 1) := by decide +kernel
theorem dJ5_setLength_d00df_1 : decode cJ5_setLength_d00df 1 = .ok (.ifCond .ge 12, 3) := by decide +kernel
theorem dJ5_setLength_d00df_4 : decode cJ5_setLength_d00df 4 = .ok (.new 129, 3) := by decide +kernel
theorem dJ5_setLength_d00df_7 : decode cJ5_setLength_d00df 7 = .ok (.dup, 1) := by decide +kernel
theorem dJ5_setLength_d00df_8 : decode cJ5_setLength_d00df 8 = .ok (.iload_n 1, 1) := by decide +kernel
theorem dJ5_setLength_d00df_9 : decode cJ5_setLength_d00df 9 = .ok (.invokespecial 131, 3) := by decide +kernel
theorem dJ5_setLength_d00df_12 : decode cJ5_setLength_d00df 12 = .ok (.athrow, 1) := by decide +kernel
theorem dJ5_setLength_d00df_13 : decode cJ5_setLength_d00df 13 = .ok (.aload_n 0, 1) := by decide +kernel
theorem dJ5_setLength_d00df_14 : decode cJ5_setLength_d00df 14 = .ok (.iload_n 1, 1) := by decide +kernel
theorem dJ5_setLength_d00df_15 : decode cJ5_setLength_d00df 15 = .ok (.invokevirtual 100, 3) := by decide +kernel
theorem dJ5_setLength_d00df_18 : decode cJ5_setLength_d00df 18 = .ok (.aload_n 0, 1) := by decide +kernel
theorem dJ5_setLength_d00df_19 : decode cJ5_setLength_d00df 19 = .ok (.getfield 79, 3) := by decide +kernel
theorem dJ5_setLength_d00df_22 : decode cJ5_setLength_d00df 22 = .ok (.iload_n 1, 1) := by decide +kernel
theorem dJ5_setLength_d00df_23 : decode cJ5_setLength_d00df 23 = .ok (.if_icmp .ge 40, 3) := by decide +kernel
theorem dJ5_setLength_d00df_26 : decode cJ5_setLength_d00df 26 = .ok (.aload_n 0, 1) := by decide +kernel
theorem dJ5_setLength_d00df_27 : decode cJ5_setLength_d00df 27 = .ok (.invokevirtual 83, 3) := by decide +kernel
theorem dJ5_setLength_d00df_30 : decode cJ5_setLength_d00df 30 = .ok (.ifCond .eq 18, 3) := by decide +kernel
theorem dJ5_setLength_d00df_33 : decode cJ5_setLength_d00df 33 = .ok (.aload_n 0, 1) := by decide +kernel
theorem dJ5_setLength_d00df_34 : decode cJ5_setLength_d00df 34 = .ok (.getfield 15, 3) := by decide +kernel
theorem dJ5_setLength_d00df_37 : decode cJ5_setLength_d00df 37 = .ok (.aload_n 0, 1) := by decide +kernel
theorem dJ5_setLength_d00df_38 : decode cJ5_setLength_d00df 38 = .ok (.getfield 79, 3) := by decide +kernel
theorem dJ5_setLength_d00df_41 : decode cJ5_setLength_d00df 41 = .ok (.iload_n 1, 1) := by decide +kernel
theorem dJ5_setLength_d00df_42 : decode cJ5_setLength_d00df 42 = .ok (.invokestatic 133, 3) := by decide +kernel
theorem dJ5_setLength_d00df_45 : decode cJ5_setLength_d00df 45 = .ok (.goto 31, 3) := by decide +kernel
theorem dJ5_setLength_d00df_48 : decode cJ5_setLength_d00df 48 = .ok (.aload_n 0, 1) := by decide +kernel
theorem dJ5_setLength_d00df_49 : decode cJ5_setLength_d00df 49 = .ok (.getfield 15, 3) := by decide +kernel
theorem dJ5_setLength_d00df_52 : decode cJ5_setLength_d00df 52 = .ok (.aload_n 0, 1) := by decide +kernel
theorem dJ5_setLength_d00df_53 : decode cJ5_setLength_d00df 53 = .ok (.getfield 79, 3) := by decide +kernel
theorem dJ5_setLength_d00df_56 : decode cJ5_setLength_d00df 56 = .ok (.iload_n 1, 1) := by decide +kernel
theorem dJ5_setLength_d00df_57 : decode cJ5_setLength_d00df 57 = .ok (.invokestatic 137, 3) := by decide +kernel
theorem dJ5_setLength_d00df_60 : decode cJ5_setLength_d00df 60 = .ok (.goto 16, 3) := by decide +kernel
theorem dJ5_setLength_d00df_63 : decode cJ5_setLength_d00df 63 = .ok (.aload_n 0, 1) := by decide +kernel
theorem dJ5_setLength_d00df_64 : decode cJ5_setLength_d00df 64 = .ok (.getfield 79, 3) := by decide +kernel
theorem dJ5_setLength_d00df_67 : decode cJ5_setLength_d00df 67 = .ok (.iload_n 1, 1) := by decide +kernel
theorem dJ5_setLength_d00df_68 : decode cJ5_setLength_d00df 68 = .ok (.if_icmp .le 8, 3) := by decide +kernel
theorem dJ5_setLength_d00df_71 : decode cJ5_setLength_d00df 71 = .ok (.aload_n 0, 1) := by decide +kernel
theorem dJ5_setLength_d00df_72 : decode cJ5_setLength_d00df 72 = .ok (.iconst 1, 1) := by decide +kernel
theorem dJ5_setLength_d00df_73 : decode cJ5_setLength_d00df 73 = .ok (.putfield 73, 3) := by decide +kernel
theorem dJ5_setLength_d00df_76 : decode cJ5_setLength_d00df 76 = .ok (.aload_n 0, 1) := by decide +kernel
theorem dJ5_setLength_d00df_77 : decode cJ5_setLength_d00df 77 = .ok (.iload_n 1, 1) := by decide +kernel
theorem dJ5_setLength_d00df_78 : decode cJ5_setLength_d00df 78 = .ok (.putfield 79, 3) := by decide +kernel
theorem dJ5_setLength_d00df_81 : decode cJ5_setLength_d00df 81 = .ok (.return_, 1) := by decide +kernel
theorem dJ5_charAt_5068e_0 : decode cJ5_charAt_5068e 0 = .ok (.aload_n 0, 1) := by decide +kernel
theorem dJ5_charAt_5068e_1 : decode cJ5_charAt_5068e 1 = .ok (.getfield 22, 3) := by decide +kernel
theorem dJ5_charAt_5068e_4 : decode cJ5_charAt_5068e 4 = .ok (.istore_n 2, 1) := by decide +kernel
theorem dJ5_charAt_5068e_5 : decode cJ5_charAt_5068e 5 = .ok (.aload_n 0, 1) := by decide +kernel
theorem dJ5_charAt_5068e_6 : decode cJ5_charAt_5068e 6 = .ok (.getfield 15, 3) := by decide +kernel
theorem dJ5_charAt_5068e_9 : decode cJ5_charAt_5068e 9 = .ok (.astore_n 3, 1) := by decide +kernel
theorem dJ5_charAt_5068e_10 : decode cJ5_charAt_5068e 10 = .ok (.aload_n 0, 1) := by decide +kernel
theorem dJ5_charAt_5068e_11 : decode cJ5_charAt_5068e 11 = .ok (.getfield 79, 3) := by decide +kernel
theorem dJ5_charAt_5068e_14 : decode cJ5_charAt_5068e 14 = .ok (.aload_n 3, 1) := by decide +kernel
theorem dJ5_charAt_5068e_15 : decode cJ5_charAt_5068e 15 = .ok (.arraylength, 1) := by decide +kernel
theorem dJ5_charAt_5068e_16 : decode cJ5_charAt_5068e 16 = .ok (.iload_n 2, 1) := by decide +kernel
theorem dJ5_charAt_5068e_17 : decode cJ5_charAt_5068e 17 = .ok (.ishr, 1) := by decide +kernel
theorem dJ5_charAt_5068e_18 : decode cJ5_charAt_5068e 18 = .ok (.invokestatic 138, 3) := by decide +kernel
theorem dJ5_charAt_5068e_21 : decode cJ5_charAt_5068e 21 = .ok (.istore 4, 2) := by decide +kernel
theorem dJ5_charAt_5068e_23 : decode cJ5_charAt_5068e 23 = .ok (.iload_n 1, 1) := by decide +kernel
theorem dJ5_charAt_5068e_24 : decode cJ5_charAt_5068e 24 = .ok (.iload 4, 2) := by decide +kernel
theorem dJ5_charAt_5068e_26 : decode cJ5_charAt_5068e 26 = .ok (.invokestatic 144, 3) := by decide +kernel
theorem dJ5_charAt_5068e_29 : decode cJ5_charAt_5068e 29 = .ok (.iload_n 2, 1) := by decide +kernel
theorem dJ5_charAt_5068e_30 : decode cJ5_charAt_5068e 30 = .ok (.ifCond .ne 12, 3) := by decide +kernel
theorem dJ5_charAt_5068e_33 : decode cJ5_charAt_5068e 33 = .ok (.aload_n 3, 1) := by decide +kernel
theorem dJ5_charAt_5068e_34 : decode cJ5_charAt_5068e 34 = .ok (.iload_n 1, 1) := by decide +kernel
theorem dJ5_charAt_5068e_35 : decode cJ5_charAt_5068e 35 = .ok (.baload, 1) := by decide +kernel
theorem dJ5_charAt_5068e_36 : decode cJ5_charAt_5068e 36 = .ok (.sipush 255, 3) := by decide +kernel
theorem dJ5_charAt_5068e_39 : decode cJ5_charAt_5068e 39 = .ok (.iand, 1) := by decide +kernel
theorem dJ5_charAt_5068e_40 : decode cJ5_charAt_5068e 40 = .ok (.i2c, 1) := by decide +kernel
theorem dJ5_charAt_5068e_41 : decode cJ5_charAt_5068e 41 = .ok (.ireturn, 1) := by decide +kernel
theorem dJ5_charAt_5068e_42 : decode cJ5_charAt_5068e 42 = .ok (.aload_n 3, 1) := by decide +kernel
theorem dJ5_charAt_5068e_43 : decode cJ5_charAt_5068e 43 = .ok (.iload_n 1, 1) := by decide +kernel
theorem dJ5_charAt_5068e_44 : decode cJ5_charAt_5068e 44 = .ok (.invokestatic 148, 3) := by decide +kernel
theorem dJ5_charAt_5068e_47 : decode cJ5_charAt_5068e 47 = .ok (.ireturn, 1) := by decide +kernel
theorem dJ5_append_3fe6f_0 : decode cJ5_append_3fe6f 0 = .ok (.aload_n 0, 1) := by decide +kernel
theorem dJ5_append_3fe6f_1 : decode cJ5_append_3fe6f 1 = .ok (.aload_n 0, 1) := by decide +kernel
theorem dJ5_append_3fe6f_2 : decode cJ5_append_3fe6f 2 = .ok (.getfield 79, 3) := by decide +kernel
theorem dJ5_append_3fe6f_5 : decode cJ5_append_3fe6f 5 = .ok (.iconst 1, 1) := by decide +kernel
theorem dJ5_append_3fe6f_6 : decode cJ5_append_3fe6f 6 = .ok (.iadd, 1) := by decide +kernel
theorem dJ5_append_3fe6f_7 : decode cJ5_append_3fe6f 7 = .ok (.invokevirtual 100, 3) := by decide +kernel
theorem dJ5_append_3fe6f_10 : decode cJ5_append_3fe6f 10 = .ok (.aload_n 0, 1) := by decide +kernel
theorem dJ5_append_3fe6f_11 : decode cJ5_append_3fe6f 11 = .ok (.invokevirtual 83, 3) := by decide +kernel
theorem dJ5_append_3fe6f_14 : decode cJ5_append_3fe6f 14 = .ok (.ifCond .eq 31, 3) := by decide +kernel
theorem dJ5_append_3fe6f_17 : decode cJ5_append_3fe6f 17 = .ok (.iload_n 1, 1) := by decide +kernel
theorem dJ5_append_3fe6f_18 : decode cJ5_append_3fe6f 18 = .ok (.invokestatic 191, 3) := by decide +kernel
theorem dJ5_append_3fe6f_21 : decode cJ5_append_3fe6f 21 = .ok (.ifCond .eq 24, 3) := by decide +kernel
theorem dJ5_append_3fe6f_24 : decode cJ5_append_3fe6f 24 = .ok (.aload_n 0, 1) := by decide +kernel
theorem dJ5_append_3fe6f_25 : decode cJ5_append_3fe6f 25 = .ok (.getfield 15, 3) := by decide +kernel
