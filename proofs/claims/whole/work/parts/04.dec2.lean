theorem dX5_reckon_43 : decode cX5_reckon 43 = .ok (.aload_n 0, 1) := by decide +kernel
theorem dX5_reckon_44 : decode cX5_reckon 44 = .ok (.getfield 29, 3) := by decide +kernel
theorem dX5_reckon_47 : decode cX5_reckon 47 = .ok (.aload_n 0, 1) := by decide +kernel
theorem dX5_reckon_48 : decode cX5_reckon 48 = .ok (.getfield 16, 3) := by decide +kernel
theorem dX5_reckon_51 : decode cX5_reckon 51 = .ok (.iload_n 1, 1) := by decide +kernel
theorem dX5_reckon_52 : decode cX5_reckon 52 = .ok (.iaload, 1) := by decide +kernel
theorem dX5_reckon_53 : decode cX5_reckon 53 = .ok (.iaload, 1) := by decide +kernel
theorem dX5_reckon_54 : decode cX5_reckon 54 = .ok (.goto 4, 3) := by decide +kernel
theorem dX5_reckon_57 : decode cX5_reckon 57 = .ok (.iconst 0, 1) := by decide +kernel
theorem dX5_reckon_58 : decode cX5_reckon 58 = .ok (.istore 5, 2) := by decide +kernel
theorem dX5_reckon_60 : decode cX5_reckon 60 = .ok (.aload_n 0, 1) := by decide +kernel
theorem dX5_reckon_61 : decode cX5_reckon 61 = .ok (.getfield 7, 3) := by decide +kernel
theorem dX5_reckon_64 : decode cX5_reckon 64 = .ok (.iload_n 1, 1) := by decide +kernel
theorem dX5_reckon_65 : decode cX5_reckon 65 = .ok (.iaload, 1) := by decide +kernel
theorem dX5_reckon_66 : decode cX5_reckon 66 = .ok (.tableswitch 129 0 9 #[54, 56, 62, 68, 74, 79, 92, 105, 118, 123], 54) := by decide +kernel
theorem dX5_reckon_120 : decode cX5_reckon 120 = .ok (.iload_n 3, 1) := by decide +kernel
theorem dX5_reckon_121 : decode cX5_reckon 121 = .ok (.ireturn, 1) := by decide +kernel
theorem dX5_reckon_122 : decode cX5_reckon 122 = .ok (.iload_n 2, 1) := by decide +kernel
theorem dX5_reckon_123 : decode cX5_reckon 123 = .ok (.iload_n 3, 1) := by decide +kernel
theorem dX5_reckon_124 : decode cX5_reckon 124 = .ok (.invokestatic 123, 3) := by decide +kernel
theorem dX5_reckon_127 : decode cX5_reckon 127 = .ok (.ireturn, 1) := by decide +kernel
theorem dX5_reckon_128 : decode cX5_reckon 128 = .ok (.iload 4, 2) := by decide +kernel
theorem dX5_reckon_130 : decode cX5_reckon 130 = .ok (.iload 5, 2) := by decide +kernel
theorem dX5_reckon_132 : decode cX5_reckon 132 = .ok (.iadd, 1) := by decide +kernel
theorem dX5_reckon_133 : decode cX5_reckon 133 = .ok (.ireturn, 1) := by decide +kernel
theorem dX5_reckon_134 : decode cX5_reckon 134 = .ok (.iload 4, 2) := by decide +kernel
theorem dX5_reckon_136 : decode cX5_reckon 136 = .ok (.iload 5, 2) := by decide +kernel
theorem dX5_reckon_138 : decode cX5_reckon 138 = .ok (.isub, 1) := by decide +kernel
theorem dX5_reckon_139 : decode cX5_reckon 139 = .ok (.ireturn, 1) := by decide +kernel
theorem dX5_reckon_140 : decode cX5_reckon 140 = .ok (.iload_n 3, 1) := by decide +kernel
theorem dX5_reckon_141 : decode cX5_reckon 141 = .ok (.iload 5, 2) := by decide +kernel
theorem dX5_reckon_143 : decode cX5_reckon 143 = .ok (.imul, 1) := by decide +kernel
theorem dX5_reckon_144 : decode cX5_reckon 144 = .ok (.ireturn, 1) := by decide +kernel
theorem dX5_reckon_145 : decode cX5_reckon 145 = .ok (.iload 4, 2) := by decide +kernel
theorem dX5_reckon_147 : decode cX5_reckon 147 = .ok (.iload 5, 2) := by decide +kernel
theorem dX5_reckon_149 : decode cX5_reckon 149 = .ok (.if_icmp .ge 7, 3) := by decide +kernel
theorem dX5_reckon_152 : decode cX5_reckon 152 = .ok (.iconst 1, 1) := by decide +kernel
theorem dX5_reckon_153 : decode cX5_reckon 153 = .ok (.goto 4, 3) := by decide +kernel
theorem dX5_reckon_156 : decode cX5_reckon 156 = .ok (.iconst 0, 1) := by decide +kernel
theorem dX5_reckon_157 : decode cX5_reckon 157 = .ok (.ireturn, 1) := by decide +kernel
theorem dX5_reckon_158 : decode cX5_reckon 158 = .ok (.iload 4, 2) := by decide +kernel
theorem dX5_reckon_160 : decode cX5_reckon 160 = .ok (.iload 5, 2) := by decide +kernel
theorem dX5_reckon_162 : decode cX5_reckon 162 = .ok (.if_icmp .ne 7, 3) := by decide +kernel
theorem dX5_reckon_165 : decode cX5_reckon 165 = .ok (.iconst 1, 1) := by decide +kernel
theorem dX5_reckon_166 : decode cX5_reckon 166 = .ok (.goto 4, 3) := by decide +kernel
theorem dX5_reckon_169 : decode cX5_reckon 169 = .ok (.iconst 0, 1) := by decide +kernel
theorem dX5_reckon_170 : decode cX5_reckon 170 = .ok (.ireturn, 1) := by decide +kernel
theorem dX5_reckon_171 : decode cX5_reckon 171 = .ok (.iload 5, 2) := by decide +kernel
theorem dX5_reckon_173 : decode cX5_reckon 173 = .ok (.iload_n 3, 1) := by decide +kernel
theorem dX5_reckon_174 : decode cX5_reckon 174 = .ok (.irem, 1) := by decide +kernel
theorem dX5_reckon_175 : decode cX5_reckon 175 = .ok (.ifCond .ne 7, 3) := by decide +kernel
theorem dX5_reckon_178 : decode cX5_reckon 178 = .ok (.iconst 1, 1) := by decide +kernel
theorem dX5_reckon_179 : decode cX5_reckon 179 = .ok (.goto 4, 3) := by decide +kernel
theorem dX5_reckon_182 : decode cX5_reckon 182 = .ok (.iconst 0, 1) := by decide +kernel
theorem dX5_reckon_183 : decode cX5_reckon 183 = .ok (.ireturn, 1) := by decide +kernel
theorem dX5_reckon_184 : decode cX5_reckon 184 = .ok (.iconst 1, 1) := by decide +kernel
theorem dX5_reckon_185 : decode cX5_reckon 185 = .ok (.iload 4, 2) := by decide +kernel
theorem dX5_reckon_187 : decode cX5_reckon 187 = .ok (.isub, 1) := by decide +kernel
theorem dX5_reckon_188 : decode cX5_reckon 188 = .ok (.ireturn, 1) := by decide +kernel
theorem dX5_reckon_189 : decode cX5_reckon 189 = .ok (.iload 4, 2) := by decide +kernel
theorem dX5_reckon_191 : decode cX5_reckon 191 = .ok (.iload 5, 2) := by decide +kernel
theorem dX5_reckon_193 : decode cX5_reckon 193 = .ok (.iand, 1) := by decide +kernel
theorem dX5_reckon_194 : decode cX5_reckon 194 = .ok (.ireturn, 1) := by decide +kernel
theorem dX5_reckon_195 : decode cX5_reckon 195 = .ok (.iload 4, 2) := by decide +kernel
theorem dX5_reckon_197 : decode cX5_reckon 197 = .ok (.iload 5, 2) := by decide +kernel
theorem dX5_reckon_199 : decode cX5_reckon 199 = .ok (.ior, 1) := by decide +kernel
theorem dX5_reckon_200 : decode cX5_reckon 200 = .ok (.ireturn, 1) := by decide +kernel
theorem dX5_isTrue_0 : decode cX5_isTrue 0 = .ok (.aload_n 0, 1) := by decide +kernel
theorem dX5_isTrue_1 : decode cX5_isTrue 1 = .ok (.iload_n 1, 1) := by decide +kernel
theorem dX5_isTrue_2 : decode cX5_isTrue 2 = .ok (.iload_n 2, 1) := by decide +kernel
theorem dX5_isTrue_3 : decode cX5_isTrue 3 = .ok (.invokevirtual 126, 3) := by decide +kernel
theorem dX5_isTrue_6 : decode cX5_isTrue 6 = .ok (.iconst 1, 1) := by decide +kernel
theorem dX5_isTrue_7 : decode cX5_isTrue 7 = .ok (.if_icmp .ne 7, 3) := by decide +kernel
theorem dX5_isTrue_10 : decode cX5_isTrue 10 = .ok (.iconst 1, 1) := by decide +kernel
theorem dX5_isTrue_11 : decode cX5_isTrue 11 = .ok (.goto 4, 3) := by decide +kernel
theorem dX5_isTrue_14 : decode cX5_isTrue 14 = .ok (.iconst 0, 1) := by decide +kernel
theorem dX5_isTrue_15 : decode cX5_isTrue 15 = .ok (.ireturn, 1) := by decide +kernel
theorem dX5_changed_0 : decode cX5_changed 0 = .ok (.aload_n 0, 1) := by decide +kernel
theorem dX5_changed_1 : decode cX5_changed 1 = .ok (.aload_n 0, 1) := by decide +kernel
theorem dX5_changed_2 : decode cX5_changed 2 = .ok (.getfield 16, 3) := by decide +kernel
theorem dX5_changed_5 : decode cX5_changed 5 = .ok (.iload_n 1, 1) := by decide +kernel
theorem dX5_changed_6 : decode cX5_changed 6 = .ok (.iaload, 1) := by decide +kernel
theorem dX5_changed_7 : decode cX5_changed 7 = .ok (.iload_n 2, 1) := by decide +kernel
theorem dX5_changed_8 : decode cX5_changed 8 = .ok (.invokevirtual 126, 3) := by decide +kernel
theorem dX5_changed_11 : decode cX5_changed 11 = .ok (.bipush 15, 2) := by decide +kernel
theorem dX5_changed_13 : decode cX5_changed 13 = .ok (.iand, 1) := by decide +kernel
theorem dX5_changed_14 : decode cX5_changed 14 = .ok (.istore_n 3, 1) := by decide +kernel
theorem dX5_changed_15 : decode cX5_changed 15 = .ok (.iload_n 2, 1) := by decide +kernel
theorem dX5_changed_16 : decode cX5_changed 16 = .ok (.bipush 15, 2) := by decide +kernel
theorem dX5_changed_18 : decode cX5_changed 18 = .ok (.iconst 4, 1) := by decide +kernel
theorem dX5_changed_19 : decode cX5_changed 19 = .ok (.aload_n 0, 1) := by decide +kernel
theorem dX5_changed_20 : decode cX5_changed 20 = .ok (.getfield 13, 3) := by decide +kernel
theorem dX5_changed_23 : decode cX5_changed 23 = .ok (.iload_n 1, 1) := by decide +kernel
theorem dX5_changed_24 : decode cX5_changed 24 = .ok (.iaload, 1) := by decide +kernel
theorem dX5_changed_25 : decode cX5_changed 25 = .ok (.imul, 1) := by decide +kernel
theorem dX5_changed_26 : decode cX5_changed 26 = .ok (.ishl, 1) := by decide +kernel
theorem dX5_changed_27 : decode cX5_changed 27 = .ok (.iconst (-1), 1) := by decide +kernel
theorem dX5_changed_28 : decode cX5_changed 28 = .ok (.ixor, 1) := by decide +kernel
theorem dX5_changed_29 : decode cX5_changed 29 = .ok (.iand, 1) := by decide +kernel
theorem dX5_changed_30 : decode cX5_changed 30 = .ok (.iload_n 3, 1) := by decide +kernel
theorem dX5_changed_31 : decode cX5_changed 31 = .ok (.iconst 4, 1) := by decide +kernel
theorem dX5_changed_32 : decode cX5_changed 32 = .ok (.aload_n 0, 1) := by decide +kernel
theorem dX5_changed_33 : decode cX5_changed 33 = .ok (.getfield 13, 3) := by decide +kernel
theorem dX5_changed_36 : decode cX5_changed 36 = .ok (.iload_n 1, 1) := by decide +kernel
theorem dX5_changed_37 : decode cX5_changed 37 = .ok (.iaload, 1) := by decide +kernel
theorem dX5_changed_38 : decode cX5_changed 38 = .ok (.imul, 1) := by decide +kernel
theorem dX5_changed_39 : decode cX5_changed 39 = .ok (.ishl, 1) := by decide +kernel
theorem dX5_changed_40 : decode cX5_changed 40 = .ok (.ior, 1) := by decide +kernel
theorem dX5_changed_41 : decode cX5_changed 41 = .ok (.ireturn, 1) := by decide +kernel
theorem dX5_value_0 : decode cX5_value 0 = .ok (.aload_n 0, 1) := by decide +kernel
theorem dX5_value_1 : decode cX5_value 1 = .ok (.iconst 0, 1) := by decide +kernel
theorem dX5_value_2 : decode cX5_value 2 = .ok (.putfield 78, 3) := by decide +kernel
theorem dX5_value_5 : decode cX5_value 5 = .ok (.aload_n 0, 1) := by decide +kernel
theorem dX5_value_6 : decode cX5_value 6 = .ok (.iload_n 1, 1) := by decide +kernel
theorem dX5_value_7 : decode cX5_value 7 = .ok (.invokevirtual 92, 3) := by decide +kernel
theorem dX5_value_10 : decode cX5_value 10 = .ok (.ifCond .eq 14, 3) := by decide +kernel
theorem dX5_value_13 : decode cX5_value 13 = .ok (.iload_n 2, 1) := by decide +kernel
theorem dX5_value_14 : decode cX5_value 14 = .ok (.iconst 0, 1) := by decide +kernel
theorem dX5_value_15 : decode cX5_value 15 = .ok (.sipush 4095, 3) := by decide +kernel
theorem dX5_value_18 : decode cX5_value 18 = .ok (.invokestatic 85, 3) := by decide +kernel
theorem dX5_value_21 : decode cX5_value 21 = .ok (.ifCond .ne 9, 3) := by decide +kernel
theorem dX5_value_24 : decode cX5_value 24 = .ok (.aload_n 0, 1) := by decide +kernel
theorem dX5_value_25 : decode cX5_value 25 = .ok (.iconst 1, 1) := by decide +kernel
theorem dX5_value_26 : decode cX5_value 26 = .ok (.invokevirtual 106, 3) := by decide +kernel
theorem dX5_value_29 : decode cX5_value 29 = .ok (.ireturn, 1) := by decide +kernel
theorem dX5_value_30 : decode cX5_value 30 = .ok (.aload_n 0, 1) := by decide +kernel
theorem dX5_value_31 : decode cX5_value 31 = .ok (.iload_n 1, 1) := by decide +kernel
theorem dX5_value_32 : decode cX5_value 32 = .ok (.iload_n 2, 1) := by decide +kernel
theorem dX5_value_33 : decode cX5_value 33 = .ok (.invokevirtual 126, 3) := by decide +kernel
theorem dX5_value_36 : decode cX5_value 36 = .ok (.ireturn, 1) := by decide +kernel
theorem dX5_holds_0 : decode cX5_holds 0 = .ok (.aload_n 0, 1) := by decide +kernel
theorem dX5_holds_1 : decode cX5_holds 1 = .ok (.iconst 0, 1) := by decide +kernel
theorem dX5_holds_2 : decode cX5_holds 2 = .ok (.putfield 78, 3) := by decide +kernel
theorem dX5_holds_5 : decode cX5_holds 5 = .ok (.aload_n 0, 1) := by decide +kernel
theorem dX5_holds_6 : decode cX5_holds 6 = .ok (.iload_n 1, 1) := by decide +kernel
theorem dX5_holds_7 : decode cX5_holds 7 = .ok (.invokevirtual 96, 3) := by decide +kernel
theorem dX5_holds_10 : decode cX5_holds 10 = .ok (.ifCond .eq 14, 3) := by decide +kernel
theorem dX5_holds_13 : decode cX5_holds 13 = .ok (.iload_n 2, 1) := by decide +kernel
theorem dX5_holds_14 : decode cX5_holds 14 = .ok (.iconst 0, 1) := by decide +kernel
theorem dX5_holds_15 : decode cX5_holds 15 = .ok (.sipush 4095, 3) := by decide +kernel
theorem dX5_holds_18 : decode cX5_holds 18 = .ok (.invokestatic 85, 3) := by decide +kernel
theorem dX5_holds_21 : decode cX5_holds 21 = .ok (.ifCond .ne 17, 3) := by decide +kernel
theorem dX5_holds_24 : decode cX5_holds 24 = .ok (.aload_n 0, 1) := by decide +kernel
theorem dX5_holds_25 : decode cX5_holds 25 = .ok (.iconst 1, 1) := by decide +kernel
theorem dX5_holds_26 : decode cX5_holds 26 = .ok (.invokevirtual 106, 3) := by decide +kernel
theorem dX5_holds_29 : decode cX5_holds 29 = .ok (.ifCond .le 7, 3) := by decide +kernel
theorem dX5_holds_32 : decode cX5_holds 32 = .ok (.iconst 1, 1) := by decide +kernel
theorem dX5_holds_33 : decode cX5_holds 33 = .ok (.goto 4, 3) := by decide +kernel
theorem dX5_holds_36 : decode cX5_holds 36 = .ok (.iconst 0, 1) := by decide +kernel
theorem dX5_holds_37 : decode cX5_holds 37 = .ok (.ireturn, 1) := by decide +kernel
theorem dX5_holds_38 : decode cX5_holds 38 = .ok (.aload_n 0, 1) := by decide +kernel
theorem dX5_holds_39 : decode cX5_holds 39 = .ok (.iload_n 1, 1) := by decide +kernel
theorem dX5_holds_40 : decode cX5_holds 40 = .ok (.iload_n 2, 1) := by decide +kernel
theorem dX5_holds_41 : decode cX5_holds 41 = .ok (.invokevirtual 129, 3) := by decide +kernel
theorem dX5_holds_44 : decode cX5_holds 44 = .ok (.ireturn, 1) := by decide +kernel
theorem dX5_run_0 : decode cX5_run 0 = .ok (.aload_n 0, 1) := by decide +kernel
theorem dX5_run_1 : decode cX5_run 1 = .ok (.iconst 0, 1) := by decide +kernel
theorem dX5_run_2 : decode cX5_run 2 = .ok (.putfield 78, 3) := by decide +kernel
theorem dX5_run_5 : decode cX5_run 5 = .ok (.aload_n 0, 1) := by decide +kernel
theorem dX5_run_6 : decode cX5_run 6 = .ok (.iload_n 1, 1) := by decide +kernel
theorem dX5_run_7 : decode cX5_run 7 = .ok (.invokevirtual 99, 3) := by decide +kernel
theorem dX5_run_10 : decode cX5_run 10 = .ok (.ifCond .eq 25, 3) := by decide +kernel
theorem dX5_run_13 : decode cX5_run 13 = .ok (.iload_n 2, 1) := by decide +kernel
theorem dX5_run_14 : decode cX5_run 14 = .ok (.iconst 0, 1) := by decide +kernel
theorem dX5_run_15 : decode cX5_run 15 = .ok (.sipush 4095, 3) := by decide +kernel
theorem dX5_run_18 : decode cX5_run 18 = .ok (.invokestatic 85, 3) := by decide +kernel
theorem dX5_run_21 : decode cX5_run 21 = .ok (.ifCond .eq 14, 3) := by decide +kernel
theorem dX5_run_24 : decode cX5_run 24 = .ok (.iload_n 3, 1) := by decide +kernel
theorem dX5_run_25 : decode cX5_run 25 = .ok (.iconst 1, 1) := by decide +kernel
theorem dX5_run_26 : decode cX5_run 26 = .ok (.sipush 500, 3) := by decide +kernel
theorem dX5_run_29 : decode cX5_run 29 = .ok (.invokestatic 85, 3) := by decide +kernel
theorem dX5_run_32 : decode cX5_run 32 = .ok (.ifCond .ne 9, 3) := by decide +kernel
theorem dX5_run_35 : decode cX5_run 35 = .ok (.aload_n 0, 1) := by decide +kernel
theorem dX5_run_36 : decode cX5_run 36 = .ok (.iconst 1, 1) := by decide +kernel
theorem dX5_run_37 : decode cX5_run 37 = .ok (.invokevirtual 106, 3) := by decide +kernel
theorem dX5_run_40 : decode cX5_run 40 = .ok (.ireturn, 1) := by decide +kernel
theorem dX5_run_41 : decode cX5_run 41 = .ok (.iload_n 2, 1) := by decide +kernel
theorem dX5_run_42 : decode cX5_run 42 = .ok (.istore 4, 2) := by decide +kernel
theorem dX5_run_44 : decode cX5_run 44 = .ok (.iconst 0, 1) := by decide +kernel
theorem dX5_run_45 : decode cX5_run 45 = .ok (.istore 5, 2) := by decide +kernel
theorem dX5_run_47 : decode cX5_run 47 = .ok (.iconst 1, 1) := by decide +kernel
theorem dX5_run_48 : decode cX5_run 48 = .ok (.istore 6, 2) := by decide +kernel
theorem dX5_run_50 : decode cX5_run 50 = .ok (.aload_n 0, 1) := by decide +kernel
theorem dX5_run_51 : decode cX5_run 51 = .ok (.getfield 75, 3) := by decide +kernel
theorem dX5_run_54 : decode cX5_run 54 = .ok (.iconst 0, 1) := by decide +kernel
theorem dX5_run_55 : decode cX5_run 55 = .ok (.iload_n 1, 1) := by decide +kernel
theorem dX5_run_56 : decode cX5_run 56 = .ok (.iastore, 1) := by decide +kernel
theorem dX5_run_57 : decode cX5_run 57 = .ok (.iload 6, 2) := by decide +kernel
theorem dX5_run_59 : decode cX5_run 59 = .ok (.ifCond .le 263, 3) := by decide +kernel
theorem dX5_run_62 : decode cX5_run 62 = .ok (.iinc 6 (-1), 3) := by decide +kernel
theorem dX5_run_65 : decode cX5_run 65 = .ok (.aload_n 0, 1) := by decide +kernel
theorem dX5_run_66 : decode cX5_run 66 = .ok (.getfield 75, 3) := by decide +kernel
theorem dX5_run_69 : decode cX5_run 69 = .ok (.iload 6, 2) := by decide +kernel
theorem dX5_run_71 : decode cX5_run 71 = .ok (.iaload, 1) := by decide +kernel
theorem dX5_run_72 : decode cX5_run 72 = .ok (.bipush 100, 2) := by decide +kernel
theorem dX5_run_74 : decode cX5_run 74 = .ok (.irem, 1) := by decide +kernel
theorem dX5_run_75 : decode cX5_run 75 = .ok (.istore 7, 2) := by decide +kernel
theorem dX5_run_77 : decode cX5_run 77 = .ok (.aload_n 0, 1) := by decide +kernel
theorem dX5_run_78 : decode cX5_run 78 = .ok (.getfield 75, 3) := by decide +kernel
theorem dX5_run_81 : decode cX5_run 81 = .ok (.iload 6, 2) := by decide +kernel
theorem dX5_run_83 : decode cX5_run 83 = .ok (.iaload, 1) := by decide +kernel
theorem dX5_run_84 : decode cX5_run 84 = .ok (.bipush 100, 2) := by decide +kernel
theorem dX5_run_86 : decode cX5_run 86 = .ok (.if_icmp .ge 7, 3) := by decide +kernel
theorem dX5_run_89 : decode cX5_run 89 = .ok (.iconst 1, 1) := by decide +kernel
theorem dX5_run_90 : decode cX5_run 90 = .ok (.goto 4, 3) := by decide +kernel
theorem dX5_run_93 : decode cX5_run 93 = .ok (.iconst 0, 1) := by decide +kernel
theorem dX5_run_94 : decode cX5_run 94 = .ok (.istore 8, 2) := by decide +kernel
theorem dX5_run_96 : decode cX5_run 96 = .ok (.iload 8, 2) := by decide +kernel
theorem dX5_run_98 : decode cX5_run 98 = .ok (.ifCond .eq 15, 3) := by decide +kernel
theorem dX5_run_101 : decode cX5_run 101 = .ok (.iload 5, 2) := by decide +kernel
theorem dX5_run_103 : decode cX5_run 103 = .ok (.iload_n 3, 1) := by decide +kernel
theorem dX5_run_104 : decode cX5_run 104 = .ok (.if_icmp .ne 9, 3) := by decide +kernel
theorem dX5_run_107 : decode cX5_run 107 = .ok (.aload_n 0, 1) := by decide +kernel
theorem dX5_run_108 : decode cX5_run 108 = .ok (.iconst 2, 1) := by decide +kernel
theorem dX5_run_109 : decode cX5_run 109 = .ok (.invokevirtual 106, 3) := by decide +kernel
theorem dX5_run_112 : decode cX5_run 112 = .ok (.ireturn, 1) := by decide +kernel
theorem dX5_run_113 : decode cX5_run 113 = .ok (.iload 8, 2) := by decide +kernel
theorem dX5_run_115 : decode cX5_run 115 = .ok (.ifCond .eq 10, 3) := by decide +kernel
theorem dX5_run_118 : decode cX5_run 118 = .ok (.iload 5, 2) := by decide +kernel
theorem dX5_run_120 : decode cX5_run 120 = .ok (.iconst 1, 1) := by decide +kernel
theorem dX5_run_121 : decode cX5_run 121 = .ok (.iadd, 1) := by decide +kernel
theorem dX5_run_122 : decode cX5_run 122 = .ok (.goto 5, 3) := by decide +kernel
theorem dX5_run_125 : decode cX5_run 125 = .ok (.iload 5, 2) := by decide +kernel
theorem dX5_run_127 : decode cX5_run 127 = .ok (.istore 5, 2) := by decide +kernel
theorem dX5_run_129 : decode cX5_run 129 = .ok (.aload_n 0, 1) := by decide +kernel
theorem dX5_run_130 : decode cX5_run 130 = .ok (.getfield 7, 3) := by decide +kernel
theorem dX5_run_133 : decode cX5_run 133 = .ok (.iload 7, 2) := by decide +kernel
theorem dX5_run_135 : decode cX5_run 135 = .ok (.iaload, 1) := by decide +kernel
theorem dX5_run_136 : decode cX5_run 136 = .ok (.bipush 12, 2) := by decide +kernel
theorem dX5_run_138 : decode cX5_run 138 = .ok (.if_icmp .ne 16, 3) := by decide +kernel
theorem dX5_run_141 : decode cX5_run 141 = .ok (.aload_n 0, 1) := by decide +kernel
theorem dX5_run_142 : decode cX5_run 142 = .ok (.iload 7, 2) := by decide +kernel
theorem dX5_run_144 : decode cX5_run 144 = .ok (.iload 4, 2) := by decide +kernel
theorem dX5_run_146 : decode cX5_run 146 = .ok (.invokevirtual 133, 3) := by decide +kernel
theorem dX5_run_149 : decode cX5_run 149 = .ok (.istore 4, 2) := by decide +kernel
theorem dX5_run_151 : decode cX5_run 151 = .ok (.goto 168, 3) := by decide +kernel
theorem dX5_run_154 : decode cX5_run 154 = .ok (.aload_n 0, 1) := by decide +kernel
theorem dX5_run_155 : decode cX5_run 155 = .ok (.getfield 7, 3) := by decide +kernel
theorem dX5_run_158 : decode cX5_run 158 = .ok (.iload 7, 2) := by decide +kernel
theorem dX5_run_160 : decode cX5_run 160 = .ok (.iaload, 1) := by decide +kernel
theorem dX5_run_161 : decode cX5_run 161 = .ok (.bipush 13, 2) := by decide +kernel
theorem dX5_run_163 : decode cX5_run 163 = .ok (.if_icmp .ne 39, 3) := by decide +kernel
theorem dX5_run_166 : decode cX5_run 166 = .ok (.aload_n 0, 1) := by decide +kernel
theorem dX5_run_167 : decode cX5_run 167 = .ok (.getfield 75, 3) := by decide +kernel
theorem dX5_run_170 : decode cX5_run 170 = .ok (.iload 6, 2) := by decide +kernel
theorem dX5_run_172 : decode cX5_run 172 = .ok (.aload_n 0, 1) := by decide +kernel
theorem dX5_run_173 : decode cX5_run 173 = .ok (.getfield 16, 3) := by decide +kernel
theorem dX5_run_176 : decode cX5_run 176 = .ok (.iload 7, 2) := by decide +kernel
theorem dX5_run_178 : decode cX5_run 178 = .ok (.iaload, 1) := by decide +kernel
theorem dX5_run_179 : decode cX5_run 179 = .ok (.iastore, 1) := by decide +kernel
theorem dX5_run_180 : decode cX5_run 180 = .ok (.aload_n 0, 1) := by decide +kernel
theorem dX5_run_181 : decode cX5_run 181 = .ok (.getfield 75, 3) := by decide +kernel
theorem dX5_run_184 : decode cX5_run 184 = .ok (.iload 6, 2) := by decide +kernel
theorem dX5_run_186 : decode cX5_run 186 = .ok (.iconst 1, 1) := by decide +kernel
theorem dX5_run_187 : decode cX5_run 187 = .ok (.iadd, 1) := by decide +kernel
theorem dX5_run_188 : decode cX5_run 188 = .ok (.aload_n 0, 1) := by decide +kernel
theorem dX5_run_189 : decode cX5_run 189 = .ok (.getfield 13, 3) := by decide +kernel
theorem dX5_run_192 : decode cX5_run 192 = .ok (.iload 7, 2) := by decide +kernel
theorem dX5_run_194 : decode cX5_run 194 = .ok (.iaload, 1) := by decide +kernel
theorem dX5_run_195 : decode cX5_run 195 = .ok (.iastore, 1) := by decide +kernel
theorem dX5_run_196 : decode cX5_run 196 = .ok (.iinc 6 2, 3) := by decide +kernel
theorem dX5_run_199 : decode cX5_run 199 = .ok (.goto 120, 3) := by decide +kernel
theorem dX5_run_202 : decode cX5_run 202 = .ok (.aload_n 0, 1) := by decide +kernel
theorem dX5_run_203 : decode cX5_run 203 = .ok (.getfield 7, 3) := by decide +kernel
theorem dX5_run_206 : decode cX5_run 206 = .ok (.iload 7, 2) := by decide +kernel
theorem dX5_run_208 : decode cX5_run 208 = .ok (.iaload, 1) := by decide +kernel
theorem dX5_run_209 : decode cX5_run 209 = .ok (.bipush 14, 2) := by decide +kernel
theorem dX5_run_211 : decode cX5_run 211 = .ok (.if_icmp .ne 49, 3) := by decide +kernel
theorem dX5_run_214 : decode cX5_run 214 = .ok (.aload_n 0, 1) := by decide +kernel
theorem dX5_run_215 : decode cX5_run 215 = .ok (.getfield 75, 3) := by decide +kernel
theorem dX5_run_218 : decode cX5_run 218 = .ok (.iload 6, 2) := by decide +kernel
theorem dX5_run_220 : decode cX5_run 220 = .ok (.aload_n 0, 1) := by decide +kernel
theorem dX5_run_221 : decode cX5_run 221 = .ok (.aload_n 0, 1) := by decide +kernel
theorem dX5_run_222 : decode cX5_run 222 = .ok (.getfield 13, 3) := by decide +kernel
theorem dX5_run_225 : decode cX5_run 225 = .ok (.iload 7, 2) := by decide +kernel
theorem dX5_run_227 : decode cX5_run 227 = .ok (.iaload, 1) := by decide +kernel
theorem dX5_run_228 : decode cX5_run 228 = .ok (.iload 4, 2) := by decide +kernel
theorem dX5_run_230 : decode cX5_run 230 = .ok (.invokevirtual 129, 3) := by decide +kernel
theorem dX5_run_233 : decode cX5_run 233 = .ok (.ifCond .eq 13, 3) := by decide +kernel
theorem dX5_run_236 : decode cX5_run 236 = .ok (.aload_n 0, 1) := by decide +kernel
theorem dX5_run_237 : decode cX5_run 237 = .ok (.getfield 16, 3) := by decide +kernel
theorem dX5_run_240 : decode cX5_run 240 = .ok (.iload 7, 2) := by decide +kernel
theorem dX5_run_242 : decode cX5_run 242 = .ok (.iaload, 1) := by decide +kernel
theorem dX5_run_243 : decode cX5_run 243 = .ok (.goto 10, 3) := by decide +kernel
theorem dX5_run_246 : decode cX5_run 246 = .ok (.aload_n 0, 1) := by decide +kernel
theorem dX5_run_247 : decode cX5_run 247 = .ok (.getfield 19, 3) := by decide +kernel
theorem dX5_run_250 : decode cX5_run 250 = .ok (.iload 7, 2) := by decide +kernel
theorem dX5_run_252 : decode cX5_run 252 = .ok (.iaload, 1) := by decide +kernel
theorem dX5_run_253 : decode cX5_run 253 = .ok (.iastore, 1) := by decide +kernel
theorem dX5_run_254 : decode cX5_run 254 = .ok (.iinc 6 1, 3) := by decide +kernel
theorem dX5_run_257 : decode cX5_run 257 = .ok (.goto 62, 3) := by decide +kernel
theorem dX5_run_260 : decode cX5_run 260 = .ok (.aload_n 0, 1) := by decide +kernel
theorem dX5_run_261 : decode cX5_run 261 = .ok (.getfield 7, 3) := by decide +kernel
theorem dX5_run_264 : decode cX5_run 264 = .ok (.iload 7, 2) := by decide +kernel
theorem dX5_run_266 : decode cX5_run 266 = .ok (.iaload, 1) := by decide +kernel
theorem dX5_run_267 : decode cX5_run 267 = .ok (.bipush 15, 2) := by decide +kernel
theorem dX5_run_269 : decode cX5_run 269 = .ok (.if_icmp .ne 50, 3) := by decide +kernel
theorem dX5_run_272 : decode cX5_run 272 = .ok (.aload_n 0, 1) := by decide +kernel
theorem dX5_run_273 : decode cX5_run 273 = .ok (.aload_n 0, 1) := by decide +kernel
theorem dX5_run_274 : decode cX5_run 274 = .ok (.getfield 13, 3) := by decide +kernel
theorem dX5_run_277 : decode cX5_run 277 = .ok (.iload 7, 2) := by decide +kernel
theorem dX5_run_279 : decode cX5_run 279 = .ok (.iaload, 1) := by decide +kernel
theorem dX5_run_280 : decode cX5_run 280 = .ok (.iload 4, 2) := by decide +kernel
theorem dX5_run_282 : decode cX5_run 282 = .ok (.invokevirtual 129, 3) := by decide +kernel
theorem dX5_run_285 : decode cX5_run 285 = .ok (.ifCond .eq 34, 3) := by decide +kernel
theorem dX5_run_288 : decode cX5_run 288 = .ok (.aload_n 0, 1) := by decide +kernel
theorem dX5_run_289 : decode cX5_run 289 = .ok (.getfield 75, 3) := by decide +kernel
theorem dX5_run_292 : decode cX5_run 292 = .ok (.iload 6, 2) := by decide +kernel
theorem dX5_run_294 : decode cX5_run 294 = .ok (.bipush 100, 2) := by decide +kernel
theorem dX5_run_296 : decode cX5_run 296 = .ok (.iload 7, 2) := by decide +kernel
theorem dX5_run_298 : decode cX5_run 298 = .ok (.iadd, 1) := by decide +kernel
theorem dX5_run_299 : decode cX5_run 299 = .ok (.iastore, 1) := by decide +kernel
theorem dX5_run_300 : decode cX5_run 300 = .ok (.aload_n 0, 1) := by decide +kernel
theorem dX5_run_301 : decode cX5_run 301 = .ok (.getfield 75, 3) := by decide +kernel
theorem dX5_run_304 : decode cX5_run 304 = .ok (.iload 6, 2) := by decide +kernel
theorem dX5_run_306 : decode cX5_run 306 = .ok (.iconst 1, 1) := by decide +kernel
theorem dX5_run_307 : decode cX5_run 307 = .ok (.iadd, 1) := by decide +kernel
theorem dX5_run_308 : decode cX5_run 308 = .ok (.aload_n 0, 1) := by decide +kernel
theorem dX5_run_309 : decode cX5_run 309 = .ok (.getfield 19, 3) := by decide +kernel
theorem dX5_run_312 : decode cX5_run 312 = .ok (.iload 7, 2) := by decide +kernel
theorem dX5_run_314 : decode cX5_run 314 = .ok (.iaload, 1) := by decide +kernel
theorem dX5_run_315 : decode cX5_run 315 = .ok (.iastore, 1) := by decide +kernel
theorem dX5_run_316 : decode cX5_run 316 = .ok (.iinc 6 2, 3) := by decide +kernel
theorem dX5_run_319 : decode cX5_run 319 = .ok (.goto (-262), 3) := by decide +kernel
theorem dX5_run_322 : decode cX5_run 322 = .ok (.iload 4, 2) := by decide +kernel
theorem dX5_run_324 : decode cX5_run 324 = .ok (.ireturn, 1) := by decide +kernel
theorem dX5_newTarget_0 : decode cX5_newTarget 0 = .ok (.aload_n 0, 1) := by decide +kernel
theorem dX5_newTarget_1 : decode cX5_newTarget 1 = .ok (.getfield 56, 3) := by decide +kernel
theorem dX5_newTarget_4 : decode cX5_newTarget 4 = .ok (.aload_n 0, 1) := by decide +kernel
theorem dX5_newTarget_5 : decode cX5_newTarget 5 = .ok (.getfield 136, 3) := by decide +kernel
theorem dX5_newTarget_8 : decode cX5_newTarget 8 = .ok (.iload_n 1, 1) := by decide +kernel
theorem dX5_newTarget_9 : decode cX5_newTarget 9 = .ok (.iastore, 1) := by decide +kernel
theorem dX5_newTarget_10 : decode cX5_newTarget 10 = .ok (.aload_n 0, 1) := by decide +kernel
theorem dX5_newTarget_11 : decode cX5_newTarget 11 = .ok (.getfield 59, 3) := by decide +kernel
theorem dX5_newTarget_14 : decode cX5_newTarget 14 = .ok (.aload_n 0, 1) := by decide +kernel
theorem dX5_newTarget_15 : decode cX5_newTarget 15 = .ok (.getfield 136, 3) := by decide +kernel
theorem dX5_newTarget_18 : decode cX5_newTarget 18 = .ok (.iload_n 2, 1) := by decide +kernel
theorem dX5_newTarget_19 : decode cX5_newTarget 19 = .ok (.iastore, 1) := by decide +kernel
theorem dX5_newTarget_20 : decode cX5_newTarget 20 = .ok (.aload_n 0, 1) := by decide +kernel
theorem dX5_newTarget_21 : decode cX5_newTarget 21 = .ok (.dup, 1) := by decide +kernel
theorem dX5_newTarget_22 : decode cX5_newTarget 22 = .ok (.getfield 136, 3) := by decide +kernel
theorem dX5_newTarget_25 : decode cX5_newTarget 25 = .ok (.iconst 1, 1) := by decide +kernel
theorem dX5_newTarget_26 : decode cX5_newTarget 26 = .ok (.iadd, 1) := by decide +kernel
theorem dX5_newTarget_27 : decode cX5_newTarget 27 = .ok (.putfield 136, 3) := by decide +kernel
theorem dX5_newTarget_30 : decode cX5_newTarget 30 = .ok (.aload_n 0, 1) := by decide +kernel
theorem dX5_newTarget_31 : decode cX5_newTarget 31 = .ok (.getfield 136, 3) := by decide +kernel
theorem dX5_newTarget_34 : decode cX5_newTarget 34 = .ok (.iconst 1, 1) := by decide +kernel
theorem dX5_newTarget_35 : decode cX5_newTarget 35 = .ok (.isub, 1) := by decide +kernel
theorem dX5_newTarget_36 : decode cX5_newTarget 36 = .ok (.ireturn, 1) := by decide +kernel
theorem dX5_duty_0 : decode cX5_duty 0 = .ok (.aload_n 0, 1) := by decide +kernel
theorem dX5_duty_1 : decode cX5_duty 1 = .ok (.getfield 139, 3) := by decide +kernel
theorem dX5_duty_4 : decode cX5_duty 4 = .ok (.bipush 20, 2) := by decide +kernel
theorem dX5_duty_6 : decode cX5_duty 6 = .ok (.if_icmp .ge 33, 3) := by decide +kernel
theorem dX5_duty_9 : decode cX5_duty 9 = .ok (.aload_n 0, 1) := by decide +kernel
theorem dX5_duty_10 : decode cX5_duty 10 = .ok (.getfield 47, 3) := by decide +kernel
theorem dX5_duty_13 : decode cX5_duty 13 = .ok (.aload_n 0, 1) := by decide +kernel
theorem dX5_duty_14 : decode cX5_duty 14 = .ok (.getfield 139, 3) := by decide +kernel
theorem dX5_duty_17 : decode cX5_duty 17 = .ok (.iload_n 1, 1) := by decide +kernel
theorem dX5_duty_18 : decode cX5_duty 18 = .ok (.iastore, 1) := by decide +kernel
theorem dX5_duty_19 : decode cX5_duty 19 = .ok (.aload_n 0, 1) := by decide +kernel
theorem dX5_duty_20 : decode cX5_duty 20 = .ok (.getfield 50, 3) := by decide +kernel
theorem dX5_duty_23 : decode cX5_duty 23 = .ok (.aload_n 0, 1) := by decide +kernel
theorem dX5_duty_24 : decode cX5_duty 24 = .ok (.getfield 139, 3) := by decide +kernel
theorem dX5_duty_27 : decode cX5_duty 27 = .ok (.iload_n 2, 1) := by decide +kernel
theorem dX5_duty_28 : decode cX5_duty 28 = .ok (.iastore, 1) := by decide +kernel
theorem dX5_duty_29 : decode cX5_duty 29 = .ok (.aload_n 0, 1) := by decide +kernel
theorem dX5_duty_30 : decode cX5_duty 30 = .ok (.getfield 53, 3) := by decide +kernel
theorem dX5_duty_33 : decode cX5_duty 33 = .ok (.aload_n 0, 1) := by decide +kernel
theorem dX5_duty_34 : decode cX5_duty 34 = .ok (.getfield 139, 3) := by decide +kernel
theorem dX5_duty_37 : decode cX5_duty 37 = .ok (.iload_n 3, 1) := by decide +kernel
theorem dX5_duty_38 : decode cX5_duty 38 = .ok (.iastore, 1) := by decide +kernel
theorem dX5_duty_39 : decode cX5_duty 39 = .ok (.aload_n 0, 1) := by decide +kernel
theorem dX5_duty_40 : decode cX5_duty 40 = .ok (.dup, 1) := by decide +kernel
theorem dX5_duty_41 : decode cX5_duty 41 = .ok (.getfield 139, 3) := by decide +kernel
theorem dX5_duty_44 : decode cX5_duty 44 = .ok (.iconst 1, 1) := by decide +kernel
theorem dX5_duty_45 : decode cX5_duty 45 = .ok (.iadd, 1) := by decide +kernel
theorem dX5_duty_46 : decode cX5_duty 46 = .ok (.putfield 139, 3) := by decide +kernel
theorem dX5_duty_49 : decode cX5_duty 49 = .ok (.return_, 1) := by decide +kernel
theorem dX5_makeDuties_0 : decode cX5_makeDuties 0 = .ok (.aload_n 0, 1) := by decide +kernel
theorem dX5_makeDuties_1 : decode cX5_makeDuties 1 = .ok (.iconst 0, 1) := by decide +kernel
theorem dX5_makeDuties_2 : decode cX5_makeDuties 2 = .ok (.putfield 139, 3) := by decide +kernel
theorem dX5_makeDuties_5 : decode cX5_makeDuties 5 = .ok (.aload_n 0, 1) := by decide +kernel
theorem dX5_makeDuties_6 : decode cX5_makeDuties 6 = .ok (.iconst 0, 1) := by decide +kernel
theorem dX5_makeDuties_7 : decode cX5_makeDuties 7 = .ok (.putfield 136, 3) := by decide +kernel
theorem dX5_makeDuties_10 : decode cX5_makeDuties 10 = .ok (.aload_n 0, 1) := by decide +kernel
theorem dX5_makeDuties_11 : decode cX5_makeDuties 11 = .ok (.iconst (-1), 1) := by decide +kernel
theorem dX5_makeDuties_12 : decode cX5_makeDuties 12 = .ok (.iload_n 3, 1) := by decide +kernel
theorem dX5_makeDuties_13 : decode cX5_makeDuties 13 = .ok (.invokevirtual 142, 3) := by decide +kernel
theorem dX5_makeDuties_16 : decode cX5_makeDuties 16 = .ok (.istore 4, 2) := by decide +kernel
theorem dX5_makeDuties_18 : decode cX5_makeDuties 18 = .ok (.aload_n 0, 1) := by decide +kernel
theorem dX5_makeDuties_19 : decode cX5_makeDuties 19 = .ok (.iconst 0, 1) := by decide +kernel
theorem dX5_makeDuties_20 : decode cX5_makeDuties 20 = .ok (.iload_n 1, 1) := by decide +kernel
theorem dX5_makeDuties_21 : decode cX5_makeDuties 21 = .ok (.aload_n 0, 1) := by decide +kernel
theorem dX5_makeDuties_22 : decode cX5_makeDuties 22 = .ok (.iload_n 2, 1) := by decide +kernel
theorem dX5_makeDuties_23 : decode cX5_makeDuties 23 = .ok (.iload 4, 2) := by decide +kernel
theorem dX5_makeDuties_25 : decode cX5_makeDuties 25 = .ok (.invokevirtual 142, 3) := by decide +kernel
theorem dX5_makeDuties_28 : decode cX5_makeDuties 28 = .ok (.invokevirtual 144, 3) := by decide +kernel
theorem dX5_makeDuties_31 : decode cX5_makeDuties 31 = .ok (.iconst 1, 1) := by decide +kernel
theorem dX5_makeDuties_32 : decode cX5_makeDuties 32 = .ok (.istore 5, 2) := by decide +kernel
theorem dX5_makeDuties_34 : decode cX5_makeDuties 34 = .ok (.aload_n 0, 1) := by decide +kernel
theorem dX5_makeDuties_35 : decode cX5_makeDuties 35 = .ok (.getfield 62, 3) := by decide +kernel
theorem dX5_makeDuties_38 : decode cX5_makeDuties 38 = .ok (.iconst 0, 1) := by decide +kernel
theorem dX5_makeDuties_39 : decode cX5_makeDuties 39 = .ok (.iload_n 2, 1) := by decide +kernel
theorem dX5_makeDuties_40 : decode cX5_makeDuties 40 = .ok (.iastore, 1) := by decide +kernel
theorem dX5_makeDuties_41 : decode cX5_makeDuties 41 = .ok (.aload_n 0, 1) := by decide +kernel
theorem dX5_makeDuties_42 : decode cX5_makeDuties 42 = .ok (.getfield 65, 3) := by decide +kernel
theorem dX5_makeDuties_45 : decode cX5_makeDuties 45 = .ok (.iconst 0, 1) := by decide +kernel
theorem dX5_makeDuties_46 : decode cX5_makeDuties 46 = .ok (.iload 4, 2) := by decide +kernel
theorem dX5_makeDuties_48 : decode cX5_makeDuties 48 = .ok (.iastore, 1) := by decide +kernel
theorem dX5_makeDuties_49 : decode cX5_makeDuties 49 = .ok (.iload 5, 2) := by decide +kernel
theorem dX5_makeDuties_51 : decode cX5_makeDuties 51 = .ok (.ifCond .le 217, 3) := by decide +kernel
theorem dX5_makeDuties_54 : decode cX5_makeDuties 54 = .ok (.aload_n 0, 1) := by decide +kernel
theorem dX5_makeDuties_55 : decode cX5_makeDuties 55 = .ok (.getfield 139, 3) := by decide +kernel
theorem dX5_makeDuties_58 : decode cX5_makeDuties 58 = .ok (.bipush 16, 2) := by decide +kernel
theorem dX5_makeDuties_60 : decode cX5_makeDuties 60 = .ok (.if_icmp .gt 208, 3) := by decide +kernel
theorem dX5_makeDuties_63 : decode cX5_makeDuties 63 = .ok (.iinc 5 (-1), 3) := by decide +kernel
theorem dX5_makeDuties_66 : decode cX5_makeDuties 66 = .ok (.aload_n 0, 1) := by decide +kernel
theorem dX5_makeDuties_67 : decode cX5_makeDuties 67 = .ok (.getfield 62, 3) := by decide +kernel
theorem dX5_makeDuties_70 : decode cX5_makeDuties 70 = .ok (.iload 5, 2) := by decide +kernel
theorem dX5_makeDuties_72 : decode cX5_makeDuties 72 = .ok (.iaload, 1) := by decide +kernel
theorem dX5_makeDuties_73 : decode cX5_makeDuties 73 = .ok (.istore 6, 2) := by decide +kernel
theorem dX5_makeDuties_75 : decode cX5_makeDuties 75 = .ok (.aload_n 0, 1) := by decide +kernel
theorem dX5_makeDuties_76 : decode cX5_makeDuties 76 = .ok (.getfield 65, 3) := by decide +kernel
theorem dX5_makeDuties_79 : decode cX5_makeDuties 79 = .ok (.iload 5, 2) := by decide +kernel
theorem dX5_makeDuties_81 : decode cX5_makeDuties 81 = .ok (.iaload, 1) := by decide +kernel
theorem dX5_makeDuties_82 : decode cX5_makeDuties 82 = .ok (.istore 7, 2) := by decide +kernel
theorem dX5_makeDuties_84 : decode cX5_makeDuties 84 = .ok (.aload_n 0, 1) := by decide +kernel
theorem dX5_makeDuties_85 : decode cX5_makeDuties 85 = .ok (.getfield 7, 3) := by decide +kernel
theorem dX5_makeDuties_88 : decode cX5_makeDuties 88 = .ok (.iload 6, 2) := by decide +kernel
theorem dX5_makeDuties_90 : decode cX5_makeDuties 90 = .ok (.iaload, 1) := by decide +kernel
theorem dX5_makeDuties_91 : decode cX5_makeDuties 91 = .ok (.bipush 13, 2) := by decide +kernel
theorem dX5_makeDuties_93 : decode cX5_makeDuties 93 = .ok (.if_icmp .ne 51, 3) := by decide +kernel
theorem dX5_makeDuties_96 : decode cX5_makeDuties 96 = .ok (.aload_n 0, 1) := by decide +kernel
theorem dX5_makeDuties_97 : decode cX5_makeDuties 97 = .ok (.iload 5, 2) := by decide +kernel
theorem dX5_makeDuties_99 : decode cX5_makeDuties 99 = .ok (.aload_n 0, 1) := by decide +kernel
theorem dX5_makeDuties_100 : decode cX5_makeDuties 100 = .ok (.getfield 16, 3) := by decide +kernel
theorem dX5_makeDuties_103 : decode cX5_makeDuties 103 = .ok (.iload 6, 2) := by decide +kernel
theorem dX5_makeDuties_105 : decode cX5_makeDuties 105 = .ok (.iaload, 1) := by decide +kernel
theorem dX5_makeDuties_106 : decode cX5_makeDuties 106 = .ok (.iload 7, 2) := by decide +kernel
theorem dX5_makeDuties_108 : decode cX5_makeDuties 108 = .ok (.invokevirtual 148, 3) := by decide +kernel
theorem dX5_makeDuties_111 : decode cX5_makeDuties 111 = .ok (.istore 5, 2) := by decide +kernel
theorem dX5_makeDuties_113 : decode cX5_makeDuties 113 = .ok (.aload_n 0, 1) := by decide +kernel
theorem dX5_makeDuties_114 : decode cX5_makeDuties 114 = .ok (.iload 5, 2) := by decide +kernel
theorem dX5_makeDuties_116 : decode cX5_makeDuties 116 = .ok (.aload_n 0, 1) := by decide +kernel
theorem dX5_makeDuties_117 : decode cX5_makeDuties 117 = .ok (.getfield 13, 3) := by decide +kernel
theorem dX5_makeDuties_120 : decode cX5_makeDuties 120 = .ok (.iload 6, 2) := by decide +kernel
theorem dX5_makeDuties_122 : decode cX5_makeDuties 122 = .ok (.iaload, 1) := by decide +kernel
theorem dX5_makeDuties_123 : decode cX5_makeDuties 123 = .ok (.aload_n 0, 1) := by decide +kernel
theorem dX5_makeDuties_124 : decode cX5_makeDuties 124 = .ok (.aload_n 0, 1) := by decide +kernel
theorem dX5_makeDuties_125 : decode cX5_makeDuties 125 = .ok (.getfield 16, 3) := by decide +kernel
theorem dX5_makeDuties_128 : decode cX5_makeDuties 128 = .ok (.iload 6, 2) := by decide +kernel
theorem dX5_makeDuties_130 : decode cX5_makeDuties 130 = .ok (.iaload, 1) := by decide +kernel
theorem dX5_makeDuties_131 : decode cX5_makeDuties 131 = .ok (.iload 7, 2) := by decide +kernel
theorem dX5_makeDuties_133 : decode cX5_makeDuties 133 = .ok (.invokevirtual 142, 3) := by decide +kernel
theorem dX5_makeDuties_136 : decode cX5_makeDuties 136 = .ok (.invokevirtual 148, 3) := by decide +kernel
theorem dX5_makeDuties_139 : decode cX5_makeDuties 139 = .ok (.istore 5, 2) := by decide +kernel
theorem dX5_makeDuties_141 : decode cX5_makeDuties 141 = .ok (.goto 124, 3) := by decide +kernel
theorem dX5_makeDuties_144 : decode cX5_makeDuties 144 = .ok (.aload_n 0, 1) := by decide +kernel
theorem dX5_makeDuties_145 : decode cX5_makeDuties 145 = .ok (.getfield 7, 3) := by decide +kernel
theorem dX5_makeDuties_148 : decode cX5_makeDuties 148 = .ok (.iload 6, 2) := by decide +kernel
theorem dX5_makeDuties_150 : decode cX5_makeDuties 150 = .ok (.iaload, 1) := by decide +kernel
theorem dX5_makeDuties_151 : decode cX5_makeDuties 151 = .ok (.bipush 14, 2) := by decide +kernel
theorem dX5_makeDuties_153 : decode cX5_makeDuties 153 = .ok (.if_icmp .ne 40, 3) := by decide +kernel
theorem dX5_makeDuties_156 : decode cX5_makeDuties 156 = .ok (.aload_n 0, 1) := by decide +kernel
theorem dX5_makeDuties_157 : decode cX5_makeDuties 157 = .ok (.iload 5, 2) := by decide +kernel
theorem dX5_makeDuties_159 : decode cX5_makeDuties 159 = .ok (.aload_n 0, 1) := by decide +kernel
theorem dX5_makeDuties_160 : decode cX5_makeDuties 160 = .ok (.getfield 19, 3) := by decide +kernel
theorem dX5_makeDuties_163 : decode cX5_makeDuties 163 = .ok (.iload 6, 2) := by decide +kernel
theorem dX5_makeDuties_165 : decode cX5_makeDuties 165 = .ok (.iaload, 1) := by decide +kernel
theorem dX5_makeDuties_166 : decode cX5_makeDuties 166 = .ok (.iload 7, 2) := by decide +kernel
theorem dX5_makeDuties_168 : decode cX5_makeDuties 168 = .ok (.invokevirtual 148, 3) := by decide +kernel
theorem dX5_makeDuties_171 : decode cX5_makeDuties 171 = .ok (.istore 5, 2) := by decide +kernel
theorem dX5_makeDuties_173 : decode cX5_makeDuties 173 = .ok (.aload_n 0, 1) := by decide +kernel
theorem dX5_makeDuties_174 : decode cX5_makeDuties 174 = .ok (.iload 5, 2) := by decide +kernel
theorem dX5_makeDuties_176 : decode cX5_makeDuties 176 = .ok (.aload_n 0, 1) := by decide +kernel
theorem dX5_makeDuties_177 : decode cX5_makeDuties 177 = .ok (.getfield 16, 3) := by decide +kernel
theorem dX5_makeDuties_180 : decode cX5_makeDuties 180 = .ok (.iload 6, 2) := by decide +kernel
theorem dX5_makeDuties_182 : decode cX5_makeDuties 182 = .ok (.iaload, 1) := by decide +kernel
theorem dX5_makeDuties_183 : decode cX5_makeDuties 183 = .ok (.iload 7, 2) := by decide +kernel
theorem dX5_makeDuties_185 : decode cX5_makeDuties 185 = .ok (.invokevirtual 148, 3) := by decide +kernel
theorem dX5_makeDuties_188 : decode cX5_makeDuties 188 = .ok (.istore 5, 2) := by decide +kernel
theorem dX5_makeDuties_190 : decode cX5_makeDuties 190 = .ok (.goto 75, 3) := by decide +kernel
theorem dX5_makeDuties_193 : decode cX5_makeDuties 193 = .ok (.aload_n 0, 1) := by decide +kernel
theorem dX5_makeDuties_194 : decode cX5_makeDuties 194 = .ok (.getfield 7, 3) := by decide +kernel
theorem dX5_makeDuties_197 : decode cX5_makeDuties 197 = .ok (.iload 6, 2) := by decide +kernel
theorem dX5_makeDuties_199 : decode cX5_makeDuties 199 = .ok (.iaload, 1) := by decide +kernel
theorem dX5_makeDuties_200 : decode cX5_makeDuties 200 = .ok (.bipush 15, 2) := by decide +kernel
theorem dX5_makeDuties_202 : decode cX5_makeDuties 202 = .ok (.if_icmp .ne 63, 3) := by decide +kernel
theorem dX5_makeDuties_205 : decode cX5_makeDuties 205 = .ok (.aload_n 0, 1) := by decide +kernel
theorem dX5_makeDuties_206 : decode cX5_makeDuties 206 = .ok (.iconst (-1), 1) := by decide +kernel
theorem dX5_makeDuties_207 : decode cX5_makeDuties 207 = .ok (.aload_n 0, 1) := by decide +kernel
theorem dX5_makeDuties_208 : decode cX5_makeDuties 208 = .ok (.getfield 16, 3) := by decide +kernel
theorem dX5_makeDuties_211 : decode cX5_makeDuties 211 = .ok (.iload 6, 2) := by decide +kernel
theorem dX5_makeDuties_213 : decode cX5_makeDuties 213 = .ok (.iaload, 1) := by decide +kernel
theorem dX5_makeDuties_214 : decode cX5_makeDuties 214 = .ok (.invokevirtual 142, 3) := by decide +kernel
theorem dX5_makeDuties_217 : decode cX5_makeDuties 217 = .ok (.istore 8, 2) := by decide +kernel
theorem dX5_makeDuties_219 : decode cX5_makeDuties 219 = .ok (.aload_n 0, 1) := by decide +kernel
theorem dX5_makeDuties_220 : decode cX5_makeDuties 220 = .ok (.iconst 1, 1) := by decide +kernel
theorem dX5_makeDuties_221 : decode cX5_makeDuties 221 = .ok (.iload 6, 2) := by decide +kernel
theorem dX5_makeDuties_223 : decode cX5_makeDuties 223 = .ok (.aload_n 0, 1) := by decide +kernel
theorem dX5_makeDuties_224 : decode cX5_makeDuties 224 = .ok (.aload_n 0, 1) := by decide +kernel
theorem dX5_makeDuties_225 : decode cX5_makeDuties 225 = .ok (.getfield 19, 3) := by decide +kernel
theorem dX5_makeDuties_228 : decode cX5_makeDuties 228 = .ok (.iload 6, 2) := by decide +kernel
theorem dX5_makeDuties_230 : decode cX5_makeDuties 230 = .ok (.iaload, 1) := by decide +kernel
theorem dX5_makeDuties_231 : decode cX5_makeDuties 231 = .ok (.iload 8, 2) := by decide +kernel
theorem dX5_makeDuties_233 : decode cX5_makeDuties 233 = .ok (.invokevirtual 142, 3) := by decide +kernel
theorem dX5_makeDuties_236 : decode cX5_makeDuties 236 = .ok (.invokevirtual 144, 3) := by decide +kernel
theorem dX5_makeDuties_239 : decode cX5_makeDuties 239 = .ok (.aload_n 0, 1) := by decide +kernel
theorem dX5_makeDuties_240 : decode cX5_makeDuties 240 = .ok (.iconst 2, 1) := by decide +kernel
theorem dX5_makeDuties_241 : decode cX5_makeDuties 241 = .ok (.iload 6, 2) := by decide +kernel
theorem dX5_makeDuties_243 : decode cX5_makeDuties 243 = .ok (.iload 7, 2) := by decide +kernel
theorem dX5_makeDuties_245 : decode cX5_makeDuties 245 = .ok (.invokevirtual 144, 3) := by decide +kernel
theorem dX5_makeDuties_248 : decode cX5_makeDuties 248 = .ok (.aload_n 0, 1) := by decide +kernel
theorem dX5_makeDuties_249 : decode cX5_makeDuties 249 = .ok (.iload 5, 2) := by decide +kernel
theorem dX5_makeDuties_251 : decode cX5_makeDuties 251 = .ok (.aload_n 0, 1) := by decide +kernel
theorem dX5_makeDuties_252 : decode cX5_makeDuties 252 = .ok (.getfield 19, 3) := by decide +kernel
theorem dX5_makeDuties_255 : decode cX5_makeDuties 255 = .ok (.iload 6, 2) := by decide +kernel
theorem dX5_makeDuties_257 : decode cX5_makeDuties 257 = .ok (.iaload, 1) := by decide +kernel
theorem dX5_makeDuties_258 : decode cX5_makeDuties 258 = .ok (.iload 8, 2) := by decide +kernel
theorem dX5_makeDuties_260 : decode cX5_makeDuties 260 = .ok (.invokevirtual 148, 3) := by decide +kernel
theorem dX5_makeDuties_263 : decode cX5_makeDuties 263 = .ok (.istore 5, 2) := by decide +kernel
theorem dX5_makeDuties_265 : decode cX5_makeDuties 265 = .ok (.goto (-216), 3) := by decide +kernel
theorem dX5_makeDuties_268 : decode cX5_makeDuties 268 = .ok (.return_, 1) := by decide +kernel
theorem dX5_open_0 : decode cX5_open 0 = .ok (.aload_n 0, 1) := by decide +kernel
theorem dX5_open_1 : decode cX5_open 1 = .ok (.getfield 62, 3) := by decide +kernel
theorem dX5_open_4 : decode cX5_open 4 = .ok (.iload_n 1, 1) := by decide +kernel
theorem dX5_open_5 : decode cX5_open 5 = .ok (.iload_n 2, 1) := by decide +kernel
theorem dX5_open_6 : decode cX5_open 6 = .ok (.iastore, 1) := by decide +kernel
theorem dX5_open_7 : decode cX5_open 7 = .ok (.aload_n 0, 1) := by decide +kernel
theorem dX5_open_8 : decode cX5_open 8 = .ok (.getfield 65, 3) := by decide +kernel
theorem dX5_open_11 : decode cX5_open 11 = .ok (.iload_n 1, 1) := by decide +kernel
theorem dX5_open_12 : decode cX5_open 12 = .ok (.iload_n 3, 1) := by decide +kernel
theorem dX5_open_13 : decode cX5_open 13 = .ok (.iastore, 1) := by decide +kernel
theorem dX5_open_14 : decode cX5_open 14 = .ok (.iload_n 1, 1) := by decide +kernel
theorem dX5_open_15 : decode cX5_open 15 = .ok (.iconst 1, 1) := by decide +kernel
theorem dX5_open_16 : decode cX5_open 16 = .ok (.iadd, 1) := by decide +kernel
theorem dX5_open_17 : decode cX5_open 17 = .ok (.ireturn, 1) := by decide +kernel
theorem dX5_promise_0 : decode cX5_promise 0 = .ok (.aload_n 0, 1) := by decide +kernel
theorem dX5_promise_1 : decode cX5_promise 1 = .ok (.iconst 0, 1) := by decide +kernel
theorem dX5_promise_2 : decode cX5_promise 2 = .ok (.putfield 78, 3) := by decide +kernel
theorem dX5_promise_5 : decode cX5_promise 5 = .ok (.aload_n 0, 1) := by decide +kernel
theorem dX5_promise_6 : decode cX5_promise 6 = .ok (.iload_n 1, 1) := by decide +kernel
theorem dX5_promise_7 : decode cX5_promise 7 = .ok (.invokevirtual 96, 3) := by decide +kernel
theorem dX5_promise_10 : decode cX5_promise 10 = .ok (.ifCond .eq 19, 3) := by decide +kernel
theorem dX5_promise_13 : decode cX5_promise 13 = .ok (.aload_n 0, 1) := by decide +kernel
theorem dX5_promise_14 : decode cX5_promise 14 = .ok (.iload_n 2, 1) := by decide +kernel
theorem dX5_promise_15 : decode cX5_promise 15 = .ok (.invokevirtual 99, 3) := by decide +kernel
theorem dX5_promise_18 : decode cX5_promise 18 = .ok (.ifCond .eq 11, 3) := by decide +kernel
theorem dX5_promise_21 : decode cX5_promise 21 = .ok (.aload_n 0, 1) := by decide +kernel
theorem dX5_promise_22 : decode cX5_promise 22 = .ok (.iload_n 3, 1) := by decide +kernel
theorem dX5_promise_23 : decode cX5_promise 23 = .ok (.invokevirtual 96, 3) := by decide +kernel
theorem dX5_promise_26 : decode cX5_promise 26 = .ok (.ifCond .ne 9, 3) := by decide +kernel
theorem dX5_promise_29 : decode cX5_promise 29 = .ok (.aload_n 0, 1) := by decide +kernel
theorem dX5_promise_30 : decode cX5_promise 30 = .ok (.iconst 1, 1) := by decide +kernel
theorem dX5_promise_31 : decode cX5_promise 31 = .ok (.invokevirtual 106, 3) := by decide +kernel
theorem dX5_promise_34 : decode cX5_promise 34 = .ok (.ireturn, 1) := by decide +kernel
theorem dX5_promise_35 : decode cX5_promise 35 = .ok (.aload_n 0, 1) := by decide +kernel
theorem dX5_promise_36 : decode cX5_promise 36 = .ok (.iload_n 1, 1) := by decide +kernel
theorem dX5_promise_37 : decode cX5_promise 37 = .ok (.iload_n 2, 1) := by decide +kernel
theorem dX5_promise_38 : decode cX5_promise 38 = .ok (.iload_n 3, 1) := by decide +kernel
theorem dX5_promise_39 : decode cX5_promise 39 = .ok (.invokevirtual 152, 3) := by decide +kernel
theorem dX5_promise_42 : decode cX5_promise 42 = .ok (.aload_n 0, 1) := by decide +kernel
theorem dX5_promise_43 : decode cX5_promise 43 = .ok (.getfield 139, 3) := by decide +kernel
theorem dX5_promise_46 : decode cX5_promise 46 = .ok (.bipush 16, 2) := by decide +kernel
theorem dX5_promise_48 : decode cX5_promise 48 = .ok (.if_icmp .le 9, 3) := by decide +kernel
theorem dX5_promise_51 : decode cX5_promise 51 = .ok (.aload_n 0, 1) := by decide +kernel
theorem dX5_promise_52 : decode cX5_promise 52 = .ok (.iconst 2, 1) := by decide +kernel
theorem dX5_promise_53 : decode cX5_promise 53 = .ok (.invokevirtual 106, 3) := by decide +kernel
theorem dX5_promise_56 : decode cX5_promise 56 = .ok (.ireturn, 1) := by decide +kernel
theorem dX5_promise_57 : decode cX5_promise 57 = .ok (.aload_n 0, 1) := by decide +kernel
theorem dX5_promise_58 : decode cX5_promise 58 = .ok (.aload_n 0, 1) := by decide +kernel
theorem dX5_promise_59 : decode cX5_promise 59 = .ok (.getfield 139, 3) := by decide +kernel
theorem dX5_promise_62 : decode cX5_promise 62 = .ok (.putfield 155, 3) := by decide +kernel
theorem dX5_promise_65 : decode cX5_promise 65 = .ok (.aload_n 0, 1) := by decide +kernel
theorem dX5_promise_66 : decode cX5_promise 66 = .ok (.aload_n 0, 1) := by decide +kernel
theorem dX5_promise_67 : decode cX5_promise 67 = .ok (.getfield 136, 3) := by decide +kernel
theorem dX5_promise_70 : decode cX5_promise 70 = .ok (.putfield 158, 3) := by decide +kernel
theorem dX5_promise_73 : decode cX5_promise 73 = .ok (.iconst 0, 1) := by decide +kernel
theorem dX5_promise_74 : decode cX5_promise 74 = .ok (.istore 4, 2) := by decide +kernel
theorem dX5_promise_76 : decode cX5_promise 76 = .ok (.iload 4, 2) := by decide +kernel
theorem dX5_promise_78 : decode cX5_promise 78 = .ok (.aload_n 0, 1) := by decide +kernel
theorem dX5_promise_79 : decode cX5_promise 79 = .ok (.getfield 155, 3) := by decide +kernel
theorem dX5_promise_82 : decode cX5_promise 82 = .ok (.if_icmp .ge 59, 3) := by decide +kernel
theorem dX5_promise_85 : decode cX5_promise 85 = .ok (.aload_n 0, 1) := by decide +kernel
theorem dX5_promise_86 : decode cX5_promise 86 = .ok (.getfield 38, 3) := by decide +kernel
theorem dX5_promise_89 : decode cX5_promise 89 = .ok (.iload 4, 2) := by decide +kernel
theorem dX5_promise_91 : decode cX5_promise 91 = .ok (.aload_n 0, 1) := by decide +kernel
theorem dX5_promise_92 : decode cX5_promise 92 = .ok (.getfield 47, 3) := by decide +kernel
theorem dX5_promise_95 : decode cX5_promise 95 = .ok (.iload 4, 2) := by decide +kernel
theorem dX5_promise_97 : decode cX5_promise 97 = .ok (.iaload, 1) := by decide +kernel
theorem dX5_promise_98 : decode cX5_promise 98 = .ok (.iastore, 1) := by decide +kernel
theorem dX5_promise_99 : decode cX5_promise 99 = .ok (.aload_n 0, 1) := by decide +kernel
theorem dX5_promise_100 : decode cX5_promise 100 = .ok (.getfield 41, 3) := by decide +kernel
theorem dX5_promise_103 : decode cX5_promise 103 = .ok (.iload 4, 2) := by decide +kernel
theorem dX5_promise_105 : decode cX5_promise 105 = .ok (.aload_n 0, 1) := by decide +kernel
theorem dX5_promise_106 : decode cX5_promise 106 = .ok (.getfield 50, 3) := by decide +kernel
theorem dX5_promise_109 : decode cX5_promise 109 = .ok (.iload 4, 2) := by decide +kernel
theorem dX5_promise_111 : decode cX5_promise 111 = .ok (.iaload, 1) := by decide +kernel
theorem dX5_promise_112 : decode cX5_promise 112 = .ok (.iastore, 1) := by decide +kernel
theorem dX5_promise_113 : decode cX5_promise 113 = .ok (.aload_n 0, 1) := by decide +kernel
theorem dX5_promise_114 : decode cX5_promise 114 = .ok (.getfield 44, 3) := by decide +kernel
theorem dX5_promise_117 : decode cX5_promise 117 = .ok (.iload 4, 2) := by decide +kernel
theorem dX5_promise_119 : decode cX5_promise 119 = .ok (.aload_n 0, 1) := by decide +kernel
theorem dX5_promise_120 : decode cX5_promise 120 = .ok (.getfield 53, 3) := by decide +kernel
theorem dX5_promise_123 : decode cX5_promise 123 = .ok (.iload 4, 2) := by decide +kernel
theorem dX5_promise_125 : decode cX5_promise 125 = .ok (.iaload, 1) := by decide +kernel
theorem dX5_promise_126 : decode cX5_promise 126 = .ok (.iastore, 1) := by decide +kernel
theorem dX5_promise_127 : decode cX5_promise 127 = .ok (.aload_n 0, 1) := by decide +kernel
theorem dX5_promise_128 : decode cX5_promise 128 = .ok (.getfield 68, 3) := by decide +kernel
theorem dX5_promise_131 : decode cX5_promise 131 = .ok (.iload 4, 2) := by decide +kernel
theorem dX5_promise_133 : decode cX5_promise 133 = .ok (.iconst 0, 1) := by decide +kernel
theorem dX5_promise_134 : decode cX5_promise 134 = .ok (.bastore, 1) := by decide +kernel
theorem dX5_promise_135 : decode cX5_promise 135 = .ok (.iinc 4 1, 3) := by decide +kernel
theorem dX5_promise_138 : decode cX5_promise 138 = .ok (.goto (-62), 3) := by decide +kernel
theorem dX5_promise_141 : decode cX5_promise 141 = .ok (.iconst 0, 1) := by decide +kernel
theorem dX5_promise_142 : decode cX5_promise 142 = .ok (.istore 4, 2) := by decide +kernel
theorem dX5_promise_144 : decode cX5_promise 144 = .ok (.iload 4, 2) := by decide +kernel
theorem dX5_promise_146 : decode cX5_promise 146 = .ok (.aload_n 0, 1) := by decide +kernel
theorem dX5_promise_147 : decode cX5_promise 147 = .ok (.getfield 158, 3) := by decide +kernel
theorem dX5_promise_150 : decode cX5_promise 150 = .ok (.if_icmp .ge 37, 3) := by decide +kernel
theorem dX5_promise_153 : decode cX5_promise 153 = .ok (.aload_n 0, 1) := by decide +kernel
theorem dX5_promise_154 : decode cX5_promise 154 = .ok (.getfield 32, 3) := by decide +kernel
theorem dX5_promise_157 : decode cX5_promise 157 = .ok (.iload 4, 2) := by decide +kernel
theorem dX5_promise_159 : decode cX5_promise 159 = .ok (.aload_n 0, 1) := by decide +kernel
theorem dX5_promise_160 : decode cX5_promise 160 = .ok (.getfield 56, 3) := by decide +kernel
theorem dX5_promise_163 : decode cX5_promise 163 = .ok (.iload 4, 2) := by decide +kernel
theorem dX5_promise_165 : decode cX5_promise 165 = .ok (.iaload, 1) := by decide +kernel
theorem dX5_promise_166 : decode cX5_promise 166 = .ok (.iastore, 1) := by decide +kernel
theorem dX5_promise_167 : decode cX5_promise 167 = .ok (.aload_n 0, 1) := by decide +kernel
theorem dX5_promise_168 : decode cX5_promise 168 = .ok (.getfield 35, 3) := by decide +kernel
theorem dX5_promise_171 : decode cX5_promise 171 = .ok (.iload 4, 2) := by decide +kernel
theorem dX5_promise_173 : decode cX5_promise 173 = .ok (.aload_n 0, 1) := by decide +kernel
theorem dX5_promise_174 : decode cX5_promise 174 = .ok (.getfield 59, 3) := by decide +kernel
theorem dX5_promise_177 : decode cX5_promise 177 = .ok (.iload 4, 2) := by decide +kernel
theorem dX5_promise_179 : decode cX5_promise 179 = .ok (.iaload, 1) := by decide +kernel
theorem dX5_promise_180 : decode cX5_promise 180 = .ok (.iastore, 1) := by decide +kernel
theorem dX5_promise_181 : decode cX5_promise 181 = .ok (.iinc 4 1, 3) := by decide +kernel
theorem dX5_promise_184 : decode cX5_promise 184 = .ok (.goto (-40), 3) := by decide +kernel
theorem dX5_promise_187 : decode cX5_promise 187 = .ok (.aload_n 0, 1) := by decide +kernel
theorem dX5_promise_188 : decode cX5_promise 188 = .ok (.getfield 155, 3) := by decide +kernel
theorem dX5_promise_191 : decode cX5_promise 191 = .ok (.ireturn, 1) := by decide +kernel
theorem dX5_reaches_0 : decode cX5_reaches 0 = .ok (.iload_n 2, 1) := by decide +kernel
theorem dX5_reaches_1 : decode cX5_reaches 1 = .ok (.istore_n 3, 1) := by decide +kernel
theorem dX5_reaches_2 : decode cX5_reaches 2 = .ok (.iload_n 1, 1) := by decide +kernel
theorem dX5_reaches_3 : decode cX5_reaches 3 = .ok (.istore 4, 2) := by decide +kernel
theorem dX5_reaches_5 : decode cX5_reaches 5 = .ok (.aload_n 0, 1) := by decide +kernel
theorem dX5_reaches_6 : decode cX5_reaches 6 = .ok (.getfield 32, 3) := by decide +kernel
theorem dX5_reaches_9 : decode cX5_reaches 9 = .ok (.iload 4, 2) := by decide +kernel
theorem dX5_reaches_11 : decode cX5_reaches 11 = .ok (.iaload, 1) := by decide +kernel
theorem dX5_reaches_12 : decode cX5_reaches 12 = .ok (.ifCond .lt 201, 3) := by decide +kernel
theorem dX5_reaches_15 : decode cX5_reaches 15 = .ok (.iconst 1, 1) := by decide +kernel
theorem dX5_reaches_16 : decode cX5_reaches 16 = .ok (.istore 5, 2) := by decide +kernel
theorem dX5_reaches_18 : decode cX5_reaches 18 = .ok (.aload_n 0, 1) := by decide +kernel
theorem dX5_reaches_19 : decode cX5_reaches 19 = .ok (.getfield 75, 3) := by decide +kernel
theorem dX5_reaches_22 : decode cX5_reaches 22 = .ok (.iconst 0, 1) := by decide +kernel
theorem dX5_reaches_23 : decode cX5_reaches 23 = .ok (.aload_n 0, 1) := by decide +kernel
theorem dX5_reaches_24 : decode cX5_reaches 24 = .ok (.getfield 32, 3) := by decide +kernel
theorem dX5_reaches_27 : decode cX5_reaches 27 = .ok (.iload 4, 2) := by decide +kernel
theorem dX5_reaches_29 : decode cX5_reaches 29 = .ok (.iaload, 1) := by decide +kernel
theorem dX5_reaches_30 : decode cX5_reaches 30 = .ok (.iastore, 1) := by decide +kernel
theorem dX5_reaches_31 : decode cX5_reaches 31 = .ok (.iload 5, 2) := by decide +kernel
theorem dX5_reaches_33 : decode cX5_reaches 33 = .ok (.ifCond .le 168, 3) := by decide +kernel
theorem dX5_reaches_36 : decode cX5_reaches 36 = .ok (.iinc 5 (-1), 3) := by decide +kernel
theorem dX5_reaches_39 : decode cX5_reaches 39 = .ok (.aload_n 0, 1) := by decide +kernel
theorem dX5_reaches_40 : decode cX5_reaches 40 = .ok (.getfield 75, 3) := by decide +kernel
theorem dX5_reaches_43 : decode cX5_reaches 43 = .ok (.iload 5, 2) := by decide +kernel
theorem dX5_reaches_45 : decode cX5_reaches 45 = .ok (.iaload, 1) := by decide +kernel
theorem dX5_reaches_46 : decode cX5_reaches 46 = .ok (.istore 6, 2) := by decide +kernel
theorem dX5_reaches_48 : decode cX5_reaches 48 = .ok (.aload_n 0, 1) := by decide +kernel
theorem dX5_reaches_49 : decode cX5_reaches 49 = .ok (.getfield 7, 3) := by decide +kernel
theorem dX5_reaches_52 : decode cX5_reaches 52 = .ok (.iload 6, 2) := by decide +kernel
theorem dX5_reaches_54 : decode cX5_reaches 54 = .ok (.iaload, 1) := by decide +kernel
theorem dX5_reaches_55 : decode cX5_reaches 55 = .ok (.bipush 15, 2) := by decide +kernel
theorem dX5_reaches_57 : decode cX5_reaches 57 = .ok (.if_icmp .ne 16, 3) := by decide +kernel
theorem dX5_reaches_60 : decode cX5_reaches 60 = .ok (.aload_n 0, 1) := by decide +kernel
theorem dX5_reaches_61 : decode cX5_reaches 61 = .ok (.aload_n 0, 1) := by decide +kernel
theorem dX5_reaches_62 : decode cX5_reaches 62 = .ok (.getfield 16, 3) := by decide +kernel
theorem dX5_reaches_65 : decode cX5_reaches 65 = .ok (.iload 6, 2) := by decide +kernel
theorem dX5_reaches_67 : decode cX5_reaches 67 = .ok (.iaload, 1) := by decide +kernel
theorem dX5_reaches_68 : decode cX5_reaches 68 = .ok (.iload_n 3, 1) := by decide +kernel
theorem dX5_reaches_69 : decode cX5_reaches 69 = .ok (.invokevirtual 129, 3) := by decide +kernel
theorem dX5_reaches_72 : decode cX5_reaches 72 = .ok (.ireturn, 1) := by decide +kernel
theorem dX5_reaches_73 : decode cX5_reaches 73 = .ok (.aload_n 0, 1) := by decide +kernel
theorem dX5_reaches_74 : decode cX5_reaches 74 = .ok (.getfield 7, 3) := by decide +kernel
theorem dX5_reaches_77 : decode cX5_reaches 77 = .ok (.iload 6, 2) := by decide +kernel
theorem dX5_reaches_79 : decode cX5_reaches 79 = .ok (.iaload, 1) := by decide +kernel
theorem dX5_reaches_80 : decode cX5_reaches 80 = .ok (.bipush 12, 2) := by decide +kernel
theorem dX5_reaches_82 : decode cX5_reaches 82 = .ok (.if_icmp .ne 14, 3) := by decide +kernel
theorem dX5_reaches_85 : decode cX5_reaches 85 = .ok (.aload_n 0, 1) := by decide +kernel
theorem dX5_reaches_86 : decode cX5_reaches 86 = .ok (.iload 6, 2) := by decide +kernel
theorem dX5_reaches_88 : decode cX5_reaches 88 = .ok (.iload_n 3, 1) := by decide +kernel
theorem dX5_reaches_89 : decode cX5_reaches 89 = .ok (.invokevirtual 133, 3) := by decide +kernel
theorem dX5_reaches_92 : decode cX5_reaches 92 = .ok (.istore_n 3, 1) := by decide +kernel
theorem dX5_reaches_93 : decode cX5_reaches 93 = .ok (.goto 105, 3) := by decide +kernel
theorem dX5_reaches_96 : decode cX5_reaches 96 = .ok (.aload_n 0, 1) := by decide +kernel
theorem dX5_reaches_97 : decode cX5_reaches 97 = .ok (.getfield 7, 3) := by decide +kernel
theorem dX5_reaches_100 : decode cX5_reaches 100 = .ok (.iload 6, 2) := by decide +kernel
theorem dX5_reaches_102 : decode cX5_reaches 102 = .ok (.iaload, 1) := by decide +kernel
theorem dX5_reaches_103 : decode cX5_reaches 103 = .ok (.bipush 14, 2) := by decide +kernel
theorem dX5_reaches_105 : decode cX5_reaches 105 = .ok (.if_icmp .ne 48, 3) := by decide +kernel
theorem dX5_reaches_108 : decode cX5_reaches 108 = .ok (.aload_n 0, 1) := by decide +kernel
theorem dX5_reaches_109 : decode cX5_reaches 109 = .ok (.getfield 75, 3) := by decide +kernel
theorem dX5_reaches_112 : decode cX5_reaches 112 = .ok (.iload 5, 2) := by decide +kernel
theorem dX5_reaches_114 : decode cX5_reaches 114 = .ok (.aload_n 0, 1) := by decide +kernel
theorem dX5_reaches_115 : decode cX5_reaches 115 = .ok (.aload_n 0, 1) := by decide +kernel
theorem dX5_reaches_116 : decode cX5_reaches 116 = .ok (.getfield 13, 3) := by decide +kernel
theorem dX5_reaches_119 : decode cX5_reaches 119 = .ok (.iload 6, 2) := by decide +kernel
theorem dX5_reaches_121 : decode cX5_reaches 121 = .ok (.iaload, 1) := by decide +kernel
theorem dX5_reaches_122 : decode cX5_reaches 122 = .ok (.iload_n 3, 1) := by decide +kernel
theorem dX5_reaches_123 : decode cX5_reaches 123 = .ok (.invokevirtual 129, 3) := by decide +kernel
theorem dX5_reaches_126 : decode cX5_reaches 126 = .ok (.ifCond .eq 13, 3) := by decide +kernel
theorem dX5_reaches_129 : decode cX5_reaches 129 = .ok (.aload_n 0, 1) := by decide +kernel
theorem dX5_reaches_130 : decode cX5_reaches 130 = .ok (.getfield 16, 3) := by decide +kernel
theorem dX5_reaches_133 : decode cX5_reaches 133 = .ok (.iload 6, 2) := by decide +kernel
theorem dX5_reaches_135 : decode cX5_reaches 135 = .ok (.iaload, 1) := by decide +kernel
theorem dX5_reaches_136 : decode cX5_reaches 136 = .ok (.goto 10, 3) := by decide +kernel
theorem dX5_reaches_139 : decode cX5_reaches 139 = .ok (.aload_n 0, 1) := by decide +kernel
theorem dX5_reaches_140 : decode cX5_reaches 140 = .ok (.getfield 19, 3) := by decide +kernel
theorem dX5_reaches_143 : decode cX5_reaches 143 = .ok (.iload 6, 2) := by decide +kernel
theorem dX5_reaches_145 : decode cX5_reaches 145 = .ok (.iaload, 1) := by decide +kernel
theorem dX5_reaches_146 : decode cX5_reaches 146 = .ok (.iastore, 1) := by decide +kernel
theorem dX5_reaches_147 : decode cX5_reaches 147 = .ok (.iinc 5 1, 3) := by decide +kernel
theorem dX5_reaches_150 : decode cX5_reaches 150 = .ok (.goto 48, 3) := by decide +kernel
theorem dX5_reaches_153 : decode cX5_reaches 153 = .ok (.aload_n 0, 1) := by decide +kernel
theorem dX5_reaches_154 : decode cX5_reaches 154 = .ok (.getfield 7, 3) := by decide +kernel
theorem dX5_reaches_157 : decode cX5_reaches 157 = .ok (.iload 6, 2) := by decide +kernel
theorem dX5_reaches_159 : decode cX5_reaches 159 = .ok (.iaload, 1) := by decide +kernel
theorem dX5_reaches_160 : decode cX5_reaches 160 = .ok (.bipush 13, 2) := by decide +kernel
theorem dX5_reaches_162 : decode cX5_reaches 162 = .ok (.if_icmp .ne 36, 3) := by decide +kernel
theorem dX5_reaches_165 : decode cX5_reaches 165 = .ok (.aload_n 0, 1) := by decide +kernel
theorem dX5_reaches_166 : decode cX5_reaches 166 = .ok (.getfield 75, 3) := by decide +kernel
theorem dX5_reaches_169 : decode cX5_reaches 169 = .ok (.iload 5, 2) := by decide +kernel
theorem dX5_reaches_171 : decode cX5_reaches 171 = .ok (.aload_n 0, 1) := by decide +kernel
theorem dX5_reaches_172 : decode cX5_reaches 172 = .ok (.getfield 16, 3) := by decide +kernel
theorem dX5_reaches_175 : decode cX5_reaches 175 = .ok (.iload 6, 2) := by decide +kernel
theorem dX5_reaches_177 : decode cX5_reaches 177 = .ok (.iaload, 1) := by decide +kernel
theorem dX5_reaches_178 : decode cX5_reaches 178 = .ok (.iastore, 1) := by decide +kernel
theorem dX5_reaches_179 : decode cX5_reaches 179 = .ok (.aload_n 0, 1) := by decide +kernel
theorem dX5_reaches_180 : decode cX5_reaches 180 = .ok (.getfield 75, 3) := by decide +kernel
theorem dX5_reaches_183 : decode cX5_reaches 183 = .ok (.iload 5, 2) := by decide +kernel
theorem dX5_reaches_185 : decode cX5_reaches 185 = .ok (.iconst 1, 1) := by decide +kernel
theorem dX5_reaches_186 : decode cX5_reaches 186 = .ok (.iadd, 1) := by decide +kernel
theorem dX5_reaches_187 : decode cX5_reaches 187 = .ok (.aload_n 0, 1) := by decide +kernel
theorem dX5_reaches_188 : decode cX5_reaches 188 = .ok (.getfield 13, 3) := by decide +kernel
theorem dX5_reaches_191 : decode cX5_reaches 191 = .ok (.iload 6, 2) := by decide +kernel
theorem dX5_reaches_193 : decode cX5_reaches 193 = .ok (.iaload, 1) := by decide +kernel
theorem dX5_reaches_194 : decode cX5_reaches 194 = .ok (.iastore, 1) := by decide +kernel
theorem dX5_reaches_195 : decode cX5_reaches 195 = .ok (.iinc 5 2, 3) := by decide +kernel
theorem dX5_reaches_198 : decode cX5_reaches 198 = .ok (.goto (-167), 3) := by decide +kernel
theorem dX5_reaches_201 : decode cX5_reaches 201 = .ok (.aload_n 0, 1) := by decide +kernel
theorem dX5_reaches_202 : decode cX5_reaches 202 = .ok (.getfield 35, 3) := by decide +kernel
theorem dX5_reaches_205 : decode cX5_reaches 205 = .ok (.iload 4, 2) := by decide +kernel
theorem dX5_reaches_207 : decode cX5_reaches 207 = .ok (.iaload, 1) := by decide +kernel
theorem dX5_reaches_208 : decode cX5_reaches 208 = .ok (.istore 4, 2) := by decide +kernel
theorem dX5_reaches_210 : decode cX5_reaches 210 = .ok (.goto (-205), 3) := by decide +kernel
theorem dX5_reaches_213 : decode cX5_reaches 213 = .ok (.aload_n 0, 1) := by decide +kernel
theorem dX5_reaches_214 : decode cX5_reaches 214 = .ok (.aload_n 0, 1) := by decide +kernel
theorem dX5_reaches_215 : decode cX5_reaches 215 = .ok (.getfield 35, 3) := by decide +kernel
theorem dX5_reaches_218 : decode cX5_reaches 218 = .ok (.iload 4, 2) := by decide +kernel
theorem dX5_reaches_220 : decode cX5_reaches 220 = .ok (.iaload, 1) := by decide +kernel
theorem dX5_reaches_221 : decode cX5_reaches 221 = .ok (.iload_n 3, 1) := by decide +kernel
theorem dX5_reaches_222 : decode cX5_reaches 222 = .ok (.invokevirtual 129, 3) := by decide +kernel
theorem dX5_reaches_225 : decode cX5_reaches 225 = .ok (.ireturn, 1) := by decide +kernel
theorem dX5_keeps_0 : decode cX5_keeps 0 = .ok (.aload_n 0, 1) := by decide +kernel
theorem dX5_keeps_1 : decode cX5_keeps 1 = .ok (.getfield 41, 3) := by decide +kernel
theorem dX5_keeps_4 : decode cX5_keeps 4 = .ok (.iload_n 1, 1) := by decide +kernel
theorem dX5_keeps_5 : decode cX5_keeps 5 = .ok (.iaload, 1) := by decide +kernel
theorem dX5_keeps_6 : decode cX5_keeps 6 = .ok (.istore_n 3, 1) := by decide +kernel
theorem dX5_keeps_7 : decode cX5_keeps 7 = .ok (.aload_n 0, 1) := by decide +kernel
theorem dX5_keeps_8 : decode cX5_keeps 8 = .ok (.getfield 38, 3) := by decide +kernel
theorem dX5_keeps_11 : decode cX5_keeps 11 = .ok (.iload_n 1, 1) := by decide +kernel
theorem dX5_keeps_12 : decode cX5_keeps 12 = .ok (.iaload, 1) := by decide +kernel
theorem dX5_keeps_13 : decode cX5_keeps 13 = .ok (.ifCond .ne 12, 3) := by decide +kernel
theorem dX5_keeps_16 : decode cX5_keeps 16 = .ok (.aload_n 0, 1) := by decide +kernel
theorem dX5_keeps_17 : decode cX5_keeps 17 = .ok (.iload_n 3, 1) := by decide +kernel
theorem dX5_keeps_18 : decode cX5_keeps 18 = .ok (.iload_n 2, 1) := by decide +kernel
theorem dX5_keeps_19 : decode cX5_keeps 19 = .ok (.invokevirtual 129, 3) := by decide +kernel
theorem dX5_keeps_22 : decode cX5_keeps 22 = .ok (.goto 51, 3) := by decide +kernel
theorem dX5_keeps_25 : decode cX5_keeps 25 = .ok (.aload_n 0, 1) := by decide +kernel
theorem dX5_keeps_26 : decode cX5_keeps 26 = .ok (.aload_n 0, 1) := by decide +kernel
theorem dX5_keeps_27 : decode cX5_keeps 27 = .ok (.getfield 16, 3) := by decide +kernel
theorem dX5_keeps_30 : decode cX5_keeps 30 = .ok (.iload_n 3, 1) := by decide +kernel
theorem dX5_keeps_31 : decode cX5_keeps 31 = .ok (.iaload, 1) := by decide +kernel
theorem dX5_keeps_32 : decode cX5_keeps 32 = .ok (.iload_n 2, 1) := by decide +kernel
theorem dX5_keeps_33 : decode cX5_keeps 33 = .ok (.invokevirtual 129, 3) := by decide +kernel
theorem dX5_keeps_36 : decode cX5_keeps 36 = .ok (.ifCond .eq 36, 3) := by decide +kernel
theorem dX5_keeps_39 : decode cX5_keeps 39 = .ok (.aload_n 0, 1) := by decide +kernel
theorem dX5_keeps_40 : decode cX5_keeps 40 = .ok (.aload_n 0, 1) := by decide +kernel
theorem dX5_keeps_41 : decode cX5_keeps 41 = .ok (.getfield 13, 3) := by decide +kernel
theorem dX5_keeps_44 : decode cX5_keeps 44 = .ok (.iload_n 3, 1) := by decide +kernel
theorem dX5_keeps_45 : decode cX5_keeps 45 = .ok (.iaload, 1) := by decide +kernel
theorem dX5_keeps_46 : decode cX5_keeps 46 = .ok (.iload_n 2, 1) := by decide +kernel
theorem dX5_keeps_47 : decode cX5_keeps 47 = .ok (.invokevirtual 129, 3) := by decide +kernel
theorem dX5_keeps_50 : decode cX5_keeps 50 = .ok (.aload_n 0, 1) := by decide +kernel
theorem dX5_keeps_51 : decode cX5_keeps 51 = .ok (.getfield 38, 3) := by decide +kernel
theorem dX5_keeps_54 : decode cX5_keeps 54 = .ok (.iload_n 1, 1) := by decide +kernel
theorem dX5_keeps_55 : decode cX5_keeps 55 = .ok (.iaload, 1) := by decide +kernel
theorem dX5_keeps_56 : decode cX5_keeps 56 = .ok (.iconst 1, 1) := by decide +kernel
theorem dX5_keeps_57 : decode cX5_keeps 57 = .ok (.if_icmp .ne 7, 3) := by decide +kernel
theorem dX5_keeps_60 : decode cX5_keeps 60 = .ok (.iconst 1, 1) := by decide +kernel
theorem dX5_keeps_61 : decode cX5_keeps 61 = .ok (.goto 4, 3) := by decide +kernel
theorem dX5_keeps_64 : decode cX5_keeps 64 = .ok (.iconst 0, 1) := by decide +kernel
theorem dX5_keeps_65 : decode cX5_keeps 65 = .ok (.if_icmp .ne 7, 3) := by decide +kernel
theorem dX5_keeps_68 : decode cX5_keeps 68 = .ok (.iconst 1, 1) := by decide +kernel
theorem dX5_keeps_69 : decode cX5_keeps 69 = .ok (.goto 4, 3) := by decide +kernel
theorem dX5_keeps_72 : decode cX5_keeps 72 = .ok (.iconst 0, 1) := by decide +kernel
theorem dX5_keeps_73 : decode cX5_keeps 73 = .ok (.istore 4, 2) := by decide +kernel
theorem dX5_keeps_75 : decode cX5_keeps 75 = .ok (.iload 4, 2) := by decide +kernel
theorem dX5_keeps_77 : decode cX5_keeps 77 = .ok (.ifCond .eq 17, 3) := by decide +kernel
theorem dX5_keeps_80 : decode cX5_keeps 80 = .ok (.aload_n 0, 1) := by decide +kernel
theorem dX5_keeps_81 : decode cX5_keeps 81 = .ok (.aload_n 0, 1) := by decide +kernel
theorem dX5_keeps_82 : decode cX5_keeps 82 = .ok (.getfield 44, 3) := by decide +kernel
theorem dX5_keeps_85 : decode cX5_keeps 85 = .ok (.iload_n 1, 1) := by decide +kernel
theorem dX5_keeps_86 : decode cX5_keeps 86 = .ok (.iaload, 1) := by decide +kernel
theorem dX5_keeps_87 : decode cX5_keeps 87 = .ok (.iload_n 2, 1) := by decide +kernel
theorem dX5_keeps_88 : decode cX5_keeps 88 = .ok (.invokevirtual 161, 3) := by decide +kernel
theorem dX5_keeps_91 : decode cX5_keeps 91 = .ok (.ifCond .eq 7, 3) := by decide +kernel
theorem dX5_keeps_94 : decode cX5_keeps 94 = .ok (.iconst 1, 1) := by decide +kernel
theorem dX5_keeps_95 : decode cX5_keeps 95 = .ok (.goto 4, 3) := by decide +kernel
theorem dX5_keeps_98 : decode cX5_keeps 98 = .ok (.iconst 0, 1) := by decide +kernel
theorem dX5_keeps_99 : decode cX5_keeps 99 = .ok (.ireturn, 1) := by decide +kernel
theorem dX5_look_0 : decode cX5_look 0 = .ok (.aload_n 0, 1) := by decide +kernel
theorem dX5_look_1 : decode cX5_look 1 = .ok (.getfield 68, 3) := by decide +kernel
theorem dX5_look_4 : decode cX5_look 4 = .ok (.iload_n 1, 1) := by decide +kernel
theorem dX5_look_5 : decode cX5_look 5 = .ok (.baload, 1) := by decide +kernel
theorem dX5_look_6 : decode cX5_look 6 = .ok (.ifCond .eq 4, 3) := by decide +kernel
theorem dX5_look_9 : decode cX5_look 9 = .ok (.return_, 1) := by decide +kernel
theorem dX5_look_10 : decode cX5_look 10 = .ok (.aload_n 0, 1) := by decide +kernel
theorem dX5_look_11 : decode cX5_look 11 = .ok (.getfield 68, 3) := by decide +kernel
theorem dX5_look_14 : decode cX5_look 14 = .ok (.iload_n 1, 1) := by decide +kernel
theorem dX5_look_15 : decode cX5_look 15 = .ok (.iconst 1, 1) := by decide +kernel
theorem dX5_look_16 : decode cX5_look 16 = .ok (.bastore, 1) := by decide +kernel
theorem dX5_look_17 : decode cX5_look 17 = .ok (.iconst 0, 1) := by decide +kernel
theorem dX5_look_18 : decode cX5_look 18 = .ok (.istore_n 2, 1) := by decide +kernel
theorem dX5_look_19 : decode cX5_look 19 = .ok (.iload_n 2, 1) := by decide +kernel
theorem dX5_look_20 : decode cX5_look 20 = .ok (.sipush 128, 3) := by decide +kernel
theorem dX5_look_23 : decode cX5_look 23 = .ok (.if_icmp .ge 66, 3) := by decide +kernel
theorem dX5_look_26 : decode cX5_look 26 = .ok (.iconst 0, 1) := by decide +kernel
theorem dX5_look_27 : decode cX5_look 27 = .ok (.istore_n 3, 1) := by decide +kernel
theorem dX5_look_28 : decode cX5_look 28 = .ok (.iconst 0, 1) := by decide +kernel
theorem dX5_look_29 : decode cX5_look 29 = .ok (.istore 4, 2) := by decide +kernel
theorem dX5_look_31 : decode cX5_look 31 = .ok (.iload 4, 2) := by decide +kernel
theorem dX5_look_33 : decode cX5_look 33 = .ok (.bipush 32, 2) := by decide +kernel
theorem dX5_look_35 : decode cX5_look 35 = .ok (.if_icmp .ge 35, 3) := by decide +kernel
theorem dX5_look_38 : decode cX5_look 38 = .ok (.aload_n 0, 1) := by decide +kernel
theorem dX5_look_39 : decode cX5_look 39 = .ok (.iload_n 1, 1) := by decide +kernel
theorem dX5_look_40 : decode cX5_look 40 = .ok (.bipush 32, 2) := by decide +kernel
theorem dX5_look_42 : decode cX5_look 42 = .ok (.iload_n 2, 1) := by decide +kernel
theorem dX5_look_43 : decode cX5_look 43 = .ok (.imul, 1) := by decide +kernel
theorem dX5_look_44 : decode cX5_look 44 = .ok (.iload 4, 2) := by decide +kernel
theorem dX5_look_46 : decode cX5_look 46 = .ok (.iadd, 1) := by decide +kernel
theorem dX5_look_47 : decode cX5_look 47 = .ok (.invokevirtual 164, 3) := by decide +kernel
theorem dX5_look_50 : decode cX5_look 50 = .ok (.ifCond .eq 7, 3) := by decide +kernel
theorem dX5_look_53 : decode cX5_look 53 = .ok (.iload_n 3, 1) := by decide +kernel
theorem dX5_look_54 : decode cX5_look 54 = .ok (.goto 9, 3) := by decide +kernel
theorem dX5_look_57 : decode cX5_look 57 = .ok (.iload_n 3, 1) := by decide +kernel
theorem dX5_look_58 : decode cX5_look 58 = .ok (.iconst 1, 1) := by decide +kernel
theorem dX5_look_59 : decode cX5_look 59 = .ok (.iload 4, 2) := by decide +kernel
theorem dX5_look_61 : decode cX5_look 61 = .ok (.ishl, 1) := by decide +kernel
theorem dX5_look_62 : decode cX5_look 62 = .ok (.ior, 1) := by decide +kernel
theorem dX5_look_63 : decode cX5_look 63 = .ok (.istore_n 3, 1) := by decide +kernel
theorem dX5_look_64 : decode cX5_look 64 = .ok (.iinc 4 1, 3) := by decide +kernel
theorem dX5_look_67 : decode cX5_look 67 = .ok (.goto (-36), 3) := by decide +kernel
theorem dX5_look_70 : decode cX5_look 70 = .ok (.aload_n 0, 1) := by decide +kernel
theorem dX5_look_71 : decode cX5_look 71 = .ok (.getfield 72, 3) := by decide +kernel
theorem dX5_look_74 : decode cX5_look 74 = .ok (.sipush 128, 3) := by decide +kernel
theorem dX5_look_77 : decode cX5_look 77 = .ok (.iload_n 1, 1) := by decide +kernel
theorem dX5_look_78 : decode cX5_look 78 = .ok (.imul, 1) := by decide +kernel
theorem dX5_look_79 : decode cX5_look 79 = .ok (.iload_n 2, 1) := by decide +kernel
theorem dX5_look_80 : decode cX5_look 80 = .ok (.iadd, 1) := by decide +kernel
theorem dX5_look_81 : decode cX5_look 81 = .ok (.iload_n 3, 1) := by decide +kernel
theorem dX5_look_82 : decode cX5_look 82 = .ok (.iastore, 1) := by decide +kernel
theorem dX5_look_83 : decode cX5_look 83 = .ok (.iinc 2 1, 3) := by decide +kernel
theorem dX5_look_86 : decode cX5_look 86 = .ok (.goto (-67), 3) := by decide +kernel
theorem dX5_look_89 : decode cX5_look 89 = .ok (.return_, 1) := by decide +kernel
theorem dX5_isBad_0 : decode cX5_isBad 0 = .ok (.aload_n 0, 1) := by decide +kernel
theorem dX5_isBad_1 : decode cX5_isBad 1 = .ok (.getfield 72, 3) := by decide +kernel
theorem dX5_isBad_4 : decode cX5_isBad 4 = .ok (.sipush 128, 3) := by decide +kernel
theorem dX5_isBad_7 : decode cX5_isBad 7 = .ok (.iload_n 1, 1) := by decide +kernel
theorem dX5_isBad_8 : decode cX5_isBad 8 = .ok (.imul, 1) := by decide +kernel
theorem dX5_isBad_9 : decode cX5_isBad 9 = .ok (.iload_n 2, 1) := by decide +kernel
theorem dX5_isBad_10 : decode cX5_isBad 10 = .ok (.bipush 32, 2) := by decide +kernel
theorem dX5_isBad_12 : decode cX5_isBad 12 = .ok (.idiv, 1) := by decide +kernel
theorem dX5_isBad_13 : decode cX5_isBad 13 = .ok (.iadd, 1) := by decide +kernel
theorem dX5_isBad_14 : decode cX5_isBad 14 = .ok (.iaload, 1) := by decide +kernel
theorem dX5_isBad_15 : decode cX5_isBad 15 = .ok (.iload_n 2, 1) := by decide +kernel
theorem dX5_isBad_16 : decode cX5_isBad 16 = .ok (.bipush 32, 2) := by decide +kernel
theorem dX5_isBad_18 : decode cX5_isBad 18 = .ok (.irem, 1) := by decide +kernel
theorem dX5_isBad_19 : decode cX5_isBad 19 = .ok (.ishr, 1) := by decide +kernel
theorem dX5_isBad_20 : decode cX5_isBad 20 = .ok (.iconst 1, 1) := by decide +kernel
theorem dX5_isBad_21 : decode cX5_isBad 21 = .ok (.iand, 1) := by decide +kernel
theorem dX5_isBad_22 : decode cX5_isBad 22 = .ok (.iconst 1, 1) := by decide +kernel
theorem dX5_isBad_23 : decode cX5_isBad 23 = .ok (.if_icmp .ne 7, 3) := by decide +kernel
theorem dX5_isBad_26 : decode cX5_isBad 26 = .ok (.iconst 1, 1) := by decide +kernel
theorem dX5_isBad_27 : decode cX5_isBad 27 = .ok (.goto 4, 3) := by decide +kernel
theorem dX5_isBad_30 : decode cX5_isBad 30 = .ok (.iconst 0, 1) := by decide +kernel
theorem dX5_isBad_31 : decode cX5_isBad 31 = .ok (.ireturn, 1) := by decide +kernel
theorem dX5_countBad_0 : decode cX5_countBad 0 = .ok (.aload_n 0, 1) := by decide +kernel
