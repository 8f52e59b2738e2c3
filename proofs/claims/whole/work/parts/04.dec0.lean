theorem dX0_init_0 : decode cX0_init 0 = .ok (.aload_n 0, 1) := by decide +kernel
theorem dX0_init_1 : decode cX0_init 1 = .ok (.invokespecial 3, 3) := by decide +kernel
theorem dX0_init_4 : decode cX0_init 4 = .ok (.aload_n 0, 1) := by decide +kernel
theorem dX0_init_5 : decode cX0_init 5 = .ok (.bipush 16, 2) := by decide +kernel
theorem dX0_init_7 : decode cX0_init 7 = .ok (.anewarray 9, 3) := by decide +kernel
theorem dX0_init_10 : decode cX0_init 10 = .ok (.putfield 11, 3) := by decide +kernel
theorem dX0_init_13 : decode cX0_init 13 = .ok (.aload_n 0, 1) := by decide +kernel
theorem dX0_init_14 : decode cX0_init 14 = .ok (.bipush 6, 2) := by decide +kernel
theorem dX0_init_16 : decode cX0_init 16 = .ok (.newarray .int, 2) := by decide +kernel
theorem dX0_init_18 : decode cX0_init 18 = .ok (.putfield 17, 3) := by decide +kernel
theorem dX0_init_21 : decode cX0_init 21 = .ok (.aload_n 0, 1) := by decide +kernel
theorem dX0_init_22 : decode cX0_init 22 = .ok (.iconst 0, 1) := by decide +kernel
theorem dX0_init_23 : decode cX0_init 23 = .ok (.putfield 21, 3) := by decide +kernel
theorem dX0_init_26 : decode cX0_init 26 = .ok (.aload_n 0, 1) := by decide +kernel
theorem dX0_init_27 : decode cX0_init 27 = .ok (.aload_n 1, 1) := by decide +kernel
theorem dX0_init_28 : decode cX0_init 28 = .ok (.putfield 25, 3) := by decide +kernel
theorem dX0_init_31 : decode cX0_init 31 = .ok (.iconst 0, 1) := by decide +kernel
theorem dX0_init_32 : decode cX0_init 32 = .ok (.istore_n 2, 1) := by decide +kernel
theorem dX0_init_33 : decode cX0_init 33 = .ok (.iload_n 2, 1) := by decide +kernel
theorem dX0_init_34 : decode cX0_init 34 = .ok (.bipush 16, 2) := by decide +kernel
theorem dX0_init_36 : decode cX0_init 36 = .ok (.if_icmp .ge 22, 3) := by decide +kernel
theorem dX0_init_39 : decode cX0_init 39 = .ok (.aload_n 0, 1) := by decide +kernel
theorem dX0_init_40 : decode cX0_init 40 = .ok (.getfield 11, 3) := by decide +kernel
theorem dX0_init_43 : decode cX0_init 43 = .ok (.iload_n 2, 1) := by decide +kernel
theorem dX0_init_44 : decode cX0_init 44 = .ok (.new 9, 3) := by decide +kernel
theorem dX0_init_47 : decode cX0_init 47 = .ok (.dup, 1) := by decide +kernel
theorem dX0_init_48 : decode cX0_init 48 = .ok (.invokespecial 29, 3) := by decide +kernel
theorem dX0_init_51 : decode cX0_init 51 = .ok (.aastore, 1) := by decide +kernel
theorem dX0_init_52 : decode cX0_init 52 = .ok (.iinc 2 1, 3) := by decide +kernel
theorem dX0_init_55 : decode cX0_init 55 = .ok (.goto (-22), 3) := by decide +kernel
theorem dX0_init_58 : decode cX0_init 58 = .ok (.return_, 1) := by decide +kernel
theorem dX0_has_0 : decode cX0_has 0 = .ok (.iload_n 1, 1) := by decide +kernel
theorem dX0_has_1 : decode cX0_has 1 = .ok (.ifCond .lt 15, 3) := by decide +kernel
theorem dX0_has_4 : decode cX0_has 4 = .ok (.iload_n 1, 1) := by decide +kernel
theorem dX0_has_5 : decode cX0_has 5 = .ok (.aload_n 0, 1) := by decide +kernel
theorem dX0_has_6 : decode cX0_has 6 = .ok (.getfield 21, 3) := by decide +kernel
theorem dX0_has_9 : decode cX0_has 9 = .ok (.if_icmp .ge 7, 3) := by decide +kernel
theorem dX0_has_12 : decode cX0_has 12 = .ok (.iconst 1, 1) := by decide +kernel
theorem dX0_has_13 : decode cX0_has 13 = .ok (.goto 4, 3) := by decide +kernel
theorem dX0_has_16 : decode cX0_has 16 = .ok (.iconst 0, 1) := by decide +kernel
theorem dX0_has_17 : decode cX0_has 17 = .ok (.ireturn, 1) := by decide +kernel
theorem dX0_howManyOf_0 : decode cX0_howManyOf 0 = .ok (.aload_n 0, 1) := by decide +kernel
theorem dX0_howManyOf_1 : decode cX0_howManyOf 1 = .ok (.getfield 25, 3) := by decide +kernel
theorem dX0_howManyOf_4 : decode cX0_howManyOf 4 = .ok (.getfield 30, 3) := by decide +kernel
theorem dX0_howManyOf_7 : decode cX0_howManyOf 7 = .ok (.iload_n 1, 1) := by decide +kernel
theorem dX0_howManyOf_8 : decode cX0_howManyOf 8 = .ok (.iaload, 1) := by decide +kernel
theorem dX0_howManyOf_9 : decode cX0_howManyOf 9 = .ok (.istore_n 2, 1) := by decide +kernel
theorem dX0_howManyOf_10 : decode cX0_howManyOf 10 = .ok (.aload_n 0, 1) := by decide +kernel
theorem dX0_howManyOf_11 : decode cX0_howManyOf 11 = .ok (.getfield 25, 3) := by decide +kernel
theorem dX0_howManyOf_14 : decode cX0_howManyOf 14 = .ok (.getfield 35, 3) := by decide +kernel
theorem dX0_howManyOf_17 : decode cX0_howManyOf 17 = .ok (.iload_n 1, 1) := by decide +kernel
theorem dX0_howManyOf_18 : decode cX0_howManyOf 18 = .ok (.iaload, 1) := by decide +kernel
theorem dX0_howManyOf_19 : decode cX0_howManyOf 19 = .ok (.istore_n 3, 1) := by decide +kernel
theorem dX0_howManyOf_20 : decode cX0_howManyOf 20 = .ok (.aload_n 0, 1) := by decide +kernel
theorem dX0_howManyOf_21 : decode cX0_howManyOf 21 = .ok (.getfield 25, 3) := by decide +kernel
theorem dX0_howManyOf_24 : decode cX0_howManyOf 24 = .ok (.getfield 38, 3) := by decide +kernel
theorem dX0_howManyOf_27 : decode cX0_howManyOf 27 = .ok (.iload_n 1, 1) := by decide +kernel
theorem dX0_howManyOf_28 : decode cX0_howManyOf 28 = .ok (.iaload, 1) := by decide +kernel
theorem dX0_howManyOf_29 : decode cX0_howManyOf 29 = .ok (.tableswitch 67 13 15 #[27, 47, 59], 27) := by decide +kernel
theorem dX0_howManyOf_56 : decode cX0_howManyOf 56 = .ok (.aload_n 0, 1) := by decide +kernel
theorem dX0_howManyOf_57 : decode cX0_howManyOf 57 = .ok (.aload_n 0, 1) := by decide +kernel
theorem dX0_howManyOf_58 : decode cX0_howManyOf 58 = .ok (.getfield 25, 3) := by decide +kernel
theorem dX0_howManyOf_61 : decode cX0_howManyOf 61 = .ok (.getfield 41, 3) := by decide +kernel
theorem dX0_howManyOf_64 : decode cX0_howManyOf 64 = .ok (.iload_n 1, 1) := by decide +kernel
theorem dX0_howManyOf_65 : decode cX0_howManyOf 65 = .ok (.iaload, 1) := by decide +kernel
theorem dX0_howManyOf_66 : decode cX0_howManyOf 66 = .ok (.invokevirtual 44, 3) := by decide +kernel
theorem dX0_howManyOf_69 : decode cX0_howManyOf 69 = .ok (.aload_n 0, 1) := by decide +kernel
theorem dX0_howManyOf_70 : decode cX0_howManyOf 70 = .ok (.iload_n 2, 1) := by decide +kernel
theorem dX0_howManyOf_71 : decode cX0_howManyOf 71 = .ok (.invokevirtual 44, 3) := by decide +kernel
theorem dX0_howManyOf_74 : decode cX0_howManyOf 74 = .ok (.iadd, 1) := by decide +kernel
theorem dX0_howManyOf_75 : decode cX0_howManyOf 75 = .ok (.ireturn, 1) := by decide +kernel
theorem dX0_howManyOf_76 : decode cX0_howManyOf 76 = .ok (.aload_n 0, 1) := by decide +kernel
theorem dX0_howManyOf_77 : decode cX0_howManyOf 77 = .ok (.iload_n 2, 1) := by decide +kernel
theorem dX0_howManyOf_78 : decode cX0_howManyOf 78 = .ok (.invokevirtual 44, 3) := by decide +kernel
theorem dX0_howManyOf_81 : decode cX0_howManyOf 81 = .ok (.aload_n 0, 1) := by decide +kernel
theorem dX0_howManyOf_82 : decode cX0_howManyOf 82 = .ok (.iload_n 3, 1) := by decide +kernel
theorem dX0_howManyOf_83 : decode cX0_howManyOf 83 = .ok (.invokevirtual 44, 3) := by decide +kernel
theorem dX0_howManyOf_86 : decode cX0_howManyOf 86 = .ok (.iadd, 1) := by decide +kernel
theorem dX0_howManyOf_87 : decode cX0_howManyOf 87 = .ok (.ireturn, 1) := by decide +kernel
theorem dX0_howManyOf_88 : decode cX0_howManyOf 88 = .ok (.iconst 2, 1) := by decide +kernel
theorem dX0_howManyOf_89 : decode cX0_howManyOf 89 = .ok (.aload_n 0, 1) := by decide +kernel
theorem dX0_howManyOf_90 : decode cX0_howManyOf 90 = .ok (.iload_n 3, 1) := by decide +kernel
theorem dX0_howManyOf_91 : decode cX0_howManyOf 91 = .ok (.invokevirtual 44, 3) := by decide +kernel
theorem dX0_howManyOf_94 : decode cX0_howManyOf 94 = .ok (.iadd, 1) := by decide +kernel
theorem dX0_howManyOf_95 : decode cX0_howManyOf 95 = .ok (.ireturn, 1) := by decide +kernel
theorem dX0_howManyOf_96 : decode cX0_howManyOf 96 = .ok (.iconst 0, 1) := by decide +kernel
theorem dX0_howManyOf_97 : decode cX0_howManyOf 97 = .ok (.ireturn, 1) := by decide +kernel
theorem dX0_replaceBy_0 : decode cX0_replaceBy 0 = .ok (.aload_n 0, 1) := by decide +kernel
theorem dX0_replaceBy_1 : decode cX0_replaceBy 1 = .ok (.iconst 0, 1) := by decide +kernel
theorem dX0_replaceBy_2 : decode cX0_replaceBy 2 = .ok (.putfield 21, 3) := by decide +kernel
theorem dX0_replaceBy_5 : decode cX0_replaceBy 5 = .ok (.aload_n 0, 1) := by decide +kernel
theorem dX0_replaceBy_6 : decode cX0_replaceBy 6 = .ok (.getfield 17, 3) := by decide +kernel
theorem dX0_replaceBy_9 : decode cX0_replaceBy 9 = .ok (.iconst 0, 1) := by decide +kernel
theorem dX0_replaceBy_10 : decode cX0_replaceBy 10 = .ok (.iload_n 2, 1) := by decide +kernel
theorem dX0_replaceBy_11 : decode cX0_replaceBy 11 = .ok (.iastore, 1) := by decide +kernel
theorem dX0_replaceBy_12 : decode cX0_replaceBy 12 = .ok (.aload_n 0, 1) := by decide +kernel
theorem dX0_replaceBy_13 : decode cX0_replaceBy 13 = .ok (.iload_n 1, 1) := by decide +kernel
theorem dX0_replaceBy_14 : decode cX0_replaceBy 14 = .ok (.iconst (-1), 1) := by decide +kernel
theorem dX0_replaceBy_15 : decode cX0_replaceBy 15 = .ok (.iconst 0, 1) := by decide +kernel
theorem dX0_replaceBy_16 : decode cX0_replaceBy 16 = .ok (.iconst 0, 1) := by decide +kernel
theorem dX0_replaceBy_17 : decode cX0_replaceBy 17 = .ok (.iconst 1, 1) := by decide +kernel
theorem dX0_replaceBy_18 : decode cX0_replaceBy 18 = .ok (.iload_n 3, 1) := by decide +kernel
theorem dX0_replaceBy_19 : decode cX0_replaceBy 19 = .ok (.invokevirtual 48, 3) := by decide +kernel
theorem dX0_replaceBy_22 : decode cX0_replaceBy 22 = .ok (.aload_n 0, 1) := by decide +kernel
theorem dX0_replaceBy_23 : decode cX0_replaceBy 23 = .ok (.iload_n 2, 1) := by decide +kernel
theorem dX0_replaceBy_24 : decode cX0_replaceBy 24 = .ok (.iconst 0, 1) := by decide +kernel
theorem dX0_replaceBy_25 : decode cX0_replaceBy 25 = .ok (.iconst 0, 1) := by decide +kernel
theorem dX0_replaceBy_26 : decode cX0_replaceBy 26 = .ok (.iload_n 3, 1) := by decide +kernel
theorem dX0_replaceBy_27 : decode cX0_replaceBy 27 = .ok (.invokevirtual 52, 3) := by decide +kernel
theorem dX0_replaceBy_30 : decode cX0_replaceBy 30 = .ok (.return_, 1) := by decide +kernel
theorem dX0_gather_0 : decode cX0_gather 0 = .ok (.aload_n 0, 1) := by decide +kernel
theorem dX0_gather_1 : decode cX0_gather 1 = .ok (.getfield 25, 3) := by decide +kernel
theorem dX0_gather_4 : decode cX0_gather 4 = .ok (.getfield 41, 3) := by decide +kernel
theorem dX0_gather_7 : decode cX0_gather 7 = .ok (.iload_n 1, 1) := by decide +kernel
theorem dX0_gather_8 : decode cX0_gather 8 = .ok (.iaload, 1) := by decide +kernel
theorem dX0_gather_9 : decode cX0_gather 9 = .ok (.istore 5, 2) := by decide +kernel
theorem dX0_gather_11 : decode cX0_gather 11 = .ok (.aload_n 0, 1) := by decide +kernel
theorem dX0_gather_12 : decode cX0_gather 12 = .ok (.getfield 25, 3) := by decide +kernel
theorem dX0_gather_15 : decode cX0_gather 15 = .ok (.getfield 30, 3) := by decide +kernel
theorem dX0_gather_18 : decode cX0_gather 18 = .ok (.iload_n 1, 1) := by decide +kernel
theorem dX0_gather_19 : decode cX0_gather 19 = .ok (.iaload, 1) := by decide +kernel
theorem dX0_gather_20 : decode cX0_gather 20 = .ok (.istore 6, 2) := by decide +kernel
theorem dX0_gather_22 : decode cX0_gather 22 = .ok (.aload_n 0, 1) := by decide +kernel
theorem dX0_gather_23 : decode cX0_gather 23 = .ok (.getfield 25, 3) := by decide +kernel
theorem dX0_gather_26 : decode cX0_gather 26 = .ok (.getfield 35, 3) := by decide +kernel
theorem dX0_gather_29 : decode cX0_gather 29 = .ok (.iload_n 1, 1) := by decide +kernel
theorem dX0_gather_30 : decode cX0_gather 30 = .ok (.iaload, 1) := by decide +kernel
theorem dX0_gather_31 : decode cX0_gather 31 = .ok (.istore 7, 2) := by decide +kernel
theorem dX0_gather_33 : decode cX0_gather 33 = .ok (.aload_n 0, 1) := by decide +kernel
theorem dX0_gather_34 : decode cX0_gather 34 = .ok (.getfield 25, 3) := by decide +kernel
theorem dX0_gather_37 : decode cX0_gather 37 = .ok (.getfield 38, 3) := by decide +kernel
theorem dX0_gather_40 : decode cX0_gather 40 = .ok (.iload_n 1, 1) := by decide +kernel
theorem dX0_gather_41 : decode cX0_gather 41 = .ok (.iaload, 1) := by decide +kernel
theorem dX0_gather_42 : decode cX0_gather 42 = .ok (.tableswitch 131 13 15 #[26, 59, 82], 26) := by decide +kernel
theorem dX0_gather_68 : decode cX0_gather 68 = .ok (.aload_n 0, 1) := by decide +kernel
theorem dX0_gather_69 : decode cX0_gather 69 = .ok (.getfield 17, 3) := by decide +kernel
theorem dX0_gather_72 : decode cX0_gather 72 = .ok (.iload_n 3, 1) := by decide +kernel
theorem dX0_gather_73 : decode cX0_gather 73 = .ok (.iload 6, 2) := by decide +kernel
theorem dX0_gather_75 : decode cX0_gather 75 = .ok (.iastore, 1) := by decide +kernel
theorem dX0_gather_76 : decode cX0_gather 76 = .ok (.aload_n 0, 1) := by decide +kernel
theorem dX0_gather_77 : decode cX0_gather 77 = .ok (.iload 5, 2) := by decide +kernel
theorem dX0_gather_79 : decode cX0_gather 79 = .ok (.iload_n 2, 1) := by decide +kernel
theorem dX0_gather_80 : decode cX0_gather 80 = .ok (.iload_n 3, 1) := by decide +kernel
theorem dX0_gather_81 : decode cX0_gather 81 = .ok (.iconst 1, 1) := by decide +kernel
theorem dX0_gather_82 : decode cX0_gather 82 = .ok (.iadd, 1) := by decide +kernel
theorem dX0_gather_83 : decode cX0_gather 83 = .ok (.iload 4, 2) := by decide +kernel
theorem dX0_gather_85 : decode cX0_gather 85 = .ok (.invokevirtual 52, 3) := by decide +kernel
theorem dX0_gather_88 : decode cX0_gather 88 = .ok (.aload_n 0, 1) := by decide +kernel
theorem dX0_gather_89 : decode cX0_gather 89 = .ok (.iload 6, 2) := by decide +kernel
theorem dX0_gather_91 : decode cX0_gather 91 = .ok (.iload_n 2, 1) := by decide +kernel
theorem dX0_gather_92 : decode cX0_gather 92 = .ok (.iload_n 3, 1) := by decide +kernel
theorem dX0_gather_93 : decode cX0_gather 93 = .ok (.iload 4, 2) := by decide +kernel
theorem dX0_gather_95 : decode cX0_gather 95 = .ok (.invokevirtual 52, 3) := by decide +kernel
theorem dX0_gather_98 : decode cX0_gather 98 = .ok (.goto 75, 3) := by decide +kernel
theorem dX0_gather_101 : decode cX0_gather 101 = .ok (.aload_n 0, 1) := by decide +kernel
theorem dX0_gather_102 : decode cX0_gather 102 = .ok (.iload 6, 2) := by decide +kernel
theorem dX0_gather_104 : decode cX0_gather 104 = .ok (.iload_n 2, 1) := by decide +kernel
theorem dX0_gather_105 : decode cX0_gather 105 = .ok (.iload_n 3, 1) := by decide +kernel
theorem dX0_gather_106 : decode cX0_gather 106 = .ok (.iload 4, 2) := by decide +kernel
theorem dX0_gather_108 : decode cX0_gather 108 = .ok (.invokevirtual 52, 3) := by decide +kernel
theorem dX0_gather_111 : decode cX0_gather 111 = .ok (.aload_n 0, 1) := by decide +kernel
theorem dX0_gather_112 : decode cX0_gather 112 = .ok (.iload 7, 2) := by decide +kernel
theorem dX0_gather_114 : decode cX0_gather 114 = .ok (.iload_n 2, 1) := by decide +kernel
theorem dX0_gather_115 : decode cX0_gather 115 = .ok (.iload_n 3, 1) := by decide +kernel
theorem dX0_gather_116 : decode cX0_gather 116 = .ok (.iload 4, 2) := by decide +kernel
theorem dX0_gather_118 : decode cX0_gather 118 = .ok (.invokevirtual 52, 3) := by decide +kernel
theorem dX0_gather_121 : decode cX0_gather 121 = .ok (.goto 52, 3) := by decide +kernel
theorem dX0_gather_124 : decode cX0_gather 124 = .ok (.aload_n 0, 1) := by decide +kernel
theorem dX0_gather_125 : decode cX0_gather 125 = .ok (.getfield 17, 3) := by decide +kernel
theorem dX0_gather_128 : decode cX0_gather 128 = .ok (.iload_n 3, 1) := by decide +kernel
theorem dX0_gather_129 : decode cX0_gather 129 = .ok (.iload 7, 2) := by decide +kernel
theorem dX0_gather_131 : decode cX0_gather 131 = .ok (.iastore, 1) := by decide +kernel
theorem dX0_gather_132 : decode cX0_gather 132 = .ok (.aload_n 0, 1) := by decide +kernel
theorem dX0_gather_133 : decode cX0_gather 133 = .ok (.iload 6, 2) := by decide +kernel
theorem dX0_gather_135 : decode cX0_gather 135 = .ok (.iload 5, 2) := by decide +kernel
theorem dX0_gather_137 : decode cX0_gather 137 = .ok (.iconst 1, 1) := by decide +kernel
theorem dX0_gather_138 : decode cX0_gather 138 = .ok (.iload_n 3, 1) := by decide +kernel
theorem dX0_gather_139 : decode cX0_gather 139 = .ok (.iload_n 3, 1) := by decide +kernel
theorem dX0_gather_140 : decode cX0_gather 140 = .ok (.iconst 1, 1) := by decide +kernel
theorem dX0_gather_141 : decode cX0_gather 141 = .ok (.iadd, 1) := by decide +kernel
theorem dX0_gather_142 : decode cX0_gather 142 = .ok (.iload 6, 2) := by decide +kernel
theorem dX0_gather_144 : decode cX0_gather 144 = .ok (.invokevirtual 48, 3) := by decide +kernel
theorem dX0_gather_147 : decode cX0_gather 147 = .ok (.aload_n 0, 1) := by decide +kernel
theorem dX0_gather_148 : decode cX0_gather 148 = .ok (.iload 6, 2) := by decide +kernel
theorem dX0_gather_150 : decode cX0_gather 150 = .ok (.iload 5, 2) := by decide +kernel
theorem dX0_gather_152 : decode cX0_gather 152 = .ok (.iconst 0, 1) := by decide +kernel
theorem dX0_gather_153 : decode cX0_gather 153 = .ok (.iload_n 2, 1) := by decide +kernel
theorem dX0_gather_154 : decode cX0_gather 154 = .ok (.iload_n 3, 1) := by decide +kernel
theorem dX0_gather_155 : decode cX0_gather 155 = .ok (.iload 4, 2) := by decide +kernel
theorem dX0_gather_157 : decode cX0_gather 157 = .ok (.invokevirtual 48, 3) := by decide +kernel
theorem dX0_gather_160 : decode cX0_gather 160 = .ok (.aload_n 0, 1) := by decide +kernel
theorem dX0_gather_161 : decode cX0_gather 161 = .ok (.iload 7, 2) := by decide +kernel
theorem dX0_gather_163 : decode cX0_gather 163 = .ok (.iload_n 3, 1) := by decide +kernel
theorem dX0_gather_164 : decode cX0_gather 164 = .ok (.iload_n 3, 1) := by decide +kernel
theorem dX0_gather_165 : decode cX0_gather 165 = .ok (.iload 6, 2) := by decide +kernel
theorem dX0_gather_167 : decode cX0_gather 167 = .ok (.invokevirtual 52, 3) := by decide +kernel
theorem dX0_gather_170 : decode cX0_gather 170 = .ok (.goto 3, 3) := by decide +kernel
theorem dX0_gather_173 : decode cX0_gather 173 = .ok (.return_, 1) := by decide +kernel
theorem dX0_add_0 : decode cX0_add 0 = .ok (.aload_n 0, 1) := by decide +kernel
theorem dX0_add_1 : decode cX0_add 1 = .ok (.getfield 11, 3) := by decide +kernel
theorem dX0_add_4 : decode cX0_add 4 = .ok (.aload_n 0, 1) := by decide +kernel
theorem dX0_add_5 : decode cX0_add 5 = .ok (.getfield 21, 3) := by decide +kernel
theorem dX0_add_8 : decode cX0_add 8 = .ok (.aaload, 1) := by decide +kernel
theorem dX0_add_9 : decode cX0_add 9 = .ok (.astore 7, 2) := by decide +kernel
theorem dX0_add_11 : decode cX0_add 11 = .ok (.aload 7, 2) := by decide +kernel
theorem dX0_add_13 : decode cX0_add 13 = .ok (.iload_n 1, 1) := by decide +kernel
theorem dX0_add_14 : decode cX0_add 14 = .ok (.putfield 56, 3) := by decide +kernel
theorem dX0_add_17 : decode cX0_add 17 = .ok (.aload 7, 2) := by decide +kernel
theorem dX0_add_19 : decode cX0_add 19 = .ok (.iload_n 2, 1) := by decide +kernel
theorem dX0_add_20 : decode cX0_add 20 = .ok (.putfield 59, 3) := by decide +kernel
theorem dX0_add_23 : decode cX0_add 23 = .ok (.aload 7, 2) := by decide +kernel
theorem dX0_add_25 : decode cX0_add 25 = .ok (.iload_n 3, 1) := by decide +kernel
theorem dX0_add_26 : decode cX0_add 26 = .ok (.putfield 62, 3) := by decide +kernel
theorem dX0_add_29 : decode cX0_add 29 = .ok (.aload 7, 2) := by decide +kernel
theorem dX0_add_31 : decode cX0_add 31 = .ok (.iload 5, 2) := by decide +kernel
theorem dX0_add_33 : decode cX0_add 33 = .ok (.iload 4, 2) := by decide +kernel
theorem dX0_add_35 : decode cX0_add 35 = .ok (.isub, 1) := by decide +kernel
theorem dX0_add_36 : decode cX0_add 36 = .ok (.putfield 66, 3) := by decide +kernel
theorem dX0_add_39 : decode cX0_add 39 = .ok (.aload_n 0, 1) := by decide +kernel
theorem dX0_add_40 : decode cX0_add 40 = .ok (.getfield 17, 3) := by decide +kernel
theorem dX0_add_43 : decode cX0_add 43 = .ok (.iload 4, 2) := by decide +kernel
theorem dX0_add_45 : decode cX0_add 45 = .ok (.aload 7, 2) := by decide +kernel
theorem dX0_add_47 : decode cX0_add 47 = .ok (.getfield 69, 3) := by decide +kernel
theorem dX0_add_50 : decode cX0_add 50 = .ok (.iconst 0, 1) := by decide +kernel
theorem dX0_add_51 : decode cX0_add 51 = .ok (.iload 5, 2) := by decide +kernel
theorem dX0_add_53 : decode cX0_add 53 = .ok (.iload 4, 2) := by decide +kernel
theorem dX0_add_55 : decode cX0_add 55 = .ok (.isub, 1) := by decide +kernel
theorem dX0_add_56 : decode cX0_add 56 = .ok (.invokestatic 72, 3) := by decide +kernel
theorem dX0_add_59 : decode cX0_add 59 = .ok (.aload 7, 2) := by decide +kernel
theorem dX0_add_61 : decode cX0_add 61 = .ok (.iload 6, 2) := by decide +kernel
theorem dX0_add_63 : decode cX0_add 63 = .ok (.putfield 78, 3) := by decide +kernel
theorem dX0_add_66 : decode cX0_add 66 = .ok (.aload_n 0, 1) := by decide +kernel
theorem dX0_add_67 : decode cX0_add 67 = .ok (.dup, 1) := by decide +kernel
theorem dX0_add_68 : decode cX0_add 68 = .ok (.getfield 21, 3) := by decide +kernel
theorem dX0_add_71 : decode cX0_add 71 = .ok (.iconst 1, 1) := by decide +kernel
theorem dX0_add_72 : decode cX0_add 72 = .ok (.iadd, 1) := by decide +kernel
theorem dX0_add_73 : decode cX0_add 73 = .ok (.putfield 21, 3) := by decide +kernel
theorem dX0_add_76 : decode cX0_add 76 = .ok (.return_, 1) := by decide +kernel
theorem dX0_isKeptIn_0 : decode cX0_isKeptIn 0 = .ok (.aload_n 0, 1) := by decide +kernel
theorem dX0_isKeptIn_1 : decode cX0_isKeptIn 1 = .ok (.getfield 11, 3) := by decide +kernel
theorem dX0_isKeptIn_4 : decode cX0_isKeptIn 4 = .ok (.iload_n 1, 1) := by decide +kernel
theorem dX0_isKeptIn_5 : decode cX0_isKeptIn 5 = .ok (.aaload, 1) := by decide +kernel
theorem dX0_isKeptIn_6 : decode cX0_isKeptIn 6 = .ok (.astore_n 3, 1) := by decide +kernel
theorem dX0_isKeptIn_7 : decode cX0_isKeptIn 7 = .ok (.aload_n 0, 1) := by decide +kernel
theorem dX0_isKeptIn_8 : decode cX0_isKeptIn 8 = .ok (.getfield 25, 3) := by decide +kernel
theorem dX0_isKeptIn_11 : decode cX0_isKeptIn 11 = .ok (.aload_n 3, 1) := by decide +kernel
theorem dX0_isKeptIn_12 : decode cX0_isKeptIn 12 = .ok (.getfield 56, 3) := by decide +kernel
theorem dX0_isKeptIn_15 : decode cX0_isKeptIn 15 = .ok (.iload_n 2, 1) := by decide +kernel
theorem dX0_isKeptIn_16 : decode cX0_isKeptIn 16 = .ok (.invokevirtual 81, 3) := by decide +kernel
theorem dX0_isKeptIn_19 : decode cX0_isKeptIn 19 = .ok (.ifCond .ne 5, 3) := by decide +kernel
theorem dX0_isKeptIn_22 : decode cX0_isKeptIn 22 = .ok (.iconst 1, 1) := by decide +kernel
theorem dX0_isKeptIn_23 : decode cX0_isKeptIn 23 = .ok (.ireturn, 1) := by decide +kernel
theorem dX0_isKeptIn_24 : decode cX0_isKeptIn 24 = .ok (.aload_n 3, 1) := by decide +kernel
theorem dX0_isKeptIn_25 : decode cX0_isKeptIn 25 = .ok (.getfield 59, 3) := by decide +kernel
theorem dX0_isKeptIn_28 : decode cX0_isKeptIn 28 = .ok (.iconst (-1), 1) := by decide +kernel
theorem dX0_isKeptIn_29 : decode cX0_isKeptIn 29 = .ok (.if_icmp .eq 24, 3) := by decide +kernel
theorem dX0_isKeptIn_32 : decode cX0_isKeptIn 32 = .ok (.aload_n 0, 1) := by decide +kernel
theorem dX0_isKeptIn_33 : decode cX0_isKeptIn 33 = .ok (.getfield 25, 3) := by decide +kernel
theorem dX0_isKeptIn_36 : decode cX0_isKeptIn 36 = .ok (.aload_n 3, 1) := by decide +kernel
theorem dX0_isKeptIn_37 : decode cX0_isKeptIn 37 = .ok (.getfield 59, 3) := by decide +kernel
theorem dX0_isKeptIn_40 : decode cX0_isKeptIn 40 = .ok (.iload_n 2, 1) := by decide +kernel
theorem dX0_isKeptIn_41 : decode cX0_isKeptIn 41 = .ok (.invokevirtual 81, 3) := by decide +kernel
theorem dX0_isKeptIn_44 : decode cX0_isKeptIn 44 = .ok (.aload_n 3, 1) := by decide +kernel
theorem dX0_isKeptIn_45 : decode cX0_isKeptIn 45 = .ok (.getfield 62, 3) := by decide +kernel
theorem dX0_isKeptIn_48 : decode cX0_isKeptIn 48 = .ok (.if_icmp .eq 5, 3) := by decide +kernel
theorem dX0_isKeptIn_51 : decode cX0_isKeptIn 51 = .ok (.iconst 1, 1) := by decide +kernel
theorem dX0_isKeptIn_52 : decode cX0_isKeptIn 52 = .ok (.ireturn, 1) := by decide +kernel
theorem dX0_isKeptIn_53 : decode cX0_isKeptIn 53 = .ok (.aload_n 0, 1) := by decide +kernel
theorem dX0_isKeptIn_54 : decode cX0_isKeptIn 54 = .ok (.aload_n 3, 1) := by decide +kernel
theorem dX0_isKeptIn_55 : decode cX0_isKeptIn 55 = .ok (.iload_n 2, 1) := by decide +kernel
theorem dX0_isKeptIn_56 : decode cX0_isKeptIn 56 = .ok (.invokevirtual 85, 3) := by decide +kernel
theorem dX0_isKeptIn_59 : decode cX0_isKeptIn 59 = .ok (.ireturn, 1) := by decide +kernel
theorem dX0_goalHoldsBehindPath_0 : decode cX0_goalHoldsBehindPath 0 = .ok (.iload_n 2, 1) := by decide +kernel
theorem dX0_goalHoldsBehindPath_1 : decode cX0_goalHoldsBehindPath 1 = .ok (.istore_n 3, 1) := by decide +kernel
theorem dX0_goalHoldsBehindPath_2 : decode cX0_goalHoldsBehindPath 2 = .ok (.aload_n 1, 1) := by decide +kernel
theorem dX0_goalHoldsBehindPath_3 : decode cX0_goalHoldsBehindPath 3 = .ok (.getfield 66, 3) := by decide +kernel
theorem dX0_goalHoldsBehindPath_6 : decode cX0_goalHoldsBehindPath 6 = .ok (.iconst 1, 1) := by decide +kernel
theorem dX0_goalHoldsBehindPath_7 : decode cX0_goalHoldsBehindPath 7 = .ok (.isub, 1) := by decide +kernel
theorem dX0_goalHoldsBehindPath_8 : decode cX0_goalHoldsBehindPath 8 = .ok (.istore 4, 2) := by decide +kernel
theorem dX0_goalHoldsBehindPath_10 : decode cX0_goalHoldsBehindPath 10 = .ok (.iload 4, 2) := by decide +kernel
theorem dX0_goalHoldsBehindPath_12 : decode cX0_goalHoldsBehindPath 12 = .ok (.ifCond .lt 37, 3) := by decide +kernel
theorem dX0_goalHoldsBehindPath_15 : decode cX0_goalHoldsBehindPath 15 = .ok (.aload_n 0, 1) := by decide +kernel
theorem dX0_goalHoldsBehindPath_16 : decode cX0_goalHoldsBehindPath 16 = .ok (.aload_n 1, 1) := by decide +kernel
theorem dX0_goalHoldsBehindPath_17 : decode cX0_goalHoldsBehindPath 17 = .ok (.getfield 69, 3) := by decide +kernel
theorem dX0_goalHoldsBehindPath_20 : decode cX0_goalHoldsBehindPath 20 = .ok (.iload 4, 2) := by decide +kernel
theorem dX0_goalHoldsBehindPath_22 : decode cX0_goalHoldsBehindPath 22 = .ok (.iaload, 1) := by decide +kernel
theorem dX0_goalHoldsBehindPath_23 : decode cX0_goalHoldsBehindPath 23 = .ok (.iload_n 3, 1) := by decide +kernel
theorem dX0_goalHoldsBehindPath_24 : decode cX0_goalHoldsBehindPath 24 = .ok (.invokevirtual 89, 3) := by decide +kernel
theorem dX0_goalHoldsBehindPath_27 : decode cX0_goalHoldsBehindPath 27 = .ok (.istore_n 3, 1) := by decide +kernel
theorem dX0_goalHoldsBehindPath_28 : decode cX0_goalHoldsBehindPath 28 = .ok (.iload_n 3, 1) := by decide +kernel
theorem dX0_goalHoldsBehindPath_29 : decode cX0_goalHoldsBehindPath 29 = .ok (.ifCond .ge 14, 3) := by decide +kernel
theorem dX0_goalHoldsBehindPath_32 : decode cX0_goalHoldsBehindPath 32 = .ok (.iload_n 3, 1) := by decide +kernel
theorem dX0_goalHoldsBehindPath_33 : decode cX0_goalHoldsBehindPath 33 = .ok (.iconst (-1), 1) := by decide +kernel
theorem dX0_goalHoldsBehindPath_34 : decode cX0_goalHoldsBehindPath 34 = .ok (.if_icmp .ne 7, 3) := by decide +kernel
theorem dX0_goalHoldsBehindPath_37 : decode cX0_goalHoldsBehindPath 37 = .ok (.iconst 1, 1) := by decide +kernel
theorem dX0_goalHoldsBehindPath_38 : decode cX0_goalHoldsBehindPath 38 = .ok (.goto 4, 3) := by decide +kernel
theorem dX0_goalHoldsBehindPath_41 : decode cX0_goalHoldsBehindPath 41 = .ok (.iconst 0, 1) := by decide +kernel
theorem dX0_goalHoldsBehindPath_42 : decode cX0_goalHoldsBehindPath 42 = .ok (.ireturn, 1) := by decide +kernel
theorem dX0_goalHoldsBehindPath_43 : decode cX0_goalHoldsBehindPath 43 = .ok (.iinc 4 (-1), 3) := by decide +kernel
theorem dX0_goalHoldsBehindPath_46 : decode cX0_goalHoldsBehindPath 46 = .ok (.goto (-36), 3) := by decide +kernel
theorem dX0_goalHoldsBehindPath_49 : decode cX0_goalHoldsBehindPath 49 = .ok (.aload_n 0, 1) := by decide +kernel
theorem dX0_goalHoldsBehindPath_50 : decode cX0_goalHoldsBehindPath 50 = .ok (.getfield 25, 3) := by decide +kernel
theorem dX0_goalHoldsBehindPath_53 : decode cX0_goalHoldsBehindPath 53 = .ok (.aload_n 1, 1) := by decide +kernel
theorem dX0_goalHoldsBehindPath_54 : decode cX0_goalHoldsBehindPath 54 = .ok (.getfield 78, 3) := by decide +kernel
theorem dX0_goalHoldsBehindPath_57 : decode cX0_goalHoldsBehindPath 57 = .ok (.iload_n 3, 1) := by decide +kernel
theorem dX0_goalHoldsBehindPath_58 : decode cX0_goalHoldsBehindPath 58 = .ok (.invokevirtual 81, 3) := by decide +kernel
theorem dX0_goalHoldsBehindPath_61 : decode cX0_goalHoldsBehindPath 61 = .ok (.ireturn, 1) := by decide +kernel
theorem dX0_follow_0 : decode cX0_follow 0 = .ok (.aload_n 0, 1) := by decide +kernel
theorem dX0_follow_1 : decode cX0_follow 1 = .ok (.getfield 25, 3) := by decide +kernel
theorem dX0_follow_4 : decode cX0_follow 4 = .ok (.getfield 41, 3) := by decide +kernel
theorem dX0_follow_7 : decode cX0_follow 7 = .ok (.iload_n 1, 1) := by decide +kernel
theorem dX0_follow_8 : decode cX0_follow 8 = .ok (.iaload, 1) := by decide +kernel
theorem dX0_follow_9 : decode cX0_follow 9 = .ok (.istore_n 3, 1) := by decide +kernel
theorem dX0_follow_10 : decode cX0_follow 10 = .ok (.aload_n 0, 1) := by decide +kernel
theorem dX0_follow_11 : decode cX0_follow 11 = .ok (.getfield 25, 3) := by decide +kernel
theorem dX0_follow_14 : decode cX0_follow 14 = .ok (.getfield 30, 3) := by decide +kernel
theorem dX0_follow_17 : decode cX0_follow 17 = .ok (.iload_n 1, 1) := by decide +kernel
theorem dX0_follow_18 : decode cX0_follow 18 = .ok (.iaload, 1) := by decide +kernel
theorem dX0_follow_19 : decode cX0_follow 19 = .ok (.istore 4, 2) := by decide +kernel
theorem dX0_follow_21 : decode cX0_follow 21 = .ok (.aload_n 0, 1) := by decide +kernel
theorem dX0_follow_22 : decode cX0_follow 22 = .ok (.getfield 25, 3) := by decide +kernel
theorem dX0_follow_25 : decode cX0_follow 25 = .ok (.getfield 38, 3) := by decide +kernel
theorem dX0_follow_28 : decode cX0_follow 28 = .ok (.iload_n 1, 1) := by decide +kernel
theorem dX0_follow_29 : decode cX0_follow 29 = .ok (.iaload, 1) := by decide +kernel
theorem dX0_follow_30 : decode cX0_follow 30 = .ok (.tableswitch 107 11 14 #[30, 32, 48, 75], 30) := by decide +kernel
theorem dX0_follow_60 : decode cX0_follow 60 = .ok (.iload_n 2, 1) := by decide +kernel
theorem dX0_follow_61 : decode cX0_follow 61 = .ok (.ireturn, 1) := by decide +kernel
theorem dX0_follow_62 : decode cX0_follow 62 = .ok (.iload_n 2, 1) := by decide +kernel
theorem dX0_follow_63 : decode cX0_follow 63 = .ok (.iload_n 3, 1) := by decide +kernel
theorem dX0_follow_64 : decode cX0_follow 64 = .ok (.aload_n 0, 1) := by decide +kernel
theorem dX0_follow_65 : decode cX0_follow 65 = .ok (.getfield 25, 3) := by decide +kernel
theorem dX0_follow_68 : decode cX0_follow 68 = .ok (.iload 4, 2) := by decide +kernel
theorem dX0_follow_70 : decode cX0_follow 70 = .ok (.iload_n 2, 1) := by decide +kernel
theorem dX0_follow_71 : decode cX0_follow 71 = .ok (.invokevirtual 93, 3) := by decide +kernel
theorem dX0_follow_74 : decode cX0_follow 74 = .ok (.invokestatic 96, 3) := by decide +kernel
theorem dX0_follow_77 : decode cX0_follow 77 = .ok (.ireturn, 1) := by decide +kernel
theorem dX0_follow_78 : decode cX0_follow 78 = .ok (.aload_n 0, 1) := by decide +kernel
theorem dX0_follow_79 : decode cX0_follow 79 = .ok (.iload_n 3, 1) := by decide +kernel
theorem dX0_follow_80 : decode cX0_follow 80 = .ok (.iload_n 2, 1) := by decide +kernel
theorem dX0_follow_81 : decode cX0_follow 81 = .ok (.invokevirtual 89, 3) := by decide +kernel
theorem dX0_follow_84 : decode cX0_follow 84 = .ok (.istore 5, 2) := by decide +kernel
theorem dX0_follow_86 : decode cX0_follow 86 = .ok (.iload 5, 2) := by decide +kernel
theorem dX0_follow_88 : decode cX0_follow 88 = .ok (.ifCond .ge 8, 3) := by decide +kernel
theorem dX0_follow_91 : decode cX0_follow 91 = .ok (.iload 5, 2) := by decide +kernel
theorem dX0_follow_93 : decode cX0_follow 93 = .ok (.goto 11, 3) := by decide +kernel
theorem dX0_follow_96 : decode cX0_follow 96 = .ok (.aload_n 0, 1) := by decide +kernel
theorem dX0_follow_97 : decode cX0_follow 97 = .ok (.iload 4, 2) := by decide +kernel
theorem dX0_follow_99 : decode cX0_follow 99 = .ok (.iload 5, 2) := by decide +kernel
theorem dX0_follow_101 : decode cX0_follow 101 = .ok (.invokevirtual 89, 3) := by decide +kernel
theorem dX0_follow_104 : decode cX0_follow 104 = .ok (.ireturn, 1) := by decide +kernel
theorem dX0_follow_105 : decode cX0_follow 105 = .ok (.aload_n 0, 1) := by decide +kernel
theorem dX0_follow_106 : decode cX0_follow 106 = .ok (.aload_n 0, 1) := by decide +kernel
theorem dX0_follow_107 : decode cX0_follow 107 = .ok (.getfield 25, 3) := by decide +kernel
theorem dX0_follow_110 : decode cX0_follow 110 = .ok (.iload_n 3, 1) := by decide +kernel
theorem dX0_follow_111 : decode cX0_follow 111 = .ok (.iload_n 2, 1) := by decide +kernel
theorem dX0_follow_112 : decode cX0_follow 112 = .ok (.invokevirtual 81, 3) := by decide +kernel
theorem dX0_follow_115 : decode cX0_follow 115 = .ok (.ifCond .eq 8, 3) := by decide +kernel
theorem dX0_follow_118 : decode cX0_follow 118 = .ok (.iload 4, 2) := by decide +kernel
theorem dX0_follow_120 : decode cX0_follow 120 = .ok (.goto 12, 3) := by decide +kernel
theorem dX0_follow_123 : decode cX0_follow 123 = .ok (.aload_n 0, 1) := by decide +kernel
theorem dX0_follow_124 : decode cX0_follow 124 = .ok (.getfield 25, 3) := by decide +kernel
theorem dX0_follow_127 : decode cX0_follow 127 = .ok (.getfield 35, 3) := by decide +kernel
theorem dX0_follow_130 : decode cX0_follow 130 = .ok (.iload_n 1, 1) := by decide +kernel
theorem dX0_follow_131 : decode cX0_follow 131 = .ok (.iaload, 1) := by decide +kernel
theorem dX0_follow_132 : decode cX0_follow 132 = .ok (.iload_n 2, 1) := by decide +kernel
theorem dX0_follow_133 : decode cX0_follow 133 = .ok (.invokevirtual 89, 3) := by decide +kernel
theorem dX0_follow_136 : decode cX0_follow 136 = .ok (.ireturn, 1) := by decide +kernel
theorem dX0_follow_137 : decode cX0_follow 137 = .ok (.aload_n 0, 1) := by decide +kernel
theorem dX0_follow_138 : decode cX0_follow 138 = .ok (.getfield 25, 3) := by decide +kernel
theorem dX0_follow_141 : decode cX0_follow 141 = .ok (.iload 4, 2) := by decide +kernel
theorem dX0_follow_143 : decode cX0_follow 143 = .ok (.iload_n 2, 1) := by decide +kernel
theorem dX0_follow_144 : decode cX0_follow 144 = .ok (.invokevirtual 81, 3) := by decide +kernel
theorem dX0_follow_147 : decode cX0_follow 147 = .ok (.ifCond .eq 7, 3) := by decide +kernel
theorem dX0_follow_150 : decode cX0_follow 150 = .ok (.iconst (-1), 1) := by decide +kernel
theorem dX0_follow_151 : decode cX0_follow 151 = .ok (.goto 5, 3) := by decide +kernel
theorem dX0_follow_154 : decode cX0_follow 154 = .ok (.bipush (-2), 2) := by decide +kernel
theorem dX0_follow_156 : decode cX0_follow 156 = .ok (.ireturn, 1) := by decide +kernel
theorem dX0_leastBroken_0 : decode cX0_leastBroken 0 = .ok (.iconst 0, 1) := by decide +kernel
theorem dX0_leastBroken_1 : decode cX0_leastBroken 1 = .ok (.istore_n 2, 1) := by decide +kernel
theorem dX0_leastBroken_2 : decode cX0_leastBroken 2 = .ok (.iload_n 2, 1) := by decide +kernel
theorem dX0_leastBroken_3 : decode cX0_leastBroken 3 = .ok (.sipush 4095, 3) := by decide +kernel
theorem dX0_leastBroken_6 : decode cX0_leastBroken 6 = .ok (.if_icmp .gt 20, 3) := by decide +kernel
theorem dX0_leastBroken_9 : decode cX0_leastBroken 9 = .ok (.aload_n 0, 1) := by decide +kernel
theorem dX0_leastBroken_10 : decode cX0_leastBroken 10 = .ok (.iload_n 1, 1) := by decide +kernel
theorem dX0_leastBroken_11 : decode cX0_leastBroken 11 = .ok (.iload_n 2, 1) := by decide +kernel
theorem dX0_leastBroken_12 : decode cX0_leastBroken 12 = .ok (.invokevirtual 100, 3) := by decide +kernel
theorem dX0_leastBroken_15 : decode cX0_leastBroken 15 = .ok (.ifCond .ne 5, 3) := by decide +kernel
theorem dX0_leastBroken_18 : decode cX0_leastBroken 18 = .ok (.iload_n 2, 1) := by decide +kernel
theorem dX0_leastBroken_19 : decode cX0_leastBroken 19 = .ok (.ireturn, 1) := by decide +kernel
theorem dX0_leastBroken_20 : decode cX0_leastBroken 20 = .ok (.iinc 2 1, 3) := by decide +kernel
theorem dX0_leastBroken_23 : decode cX0_leastBroken 23 = .ok (.goto (-21), 3) := by decide +kernel
theorem dX0_leastBroken_26 : decode cX0_leastBroken 26 = .ok (.iconst (-1), 1) := by decide +kernel
theorem dX0_leastBroken_27 : decode cX0_leastBroken 27 = .ok (.ireturn, 1) := by decide +kernel
theorem dX0_howManyBroken_0 : decode cX0_howManyBroken 0 = .ok (.iconst 0, 1) := by decide +kernel
theorem dX0_howManyBroken_1 : decode cX0_howManyBroken 1 = .ok (.istore 4, 2) := by decide +kernel
theorem dX0_howManyBroken_3 : decode cX0_howManyBroken 3 = .ok (.iload_n 2, 1) := by decide +kernel
theorem dX0_howManyBroken_4 : decode cX0_howManyBroken 4 = .ok (.istore 5, 2) := by decide +kernel
theorem dX0_howManyBroken_6 : decode cX0_howManyBroken 6 = .ok (.iload 5, 2) := by decide +kernel
theorem dX0_howManyBroken_8 : decode cX0_howManyBroken 8 = .ok (.iload_n 3, 1) := by decide +kernel
theorem dX0_howManyBroken_9 : decode cX0_howManyBroken 9 = .ok (.if_icmp .gt 22, 3) := by decide +kernel
theorem dX0_howManyBroken_12 : decode cX0_howManyBroken 12 = .ok (.aload_n 0, 1) := by decide +kernel
theorem dX0_howManyBroken_13 : decode cX0_howManyBroken 13 = .ok (.iload_n 1, 1) := by decide +kernel
theorem dX0_howManyBroken_14 : decode cX0_howManyBroken 14 = .ok (.iload 5, 2) := by decide +kernel
theorem dX0_howManyBroken_16 : decode cX0_howManyBroken 16 = .ok (.invokevirtual 100, 3) := by decide +kernel
theorem dX0_howManyBroken_19 : decode cX0_howManyBroken 19 = .ok (.ifCond .ne 6, 3) := by decide +kernel
theorem dX0_howManyBroken_22 : decode cX0_howManyBroken 22 = .ok (.iinc 4 1, 3) := by decide +kernel
theorem dX0_howManyBroken_25 : decode cX0_howManyBroken 25 = .ok (.iinc 5 1, 3) := by decide +kernel
theorem dX0_howManyBroken_28 : decode cX0_howManyBroken 28 = .ok (.goto (-22), 3) := by decide +kernel
theorem dX0_howManyBroken_31 : decode cX0_howManyBroken 31 = .ok (.iload 4, 2) := by decide +kernel
theorem dX0_howManyBroken_33 : decode cX0_howManyBroken 33 = .ok (.ireturn, 1) := by decide +kernel
theorem dX0_howManyBrokenPairs_0 : decode cX0_howManyBrokenPairs 0 = .ok (.iconst 0, 1) := by decide +kernel
theorem dX0_howManyBrokenPairs_1 : decode cX0_howManyBrokenPairs 1 = .ok (.istore_n 1, 1) := by decide +kernel
theorem dX0_howManyBrokenPairs_2 : decode cX0_howManyBrokenPairs 2 = .ok (.iconst 0, 1) := by decide +kernel
theorem dX0_howManyBrokenPairs_3 : decode cX0_howManyBrokenPairs 3 = .ok (.istore_n 2, 1) := by decide +kernel
theorem dX0_howManyBrokenPairs_4 : decode cX0_howManyBrokenPairs 4 = .ok (.iload_n 2, 1) := by decide +kernel
theorem dX0_howManyBrokenPairs_5 : decode cX0_howManyBrokenPairs 5 = .ok (.aload_n 0, 1) := by decide +kernel
theorem dX0_howManyBrokenPairs_6 : decode cX0_howManyBrokenPairs 6 = .ok (.getfield 21, 3) := by decide +kernel
theorem dX0_howManyBrokenPairs_9 : decode cX0_howManyBrokenPairs 9 = .ok (.if_icmp .ge 21, 3) := by decide +kernel
theorem dX0_howManyBrokenPairs_12 : decode cX0_howManyBrokenPairs 12 = .ok (.iload_n 1, 1) := by decide +kernel
theorem dX0_howManyBrokenPairs_13 : decode cX0_howManyBrokenPairs 13 = .ok (.aload_n 0, 1) := by decide +kernel
theorem dX0_howManyBrokenPairs_14 : decode cX0_howManyBrokenPairs 14 = .ok (.iload_n 2, 1) := by decide +kernel
theorem dX0_howManyBrokenPairs_15 : decode cX0_howManyBrokenPairs 15 = .ok (.iconst 0, 1) := by decide +kernel
theorem dX0_howManyBrokenPairs_16 : decode cX0_howManyBrokenPairs 16 = .ok (.sipush 4095, 3) := by decide +kernel
theorem dX0_howManyBrokenPairs_19 : decode cX0_howManyBrokenPairs 19 = .ok (.invokevirtual 103, 3) := by decide +kernel
theorem dX0_howManyBrokenPairs_22 : decode cX0_howManyBrokenPairs 22 = .ok (.iadd, 1) := by decide +kernel
theorem dX0_howManyBrokenPairs_23 : decode cX0_howManyBrokenPairs 23 = .ok (.istore_n 1, 1) := by decide +kernel
theorem dX0_howManyBrokenPairs_24 : decode cX0_howManyBrokenPairs 24 = .ok (.iinc 2 1, 3) := by decide +kernel
theorem dX0_howManyBrokenPairs_27 : decode cX0_howManyBrokenPairs 27 = .ok (.goto (-23), 3) := by decide +kernel
theorem dX0_howManyBrokenPairs_30 : decode cX0_howManyBrokenPairs 30 = .ok (.iload_n 1, 1) := by decide +kernel
theorem dX0_howManyBrokenPairs_31 : decode cX0_howManyBrokenPairs 31 = .ok (.ireturn, 1) := by decide +kernel
theorem dX0_howManyValid_0 : decode cX0_howManyValid 0 = .ok (.iconst 0, 1) := by decide +kernel
theorem dX0_howManyValid_1 : decode cX0_howManyValid 1 = .ok (.istore_n 1, 1) := by decide +kernel
theorem dX0_howManyValid_2 : decode cX0_howManyValid 2 = .ok (.iconst 0, 1) := by decide +kernel
theorem dX0_howManyValid_3 : decode cX0_howManyValid 3 = .ok (.istore_n 2, 1) := by decide +kernel
theorem dX0_howManyValid_4 : decode cX0_howManyValid 4 = .ok (.iload_n 2, 1) := by decide +kernel
theorem dX0_howManyValid_5 : decode cX0_howManyValid 5 = .ok (.aload_n 0, 1) := by decide +kernel
theorem dX0_howManyValid_6 : decode cX0_howManyValid 6 = .ok (.getfield 21, 3) := by decide +kernel
theorem dX0_howManyValid_9 : decode cX0_howManyValid 9 = .ok (.if_icmp .ge 21, 3) := by decide +kernel
theorem dX0_howManyValid_12 : decode cX0_howManyValid 12 = .ok (.aload_n 0, 1) := by decide +kernel
theorem dX0_howManyValid_13 : decode cX0_howManyValid 13 = .ok (.iload_n 2, 1) := by decide +kernel
theorem dX0_howManyValid_14 : decode cX0_howManyValid 14 = .ok (.invokevirtual 106, 3) := by decide +kernel
theorem dX0_howManyValid_17 : decode cX0_howManyValid 17 = .ok (.iconst (-1), 1) := by decide +kernel
theorem dX0_howManyValid_18 : decode cX0_howManyValid 18 = .ok (.if_icmp .ne 6, 3) := by decide +kernel
theorem dX0_howManyValid_21 : decode cX0_howManyValid 21 = .ok (.iinc 1 1, 3) := by decide +kernel
theorem dX0_howManyValid_24 : decode cX0_howManyValid 24 = .ok (.iinc 2 1, 3) := by decide +kernel
theorem dX0_howManyValid_27 : decode cX0_howManyValid 27 = .ok (.goto (-23), 3) := by decide +kernel
theorem dX0_howManyValid_30 : decode cX0_howManyValid 30 = .ok (.iload_n 1, 1) := by decide +kernel
theorem dX0_howManyValid_31 : decode cX0_howManyValid 31 = .ok (.ireturn, 1) := by decide +kernel
theorem dX1_init_0 : decode cX1_init 0 = .ok (.aload_n 0, 1) := by decide +kernel
theorem dX1_init_1 : decode cX1_init 1 = .ok (.invokespecial 3, 3) := by decide +kernel
theorem dX1_init_4 : decode cX1_init 4 = .ok (.aload_n 0, 1) := by decide +kernel
theorem dX1_init_5 : decode cX1_init 5 = .ok (.iconst (-1), 1) := by decide +kernel
theorem dX1_init_6 : decode cX1_init 6 = .ok (.putfield 9, 3) := by decide +kernel
theorem dX1_init_9 : decode cX1_init 9 = .ok (.aload_n 0, 1) := by decide +kernel
theorem dX1_init_10 : decode cX1_init 10 = .ok (.iconst (-1), 1) := by decide +kernel
theorem dX1_init_11 : decode cX1_init 11 = .ok (.putfield 15, 3) := by decide +kernel
theorem dX1_init_14 : decode cX1_init 14 = .ok (.aload_n 0, 1) := by decide +kernel
theorem dX1_init_15 : decode cX1_init 15 = .ok (.iconst 0, 1) := by decide +kernel
theorem dX1_init_16 : decode cX1_init 16 = .ok (.putfield 18, 3) := by decide +kernel
theorem dX1_init_19 : decode cX1_init 19 = .ok (.aload_n 0, 1) := by decide +kernel
theorem dX1_init_20 : decode cX1_init 20 = .ok (.bipush 6, 2) := by decide +kernel
theorem dX1_init_22 : decode cX1_init 22 = .ok (.newarray .int, 2) := by decide +kernel
theorem dX1_init_24 : decode cX1_init 24 = .ok (.putfield 22, 3) := by decide +kernel
theorem dX1_init_27 : decode cX1_init 27 = .ok (.aload_n 0, 1) := by decide +kernel
theorem dX1_init_28 : decode cX1_init 28 = .ok (.iconst 0, 1) := by decide +kernel
theorem dX1_init_29 : decode cX1_init 29 = .ok (.putfield 26, 3) := by decide +kernel
theorem dX1_init_32 : decode cX1_init 32 = .ok (.aload_n 0, 1) := by decide +kernel
theorem dX1_init_33 : decode cX1_init 33 = .ok (.iconst (-1), 1) := by decide +kernel
theorem dX1_init_34 : decode cX1_init 34 = .ok (.putfield 29, 3) := by decide +kernel
theorem dX1_init_37 : decode cX1_init 37 = .ok (.return_, 1) := by decide +kernel
theorem dX2_init_0 : decode cX2_init 0 = .ok (.aload_n 0, 1) := by decide +kernel
theorem dX2_init_1 : decode cX2_init 1 = .ok (.invokespecial 3, 3) := by decide +kernel
theorem dX2_init_4 : decode cX2_init 4 = .ok (.aload_n 0, 1) := by decide +kernel
theorem dX2_init_5 : decode cX2_init 5 = .ok (.bipush 60, 2) := by decide +kernel
theorem dX2_init_7 : decode cX2_init 7 = .ok (.newarray .int, 2) := by decide +kernel
theorem dX2_init_9 : decode cX2_init 9 = .ok (.putfield 9, 3) := by decide +kernel
theorem dX2_init_12 : decode cX2_init 12 = .ok (.aload_n 0, 1) := by decide +kernel
theorem dX2_init_13 : decode cX2_init 13 = .ok (.bipush 60, 2) := by decide +kernel
theorem dX2_init_15 : decode cX2_init 15 = .ok (.newarray .int, 2) := by decide +kernel
theorem dX2_init_17 : decode cX2_init 17 = .ok (.putfield 15, 3) := by decide +kernel
theorem dX2_init_20 : decode cX2_init 20 = .ok (.aload_n 0, 1) := by decide +kernel
theorem dX2_init_21 : decode cX2_init 21 = .ok (.bipush 60, 2) := by decide +kernel
theorem dX2_init_23 : decode cX2_init 23 = .ok (.newarray .int, 2) := by decide +kernel
theorem dX2_init_25 : decode cX2_init 25 = .ok (.putfield 18, 3) := by decide +kernel
theorem dX2_init_28 : decode cX2_init 28 = .ok (.aload_n 0, 1) := by decide +kernel
theorem dX2_init_29 : decode cX2_init 29 = .ok (.bipush 60, 2) := by decide +kernel
theorem dX2_init_31 : decode cX2_init 31 = .ok (.newarray .int, 2) := by decide +kernel
theorem dX2_init_33 : decode cX2_init 33 = .ok (.putfield 21, 3) := by decide +kernel
theorem dX2_init_36 : decode cX2_init 36 = .ok (.aload_n 0, 1) := by decide +kernel
theorem dX2_init_37 : decode cX2_init 37 = .ok (.bipush 60, 2) := by decide +kernel
theorem dX2_init_39 : decode cX2_init 39 = .ok (.newarray .int, 2) := by decide +kernel
theorem dX2_init_41 : decode cX2_init 41 = .ok (.putfield 24, 3) := by decide +kernel
theorem dX2_init_44 : decode cX2_init 44 = .ok (.aload_n 0, 1) := by decide +kernel
theorem dX2_init_45 : decode cX2_init 45 = .ok (.iconst 0, 1) := by decide +kernel
theorem dX2_init_46 : decode cX2_init 46 = .ok (.putfield 27, 3) := by decide +kernel
theorem dX2_init_49 : decode cX2_init 49 = .ok (.return_, 1) := by decide +kernel
theorem dX2_has_0 : decode cX2_has 0 = .ok (.iload_n 1, 1) := by decide +kernel
theorem dX2_has_1 : decode cX2_has 1 = .ok (.ifCond .lt 28, 3) := by decide +kernel
theorem dX2_has_4 : decode cX2_has 4 = .ok (.iload_n 1, 1) := by decide +kernel
theorem dX2_has_5 : decode cX2_has 5 = .ok (.aload_n 0, 1) := by decide +kernel
theorem dX2_has_6 : decode cX2_has 6 = .ok (.getfield 27, 3) := by decide +kernel
theorem dX2_has_9 : decode cX2_has 9 = .ok (.if_icmp .ge 20, 3) := by decide +kernel
theorem dX2_has_12 : decode cX2_has 12 = .ok (.aload_n 0, 1) := by decide +kernel
theorem dX2_has_13 : decode cX2_has 13 = .ok (.getfield 9, 3) := by decide +kernel
theorem dX2_has_16 : decode cX2_has 16 = .ok (.iload_n 1, 1) := by decide +kernel
theorem dX2_has_17 : decode cX2_has 17 = .ok (.iaload, 1) := by decide +kernel
theorem dX2_has_18 : decode cX2_has 18 = .ok (.invokestatic 31, 3) := by decide +kernel
theorem dX2_has_21 : decode cX2_has 21 = .ok (.iload_n 2, 1) := by decide +kernel
theorem dX2_has_22 : decode cX2_has 22 = .ok (.if_icmp .ne 7, 3) := by decide +kernel
theorem dX2_has_25 : decode cX2_has 25 = .ok (.iconst 1, 1) := by decide +kernel
theorem dX2_has_26 : decode cX2_has 26 = .ok (.goto 4, 3) := by decide +kernel
theorem dX2_has_29 : decode cX2_has 29 = .ok (.iconst 0, 1) := by decide +kernel
theorem dX2_has_30 : decode cX2_has 30 = .ok (.ireturn, 1) := by decide +kernel
theorem dX2_haveWordsFor_0 : decode cX2_haveWordsFor 0 = .ok (.aload_n 0, 1) := by decide +kernel
theorem dX2_haveWordsFor_1 : decode cX2_haveWordsFor 1 = .ok (.getstatic 35, 3) := by decide +kernel
theorem dX2_haveWordsFor_4 : decode cX2_haveWordsFor 4 = .ok (.iload_n 1, 1) := by decide +kernel
theorem dX2_haveWordsFor_5 : decode cX2_haveWordsFor 5 = .ok (.iaload, 1) := by decide +kernel
theorem dX2_haveWordsFor_6 : decode cX2_haveWordsFor 6 = .ok (.iload_n 2, 1) := by decide +kernel
theorem dX2_haveWordsFor_7 : decode cX2_haveWordsFor 7 = .ok (.invokevirtual 38, 3) := by decide +kernel
theorem dX2_haveWordsFor_10 : decode cX2_haveWordsFor 10 = .ok (.ifCond .eq 34, 3) := by decide +kernel
theorem dX2_haveWordsFor_13 : decode cX2_haveWordsFor 13 = .ok (.aload_n 0, 1) := by decide +kernel
theorem dX2_haveWordsFor_14 : decode cX2_haveWordsFor 14 = .ok (.getstatic 42, 3) := by decide +kernel
theorem dX2_haveWordsFor_17 : decode cX2_haveWordsFor 17 = .ok (.iload_n 1, 1) := by decide +kernel
theorem dX2_haveWordsFor_18 : decode cX2_haveWordsFor 18 = .ok (.iaload, 1) := by decide +kernel
theorem dX2_haveWordsFor_19 : decode cX2_haveWordsFor 19 = .ok (.iload_n 3, 1) := by decide +kernel
theorem dX2_haveWordsFor_20 : decode cX2_haveWordsFor 20 = .ok (.invokevirtual 38, 3) := by decide +kernel
theorem dX2_haveWordsFor_23 : decode cX2_haveWordsFor 23 = .ok (.ifCond .eq 21, 3) := by decide +kernel
theorem dX2_haveWordsFor_26 : decode cX2_haveWordsFor 26 = .ok (.aload_n 0, 1) := by decide +kernel
theorem dX2_haveWordsFor_27 : decode cX2_haveWordsFor 27 = .ok (.getstatic 45, 3) := by decide +kernel
theorem dX2_haveWordsFor_30 : decode cX2_haveWordsFor 30 = .ok (.iload_n 1, 1) := by decide +kernel
theorem dX2_haveWordsFor_31 : decode cX2_haveWordsFor 31 = .ok (.iaload, 1) := by decide +kernel
theorem dX2_haveWordsFor_32 : decode cX2_haveWordsFor 32 = .ok (.iload 4, 2) := by decide +kernel
theorem dX2_haveWordsFor_34 : decode cX2_haveWordsFor 34 = .ok (.invokevirtual 38, 3) := by decide +kernel
theorem dX2_haveWordsFor_37 : decode cX2_haveWordsFor 37 = .ok (.ifCond .eq 7, 3) := by decide +kernel
theorem dX2_haveWordsFor_40 : decode cX2_haveWordsFor 40 = .ok (.iconst 1, 1) := by decide +kernel
theorem dX2_haveWordsFor_41 : decode cX2_haveWordsFor 41 = .ok (.goto 4, 3) := by decide +kernel
theorem dX2_haveWordsFor_44 : decode cX2_haveWordsFor 44 = .ok (.iconst 0, 1) := by decide +kernel
theorem dX2_haveWordsFor_45 : decode cX2_haveWordsFor 45 = .ok (.ireturn, 1) := by decide +kernel
theorem dX2_heightOf_0 : decode cX2_heightOf 0 = .ok (.aload_n 0, 1) := by decide +kernel
theorem dX2_heightOf_1 : decode cX2_heightOf 1 = .ok (.getstatic 35, 3) := by decide +kernel
theorem dX2_heightOf_4 : decode cX2_heightOf 4 = .ok (.iload_n 1, 1) := by decide +kernel
theorem dX2_heightOf_5 : decode cX2_heightOf 5 = .ok (.iaload, 1) := by decide +kernel
theorem dX2_heightOf_6 : decode cX2_heightOf 6 = .ok (.iload_n 2, 1) := by decide +kernel
theorem dX2_heightOf_7 : decode cX2_heightOf 7 = .ok (.invokevirtual 48, 3) := by decide +kernel
theorem dX2_heightOf_10 : decode cX2_heightOf 10 = .ok (.aload_n 0, 1) := by decide +kernel
theorem dX2_heightOf_11 : decode cX2_heightOf 11 = .ok (.getstatic 42, 3) := by decide +kernel
theorem dX2_heightOf_14 : decode cX2_heightOf 14 = .ok (.iload_n 1, 1) := by decide +kernel
theorem dX2_heightOf_15 : decode cX2_heightOf 15 = .ok (.iaload, 1) := by decide +kernel
theorem dX2_heightOf_16 : decode cX2_heightOf 16 = .ok (.iload_n 3, 1) := by decide +kernel
theorem dX2_heightOf_17 : decode cX2_heightOf 17 = .ok (.invokevirtual 48, 3) := by decide +kernel
theorem dX2_heightOf_20 : decode cX2_heightOf 20 = .ok (.invokestatic 52, 3) := by decide +kernel
theorem dX2_heightOf_23 : decode cX2_heightOf 23 = .ok (.istore 5, 2) := by decide +kernel
theorem dX2_heightOf_25 : decode cX2_heightOf 25 = .ok (.iconst 1, 1) := by decide +kernel
theorem dX2_heightOf_26 : decode cX2_heightOf 26 = .ok (.iload 5, 2) := by decide +kernel
theorem dX2_heightOf_28 : decode cX2_heightOf 28 = .ok (.aload_n 0, 1) := by decide +kernel
theorem dX2_heightOf_29 : decode cX2_heightOf 29 = .ok (.getstatic 45, 3) := by decide +kernel
theorem dX2_heightOf_32 : decode cX2_heightOf 32 = .ok (.iload_n 1, 1) := by decide +kernel
theorem dX2_heightOf_33 : decode cX2_heightOf 33 = .ok (.iaload, 1) := by decide +kernel
theorem dX2_heightOf_34 : decode cX2_heightOf 34 = .ok (.iload 4, 2) := by decide +kernel
theorem dX2_heightOf_36 : decode cX2_heightOf 36 = .ok (.invokevirtual 48, 3) := by decide +kernel
theorem dX2_heightOf_39 : decode cX2_heightOf 39 = .ok (.invokestatic 52, 3) := by decide +kernel
theorem dX2_heightOf_42 : decode cX2_heightOf 42 = .ok (.iadd, 1) := by decide +kernel
theorem dX2_heightOf_43 : decode cX2_heightOf 43 = .ok (.ireturn, 1) := by decide +kernel
theorem dX2_add_0 : decode cX2_add 0 = .ok (.aload_n 0, 1) := by decide +kernel
theorem dX2_add_1 : decode cX2_add 1 = .ok (.getfield 27, 3) := by decide +kernel
theorem dX2_add_4 : decode cX2_add 4 = .ok (.istore 6, 2) := by decide +kernel
theorem dX2_add_6 : decode cX2_add 6 = .ok (.aload_n 0, 1) := by decide +kernel
theorem dX2_add_7 : decode cX2_add 7 = .ok (.getfield 9, 3) := by decide +kernel
theorem dX2_add_10 : decode cX2_add 10 = .ok (.iload 6, 2) := by decide +kernel
theorem dX2_add_12 : decode cX2_add 12 = .ok (.iload_n 1, 1) := by decide +kernel
theorem dX2_add_13 : decode cX2_add 13 = .ok (.iastore, 1) := by decide +kernel
theorem dX2_add_14 : decode cX2_add 14 = .ok (.aload_n 0, 1) := by decide +kernel
theorem dX2_add_15 : decode cX2_add 15 = .ok (.getfield 15, 3) := by decide +kernel
theorem dX2_add_18 : decode cX2_add 18 = .ok (.iload 6, 2) := by decide +kernel
theorem dX2_add_20 : decode cX2_add 20 = .ok (.iload_n 2, 1) := by decide +kernel
theorem dX2_add_21 : decode cX2_add 21 = .ok (.iastore, 1) := by decide +kernel
theorem dX2_add_22 : decode cX2_add 22 = .ok (.aload_n 0, 1) := by decide +kernel
theorem dX2_add_23 : decode cX2_add 23 = .ok (.getfield 18, 3) := by decide +kernel
theorem dX2_add_26 : decode cX2_add 26 = .ok (.iload 6, 2) := by decide +kernel
theorem dX2_add_28 : decode cX2_add 28 = .ok (.iload_n 3, 1) := by decide +kernel
theorem dX2_add_29 : decode cX2_add 29 = .ok (.iastore, 1) := by decide +kernel
theorem dX2_add_30 : decode cX2_add 30 = .ok (.aload_n 0, 1) := by decide +kernel
theorem dX2_add_31 : decode cX2_add 31 = .ok (.getfield 21, 3) := by decide +kernel
theorem dX2_add_34 : decode cX2_add 34 = .ok (.iload 6, 2) := by decide +kernel
theorem dX2_add_36 : decode cX2_add 36 = .ok (.iload 4, 2) := by decide +kernel
theorem dX2_add_38 : decode cX2_add 38 = .ok (.iastore, 1) := by decide +kernel
theorem dX2_add_39 : decode cX2_add 39 = .ok (.aload_n 0, 1) := by decide +kernel
theorem dX2_add_40 : decode cX2_add 40 = .ok (.getfield 24, 3) := by decide +kernel
theorem dX2_add_43 : decode cX2_add 43 = .ok (.iload 6, 2) := by decide +kernel
theorem dX2_add_45 : decode cX2_add 45 = .ok (.iload 5, 2) := by decide +kernel
theorem dX2_add_47 : decode cX2_add 47 = .ok (.iastore, 1) := by decide +kernel
theorem dX2_add_48 : decode cX2_add 48 = .ok (.aload_n 0, 1) := by decide +kernel
theorem dX2_add_49 : decode cX2_add 49 = .ok (.dup, 1) := by decide +kernel
theorem dX2_add_50 : decode cX2_add 50 = .ok (.getfield 27, 3) := by decide +kernel
theorem dX2_add_53 : decode cX2_add 53 = .ok (.iconst 1, 1) := by decide +kernel
theorem dX2_add_54 : decode cX2_add 54 = .ok (.iadd, 1) := by decide +kernel
theorem dX2_add_55 : decode cX2_add 55 = .ok (.putfield 27, 3) := by decide +kernel
theorem dX2_add_58 : decode cX2_add 58 = .ok (.iload 6, 2) := by decide +kernel
theorem dX2_add_60 : decode cX2_add 60 = .ok (.ireturn, 1) := by decide +kernel
theorem dX2_numberIn_0 : decode cX2_numberIn 0 = .ok (.aload_n 0, 1) := by decide +kernel
theorem dX2_numberIn_1 : decode cX2_numberIn 1 = .ok (.getfield 15, 3) := by decide +kernel
theorem dX2_numberIn_4 : decode cX2_numberIn 4 = .ok (.iload_n 1, 1) := by decide +kernel
theorem dX2_numberIn_5 : decode cX2_numberIn 5 = .ok (.iaload, 1) := by decide +kernel
theorem dX2_numberIn_6 : decode cX2_numberIn 6 = .ok (.istore_n 3, 1) := by decide +kernel
theorem dX2_numberIn_7 : decode cX2_numberIn 7 = .ok (.aload_n 0, 1) := by decide +kernel
theorem dX2_numberIn_8 : decode cX2_numberIn 8 = .ok (.getfield 18, 3) := by decide +kernel
theorem dX2_numberIn_11 : decode cX2_numberIn 11 = .ok (.iload_n 1, 1) := by decide +kernel
theorem dX2_numberIn_12 : decode cX2_numberIn 12 = .ok (.iaload, 1) := by decide +kernel
theorem dX2_numberIn_13 : decode cX2_numberIn 13 = .ok (.istore 4, 2) := by decide +kernel
theorem dX2_numberIn_15 : decode cX2_numberIn 15 = .ok (.aload_n 0, 1) := by decide +kernel
theorem dX2_numberIn_16 : decode cX2_numberIn 16 = .ok (.getfield 9, 3) := by decide +kernel
theorem dX2_numberIn_19 : decode cX2_numberIn 19 = .ok (.iload_n 1, 1) := by decide +kernel
theorem dX2_numberIn_20 : decode cX2_numberIn 20 = .ok (.iaload, 1) := by decide +kernel
theorem dX2_numberIn_21 : decode cX2_numberIn 21 = .ok (.tableswitch 72 0 3 #[31, 33, 42, 57], 31) := by decide +kernel
theorem dX2_numberIn_52 : decode cX2_numberIn 52 = .ok (.iload_n 3, 1) := by decide +kernel
theorem dX2_numberIn_53 : decode cX2_numberIn 53 = .ok (.ireturn, 1) := by decide +kernel
theorem dX2_numberIn_54 : decode cX2_numberIn 54 = .ok (.iload_n 2, 1) := by decide +kernel
theorem dX2_numberIn_55 : decode cX2_numberIn 55 = .ok (.iconst 4, 1) := by decide +kernel
theorem dX2_numberIn_56 : decode cX2_numberIn 56 = .ok (.iload_n 3, 1) := by decide +kernel
theorem dX2_numberIn_57 : decode cX2_numberIn 57 = .ok (.imul, 1) := by decide +kernel
theorem dX2_numberIn_58 : decode cX2_numberIn 58 = .ok (.ishr, 1) := by decide +kernel
theorem dX2_numberIn_59 : decode cX2_numberIn 59 = .ok (.bipush 15, 2) := by decide +kernel
theorem dX2_numberIn_61 : decode cX2_numberIn 61 = .ok (.iand, 1) := by decide +kernel
theorem dX2_numberIn_62 : decode cX2_numberIn 62 = .ok (.ireturn, 1) := by decide +kernel
theorem dX2_numberIn_63 : decode cX2_numberIn 63 = .ok (.aload_n 0, 1) := by decide +kernel
theorem dX2_numberIn_64 : decode cX2_numberIn 64 = .ok (.iload_n 3, 1) := by decide +kernel
theorem dX2_numberIn_65 : decode cX2_numberIn 65 = .ok (.iload_n 2, 1) := by decide +kernel
theorem dX2_numberIn_66 : decode cX2_numberIn 66 = .ok (.invokevirtual 57, 3) := by decide +kernel
theorem dX2_numberIn_69 : decode cX2_numberIn 69 = .ok (.aload_n 0, 1) := by decide +kernel
theorem dX2_numberIn_70 : decode cX2_numberIn 70 = .ok (.iload 4, 2) := by decide +kernel
theorem dX2_numberIn_72 : decode cX2_numberIn 72 = .ok (.iload_n 2, 1) := by decide +kernel
theorem dX2_numberIn_73 : decode cX2_numberIn 73 = .ok (.invokevirtual 57, 3) := by decide +kernel
theorem dX2_numberIn_76 : decode cX2_numberIn 76 = .ok (.iadd, 1) := by decide +kernel
theorem dX2_numberIn_77 : decode cX2_numberIn 77 = .ok (.ireturn, 1) := by decide +kernel
theorem dX2_numberIn_78 : decode cX2_numberIn 78 = .ok (.aload_n 0, 1) := by decide +kernel
theorem dX2_numberIn_79 : decode cX2_numberIn 79 = .ok (.iload_n 3, 1) := by decide +kernel
theorem dX2_numberIn_80 : decode cX2_numberIn 80 = .ok (.iload_n 2, 1) := by decide +kernel
theorem dX2_numberIn_81 : decode cX2_numberIn 81 = .ok (.invokevirtual 57, 3) := by decide +kernel
theorem dX2_numberIn_84 : decode cX2_numberIn 84 = .ok (.aload_n 0, 1) := by decide +kernel
theorem dX2_numberIn_85 : decode cX2_numberIn 85 = .ok (.iload 4, 2) := by decide +kernel
theorem dX2_numberIn_87 : decode cX2_numberIn 87 = .ok (.iload_n 2, 1) := by decide +kernel
theorem dX2_numberIn_88 : decode cX2_numberIn 88 = .ok (.invokevirtual 57, 3) := by decide +kernel
theorem dX2_numberIn_91 : decode cX2_numberIn 91 = .ok (.isub, 1) := by decide +kernel
theorem dX2_numberIn_92 : decode cX2_numberIn 92 = .ok (.ireturn, 1) := by decide +kernel
theorem dX2_numberIn_93 : decode cX2_numberIn 93 = .ok (.iload_n 3, 1) := by decide +kernel
theorem dX2_numberIn_94 : decode cX2_numberIn 94 = .ok (.aload_n 0, 1) := by decide +kernel
theorem dX2_numberIn_95 : decode cX2_numberIn 95 = .ok (.iload 4, 2) := by decide +kernel
theorem dX2_numberIn_97 : decode cX2_numberIn 97 = .ok (.iload_n 2, 1) := by decide +kernel
theorem dX2_numberIn_98 : decode cX2_numberIn 98 = .ok (.invokevirtual 57, 3) := by decide +kernel
theorem dX2_numberIn_101 : decode cX2_numberIn 101 = .ok (.imul, 1) := by decide +kernel
theorem dX2_numberIn_102 : decode cX2_numberIn 102 = .ok (.ireturn, 1) := by decide +kernel
theorem dX2_isTrueIn_0 : decode cX2_isTrueIn 0 = .ok (.aload_n 0, 1) := by decide +kernel
theorem dX2_isTrueIn_1 : decode cX2_isTrueIn 1 = .ok (.getfield 15, 3) := by decide +kernel
theorem dX2_isTrueIn_4 : decode cX2_isTrueIn 4 = .ok (.iload_n 1, 1) := by decide +kernel
theorem dX2_isTrueIn_5 : decode cX2_isTrueIn 5 = .ok (.iaload, 1) := by decide +kernel
theorem dX2_isTrueIn_6 : decode cX2_isTrueIn 6 = .ok (.istore_n 3, 1) := by decide +kernel
theorem dX2_isTrueIn_7 : decode cX2_isTrueIn 7 = .ok (.aload_n 0, 1) := by decide +kernel
theorem dX2_isTrueIn_8 : decode cX2_isTrueIn 8 = .ok (.getfield 18, 3) := by decide +kernel
theorem dX2_isTrueIn_11 : decode cX2_isTrueIn 11 = .ok (.iload_n 1, 1) := by decide +kernel
theorem dX2_isTrueIn_12 : decode cX2_isTrueIn 12 = .ok (.iaload, 1) := by decide +kernel
theorem dX2_isTrueIn_13 : decode cX2_isTrueIn 13 = .ok (.istore 4, 2) := by decide +kernel
theorem dX2_isTrueIn_15 : decode cX2_isTrueIn 15 = .ok (.aload_n 0, 1) := by decide +kernel
theorem dX2_isTrueIn_16 : decode cX2_isTrueIn 16 = .ok (.getfield 9, 3) := by decide +kernel
theorem dX2_isTrueIn_19 : decode cX2_isTrueIn 19 = .ok (.iload_n 1, 1) := by decide +kernel
theorem dX2_isTrueIn_20 : decode cX2_isTrueIn 20 = .ok (.iaload, 1) := by decide +kernel
theorem dX2_isTrueIn_21 : decode cX2_isTrueIn 21 = .ok (.tableswitch 137 5 9 #[35, 57, 79, 97, 112], 35) := by decide +kernel
theorem dX2_isTrueIn_56 : decode cX2_isTrueIn 56 = .ok (.aload_n 0, 1) := by decide +kernel
theorem dX2_isTrueIn_57 : decode cX2_isTrueIn 57 = .ok (.iload_n 3, 1) := by decide +kernel
theorem dX2_isTrueIn_58 : decode cX2_isTrueIn 58 = .ok (.iload_n 2, 1) := by decide +kernel
theorem dX2_isTrueIn_59 : decode cX2_isTrueIn 59 = .ok (.invokevirtual 57, 3) := by decide +kernel
theorem dX2_isTrueIn_62 : decode cX2_isTrueIn 62 = .ok (.aload_n 0, 1) := by decide +kernel
theorem dX2_isTrueIn_63 : decode cX2_isTrueIn 63 = .ok (.iload 4, 2) := by decide +kernel
theorem dX2_isTrueIn_65 : decode cX2_isTrueIn 65 = .ok (.iload_n 2, 1) := by decide +kernel
theorem dX2_isTrueIn_66 : decode cX2_isTrueIn 66 = .ok (.invokevirtual 57, 3) := by decide +kernel
theorem dX2_isTrueIn_69 : decode cX2_isTrueIn 69 = .ok (.if_icmp .ge 7, 3) := by decide +kernel
theorem dX2_isTrueIn_72 : decode cX2_isTrueIn 72 = .ok (.iconst 1, 1) := by decide +kernel
theorem dX2_isTrueIn_73 : decode cX2_isTrueIn 73 = .ok (.goto 4, 3) := by decide +kernel
theorem dX2_isTrueIn_76 : decode cX2_isTrueIn 76 = .ok (.iconst 0, 1) := by decide +kernel
theorem dX2_isTrueIn_77 : decode cX2_isTrueIn 77 = .ok (.ireturn, 1) := by decide +kernel
theorem dX2_isTrueIn_78 : decode cX2_isTrueIn 78 = .ok (.aload_n 0, 1) := by decide +kernel
theorem dX2_isTrueIn_79 : decode cX2_isTrueIn 79 = .ok (.iload_n 3, 1) := by decide +kernel
theorem dX2_isTrueIn_80 : decode cX2_isTrueIn 80 = .ok (.iload_n 2, 1) := by decide +kernel
theorem dX2_isTrueIn_81 : decode cX2_isTrueIn 81 = .ok (.invokevirtual 57, 3) := by decide +kernel
theorem dX2_isTrueIn_84 : decode cX2_isTrueIn 84 = .ok (.aload_n 0, 1) := by decide +kernel
theorem dX2_isTrueIn_85 : decode cX2_isTrueIn 85 = .ok (.iload 4, 2) := by decide +kernel
theorem dX2_isTrueIn_87 : decode cX2_isTrueIn 87 = .ok (.iload_n 2, 1) := by decide +kernel
theorem dX2_isTrueIn_88 : decode cX2_isTrueIn 88 = .ok (.invokevirtual 57, 3) := by decide +kernel
theorem dX2_isTrueIn_91 : decode cX2_isTrueIn 91 = .ok (.if_icmp .ne 7, 3) := by decide +kernel
theorem dX2_isTrueIn_94 : decode cX2_isTrueIn 94 = .ok (.iconst 1, 1) := by decide +kernel
theorem dX2_isTrueIn_95 : decode cX2_isTrueIn 95 = .ok (.goto 4, 3) := by decide +kernel
theorem dX2_isTrueIn_98 : decode cX2_isTrueIn 98 = .ok (.iconst 0, 1) := by decide +kernel
theorem dX2_isTrueIn_99 : decode cX2_isTrueIn 99 = .ok (.ireturn, 1) := by decide +kernel
theorem dX2_isTrueIn_100 : decode cX2_isTrueIn 100 = .ok (.aload_n 0, 1) := by decide +kernel
theorem dX2_isTrueIn_101 : decode cX2_isTrueIn 101 = .ok (.iload 4, 2) := by decide +kernel
theorem dX2_isTrueIn_103 : decode cX2_isTrueIn 103 = .ok (.iload_n 2, 1) := by decide +kernel
theorem dX2_isTrueIn_104 : decode cX2_isTrueIn 104 = .ok (.invokevirtual 57, 3) := by decide +kernel
theorem dX2_isTrueIn_107 : decode cX2_isTrueIn 107 = .ok (.iload_n 3, 1) := by decide +kernel
theorem dX2_isTrueIn_108 : decode cX2_isTrueIn 108 = .ok (.irem, 1) := by decide +kernel
theorem dX2_isTrueIn_109 : decode cX2_isTrueIn 109 = .ok (.ifCond .ne 7, 3) := by decide +kernel
theorem dX2_isTrueIn_112 : decode cX2_isTrueIn 112 = .ok (.iconst 1, 1) := by decide +kernel
theorem dX2_isTrueIn_113 : decode cX2_isTrueIn 113 = .ok (.goto 4, 3) := by decide +kernel
theorem dX2_isTrueIn_116 : decode cX2_isTrueIn 116 = .ok (.iconst 0, 1) := by decide +kernel
theorem dX2_isTrueIn_117 : decode cX2_isTrueIn 117 = .ok (.ireturn, 1) := by decide +kernel
theorem dX2_isTrueIn_118 : decode cX2_isTrueIn 118 = .ok (.aload_n 0, 1) := by decide +kernel
theorem dX2_isTrueIn_119 : decode cX2_isTrueIn 119 = .ok (.iload_n 3, 1) := by decide +kernel
theorem dX2_isTrueIn_120 : decode cX2_isTrueIn 120 = .ok (.iload_n 2, 1) := by decide +kernel
theorem dX2_isTrueIn_121 : decode cX2_isTrueIn 121 = .ok (.invokevirtual 60, 3) := by decide +kernel
theorem dX2_isTrueIn_124 : decode cX2_isTrueIn 124 = .ok (.ifCond .ne 7, 3) := by decide +kernel
theorem dX2_isTrueIn_127 : decode cX2_isTrueIn 127 = .ok (.iconst 1, 1) := by decide +kernel
theorem dX2_isTrueIn_128 : decode cX2_isTrueIn 128 = .ok (.goto 4, 3) := by decide +kernel
theorem dX2_isTrueIn_131 : decode cX2_isTrueIn 131 = .ok (.iconst 0, 1) := by decide +kernel
theorem dX2_isTrueIn_132 : decode cX2_isTrueIn 132 = .ok (.ireturn, 1) := by decide +kernel
theorem dX2_isTrueIn_133 : decode cX2_isTrueIn 133 = .ok (.aload_n 0, 1) := by decide +kernel
theorem dX2_isTrueIn_134 : decode cX2_isTrueIn 134 = .ok (.iload_n 3, 1) := by decide +kernel
theorem dX2_isTrueIn_135 : decode cX2_isTrueIn 135 = .ok (.iload_n 2, 1) := by decide +kernel
theorem dX2_isTrueIn_136 : decode cX2_isTrueIn 136 = .ok (.invokevirtual 60, 3) := by decide +kernel
theorem dX2_isTrueIn_139 : decode cX2_isTrueIn 139 = .ok (.ifCond .eq 17, 3) := by decide +kernel
theorem dX2_isTrueIn_142 : decode cX2_isTrueIn 142 = .ok (.aload_n 0, 1) := by decide +kernel
theorem dX2_isTrueIn_143 : decode cX2_isTrueIn 143 = .ok (.iload 4, 2) := by decide +kernel
theorem dX2_isTrueIn_145 : decode cX2_isTrueIn 145 = .ok (.iload_n 2, 1) := by decide +kernel
theorem dX2_isTrueIn_146 : decode cX2_isTrueIn 146 = .ok (.invokevirtual 60, 3) := by decide +kernel
theorem dX2_isTrueIn_149 : decode cX2_isTrueIn 149 = .ok (.ifCond .eq 7, 3) := by decide +kernel
theorem dX2_isTrueIn_152 : decode cX2_isTrueIn 152 = .ok (.iconst 1, 1) := by decide +kernel
theorem dX2_isTrueIn_153 : decode cX2_isTrueIn 153 = .ok (.goto 4, 3) := by decide +kernel
theorem dX2_isTrueIn_156 : decode cX2_isTrueIn 156 = .ok (.iconst 0, 1) := by decide +kernel
theorem dX2_isTrueIn_157 : decode cX2_isTrueIn 157 = .ok (.ireturn, 1) := by decide +kernel
theorem dX2_isTrueIn_158 : decode cX2_isTrueIn 158 = .ok (.aload_n 0, 1) := by decide +kernel
theorem dX2_isTrueIn_159 : decode cX2_isTrueIn 159 = .ok (.iload_n 3, 1) := by decide +kernel
theorem dX2_isTrueIn_160 : decode cX2_isTrueIn 160 = .ok (.iload_n 2, 1) := by decide +kernel
theorem dX2_isTrueIn_161 : decode cX2_isTrueIn 161 = .ok (.invokevirtual 60, 3) := by decide +kernel
theorem dX2_isTrueIn_164 : decode cX2_isTrueIn 164 = .ok (.ifCond .ne 13, 3) := by decide +kernel
theorem dX2_isTrueIn_167 : decode cX2_isTrueIn 167 = .ok (.aload_n 0, 1) := by decide +kernel
theorem dX2_isTrueIn_168 : decode cX2_isTrueIn 168 = .ok (.iload 4, 2) := by decide +kernel
theorem dX2_isTrueIn_170 : decode cX2_isTrueIn 170 = .ok (.iload_n 2, 1) := by decide +kernel
theorem dX2_isTrueIn_171 : decode cX2_isTrueIn 171 = .ok (.invokevirtual 60, 3) := by decide +kernel
theorem dX2_isTrueIn_174 : decode cX2_isTrueIn 174 = .ok (.ifCond .eq 7, 3) := by decide +kernel
theorem dX2_isTrueIn_177 : decode cX2_isTrueIn 177 = .ok (.iconst 1, 1) := by decide +kernel
theorem dX2_isTrueIn_178 : decode cX2_isTrueIn 178 = .ok (.goto 4, 3) := by decide +kernel
theorem dX2_isTrueIn_181 : decode cX2_isTrueIn 181 = .ok (.iconst 0, 1) := by decide +kernel
theorem dX2_isTrueIn_182 : decode cX2_isTrueIn 182 = .ok (.ireturn, 1) := by decide +kernel
theorem dX2_fits_0 : decode cX2_fits 0 = .ok (.iload_n 1, 1) := by decide +kernel
theorem dX2_fits_1 : decode cX2_fits 1 = .ok (.tableswitch 105 0 4 #[35, 37, 55, 73, 90], 35) := by decide +kernel
theorem dX2_fits_36 : decode cX2_fits 36 = .ok (.iconst 1, 1) := by decide +kernel
theorem dX2_fits_37 : decode cX2_fits 37 = .ok (.ireturn, 1) := by decide +kernel
theorem dX2_fits_38 : decode cX2_fits 38 = .ok (.iload_n 2, 1) := by decide +kernel
theorem dX2_fits_39 : decode cX2_fits 39 = .ok (.bipush (-100), 2) := by decide +kernel
theorem dX2_fits_41 : decode cX2_fits 41 = .ok (.if_icmp .lt 13, 3) := by decide +kernel
theorem dX2_fits_44 : decode cX2_fits 44 = .ok (.iload_n 2, 1) := by decide +kernel
theorem dX2_fits_45 : decode cX2_fits 45 = .ok (.bipush 100, 2) := by decide +kernel
theorem dX2_fits_47 : decode cX2_fits 47 = .ok (.if_icmp .gt 7, 3) := by decide +kernel
theorem dX2_fits_50 : decode cX2_fits 50 = .ok (.iconst 1, 1) := by decide +kernel
theorem dX2_fits_51 : decode cX2_fits 51 = .ok (.goto 4, 3) := by decide +kernel
theorem dX2_fits_54 : decode cX2_fits 54 = .ok (.iconst 0, 1) := by decide +kernel
theorem dX2_fits_55 : decode cX2_fits 55 = .ok (.ireturn, 1) := by decide +kernel
theorem dX2_fits_56 : decode cX2_fits 56 = .ok (.iload_n 2, 1) := by decide +kernel
theorem dX2_fits_57 : decode cX2_fits 57 = .ok (.bipush (-16), 2) := by decide +kernel
theorem dX2_fits_59 : decode cX2_fits 59 = .ok (.if_icmp .lt 13, 3) := by decide +kernel
theorem dX2_fits_62 : decode cX2_fits 62 = .ok (.iload_n 2, 1) := by decide +kernel
theorem dX2_fits_63 : decode cX2_fits 63 = .ok (.bipush 16, 2) := by decide +kernel
theorem dX2_fits_65 : decode cX2_fits 65 = .ok (.if_icmp .gt 7, 3) := by decide +kernel
theorem dX2_fits_68 : decode cX2_fits 68 = .ok (.iconst 1, 1) := by decide +kernel
theorem dX2_fits_69 : decode cX2_fits 69 = .ok (.goto 4, 3) := by decide +kernel
theorem dX2_fits_72 : decode cX2_fits 72 = .ok (.iconst 0, 1) := by decide +kernel
theorem dX2_fits_73 : decode cX2_fits 73 = .ok (.ireturn, 1) := by decide +kernel
theorem dX2_fits_74 : decode cX2_fits 74 = .ok (.iload_n 2, 1) := by decide +kernel
theorem dX2_fits_75 : decode cX2_fits 75 = .ok (.iconst 1, 1) := by decide +kernel
theorem dX2_fits_76 : decode cX2_fits 76 = .ok (.if_icmp .lt 13, 3) := by decide +kernel
theorem dX2_fits_79 : decode cX2_fits 79 = .ok (.iload_n 2, 1) := by decide +kernel
theorem dX2_fits_80 : decode cX2_fits 80 = .ok (.bipush 16, 2) := by decide +kernel
theorem dX2_fits_82 : decode cX2_fits 82 = .ok (.if_icmp .gt 7, 3) := by decide +kernel
theorem dX2_fits_85 : decode cX2_fits 85 = .ok (.iconst 1, 1) := by decide +kernel
theorem dX2_fits_86 : decode cX2_fits 86 = .ok (.goto 4, 3) := by decide +kernel
theorem dX2_fits_89 : decode cX2_fits 89 = .ok (.iconst 0, 1) := by decide +kernel
theorem dX2_fits_90 : decode cX2_fits 90 = .ok (.ireturn, 1) := by decide +kernel
theorem dX2_fits_91 : decode cX2_fits 91 = .ok (.iload_n 2, 1) := by decide +kernel
theorem dX2_fits_92 : decode cX2_fits 92 = .ok (.ifCond .lt 12, 3) := by decide +kernel
theorem dX2_fits_95 : decode cX2_fits 95 = .ok (.iload_n 2, 1) := by decide +kernel
theorem dX2_fits_96 : decode cX2_fits 96 = .ok (.iconst 2, 1) := by decide +kernel
theorem dX2_fits_97 : decode cX2_fits 97 = .ok (.if_icmp .gt 7, 3) := by decide +kernel
theorem dX2_fits_100 : decode cX2_fits 100 = .ok (.iconst 1, 1) := by decide +kernel
theorem dX2_fits_101 : decode cX2_fits 101 = .ok (.goto 4, 3) := by decide +kernel
theorem dX2_fits_104 : decode cX2_fits 104 = .ok (.iconst 0, 1) := by decide +kernel
theorem dX2_fits_105 : decode cX2_fits 105 = .ok (.ireturn, 1) := by decide +kernel
theorem dX2_fits_106 : decode cX2_fits 106 = .ok (.aload_n 0, 1) := by decide +kernel
theorem dX2_fits_107 : decode cX2_fits 107 = .ok (.iload_n 2, 1) := by decide +kernel
theorem dX2_fits_108 : decode cX2_fits 108 = .ok (.iload_n 1, 1) := by decide +kernel
theorem dX2_fits_109 : decode cX2_fits 109 = .ok (.invokevirtual 63, 3) := by decide +kernel
theorem dX2_fits_112 : decode cX2_fits 112 = .ok (.ireturn, 1) := by decide +kernel
theorem dX2_heightBelow_0 : decode cX2_heightBelow 0 = .ok (.iload_n 1, 1) := by decide +kernel
theorem dX2_heightBelow_1 : decode cX2_heightBelow 1 = .ok (.iconst 5, 1) := by decide +kernel
theorem dX2_heightBelow_2 : decode cX2_heightBelow 2 = .ok (.if_icmp .lt 12, 3) := by decide +kernel
theorem dX2_heightBelow_5 : decode cX2_heightBelow 5 = .ok (.aload_n 0, 1) := by decide +kernel
theorem dX2_heightBelow_6 : decode cX2_heightBelow 6 = .ok (.getfield 24, 3) := by decide +kernel
theorem dX2_heightBelow_9 : decode cX2_heightBelow 9 = .ok (.iload_n 2, 1) := by decide +kernel
theorem dX2_heightBelow_10 : decode cX2_heightBelow 10 = .ok (.iaload, 1) := by decide +kernel
theorem dX2_heightBelow_11 : decode cX2_heightBelow 11 = .ok (.goto 4, 3) := by decide +kernel
theorem dX2_heightBelow_14 : decode cX2_heightBelow 14 = .ok (.iconst 0, 1) := by decide +kernel
theorem dX2_heightBelow_15 : decode cX2_heightBelow 15 = .ok (.ireturn, 1) := by decide +kernel
theorem dX2_sortOf_0 : decode cX2_sortOf 0 = .ok (.iload_n 0, 1) := by decide +kernel
theorem dX2_sortOf_1 : decode cX2_sortOf 1 = .ok (.iconst 5, 1) := by decide +kernel
theorem dX2_sortOf_2 : decode cX2_sortOf 2 = .ok (.if_icmp .ge 5, 3) := by decide +kernel
theorem dX2_sortOf_5 : decode cX2_sortOf 5 = .ok (.iconst 5, 1) := by decide +kernel
theorem dX2_sortOf_6 : decode cX2_sortOf 6 = .ok (.ireturn, 1) := by decide +kernel
theorem dX2_sortOf_7 : decode cX2_sortOf 7 = .ok (.iload_n 0, 1) := by decide +kernel
theorem dX2_sortOf_8 : decode cX2_sortOf 8 = .ok (.bipush 11, 2) := by decide +kernel
theorem dX2_sortOf_10 : decode cX2_sortOf 10 = .ok (.if_icmp .ge 8, 3) := by decide +kernel
theorem dX2_sortOf_13 : decode cX2_sortOf 13 = .ok (.bipush 6, 2) := by decide +kernel
theorem dX2_sortOf_15 : decode cX2_sortOf 15 = .ok (.goto 5, 3) := by decide +kernel
theorem dX2_sortOf_18 : decode cX2_sortOf 18 = .ok (.bipush 7, 2) := by decide +kernel
theorem dX2_sortOf_20 : decode cX2_sortOf 20 = .ok (.ireturn, 1) := by decide +kernel
theorem dX3_init_0 : decode cX3_init 0 = .ok (.aload_n 0, 1) := by decide +kernel
theorem dX3_init_1 : decode cX3_init 1 = .ok (.invokespecial 3, 3) := by decide +kernel
theorem dX3_init_4 : decode cX3_init 4 = .ok (.aload_n 0, 1) := by decide +kernel
theorem dX3_init_5 : decode cX3_init 5 = .ok (.iconst 0, 1) := by decide +kernel
theorem dX3_init_6 : decode cX3_init 6 = .ok (.putfield 9, 3) := by decide +kernel
theorem dX3_init_9 : decode cX3_init 9 = .ok (.aload_n 0, 1) := by decide +kernel
theorem dX3_init_10 : decode cX3_init 10 = .ok (.iconst 0, 1) := by decide +kernel
theorem dX3_init_11 : decode cX3_init 11 = .ok (.putfield 15, 3) := by decide +kernel
theorem dX3_init_14 : decode cX3_init 14 = .ok (.aload_n 0, 1) := by decide +kernel
theorem dX3_init_15 : decode cX3_init 15 = .ok (.aload_n 1, 1) := by decide +kernel
theorem dX3_init_16 : decode cX3_init 16 = .ok (.putfield 18, 3) := by decide +kernel
theorem dX3_init_19 : decode cX3_init 19 = .ok (.return_, 1) := by decide +kernel
theorem dX3_storeBehind_0 : decode cX3_storeBehind 0 = .ok (.aload_n 0, 1) := by decide +kernel
theorem dX3_storeBehind_1 : decode cX3_storeBehind 1 = .ok (.iload_n 2, 1) := by decide +kernel
theorem dX3_storeBehind_2 : decode cX3_storeBehind 2 = .ok (.putfield 9, 3) := by decide +kernel
theorem dX3_storeBehind_5 : decode cX3_storeBehind 5 = .ok (.aload_n 0, 1) := by decide +kernel
theorem dX3_storeBehind_6 : decode cX3_storeBehind 6 = .ok (.iload_n 3, 1) := by decide +kernel
theorem dX3_storeBehind_7 : decode cX3_storeBehind 7 = .ok (.putfield 15, 3) := by decide +kernel
theorem dX3_storeBehind_10 : decode cX3_storeBehind 10 = .ok (.aload_n 0, 1) := by decide +kernel
theorem dX3_storeBehind_11 : decode cX3_storeBehind 11 = .ok (.iload_n 1, 1) := by decide +kernel
theorem dX3_storeBehind_12 : decode cX3_storeBehind 12 = .ok (.invokevirtual 22, 3) := by decide +kernel
theorem dX3_storeBehind_15 : decode cX3_storeBehind 15 = .ok (.ifCond .eq 10, 3) := by decide +kernel
theorem dX3_storeBehind_18 : decode cX3_storeBehind 18 = .ok (.aload_n 0, 1) := by decide +kernel
theorem dX3_storeBehind_19 : decode cX3_storeBehind 19 = .ok (.getfield 9, 3) := by decide +kernel
theorem dX3_storeBehind_22 : decode cX3_storeBehind 22 = .ok (.goto 4, 3) := by decide +kernel
theorem dX3_storeBehind_25 : decode cX3_storeBehind 25 = .ok (.iconst (-1), 1) := by decide +kernel
theorem dX3_storeBehind_26 : decode cX3_storeBehind 26 = .ok (.ireturn, 1) := by decide +kernel
theorem dX3_ends_0 : decode cX3_ends 0 = .ok (.aload_n 0, 1) := by decide +kernel
theorem dX3_ends_1 : decode cX3_ends 1 = .ok (.getfield 15, 3) := by decide +kernel
theorem dX3_ends_4 : decode cX3_ends 4 = .ok (.ifCond .ne 5, 3) := by decide +kernel
theorem dX3_ends_7 : decode cX3_ends 7 = .ok (.iconst 0, 1) := by decide +kernel
theorem dX3_ends_8 : decode cX3_ends 8 = .ok (.ireturn, 1) := by decide +kernel
theorem dX3_ends_9 : decode cX3_ends 9 = .ok (.aload_n 0, 1) := by decide +kernel
theorem dX3_ends_10 : decode cX3_ends 10 = .ok (.dup, 1) := by decide +kernel
theorem dX3_ends_11 : decode cX3_ends 11 = .ok (.getfield 15, 3) := by decide +kernel
theorem dX3_ends_14 : decode cX3_ends 14 = .ok (.iconst 1, 1) := by decide +kernel
theorem dX3_ends_15 : decode cX3_ends 15 = .ok (.isub, 1) := by decide +kernel
theorem dX3_ends_16 : decode cX3_ends 16 = .ok (.putfield 15, 3) := by decide +kernel
theorem dX3_ends_19 : decode cX3_ends 19 = .ok (.aload_n 0, 1) := by decide +kernel
theorem dX3_ends_20 : decode cX3_ends 20 = .ok (.getfield 18, 3) := by decide +kernel
theorem dX3_ends_23 : decode cX3_ends 23 = .ok (.getfield 26, 3) := by decide +kernel
theorem dX3_ends_26 : decode cX3_ends 26 = .ok (.iload_n 1, 1) := by decide +kernel
theorem dX3_ends_27 : decode cX3_ends 27 = .ok (.iaload, 1) := by decide +kernel
theorem dX3_ends_28 : decode cX3_ends 28 = .ok (.istore_n 2, 1) := by decide +kernel
theorem dX3_ends_29 : decode cX3_ends 29 = .ok (.aload_n 0, 1) := by decide +kernel
theorem dX3_ends_30 : decode cX3_ends 30 = .ok (.getfield 18, 3) := by decide +kernel
theorem dX3_ends_33 : decode cX3_ends 33 = .ok (.getfield 32, 3) := by decide +kernel
theorem dX3_ends_36 : decode cX3_ends 36 = .ok (.iload_n 1, 1) := by decide +kernel
theorem dX3_ends_37 : decode cX3_ends 37 = .ok (.iaload, 1) := by decide +kernel
theorem dX3_ends_38 : decode cX3_ends 38 = .ok (.istore_n 3, 1) := by decide +kernel
theorem dX3_ends_39 : decode cX3_ends 39 = .ok (.aload_n 0, 1) := by decide +kernel
theorem dX3_ends_40 : decode cX3_ends 40 = .ok (.getfield 18, 3) := by decide +kernel
theorem dX3_ends_43 : decode cX3_ends 43 = .ok (.getfield 35, 3) := by decide +kernel
theorem dX3_ends_46 : decode cX3_ends 46 = .ok (.iload_n 1, 1) := by decide +kernel
theorem dX3_ends_47 : decode cX3_ends 47 = .ok (.iaload, 1) := by decide +kernel
theorem dX3_ends_48 : decode cX3_ends 48 = .ok (.tableswitch 115 11 14 #[32, 34, 60, 82], 32) := by decide +kernel
theorem dX3_ends_80 : decode cX3_ends 80 = .ok (.iconst 1, 1) := by decide +kernel
theorem dX3_ends_81 : decode cX3_ends 81 = .ok (.ireturn, 1) := by decide +kernel
theorem dX3_ends_82 : decode cX3_ends 82 = .ok (.aload_n 0, 1) := by decide +kernel
theorem dX3_ends_83 : decode cX3_ends 83 = .ok (.aload_n 0, 1) := by decide +kernel
theorem dX3_ends_84 : decode cX3_ends 84 = .ok (.getfield 9, 3) := by decide +kernel
theorem dX3_ends_87 : decode cX3_ends 87 = .ok (.iload_n 2, 1) := by decide +kernel
theorem dX3_ends_88 : decode cX3_ends 88 = .ok (.aload_n 0, 1) := by decide +kernel
theorem dX3_ends_89 : decode cX3_ends 89 = .ok (.getfield 18, 3) := by decide +kernel
theorem dX3_ends_92 : decode cX3_ends 92 = .ok (.iload_n 3, 1) := by decide +kernel
theorem dX3_ends_93 : decode cX3_ends 93 = .ok (.aload_n 0, 1) := by decide +kernel
theorem dX3_ends_94 : decode cX3_ends 94 = .ok (.getfield 9, 3) := by decide +kernel
theorem dX3_ends_97 : decode cX3_ends 97 = .ok (.invokevirtual 38, 3) := by decide +kernel
theorem dX3_ends_100 : decode cX3_ends 100 = .ok (.invokestatic 42, 3) := by decide +kernel
theorem dX3_ends_103 : decode cX3_ends 103 = .ok (.putfield 9, 3) := by decide +kernel
theorem dX3_ends_106 : decode cX3_ends 106 = .ok (.iconst 1, 1) := by decide +kernel
theorem dX3_ends_107 : decode cX3_ends 107 = .ok (.ireturn, 1) := by decide +kernel
theorem dX3_ends_108 : decode cX3_ends 108 = .ok (.aload_n 0, 1) := by decide +kernel
theorem dX3_ends_109 : decode cX3_ends 109 = .ok (.iload_n 2, 1) := by decide +kernel
theorem dX3_ends_110 : decode cX3_ends 110 = .ok (.invokevirtual 22, 3) := by decide +kernel
theorem dX3_ends_113 : decode cX3_ends 113 = .ok (.ifCond .eq 15, 3) := by decide +kernel
theorem dX3_ends_116 : decode cX3_ends 116 = .ok (.aload_n 0, 1) := by decide +kernel
theorem dX3_ends_117 : decode cX3_ends 117 = .ok (.iload_n 3, 1) := by decide +kernel
theorem dX3_ends_118 : decode cX3_ends 118 = .ok (.invokevirtual 22, 3) := by decide +kernel
theorem dX3_ends_121 : decode cX3_ends 121 = .ok (.ifCond .eq 7, 3) := by decide +kernel
theorem dX3_ends_124 : decode cX3_ends 124 = .ok (.iconst 1, 1) := by decide +kernel
theorem dX3_ends_125 : decode cX3_ends 125 = .ok (.goto 4, 3) := by decide +kernel
theorem dX3_ends_128 : decode cX3_ends 128 = .ok (.iconst 0, 1) := by decide +kernel
theorem dX3_ends_129 : decode cX3_ends 129 = .ok (.ireturn, 1) := by decide +kernel
theorem dX3_ends_130 : decode cX3_ends 130 = .ok (.aload_n 0, 1) := by decide +kernel
theorem dX3_ends_131 : decode cX3_ends 131 = .ok (.aload_n 0, 1) := by decide +kernel
theorem dX3_ends_132 : decode cX3_ends 132 = .ok (.getfield 18, 3) := by decide +kernel
