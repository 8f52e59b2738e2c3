theorem dX3_ends_135 : decode cX3_ends 135 = .ok (.iload_n 2, 1) := by decide +kernel
theorem dX3_ends_136 : decode cX3_ends 136 = .ok (.aload_n 0, 1) := by decide +kernel
theorem dX3_ends_137 : decode cX3_ends 137 = .ok (.getfield 9, 3) := by decide +kernel
theorem dX3_ends_140 : decode cX3_ends 140 = .ok (.invokevirtual 46, 3) := by decide +kernel
theorem dX3_ends_143 : decode cX3_ends 143 = .ok (.ifCond .eq 7, 3) := by decide +kernel
theorem dX3_ends_146 : decode cX3_ends 146 = .ok (.iload_n 3, 1) := by decide +kernel
theorem dX3_ends_147 : decode cX3_ends 147 = .ok (.goto 12, 3) := by decide +kernel
theorem dX3_ends_150 : decode cX3_ends 150 = .ok (.aload_n 0, 1) := by decide +kernel
theorem dX3_ends_151 : decode cX3_ends 151 = .ok (.getfield 18, 3) := by decide +kernel
theorem dX3_ends_154 : decode cX3_ends 154 = .ok (.getfield 50, 3) := by decide +kernel
theorem dX3_ends_157 : decode cX3_ends 157 = .ok (.iload_n 1, 1) := by decide +kernel
theorem dX3_ends_158 : decode cX3_ends 158 = .ok (.iaload, 1) := by decide +kernel
theorem dX3_ends_159 : decode cX3_ends 159 = .ok (.invokevirtual 22, 3) := by decide +kernel
theorem dX3_ends_162 : decode cX3_ends 162 = .ok (.ireturn, 1) := by decide +kernel
theorem dX3_ends_163 : decode cX3_ends 163 = .ok (.aload_n 0, 1) := by decide +kernel
theorem dX3_ends_164 : decode cX3_ends 164 = .ok (.iload_n 2, 1) := by decide +kernel
theorem dX3_ends_165 : decode cX3_ends 165 = .ok (.aload_n 0, 1) := by decide +kernel
theorem dX3_ends_166 : decode cX3_ends 166 = .ok (.getfield 18, 3) := by decide +kernel
theorem dX3_ends_169 : decode cX3_ends 169 = .ok (.getfield 50, 3) := by decide +kernel
theorem dX3_ends_172 : decode cX3_ends 172 = .ok (.iload_n 1, 1) := by decide +kernel
theorem dX3_ends_173 : decode cX3_ends 173 = .ok (.iaload, 1) := by decide +kernel
theorem dX3_ends_174 : decode cX3_ends 174 = .ok (.invokevirtual 53, 3) := by decide +kernel
theorem dX3_ends_177 : decode cX3_ends 177 = .ok (.ireturn, 1) := by decide +kernel
theorem dX3_loopEnds_0 : decode cX3_loopEnds 0 = .ok (.iconst 0, 1) := by decide +kernel
theorem dX3_loopEnds_1 : decode cX3_loopEnds 1 = .ok (.istore_n 3, 1) := by decide +kernel
theorem dX3_loopEnds_2 : decode cX3_loopEnds 2 = .ok (.iload_n 3, 1) := by decide +kernel
theorem dX3_loopEnds_3 : decode cX3_loopEnds 3 = .ok (.sipush 500, 3) := by decide +kernel
theorem dX3_loopEnds_6 : decode cX3_loopEnds 6 = .ok (.if_icmp .gt 36, 3) := by decide +kernel
theorem dX3_loopEnds_9 : decode cX3_loopEnds 9 = .ok (.aload_n 0, 1) := by decide +kernel
theorem dX3_loopEnds_10 : decode cX3_loopEnds 10 = .ok (.getfield 18, 3) := by decide +kernel
theorem dX3_loopEnds_13 : decode cX3_loopEnds 13 = .ok (.iload_n 1, 1) := by decide +kernel
theorem dX3_loopEnds_14 : decode cX3_loopEnds 14 = .ok (.aload_n 0, 1) := by decide +kernel
theorem dX3_loopEnds_15 : decode cX3_loopEnds 15 = .ok (.getfield 9, 3) := by decide +kernel
theorem dX3_loopEnds_18 : decode cX3_loopEnds 18 = .ok (.invokevirtual 46, 3) := by decide +kernel
theorem dX3_loopEnds_21 : decode cX3_loopEnds 21 = .ok (.ifCond .ne 5, 3) := by decide +kernel
theorem dX3_loopEnds_24 : decode cX3_loopEnds 24 = .ok (.iconst 1, 1) := by decide +kernel
theorem dX3_loopEnds_25 : decode cX3_loopEnds 25 = .ok (.ireturn, 1) := by decide +kernel
theorem dX3_loopEnds_26 : decode cX3_loopEnds 26 = .ok (.aload_n 0, 1) := by decide +kernel
theorem dX3_loopEnds_27 : decode cX3_loopEnds 27 = .ok (.iload_n 2, 1) := by decide +kernel
theorem dX3_loopEnds_28 : decode cX3_loopEnds 28 = .ok (.invokevirtual 22, 3) := by decide +kernel
theorem dX3_loopEnds_31 : decode cX3_loopEnds 31 = .ok (.ifCond .ne 5, 3) := by decide +kernel
theorem dX3_loopEnds_34 : decode cX3_loopEnds 34 = .ok (.iconst 0, 1) := by decide +kernel
theorem dX3_loopEnds_35 : decode cX3_loopEnds 35 = .ok (.ireturn, 1) := by decide +kernel
theorem dX3_loopEnds_36 : decode cX3_loopEnds 36 = .ok (.iinc 3 1, 3) := by decide +kernel
theorem dX3_loopEnds_39 : decode cX3_loopEnds 39 = .ok (.goto (-37), 3) := by decide +kernel
theorem dX3_loopEnds_42 : decode cX3_loopEnds 42 = .ok (.iconst 0, 1) := by decide +kernel
theorem dX3_loopEnds_43 : decode cX3_loopEnds 43 = .ok (.ireturn, 1) := by decide +kernel
theorem dX4_init_0 : decode cX4_init 0 = .ok (.aload_n 0, 1) := by decide +kernel
theorem dX4_init_1 : decode cX4_init 1 = .ok (.invokespecial 1, 3) := by decide +kernel
theorem dX4_init_4 : decode cX4_init 4 = .ok (.aload_n 0, 1) := by decide +kernel
theorem dX4_init_5 : decode cX4_init 5 = .ok (.new 7, 3) := by decide +kernel
theorem dX4_init_8 : decode cX4_init 8 = .ok (.dup, 1) := by decide +kernel
theorem dX4_init_9 : decode cX4_init 9 = .ok (.invokespecial 9, 3) := by decide +kernel
theorem dX4_init_12 : decode cX4_init 12 = .ok (.putfield 10, 3) := by decide +kernel
theorem dX4_init_15 : decode cX4_init 15 = .ok (.aload_n 0, 1) := by decide +kernel
theorem dX4_init_16 : decode cX4_init 16 = .ok (.new 16, 3) := by decide +kernel
theorem dX4_init_19 : decode cX4_init 19 = .ok (.dup, 1) := by decide +kernel
theorem dX4_init_20 : decode cX4_init 20 = .ok (.aload_n 0, 1) := by decide +kernel
theorem dX4_init_21 : decode cX4_init 21 = .ok (.getfield 10, 3) := by decide +kernel
theorem dX4_init_24 : decode cX4_init 24 = .ok (.invokespecial 18, 3) := by decide +kernel
theorem dX4_init_27 : decode cX4_init 27 = .ok (.putfield 21, 3) := by decide +kernel
theorem dX4_init_30 : decode cX4_init 30 = .ok (.aload_n 0, 1) := by decide +kernel
theorem dX4_init_31 : decode cX4_init 31 = .ok (.new 25, 3) := by decide +kernel
theorem dX4_init_34 : decode cX4_init 34 = .ok (.dup, 1) := by decide +kernel
theorem dX4_init_35 : decode cX4_init 35 = .ok (.aload_n 0, 1) := by decide +kernel
theorem dX4_init_36 : decode cX4_init 36 = .ok (.getfield 10, 3) := by decide +kernel
theorem dX4_init_39 : decode cX4_init 39 = .ok (.invokespecial 27, 3) := by decide +kernel
theorem dX4_init_42 : decode cX4_init 42 = .ok (.putfield 28, 3) := by decide +kernel
theorem dX4_init_45 : decode cX4_init 45 = .ok (.return_, 1) := by decide +kernel
theorem dX4_make_0 : decode cX4_make 0 = .ok (.iload_n 1, 1) := by decide +kernel
theorem dX4_make_1 : decode cX4_make 1 = .ok (.ifCond .lt 24, 3) := by decide +kernel
theorem dX4_make_4 : decode cX4_make 4 = .ok (.iload_n 1, 1) := by decide +kernel
theorem dX4_make_5 : decode cX4_make 5 = .ok (.bipush 15, 2) := by decide +kernel
theorem dX4_make_7 : decode cX4_make 7 = .ok (.if_icmp .gt 18, 3) := by decide +kernel
theorem dX4_make_10 : decode cX4_make 10 = .ok (.aload_n 0, 1) := by decide +kernel
theorem dX4_make_11 : decode cX4_make 11 = .ok (.getfield 10, 3) := by decide +kernel
theorem dX4_make_14 : decode cX4_make 14 = .ok (.iload_n 1, 1) := by decide +kernel
theorem dX4_make_15 : decode cX4_make 15 = .ok (.iload_n 2, 1) := by decide +kernel
theorem dX4_make_16 : decode cX4_make 16 = .ok (.iload_n 3, 1) := by decide +kernel
theorem dX4_make_17 : decode cX4_make 17 = .ok (.iload 4, 2) := by decide +kernel
theorem dX4_make_19 : decode cX4_make 19 = .ok (.invokevirtual 32, 3) := by decide +kernel
theorem dX4_make_22 : decode cX4_make 22 = .ok (.ifCond .ne 11, 3) := by decide +kernel
theorem dX4_make_25 : decode cX4_make 25 = .ok (.new 36, 3) := by decide +kernel
theorem dX4_make_28 : decode cX4_make 28 = .ok (.dup, 1) := by decide +kernel
theorem dX4_make_29 : decode cX4_make 29 = .ok (.invokespecial 38, 3) := by decide +kernel
theorem dX4_make_32 : decode cX4_make 32 = .ok (.athrow, 1) := by decide +kernel
theorem dX4_make_33 : decode cX4_make 33 = .ok (.aload_n 0, 1) := by decide +kernel
theorem dX4_make_34 : decode cX4_make 34 = .ok (.getfield 10, 3) := by decide +kernel
theorem dX4_make_37 : decode cX4_make 37 = .ok (.iload_n 1, 1) := by decide +kernel
theorem dX4_make_38 : decode cX4_make 38 = .ok (.iload_n 2, 1) := by decide +kernel
theorem dX4_make_39 : decode cX4_make 39 = .ok (.iload_n 3, 1) := by decide +kernel
theorem dX4_make_40 : decode cX4_make 40 = .ok (.iload 4, 2) := by decide +kernel
theorem dX4_make_42 : decode cX4_make 42 = .ok (.invokevirtual 39, 3) := by decide +kernel
theorem dX4_make_45 : decode cX4_make 45 = .ok (.istore 5, 2) := by decide +kernel
theorem dX4_make_47 : decode cX4_make 47 = .ok (.aload_n 0, 1) := by decide +kernel
theorem dX4_make_48 : decode cX4_make 48 = .ok (.getfield 10, 3) := by decide +kernel
theorem dX4_make_51 : decode cX4_make 51 = .ok (.getfield 43, 3) := by decide +kernel
theorem dX4_make_54 : decode cX4_make 54 = .ok (.bipush 60, 2) := by decide +kernel
theorem dX4_make_56 : decode cX4_make 56 = .ok (.if_icmp .ge 10, 3) := by decide +kernel
theorem dX4_make_59 : decode cX4_make 59 = .ok (.iload 5, 2) := by decide +kernel
theorem dX4_make_61 : decode cX4_make 61 = .ok (.bipush 6, 2) := by decide +kernel
theorem dX4_make_63 : decode cX4_make 63 = .ok (.if_icmp .le 11, 3) := by decide +kernel
theorem dX4_make_66 : decode cX4_make 66 = .ok (.new 47, 3) := by decide +kernel
theorem dX4_make_69 : decode cX4_make 69 = .ok (.dup, 1) := by decide +kernel
theorem dX4_make_70 : decode cX4_make 70 = .ok (.invokespecial 49, 3) := by decide +kernel
theorem dX4_make_73 : decode cX4_make 73 = .ok (.athrow, 1) := by decide +kernel
theorem dX4_make_74 : decode cX4_make 74 = .ok (.aload_n 0, 1) := by decide +kernel
theorem dX4_make_75 : decode cX4_make 75 = .ok (.getfield 10, 3) := by decide +kernel
theorem dX4_make_78 : decode cX4_make 78 = .ok (.iload_n 1, 1) := by decide +kernel
theorem dX4_make_79 : decode cX4_make 79 = .ok (.iload_n 2, 1) := by decide +kernel
theorem dX4_make_80 : decode cX4_make 80 = .ok (.iload_n 3, 1) := by decide +kernel
theorem dX4_make_81 : decode cX4_make 81 = .ok (.iload 4, 2) := by decide +kernel
theorem dX4_make_83 : decode cX4_make 83 = .ok (.iload 5, 2) := by decide +kernel
theorem dX4_make_85 : decode cX4_make 85 = .ok (.invokevirtual 50, 3) := by decide +kernel
theorem dX4_make_88 : decode cX4_make 88 = .ok (.ireturn, 1) := by decide +kernel
theorem dX4_value_0 : decode cX4_value 0 = .ok (.aload_n 0, 1) := by decide +kernel
theorem dX4_value_1 : decode cX4_value 1 = .ok (.getfield 10, 3) := by decide +kernel
theorem dX4_value_4 : decode cX4_value 4 = .ok (.iload_n 1, 1) := by decide +kernel
theorem dX4_value_5 : decode cX4_value 5 = .ok (.iconst 5, 1) := by decide +kernel
theorem dX4_value_6 : decode cX4_value 6 = .ok (.invokevirtual 54, 3) := by decide +kernel
theorem dX4_value_9 : decode cX4_value 9 = .ok (.ifCond .eq 10, 3) := by decide +kernel
theorem dX4_value_12 : decode cX4_value 12 = .ok (.iload_n 2, 1) := by decide +kernel
theorem dX4_value_13 : decode cX4_value 13 = .ok (.invokestatic 58, 3) := by decide +kernel
theorem dX4_value_16 : decode cX4_value 16 = .ok (.ifCond .ne 11, 3) := by decide +kernel
theorem dX4_value_19 : decode cX4_value 19 = .ok (.new 36, 3) := by decide +kernel
theorem dX4_value_22 : decode cX4_value 22 = .ok (.dup, 1) := by decide +kernel
theorem dX4_value_23 : decode cX4_value 23 = .ok (.invokespecial 38, 3) := by decide +kernel
theorem dX4_value_26 : decode cX4_value 26 = .ok (.athrow, 1) := by decide +kernel
theorem dX4_value_27 : decode cX4_value 27 = .ok (.aload_n 0, 1) := by decide +kernel
theorem dX4_value_28 : decode cX4_value 28 = .ok (.getfield 10, 3) := by decide +kernel
theorem dX4_value_31 : decode cX4_value 31 = .ok (.iload_n 1, 1) := by decide +kernel
theorem dX4_value_32 : decode cX4_value 32 = .ok (.iload_n 2, 1) := by decide +kernel
theorem dX4_value_33 : decode cX4_value 33 = .ok (.invokevirtual 62, 3) := by decide +kernel
theorem dX4_value_36 : decode cX4_value 36 = .ok (.ireturn, 1) := by decide +kernel
theorem dX4_holds_0 : decode cX4_holds 0 = .ok (.aload_n 0, 1) := by decide +kernel
theorem dX4_holds_1 : decode cX4_holds 1 = .ok (.getfield 10, 3) := by decide +kernel
theorem dX4_holds_4 : decode cX4_holds 4 = .ok (.iload_n 1, 1) := by decide +kernel
theorem dX4_holds_5 : decode cX4_holds 5 = .ok (.bipush 6, 2) := by decide +kernel
theorem dX4_holds_7 : decode cX4_holds 7 = .ok (.invokevirtual 54, 3) := by decide +kernel
theorem dX4_holds_10 : decode cX4_holds 10 = .ok (.ifCond .eq 10, 3) := by decide +kernel
theorem dX4_holds_13 : decode cX4_holds 13 = .ok (.iload_n 2, 1) := by decide +kernel
theorem dX4_holds_14 : decode cX4_holds 14 = .ok (.invokestatic 58, 3) := by decide +kernel
theorem dX4_holds_17 : decode cX4_holds 17 = .ok (.ifCond .ne 11, 3) := by decide +kernel
theorem dX4_holds_20 : decode cX4_holds 20 = .ok (.new 36, 3) := by decide +kernel
theorem dX4_holds_23 : decode cX4_holds 23 = .ok (.dup, 1) := by decide +kernel
theorem dX4_holds_24 : decode cX4_holds 24 = .ok (.invokespecial 38, 3) := by decide +kernel
theorem dX4_holds_27 : decode cX4_holds 27 = .ok (.athrow, 1) := by decide +kernel
theorem dX4_holds_28 : decode cX4_holds 28 = .ok (.aload_n 0, 1) := by decide +kernel
theorem dX4_holds_29 : decode cX4_holds 29 = .ok (.getfield 10, 3) := by decide +kernel
theorem dX4_holds_32 : decode cX4_holds 32 = .ok (.iload_n 1, 1) := by decide +kernel
theorem dX4_holds_33 : decode cX4_holds 33 = .ok (.iload_n 2, 1) := by decide +kernel
theorem dX4_holds_34 : decode cX4_holds 34 = .ok (.invokevirtual 66, 3) := by decide +kernel
theorem dX4_holds_37 : decode cX4_holds 37 = .ok (.ireturn, 1) := by decide +kernel
theorem dX4_run_0 : decode cX4_run 0 = .ok (.aload_n 0, 1) := by decide +kernel
theorem dX4_run_1 : decode cX4_run 1 = .ok (.getfield 10, 3) := by decide +kernel
theorem dX4_run_4 : decode cX4_run 4 = .ok (.iload_n 1, 1) := by decide +kernel
theorem dX4_run_5 : decode cX4_run 5 = .ok (.bipush 7, 2) := by decide +kernel
theorem dX4_run_7 : decode cX4_run 7 = .ok (.invokevirtual 54, 3) := by decide +kernel
theorem dX4_run_10 : decode cX4_run 10 = .ok (.ifCond .eq 22, 3) := by decide +kernel
theorem dX4_run_13 : decode cX4_run 13 = .ok (.iload_n 2, 1) := by decide +kernel
theorem dX4_run_14 : decode cX4_run 14 = .ok (.invokestatic 58, 3) := by decide +kernel
theorem dX4_run_17 : decode cX4_run 17 = .ok (.ifCond .eq 15, 3) := by decide +kernel
theorem dX4_run_20 : decode cX4_run 20 = .ok (.iload_n 3, 1) := by decide +kernel
theorem dX4_run_21 : decode cX4_run 21 = .ok (.iconst 1, 1) := by decide +kernel
theorem dX4_run_22 : decode cX4_run 22 = .ok (.if_icmp .lt 10, 3) := by decide +kernel
theorem dX4_run_25 : decode cX4_run 25 = .ok (.iload_n 3, 1) := by decide +kernel
theorem dX4_run_26 : decode cX4_run 26 = .ok (.sipush 500, 3) := by decide +kernel
theorem dX4_run_29 : decode cX4_run 29 = .ok (.if_icmp .le 11, 3) := by decide +kernel
theorem dX4_run_32 : decode cX4_run 32 = .ok (.new 36, 3) := by decide +kernel
theorem dX4_run_35 : decode cX4_run 35 = .ok (.dup, 1) := by decide +kernel
theorem dX4_run_36 : decode cX4_run 36 = .ok (.invokespecial 38, 3) := by decide +kernel
theorem dX4_run_39 : decode cX4_run 39 = .ok (.athrow, 1) := by decide +kernel
theorem dX4_run_40 : decode cX4_run 40 = .ok (.aload_n 0, 1) := by decide +kernel
theorem dX4_run_41 : decode cX4_run 41 = .ok (.getfield 21, 3) := by decide +kernel
theorem dX4_run_44 : decode cX4_run 44 = .ok (.iload_n 1, 1) := by decide +kernel
theorem dX4_run_45 : decode cX4_run 45 = .ok (.iload_n 2, 1) := by decide +kernel
theorem dX4_run_46 : decode cX4_run 46 = .ok (.iload_n 3, 1) := by decide +kernel
theorem dX4_run_47 : decode cX4_run 47 = .ok (.invokevirtual 69, 3) := by decide +kernel
theorem dX4_run_50 : decode cX4_run 50 = .ok (.istore 4, 2) := by decide +kernel
theorem dX4_run_52 : decode cX4_run 52 = .ok (.iload 4, 2) := by decide +kernel
theorem dX4_run_54 : decode cX4_run 54 = .ok (.iconst (-1), 1) := by decide +kernel
theorem dX4_run_55 : decode cX4_run 55 = .ok (.if_icmp .ne 11, 3) := by decide +kernel
theorem dX4_run_58 : decode cX4_run 58 = .ok (.new 47, 3) := by decide +kernel
theorem dX4_run_61 : decode cX4_run 61 = .ok (.dup, 1) := by decide +kernel
theorem dX4_run_62 : decode cX4_run 62 = .ok (.invokespecial 49, 3) := by decide +kernel
theorem dX4_run_65 : decode cX4_run 65 = .ok (.athrow, 1) := by decide +kernel
theorem dX4_run_66 : decode cX4_run 66 = .ok (.iload 4, 2) := by decide +kernel
theorem dX4_run_68 : decode cX4_run 68 = .ok (.ireturn, 1) := by decide +kernel
theorem dX4_promise_0 : decode cX4_promise 0 = .ok (.aload_n 0, 1) := by decide +kernel
theorem dX4_promise_1 : decode cX4_promise 1 = .ok (.getfield 10, 3) := by decide +kernel
theorem dX4_promise_4 : decode cX4_promise 4 = .ok (.iload_n 1, 1) := by decide +kernel
theorem dX4_promise_5 : decode cX4_promise 5 = .ok (.bipush 6, 2) := by decide +kernel
theorem dX4_promise_7 : decode cX4_promise 7 = .ok (.invokevirtual 54, 3) := by decide +kernel
theorem dX4_promise_10 : decode cX4_promise 10 = .ok (.ifCond .eq 29, 3) := by decide +kernel
theorem dX4_promise_13 : decode cX4_promise 13 = .ok (.aload_n 0, 1) := by decide +kernel
theorem dX4_promise_14 : decode cX4_promise 14 = .ok (.getfield 10, 3) := by decide +kernel
theorem dX4_promise_17 : decode cX4_promise 17 = .ok (.iload_n 2, 1) := by decide +kernel
theorem dX4_promise_18 : decode cX4_promise 18 = .ok (.bipush 7, 2) := by decide +kernel
theorem dX4_promise_20 : decode cX4_promise 20 = .ok (.invokevirtual 54, 3) := by decide +kernel
theorem dX4_promise_23 : decode cX4_promise 23 = .ok (.ifCond .eq 16, 3) := by decide +kernel
theorem dX4_promise_26 : decode cX4_promise 26 = .ok (.aload_n 0, 1) := by decide +kernel
theorem dX4_promise_27 : decode cX4_promise 27 = .ok (.getfield 10, 3) := by decide +kernel
theorem dX4_promise_30 : decode cX4_promise 30 = .ok (.iload_n 3, 1) := by decide +kernel
theorem dX4_promise_31 : decode cX4_promise 31 = .ok (.bipush 6, 2) := by decide +kernel
theorem dX4_promise_33 : decode cX4_promise 33 = .ok (.invokevirtual 54, 3) := by decide +kernel
theorem dX4_promise_36 : decode cX4_promise 36 = .ok (.ifCond .ne 11, 3) := by decide +kernel
theorem dX4_promise_39 : decode cX4_promise 39 = .ok (.new 36, 3) := by decide +kernel
theorem dX4_promise_42 : decode cX4_promise 42 = .ok (.dup, 1) := by decide +kernel
theorem dX4_promise_43 : decode cX4_promise 43 = .ok (.invokespecial 38, 3) := by decide +kernel
theorem dX4_promise_46 : decode cX4_promise 46 = .ok (.athrow, 1) := by decide +kernel
theorem dX4_promise_47 : decode cX4_promise 47 = .ok (.iconst 1, 1) := by decide +kernel
theorem dX4_promise_48 : decode cX4_promise 48 = .ok (.aload_n 0, 1) := by decide +kernel
theorem dX4_promise_49 : decode cX4_promise 49 = .ok (.getfield 28, 3) := by decide +kernel
theorem dX4_promise_52 : decode cX4_promise 52 = .ok (.iload_n 2, 1) := by decide +kernel
theorem dX4_promise_53 : decode cX4_promise 53 = .ok (.invokevirtual 73, 3) := by decide +kernel
theorem dX4_promise_56 : decode cX4_promise 56 = .ok (.iadd, 1) := by decide +kernel
theorem dX4_promise_57 : decode cX4_promise 57 = .ok (.bipush 16, 2) := by decide +kernel
theorem dX4_promise_59 : decode cX4_promise 59 = .ok (.if_icmp .le 11, 3) := by decide +kernel
theorem dX4_promise_62 : decode cX4_promise 62 = .ok (.new 47, 3) := by decide +kernel
theorem dX4_promise_65 : decode cX4_promise 65 = .ok (.dup, 1) := by decide +kernel
theorem dX4_promise_66 : decode cX4_promise 66 = .ok (.invokespecial 49, 3) := by decide +kernel
theorem dX4_promise_69 : decode cX4_promise 69 = .ok (.athrow, 1) := by decide +kernel
theorem dX4_promise_70 : decode cX4_promise 70 = .ok (.aload_n 0, 1) := by decide +kernel
theorem dX4_promise_71 : decode cX4_promise 71 = .ok (.getfield 28, 3) := by decide +kernel
theorem dX4_promise_74 : decode cX4_promise 74 = .ok (.iload_n 1, 1) := by decide +kernel
theorem dX4_promise_75 : decode cX4_promise 75 = .ok (.iload_n 2, 1) := by decide +kernel
theorem dX4_promise_76 : decode cX4_promise 76 = .ok (.iload_n 3, 1) := by decide +kernel
theorem dX4_promise_77 : decode cX4_promise 77 = .ok (.invokevirtual 77, 3) := by decide +kernel
theorem dX4_promise_80 : decode cX4_promise 80 = .ok (.aload_n 0, 1) := by decide +kernel
theorem dX4_promise_81 : decode cX4_promise 81 = .ok (.getfield 28, 3) := by decide +kernel
theorem dX4_promise_84 : decode cX4_promise 84 = .ok (.getfield 81, 3) := by decide +kernel
theorem dX4_promise_87 : decode cX4_promise 87 = .ok (.ireturn, 1) := by decide +kernel
theorem dX4_kept_0 : decode cX4_kept 0 = .ok (.iload_n 2, 1) := by decide +kernel
theorem dX4_kept_1 : decode cX4_kept 1 = .ok (.invokestatic 58, 3) := by decide +kernel
theorem dX4_kept_4 : decode cX4_kept 4 = .ok (.ifCond .ne 11, 3) := by decide +kernel
theorem dX4_kept_7 : decode cX4_kept 7 = .ok (.new 36, 3) := by decide +kernel
theorem dX4_kept_10 : decode cX4_kept 10 = .ok (.dup, 1) := by decide +kernel
theorem dX4_kept_11 : decode cX4_kept 11 = .ok (.invokespecial 38, 3) := by decide +kernel
theorem dX4_kept_14 : decode cX4_kept 14 = .ok (.athrow, 1) := by decide +kernel
theorem dX4_kept_15 : decode cX4_kept 15 = .ok (.aload_n 0, 1) := by decide +kernel
theorem dX4_kept_16 : decode cX4_kept 16 = .ok (.getfield 28, 3) := by decide +kernel
theorem dX4_kept_19 : decode cX4_kept 19 = .ok (.iload_n 1, 1) := by decide +kernel
theorem dX4_kept_20 : decode cX4_kept 20 = .ok (.invokevirtual 82, 3) := by decide +kernel
theorem dX4_kept_23 : decode cX4_kept 23 = .ok (.ifCond .ne 11, 3) := by decide +kernel
theorem dX4_kept_26 : decode cX4_kept 26 = .ok (.new 47, 3) := by decide +kernel
theorem dX4_kept_29 : decode cX4_kept 29 = .ok (.dup, 1) := by decide +kernel
theorem dX4_kept_30 : decode cX4_kept 30 = .ok (.invokespecial 49, 3) := by decide +kernel
theorem dX4_kept_33 : decode cX4_kept 33 = .ok (.athrow, 1) := by decide +kernel
theorem dX4_kept_34 : decode cX4_kept 34 = .ok (.aload_n 0, 1) := by decide +kernel
theorem dX4_kept_35 : decode cX4_kept 35 = .ok (.getfield 28, 3) := by decide +kernel
theorem dX4_kept_38 : decode cX4_kept 38 = .ok (.iload_n 1, 1) := by decide +kernel
theorem dX4_kept_39 : decode cX4_kept 39 = .ok (.iload_n 2, 1) := by decide +kernel
theorem dX4_kept_40 : decode cX4_kept 40 = .ok (.invokevirtual 84, 3) := by decide +kernel
theorem dX4_kept_43 : decode cX4_kept 43 = .ok (.ireturn, 1) := by decide +kernel
theorem dX4_decide_0 : decode cX4_decide 0 = .ok (.aload_n 0, 1) := by decide +kernel
theorem dX4_decide_1 : decode cX4_decide 1 = .ok (.getfield 28, 3) := by decide +kernel
theorem dX4_decide_4 : decode cX4_decide 4 = .ok (.iload_n 1, 1) := by decide +kernel
theorem dX4_decide_5 : decode cX4_decide 5 = .ok (.invokevirtual 82, 3) := by decide +kernel
theorem dX4_decide_8 : decode cX4_decide 8 = .ok (.ifCond .ne 11, 3) := by decide +kernel
theorem dX4_decide_11 : decode cX4_decide 11 = .ok (.new 47, 3) := by decide +kernel
theorem dX4_decide_14 : decode cX4_decide 14 = .ok (.dup, 1) := by decide +kernel
theorem dX4_decide_15 : decode cX4_decide 15 = .ok (.invokespecial 49, 3) := by decide +kernel
theorem dX4_decide_18 : decode cX4_decide 18 = .ok (.athrow, 1) := by decide +kernel
theorem dX4_decide_19 : decode cX4_decide 19 = .ok (.aload_n 0, 1) := by decide +kernel
theorem dX4_decide_20 : decode cX4_decide 20 = .ok (.getfield 28, 3) := by decide +kernel
theorem dX4_decide_23 : decode cX4_decide 23 = .ok (.iload_n 1, 1) := by decide +kernel
theorem dX4_decide_24 : decode cX4_decide 24 = .ok (.invokevirtual 87, 3) := by decide +kernel
theorem dX4_decide_27 : decode cX4_decide 27 = .ok (.ireturn, 1) := by decide +kernel
theorem dX4_broken_0 : decode cX4_broken 0 = .ok (.iload_n 2, 1) := by decide +kernel
theorem dX4_broken_1 : decode cX4_broken 1 = .ok (.ifCond .lt 15, 3) := by decide +kernel
theorem dX4_broken_4 : decode cX4_broken 4 = .ok (.iload_n 2, 1) := by decide +kernel
theorem dX4_broken_5 : decode cX4_broken 5 = .ok (.iload_n 3, 1) := by decide +kernel
theorem dX4_broken_6 : decode cX4_broken 6 = .ok (.if_icmp .gt 10, 3) := by decide +kernel
theorem dX4_broken_9 : decode cX4_broken 9 = .ok (.iload_n 3, 1) := by decide +kernel
theorem dX4_broken_10 : decode cX4_broken 10 = .ok (.sipush 4095, 3) := by decide +kernel
theorem dX4_broken_13 : decode cX4_broken 13 = .ok (.if_icmp .le 11, 3) := by decide +kernel
theorem dX4_broken_16 : decode cX4_broken 16 = .ok (.new 36, 3) := by decide +kernel
theorem dX4_broken_19 : decode cX4_broken 19 = .ok (.dup, 1) := by decide +kernel
theorem dX4_broken_20 : decode cX4_broken 20 = .ok (.invokespecial 38, 3) := by decide +kernel
theorem dX4_broken_23 : decode cX4_broken 23 = .ok (.athrow, 1) := by decide +kernel
theorem dX4_broken_24 : decode cX4_broken 24 = .ok (.aload_n 0, 1) := by decide +kernel
theorem dX4_broken_25 : decode cX4_broken 25 = .ok (.getfield 28, 3) := by decide +kernel
theorem dX4_broken_28 : decode cX4_broken 28 = .ok (.iload_n 1, 1) := by decide +kernel
theorem dX4_broken_29 : decode cX4_broken 29 = .ok (.invokevirtual 82, 3) := by decide +kernel
theorem dX4_broken_32 : decode cX4_broken 32 = .ok (.ifCond .ne 11, 3) := by decide +kernel
theorem dX4_broken_35 : decode cX4_broken 35 = .ok (.new 47, 3) := by decide +kernel
theorem dX4_broken_38 : decode cX4_broken 38 = .ok (.dup, 1) := by decide +kernel
theorem dX4_broken_39 : decode cX4_broken 39 = .ok (.invokespecial 49, 3) := by decide +kernel
theorem dX4_broken_42 : decode cX4_broken 42 = .ok (.athrow, 1) := by decide +kernel
theorem dX4_broken_43 : decode cX4_broken 43 = .ok (.aload_n 0, 1) := by decide +kernel
theorem dX4_broken_44 : decode cX4_broken 44 = .ok (.getfield 28, 3) := by decide +kernel
theorem dX4_broken_47 : decode cX4_broken 47 = .ok (.iload_n 1, 1) := by decide +kernel
theorem dX4_broken_48 : decode cX4_broken 48 = .ok (.iload_n 2, 1) := by decide +kernel
theorem dX4_broken_49 : decode cX4_broken 49 = .ok (.iload_n 3, 1) := by decide +kernel
theorem dX4_broken_50 : decode cX4_broken 50 = .ok (.invokevirtual 90, 3) := by decide +kernel
theorem dX4_broken_53 : decode cX4_broken 53 = .ok (.ireturn, 1) := by decide +kernel
theorem dX4_part_0 : decode cX4_part 0 = .ok (.aload_n 0, 1) := by decide +kernel
theorem dX4_part_1 : decode cX4_part 1 = .ok (.getfield 28, 3) := by decide +kernel
theorem dX4_part_4 : decode cX4_part 4 = .ok (.getfield 81, 3) := by decide +kernel
theorem dX4_part_7 : decode cX4_part 7 = .ok (.ifCond .ne 11, 3) := by decide +kernel
theorem dX4_part_10 : decode cX4_part 10 = .ok (.new 47, 3) := by decide +kernel
theorem dX4_part_13 : decode cX4_part 13 = .ok (.dup, 1) := by decide +kernel
theorem dX4_part_14 : decode cX4_part 14 = .ok (.invokespecial 49, 3) := by decide +kernel
theorem dX4_part_17 : decode cX4_part 17 = .ok (.athrow, 1) := by decide +kernel
theorem dX4_part_18 : decode cX4_part 18 = .ok (.aload_n 0, 1) := by decide +kernel
theorem dX4_part_19 : decode cX4_part 19 = .ok (.getfield 28, 3) := by decide +kernel
theorem dX4_part_22 : decode cX4_part 22 = .ok (.getfield 81, 3) := by decide +kernel
theorem dX4_part_25 : decode cX4_part 25 = .ok (.sipush 4096, 3) := by decide +kernel
theorem dX4_part_28 : decode cX4_part 28 = .ok (.imul, 1) := by decide +kernel
theorem dX4_part_29 : decode cX4_part 29 = .ok (.istore_n 1, 1) := by decide +kernel
theorem dX4_part_30 : decode cX4_part 30 = .ok (.iload_n 1, 1) := by decide +kernel
theorem dX4_part_31 : decode cX4_part 31 = .ok (.aload_n 0, 1) := by decide +kernel
theorem dX4_part_32 : decode cX4_part 32 = .ok (.getfield 28, 3) := by decide +kernel
theorem dX4_part_35 : decode cX4_part 35 = .ok (.invokevirtual 93, 3) := by decide +kernel
theorem dX4_part_38 : decode cX4_part 38 = .ok (.isub, 1) := by decide +kernel
theorem dX4_part_39 : decode cX4_part 39 = .ok (.i2d, 1) := by decide +kernel
theorem dX4_part_40 : decode cX4_part 40 = .ok (.iload_n 1, 1) := by decide +kernel
theorem dX4_part_41 : decode cX4_part 41 = .ok (.i2d, 1) := by decide +kernel
theorem dX4_part_42 : decode cX4_part 42 = .ok (.ddiv, 1) := by decide +kernel
theorem dX4_part_43 : decode cX4_part 43 = .ok (.dreturn, 1) := by decide +kernel
theorem dX4_count_0 : decode cX4_count 0 = .ok (.iload_n 1, 1) := by decide +kernel
theorem dX4_count_1 : decode cX4_count 1 = .ok (.tableswitch 51 0 2 #[27, 35, 43], 27) := by decide +kernel
theorem dX4_count_28 : decode cX4_count 28 = .ok (.aload_n 0, 1) := by decide +kernel
theorem dX4_count_29 : decode cX4_count 29 = .ok (.getfield 10, 3) := by decide +kernel
theorem dX4_count_32 : decode cX4_count 32 = .ok (.getfield 43, 3) := by decide +kernel
theorem dX4_count_35 : decode cX4_count 35 = .ok (.ireturn, 1) := by decide +kernel
theorem dX4_count_36 : decode cX4_count 36 = .ok (.aload_n 0, 1) := by decide +kernel
theorem dX4_count_37 : decode cX4_count 37 = .ok (.getfield 28, 3) := by decide +kernel
theorem dX4_count_40 : decode cX4_count 40 = .ok (.getfield 81, 3) := by decide +kernel
theorem dX4_count_43 : decode cX4_count 43 = .ok (.ireturn, 1) := by decide +kernel
theorem dX4_count_44 : decode cX4_count 44 = .ok (.aload_n 0, 1) := by decide +kernel
theorem dX4_count_45 : decode cX4_count 45 = .ok (.getfield 28, 3) := by decide +kernel
theorem dX4_count_48 : decode cX4_count 48 = .ok (.invokevirtual 97, 3) := by decide +kernel
theorem dX4_count_51 : decode cX4_count 51 = .ok (.ireturn, 1) := by decide +kernel
theorem dX4_count_52 : decode cX4_count 52 = .ok (.new 36, 3) := by decide +kernel
theorem dX4_count_55 : decode cX4_count 55 = .ok (.dup, 1) := by decide +kernel
theorem dX4_count_56 : decode cX4_count 56 = .ok (.invokespecial 38, 3) := by decide +kernel
theorem dX4_count_59 : decode cX4_count 59 = .ok (.athrow, 1) := by decide +kernel
theorem dX4_isStore_0 : decode cX4_isStore 0 = .ok (.iload_n 0, 1) := by decide +kernel
theorem dX4_isStore_1 : decode cX4_isStore 1 = .ok (.ifCond .lt 14, 3) := by decide +kernel
theorem dX4_isStore_4 : decode cX4_isStore 4 = .ok (.iload_n 0, 1) := by decide +kernel
theorem dX4_isStore_5 : decode cX4_isStore 5 = .ok (.sipush 4095, 3) := by decide +kernel
theorem dX4_isStore_8 : decode cX4_isStore 8 = .ok (.if_icmp .gt 7, 3) := by decide +kernel
theorem dX4_isStore_11 : decode cX4_isStore 11 = .ok (.iconst 1, 1) := by decide +kernel
theorem dX4_isStore_12 : decode cX4_isStore 12 = .ok (.goto 4, 3) := by decide +kernel
theorem dX4_isStore_15 : decode cX4_isStore 15 = .ok (.iconst 0, 1) := by decide +kernel
theorem dX4_isStore_16 : decode cX4_isStore 16 = .ok (.ireturn, 1) := by decide +kernel
theorem dX4_changedStore_0 : decode cX4_changedStore 0 = .ok (.iconst 4, 1) := by decide +kernel
theorem dX4_changedStore_1 : decode cX4_changedStore 1 = .ok (.iload_n 1, 1) := by decide +kernel
theorem dX4_changedStore_2 : decode cX4_changedStore 2 = .ok (.imul, 1) := by decide +kernel
theorem dX4_changedStore_3 : decode cX4_changedStore 3 = .ok (.istore_n 3, 1) := by decide +kernel
theorem dX4_changedStore_4 : decode cX4_changedStore 4 = .ok (.iload_n 0, 1) := by decide +kernel
theorem dX4_changedStore_5 : decode cX4_changedStore 5 = .ok (.bipush 15, 2) := by decide +kernel
theorem dX4_changedStore_7 : decode cX4_changedStore 7 = .ok (.iload_n 3, 1) := by decide +kernel
theorem dX4_changedStore_8 : decode cX4_changedStore 8 = .ok (.ishl, 1) := by decide +kernel
theorem dX4_changedStore_9 : decode cX4_changedStore 9 = .ok (.iconst (-1), 1) := by decide +kernel
theorem dX4_changedStore_10 : decode cX4_changedStore 10 = .ok (.ixor, 1) := by decide +kernel
theorem dX4_changedStore_11 : decode cX4_changedStore 11 = .ok (.iand, 1) := by decide +kernel
theorem dX4_changedStore_12 : decode cX4_changedStore 12 = .ok (.iload_n 2, 1) := by decide +kernel
theorem dX4_changedStore_13 : decode cX4_changedStore 13 = .ok (.bipush 15, 2) := by decide +kernel
theorem dX4_changedStore_15 : decode cX4_changedStore 15 = .ok (.iand, 1) := by decide +kernel
theorem dX4_changedStore_16 : decode cX4_changedStore 16 = .ok (.iload_n 3, 1) := by decide +kernel
theorem dX4_changedStore_17 : decode cX4_changedStore 17 = .ok (.ishl, 1) := by decide +kernel
theorem dX4_changedStore_18 : decode cX4_changedStore 18 = .ok (.ior, 1) := by decide +kernel
theorem dX4_changedStore_19 : decode cX4_changedStore 19 = .ok (.ireturn, 1) := by decide +kernel
theorem dX5_init_0 : decode cX5_init 0 = .ok (.aload_n 0, 1) := by decide +kernel
theorem dX5_init_1 : decode cX5_init 1 = .ok (.invokespecial 1, 3) := by decide +kernel
theorem dX5_init_4 : decode cX5_init 4 = .ok (.aload_n 0, 1) := by decide +kernel
theorem dX5_init_5 : decode cX5_init 5 = .ok (.bipush 60, 2) := by decide +kernel
theorem dX5_init_7 : decode cX5_init 7 = .ok (.newarray .int, 2) := by decide +kernel
theorem dX5_init_9 : decode cX5_init 9 = .ok (.putfield 7, 3) := by decide +kernel
theorem dX5_init_12 : decode cX5_init 12 = .ok (.aload_n 0, 1) := by decide +kernel
theorem dX5_init_13 : decode cX5_init 13 = .ok (.bipush 60, 2) := by decide +kernel
theorem dX5_init_15 : decode cX5_init 15 = .ok (.newarray .int, 2) := by decide +kernel
theorem dX5_init_17 : decode cX5_init 17 = .ok (.putfield 13, 3) := by decide +kernel
theorem dX5_init_20 : decode cX5_init 20 = .ok (.aload_n 0, 1) := by decide +kernel
theorem dX5_init_21 : decode cX5_init 21 = .ok (.bipush 60, 2) := by decide +kernel
theorem dX5_init_23 : decode cX5_init 23 = .ok (.newarray .int, 2) := by decide +kernel
theorem dX5_init_25 : decode cX5_init 25 = .ok (.putfield 16, 3) := by decide +kernel
theorem dX5_init_28 : decode cX5_init 28 = .ok (.aload_n 0, 1) := by decide +kernel
theorem dX5_init_29 : decode cX5_init 29 = .ok (.bipush 60, 2) := by decide +kernel
theorem dX5_init_31 : decode cX5_init 31 = .ok (.newarray .int, 2) := by decide +kernel
theorem dX5_init_33 : decode cX5_init 33 = .ok (.putfield 19, 3) := by decide +kernel
theorem dX5_init_36 : decode cX5_init 36 = .ok (.aload_n 0, 1) := by decide +kernel
theorem dX5_init_37 : decode cX5_init 37 = .ok (.bipush 60, 2) := by decide +kernel
theorem dX5_init_39 : decode cX5_init 39 = .ok (.newarray .int, 2) := by decide +kernel
theorem dX5_init_41 : decode cX5_init 41 = .ok (.putfield 22, 3) := by decide +kernel
theorem dX5_init_44 : decode cX5_init 44 = .ok (.aload_n 0, 1) := by decide +kernel
theorem dX5_init_45 : decode cX5_init 45 = .ok (.bipush 60, 2) := by decide +kernel
theorem dX5_init_47 : decode cX5_init 47 = .ok (.newarray .long, 2) := by decide +kernel
theorem dX5_init_49 : decode cX5_init 49 = .ok (.putfield 25, 3) := by decide +kernel
theorem dX5_init_52 : decode cX5_init 52 = .ok (.aload_n 0, 1) := by decide +kernel
theorem dX5_init_53 : decode cX5_init 53 = .ok (.bipush 60, 2) := by decide +kernel
theorem dX5_init_55 : decode cX5_init 55 = .ok (.newarray .int, 2) := by decide +kernel
theorem dX5_init_57 : decode cX5_init 57 = .ok (.putfield 29, 3) := by decide +kernel
theorem dX5_init_60 : decode cX5_init 60 = .ok (.aload_n 0, 1) := by decide +kernel
theorem dX5_init_61 : decode cX5_init 61 = .ok (.sipush 400, 3) := by decide +kernel
theorem dX5_init_64 : decode cX5_init 64 = .ok (.newarray .int, 2) := by decide +kernel
theorem dX5_init_66 : decode cX5_init 66 = .ok (.putfield 32, 3) := by decide +kernel
theorem dX5_init_69 : decode cX5_init 69 = .ok (.aload_n 0, 1) := by decide +kernel
theorem dX5_init_70 : decode cX5_init 70 = .ok (.sipush 400, 3) := by decide +kernel
theorem dX5_init_73 : decode cX5_init 73 = .ok (.newarray .int, 2) := by decide +kernel
theorem dX5_init_75 : decode cX5_init 75 = .ok (.putfield 35, 3) := by decide +kernel
theorem dX5_init_78 : decode cX5_init 78 = .ok (.aload_n 0, 1) := by decide +kernel
theorem dX5_init_79 : decode cX5_init 79 = .ok (.bipush 20, 2) := by decide +kernel
theorem dX5_init_81 : decode cX5_init 81 = .ok (.newarray .int, 2) := by decide +kernel
theorem dX5_init_83 : decode cX5_init 83 = .ok (.putfield 38, 3) := by decide +kernel
theorem dX5_init_86 : decode cX5_init 86 = .ok (.aload_n 0, 1) := by decide +kernel
theorem dX5_init_87 : decode cX5_init 87 = .ok (.bipush 20, 2) := by decide +kernel
theorem dX5_init_89 : decode cX5_init 89 = .ok (.newarray .int, 2) := by decide +kernel
theorem dX5_init_91 : decode cX5_init 91 = .ok (.putfield 41, 3) := by decide +kernel
theorem dX5_init_94 : decode cX5_init 94 = .ok (.aload_n 0, 1) := by decide +kernel
theorem dX5_init_95 : decode cX5_init 95 = .ok (.bipush 20, 2) := by decide +kernel
theorem dX5_init_97 : decode cX5_init 97 = .ok (.newarray .int, 2) := by decide +kernel
theorem dX5_init_99 : decode cX5_init 99 = .ok (.putfield 44, 3) := by decide +kernel
theorem dX5_init_102 : decode cX5_init 102 = .ok (.aload_n 0, 1) := by decide +kernel
theorem dX5_init_103 : decode cX5_init 103 = .ok (.bipush 20, 2) := by decide +kernel
theorem dX5_init_105 : decode cX5_init 105 = .ok (.newarray .int, 2) := by decide +kernel
theorem dX5_init_107 : decode cX5_init 107 = .ok (.putfield 47, 3) := by decide +kernel
theorem dX5_init_110 : decode cX5_init 110 = .ok (.aload_n 0, 1) := by decide +kernel
theorem dX5_init_111 : decode cX5_init 111 = .ok (.bipush 20, 2) := by decide +kernel
theorem dX5_init_113 : decode cX5_init 113 = .ok (.newarray .int, 2) := by decide +kernel
theorem dX5_init_115 : decode cX5_init 115 = .ok (.putfield 50, 3) := by decide +kernel
theorem dX5_init_118 : decode cX5_init 118 = .ok (.aload_n 0, 1) := by decide +kernel
theorem dX5_init_119 : decode cX5_init 119 = .ok (.bipush 20, 2) := by decide +kernel
theorem dX5_init_121 : decode cX5_init 121 = .ok (.newarray .int, 2) := by decide +kernel
theorem dX5_init_123 : decode cX5_init 123 = .ok (.putfield 53, 3) := by decide +kernel
theorem dX5_init_126 : decode cX5_init 126 = .ok (.aload_n 0, 1) := by decide +kernel
theorem dX5_init_127 : decode cX5_init 127 = .ok (.sipush 400, 3) := by decide +kernel
theorem dX5_init_130 : decode cX5_init 130 = .ok (.newarray .int, 2) := by decide +kernel
theorem dX5_init_132 : decode cX5_init 132 = .ok (.putfield 56, 3) := by decide +kernel
theorem dX5_init_135 : decode cX5_init 135 = .ok (.aload_n 0, 1) := by decide +kernel
theorem dX5_init_136 : decode cX5_init 136 = .ok (.sipush 400, 3) := by decide +kernel
theorem dX5_init_139 : decode cX5_init 139 = .ok (.newarray .int, 2) := by decide +kernel
theorem dX5_init_141 : decode cX5_init 141 = .ok (.putfield 59, 3) := by decide +kernel
theorem dX5_init_144 : decode cX5_init 144 = .ok (.aload_n 0, 1) := by decide +kernel
theorem dX5_init_145 : decode cX5_init 145 = .ok (.bipush 100, 2) := by decide +kernel
theorem dX5_init_147 : decode cX5_init 147 = .ok (.newarray .int, 2) := by decide +kernel
theorem dX5_init_149 : decode cX5_init 149 = .ok (.putfield 62, 3) := by decide +kernel
theorem dX5_init_152 : decode cX5_init 152 = .ok (.aload_n 0, 1) := by decide +kernel
theorem dX5_init_153 : decode cX5_init 153 = .ok (.bipush 100, 2) := by decide +kernel
theorem dX5_init_155 : decode cX5_init 155 = .ok (.newarray .int, 2) := by decide +kernel
theorem dX5_init_157 : decode cX5_init 157 = .ok (.putfield 65, 3) := by decide +kernel
theorem dX5_init_160 : decode cX5_init 160 = .ok (.aload_n 0, 1) := by decide +kernel
theorem dX5_init_161 : decode cX5_init 161 = .ok (.bipush 16, 2) := by decide +kernel
theorem dX5_init_163 : decode cX5_init 163 = .ok (.newarray .boolean, 2) := by decide +kernel
theorem dX5_init_165 : decode cX5_init 165 = .ok (.putfield 68, 3) := by decide +kernel
theorem dX5_init_168 : decode cX5_init 168 = .ok (.aload_n 0, 1) := by decide +kernel
theorem dX5_init_169 : decode cX5_init 169 = .ok (.sipush 2048, 3) := by decide +kernel
theorem dX5_init_172 : decode cX5_init 172 = .ok (.newarray .int, 2) := by decide +kernel
theorem dX5_init_174 : decode cX5_init 174 = .ok (.putfield 72, 3) := by decide +kernel
theorem dX5_init_177 : decode cX5_init 177 = .ok (.aload_n 0, 1) := by decide +kernel
theorem dX5_init_178 : decode cX5_init 178 = .ok (.bipush 64, 2) := by decide +kernel
theorem dX5_init_180 : decode cX5_init 180 = .ok (.newarray .int, 2) := by decide +kernel
theorem dX5_init_182 : decode cX5_init 182 = .ok (.putfield 75, 3) := by decide +kernel
theorem dX5_init_185 : decode cX5_init 185 = .ok (.return_, 1) := by decide +kernel
theorem dX5_thrown_0 : decode cX5_thrown 0 = .ok (.aload_n 0, 1) := by decide +kernel
theorem dX5_thrown_1 : decode cX5_thrown 1 = .ok (.getfield 78, 3) := by decide +kernel
theorem dX5_thrown_4 : decode cX5_thrown 4 = .ok (.ireturn, 1) := by decide +kernel
theorem dX5_refuse_0 : decode cX5_refuse 0 = .ok (.aload_n 0, 1) := by decide +kernel
theorem dX5_refuse_1 : decode cX5_refuse 1 = .ok (.iload_n 1, 1) := by decide +kernel
theorem dX5_refuse_2 : decode cX5_refuse 2 = .ok (.putfield 78, 3) := by decide +kernel
theorem dX5_refuse_5 : decode cX5_refuse 5 = .ok (.iconst 0, 1) := by decide +kernel
theorem dX5_refuse_6 : decode cX5_refuse 6 = .ok (.ireturn, 1) := by decide +kernel
theorem dX5_in_0 : decode cX5_in 0 = .ok (.iload_n 0, 1) := by decide +kernel
theorem dX5_in_1 : decode cX5_in 1 = .ok (.iload_n 1, 1) := by decide +kernel
theorem dX5_in_2 : decode cX5_in 2 = .ok (.if_icmp .lt 12, 3) := by decide +kernel
theorem dX5_in_5 : decode cX5_in 5 = .ok (.iload_n 0, 1) := by decide +kernel
theorem dX5_in_6 : decode cX5_in 6 = .ok (.iload_n 2, 1) := by decide +kernel
theorem dX5_in_7 : decode cX5_in 7 = .ok (.if_icmp .gt 7, 3) := by decide +kernel
theorem dX5_in_10 : decode cX5_in 10 = .ok (.iconst 1, 1) := by decide +kernel
theorem dX5_in_11 : decode cX5_in 11 = .ok (.goto 4, 3) := by decide +kernel
theorem dX5_in_14 : decode cX5_in 14 = .ok (.iconst 0, 1) := by decide +kernel
theorem dX5_in_15 : decode cX5_in 15 = .ok (.ireturn, 1) := by decide +kernel
theorem dX5_isKind_0 : decode cX5_isKind 0 = .ok (.iload_n 1, 1) := by decide +kernel
theorem dX5_isKind_1 : decode cX5_isKind 1 = .ok (.iconst 0, 1) := by decide +kernel
theorem dX5_isKind_2 : decode cX5_isKind 2 = .ok (.aload_n 0, 1) := by decide +kernel
theorem dX5_isKind_3 : decode cX5_isKind 3 = .ok (.getfield 82, 3) := by decide +kernel
theorem dX5_isKind_6 : decode cX5_isKind 6 = .ok (.iconst 1, 1) := by decide +kernel
theorem dX5_isKind_7 : decode cX5_isKind 7 = .ok (.isub, 1) := by decide +kernel
theorem dX5_isKind_8 : decode cX5_isKind 8 = .ok (.invokestatic 85, 3) := by decide +kernel
theorem dX5_isKind_11 : decode cX5_isKind 11 = .ok (.ifCond .eq 39, 3) := by decide +kernel
theorem dX5_isKind_14 : decode cX5_isKind 14 = .ok (.aload_n 0, 1) := by decide +kernel
theorem dX5_isKind_15 : decode cX5_isKind 15 = .ok (.getfield 7, 3) := by decide +kernel
theorem dX5_isKind_18 : decode cX5_isKind 18 = .ok (.iload_n 1, 1) := by decide +kernel
theorem dX5_isKind_19 : decode cX5_isKind 19 = .ok (.iconst 0, 1) := by decide +kernel
theorem dX5_isKind_20 : decode cX5_isKind 20 = .ok (.aload_n 0, 1) := by decide +kernel
theorem dX5_isKind_21 : decode cX5_isKind 21 = .ok (.getfield 82, 3) := by decide +kernel
theorem dX5_isKind_24 : decode cX5_isKind 24 = .ok (.iconst 1, 1) := by decide +kernel
theorem dX5_isKind_25 : decode cX5_isKind 25 = .ok (.isub, 1) := by decide +kernel
theorem dX5_isKind_26 : decode cX5_isKind 26 = .ok (.invokestatic 85, 3) := by decide +kernel
theorem dX5_isKind_29 : decode cX5_isKind 29 = .ok (.ifCond .eq 7, 3) := by decide +kernel
theorem dX5_isKind_32 : decode cX5_isKind 32 = .ok (.iload_n 1, 1) := by decide +kernel
theorem dX5_isKind_33 : decode cX5_isKind 33 = .ok (.goto 4, 3) := by decide +kernel
theorem dX5_isKind_36 : decode cX5_isKind 36 = .ok (.iconst 0, 1) := by decide +kernel
theorem dX5_isKind_37 : decode cX5_isKind 37 = .ok (.iaload, 1) := by decide +kernel
theorem dX5_isKind_38 : decode cX5_isKind 38 = .ok (.iload_n 2, 1) := by decide +kernel
theorem dX5_isKind_39 : decode cX5_isKind 39 = .ok (.iload_n 3, 1) := by decide +kernel
theorem dX5_isKind_40 : decode cX5_isKind 40 = .ok (.invokestatic 85, 3) := by decide +kernel
theorem dX5_isKind_43 : decode cX5_isKind 43 = .ok (.ifCond .eq 7, 3) := by decide +kernel
theorem dX5_isKind_46 : decode cX5_isKind 46 = .ok (.iconst 1, 1) := by decide +kernel
theorem dX5_isKind_47 : decode cX5_isKind 47 = .ok (.goto 4, 3) := by decide +kernel
theorem dX5_isKind_50 : decode cX5_isKind 50 = .ok (.iconst 0, 1) := by decide +kernel
theorem dX5_isKind_51 : decode cX5_isKind 51 = .ok (.ireturn, 1) := by decide +kernel
theorem dX5_isExpression_0 : decode cX5_isExpression 0 = .ok (.aload_n 0, 1) := by decide +kernel
theorem dX5_isExpression_1 : decode cX5_isExpression 1 = .ok (.iload_n 1, 1) := by decide +kernel
theorem dX5_isExpression_2 : decode cX5_isExpression 2 = .ok (.iconst 0, 1) := by decide +kernel
theorem dX5_isExpression_3 : decode cX5_isExpression 3 = .ok (.iconst 4, 1) := by decide +kernel
theorem dX5_isExpression_4 : decode cX5_isExpression 4 = .ok (.invokevirtual 89, 3) := by decide +kernel
theorem dX5_isExpression_7 : decode cX5_isExpression 7 = .ok (.ireturn, 1) := by decide +kernel
theorem dX5_isCondition_0 : decode cX5_isCondition 0 = .ok (.aload_n 0, 1) := by decide +kernel
theorem dX5_isCondition_1 : decode cX5_isCondition 1 = .ok (.iload_n 1, 1) := by decide +kernel
theorem dX5_isCondition_2 : decode cX5_isCondition 2 = .ok (.iconst 5, 1) := by decide +kernel
theorem dX5_isCondition_3 : decode cX5_isCondition 3 = .ok (.bipush 10, 2) := by decide +kernel
theorem dX5_isCondition_5 : decode cX5_isCondition 5 = .ok (.invokevirtual 89, 3) := by decide +kernel
theorem dX5_isCondition_8 : decode cX5_isCondition 8 = .ok (.ireturn, 1) := by decide +kernel
theorem dX5_isCommand_0 : decode cX5_isCommand 0 = .ok (.aload_n 0, 1) := by decide +kernel
theorem dX5_isCommand_1 : decode cX5_isCommand 1 = .ok (.iload_n 1, 1) := by decide +kernel
theorem dX5_isCommand_2 : decode cX5_isCommand 2 = .ok (.bipush 11, 2) := by decide +kernel
theorem dX5_isCommand_4 : decode cX5_isCommand 4 = .ok (.bipush 15, 2) := by decide +kernel
theorem dX5_isCommand_6 : decode cX5_isCommand 6 = .ok (.invokevirtual 89, 3) := by decide +kernel
theorem dX5_isCommand_9 : decode cX5_isCommand 9 = .ok (.ireturn, 1) := by decide +kernel
theorem dX5_fitting_0 : decode cX5_fitting 0 = .ok (.iload_n 1, 1) := by decide +kernel
theorem dX5_fitting_1 : decode cX5_fitting 1 = .ok (.tableswitch 303 0 15 #[79, 88, 95, 95, 117, 95, 95, 142, 166, 172, 172, 194, 196, 219, 241, 272], 79) := by decide +kernel
theorem dX5_fitting_80 : decode cX5_fitting 80 = .ok (.iload_n 2, 1) := by decide +kernel
theorem dX5_fitting_81 : decode cX5_fitting 81 = .ok (.bipush (-100), 2) := by decide +kernel
theorem dX5_fitting_83 : decode cX5_fitting 83 = .ok (.bipush 100, 2) := by decide +kernel
theorem dX5_fitting_85 : decode cX5_fitting 85 = .ok (.invokestatic 85, 3) := by decide +kernel
theorem dX5_fitting_88 : decode cX5_fitting 88 = .ok (.ireturn, 1) := by decide +kernel
theorem dX5_fitting_89 : decode cX5_fitting 89 = .ok (.iload_n 2, 1) := by decide +kernel
theorem dX5_fitting_90 : decode cX5_fitting 90 = .ok (.iconst 0, 1) := by decide +kernel
theorem dX5_fitting_91 : decode cX5_fitting 91 = .ok (.iconst 2, 1) := by decide +kernel
theorem dX5_fitting_92 : decode cX5_fitting 92 = .ok (.invokestatic 85, 3) := by decide +kernel
theorem dX5_fitting_95 : decode cX5_fitting 95 = .ok (.ireturn, 1) := by decide +kernel
theorem dX5_fitting_96 : decode cX5_fitting 96 = .ok (.aload_n 0, 1) := by decide +kernel
theorem dX5_fitting_97 : decode cX5_fitting 97 = .ok (.iload_n 2, 1) := by decide +kernel
theorem dX5_fitting_98 : decode cX5_fitting 98 = .ok (.invokevirtual 92, 3) := by decide +kernel
theorem dX5_fitting_101 : decode cX5_fitting 101 = .ok (.ifCond .eq 15, 3) := by decide +kernel
theorem dX5_fitting_104 : decode cX5_fitting 104 = .ok (.aload_n 0, 1) := by decide +kernel
theorem dX5_fitting_105 : decode cX5_fitting 105 = .ok (.iload_n 3, 1) := by decide +kernel
theorem dX5_fitting_106 : decode cX5_fitting 106 = .ok (.invokevirtual 92, 3) := by decide +kernel
theorem dX5_fitting_109 : decode cX5_fitting 109 = .ok (.ifCond .eq 7, 3) := by decide +kernel
theorem dX5_fitting_112 : decode cX5_fitting 112 = .ok (.iconst 1, 1) := by decide +kernel
theorem dX5_fitting_113 : decode cX5_fitting 113 = .ok (.goto 4, 3) := by decide +kernel
theorem dX5_fitting_116 : decode cX5_fitting 116 = .ok (.iconst 0, 1) := by decide +kernel
theorem dX5_fitting_117 : decode cX5_fitting 117 = .ok (.ireturn, 1) := by decide +kernel
theorem dX5_fitting_118 : decode cX5_fitting 118 = .ok (.iload_n 2, 1) := by decide +kernel
theorem dX5_fitting_119 : decode cX5_fitting 119 = .ok (.bipush (-16), 2) := by decide +kernel
theorem dX5_fitting_121 : decode cX5_fitting 121 = .ok (.bipush 16, 2) := by decide +kernel
theorem dX5_fitting_123 : decode cX5_fitting 123 = .ok (.invokestatic 85, 3) := by decide +kernel
theorem dX5_fitting_126 : decode cX5_fitting 126 = .ok (.ifCond .eq 15, 3) := by decide +kernel
theorem dX5_fitting_129 : decode cX5_fitting 129 = .ok (.aload_n 0, 1) := by decide +kernel
theorem dX5_fitting_130 : decode cX5_fitting 130 = .ok (.iload_n 3, 1) := by decide +kernel
theorem dX5_fitting_131 : decode cX5_fitting 131 = .ok (.invokevirtual 92, 3) := by decide +kernel
theorem dX5_fitting_134 : decode cX5_fitting 134 = .ok (.ifCond .eq 7, 3) := by decide +kernel
theorem dX5_fitting_137 : decode cX5_fitting 137 = .ok (.iconst 1, 1) := by decide +kernel
theorem dX5_fitting_138 : decode cX5_fitting 138 = .ok (.goto 4, 3) := by decide +kernel
theorem dX5_fitting_141 : decode cX5_fitting 141 = .ok (.iconst 0, 1) := by decide +kernel
theorem dX5_fitting_142 : decode cX5_fitting 142 = .ok (.ireturn, 1) := by decide +kernel
theorem dX5_fitting_143 : decode cX5_fitting 143 = .ok (.iload_n 2, 1) := by decide +kernel
theorem dX5_fitting_144 : decode cX5_fitting 144 = .ok (.iconst 1, 1) := by decide +kernel
theorem dX5_fitting_145 : decode cX5_fitting 145 = .ok (.bipush 16, 2) := by decide +kernel
theorem dX5_fitting_147 : decode cX5_fitting 147 = .ok (.invokestatic 85, 3) := by decide +kernel
theorem dX5_fitting_150 : decode cX5_fitting 150 = .ok (.ifCond .eq 15, 3) := by decide +kernel
theorem dX5_fitting_153 : decode cX5_fitting 153 = .ok (.aload_n 0, 1) := by decide +kernel
theorem dX5_fitting_154 : decode cX5_fitting 154 = .ok (.iload_n 3, 1) := by decide +kernel
theorem dX5_fitting_155 : decode cX5_fitting 155 = .ok (.invokevirtual 92, 3) := by decide +kernel
theorem dX5_fitting_158 : decode cX5_fitting 158 = .ok (.ifCond .eq 7, 3) := by decide +kernel
theorem dX5_fitting_161 : decode cX5_fitting 161 = .ok (.iconst 1, 1) := by decide +kernel
theorem dX5_fitting_162 : decode cX5_fitting 162 = .ok (.goto 4, 3) := by decide +kernel
theorem dX5_fitting_165 : decode cX5_fitting 165 = .ok (.iconst 0, 1) := by decide +kernel
theorem dX5_fitting_166 : decode cX5_fitting 166 = .ok (.ireturn, 1) := by decide +kernel
theorem dX5_fitting_167 : decode cX5_fitting 167 = .ok (.aload_n 0, 1) := by decide +kernel
theorem dX5_fitting_168 : decode cX5_fitting 168 = .ok (.iload_n 2, 1) := by decide +kernel
theorem dX5_fitting_169 : decode cX5_fitting 169 = .ok (.invokevirtual 96, 3) := by decide +kernel
theorem dX5_fitting_172 : decode cX5_fitting 172 = .ok (.ireturn, 1) := by decide +kernel
theorem dX5_fitting_173 : decode cX5_fitting 173 = .ok (.aload_n 0, 1) := by decide +kernel
theorem dX5_fitting_174 : decode cX5_fitting 174 = .ok (.iload_n 2, 1) := by decide +kernel
theorem dX5_fitting_175 : decode cX5_fitting 175 = .ok (.invokevirtual 96, 3) := by decide +kernel
theorem dX5_fitting_178 : decode cX5_fitting 178 = .ok (.ifCond .eq 15, 3) := by decide +kernel
theorem dX5_fitting_181 : decode cX5_fitting 181 = .ok (.aload_n 0, 1) := by decide +kernel
theorem dX5_fitting_182 : decode cX5_fitting 182 = .ok (.iload_n 3, 1) := by decide +kernel
theorem dX5_fitting_183 : decode cX5_fitting 183 = .ok (.invokevirtual 96, 3) := by decide +kernel
theorem dX5_fitting_186 : decode cX5_fitting 186 = .ok (.ifCond .eq 7, 3) := by decide +kernel
theorem dX5_fitting_189 : decode cX5_fitting 189 = .ok (.iconst 1, 1) := by decide +kernel
theorem dX5_fitting_190 : decode cX5_fitting 190 = .ok (.goto 4, 3) := by decide +kernel
theorem dX5_fitting_193 : decode cX5_fitting 193 = .ok (.iconst 0, 1) := by decide +kernel
theorem dX5_fitting_194 : decode cX5_fitting 194 = .ok (.ireturn, 1) := by decide +kernel
theorem dX5_fitting_195 : decode cX5_fitting 195 = .ok (.iconst 1, 1) := by decide +kernel
theorem dX5_fitting_196 : decode cX5_fitting 196 = .ok (.ireturn, 1) := by decide +kernel
theorem dX5_fitting_197 : decode cX5_fitting 197 = .ok (.iload_n 2, 1) := by decide +kernel
theorem dX5_fitting_198 : decode cX5_fitting 198 = .ok (.iconst 0, 1) := by decide +kernel
theorem dX5_fitting_199 : decode cX5_fitting 199 = .ok (.iconst 2, 1) := by decide +kernel
theorem dX5_fitting_200 : decode cX5_fitting 200 = .ok (.invokestatic 85, 3) := by decide +kernel
theorem dX5_fitting_203 : decode cX5_fitting 203 = .ok (.ifCond .eq 15, 3) := by decide +kernel
theorem dX5_fitting_206 : decode cX5_fitting 206 = .ok (.aload_n 0, 1) := by decide +kernel
theorem dX5_fitting_207 : decode cX5_fitting 207 = .ok (.iload_n 3, 1) := by decide +kernel
theorem dX5_fitting_208 : decode cX5_fitting 208 = .ok (.invokevirtual 92, 3) := by decide +kernel
theorem dX5_fitting_211 : decode cX5_fitting 211 = .ok (.ifCond .eq 7, 3) := by decide +kernel
theorem dX5_fitting_214 : decode cX5_fitting 214 = .ok (.iconst 1, 1) := by decide +kernel
theorem dX5_fitting_215 : decode cX5_fitting 215 = .ok (.goto 4, 3) := by decide +kernel
theorem dX5_fitting_218 : decode cX5_fitting 218 = .ok (.iconst 0, 1) := by decide +kernel
theorem dX5_fitting_219 : decode cX5_fitting 219 = .ok (.ireturn, 1) := by decide +kernel
theorem dX5_fitting_220 : decode cX5_fitting 220 = .ok (.aload_n 0, 1) := by decide +kernel
theorem dX5_fitting_221 : decode cX5_fitting 221 = .ok (.iload_n 2, 1) := by decide +kernel
theorem dX5_fitting_222 : decode cX5_fitting 222 = .ok (.invokevirtual 99, 3) := by decide +kernel
theorem dX5_fitting_225 : decode cX5_fitting 225 = .ok (.ifCond .eq 15, 3) := by decide +kernel
theorem dX5_fitting_228 : decode cX5_fitting 228 = .ok (.aload_n 0, 1) := by decide +kernel
theorem dX5_fitting_229 : decode cX5_fitting 229 = .ok (.iload_n 3, 1) := by decide +kernel
theorem dX5_fitting_230 : decode cX5_fitting 230 = .ok (.invokevirtual 99, 3) := by decide +kernel
theorem dX5_fitting_233 : decode cX5_fitting 233 = .ok (.ifCond .eq 7, 3) := by decide +kernel
theorem dX5_fitting_236 : decode cX5_fitting 236 = .ok (.iconst 1, 1) := by decide +kernel
theorem dX5_fitting_237 : decode cX5_fitting 237 = .ok (.goto 4, 3) := by decide +kernel
theorem dX5_fitting_240 : decode cX5_fitting 240 = .ok (.iconst 0, 1) := by decide +kernel
theorem dX5_fitting_241 : decode cX5_fitting 241 = .ok (.ireturn, 1) := by decide +kernel
theorem dX5_fitting_242 : decode cX5_fitting 242 = .ok (.aload_n 0, 1) := by decide +kernel
theorem dX5_fitting_243 : decode cX5_fitting 243 = .ok (.iload_n 2, 1) := by decide +kernel
theorem dX5_fitting_244 : decode cX5_fitting 244 = .ok (.invokevirtual 96, 3) := by decide +kernel
theorem dX5_fitting_247 : decode cX5_fitting 247 = .ok (.ifCond .eq 24, 3) := by decide +kernel
theorem dX5_fitting_250 : decode cX5_fitting 250 = .ok (.aload_n 0, 1) := by decide +kernel
theorem dX5_fitting_251 : decode cX5_fitting 251 = .ok (.iload_n 3, 1) := by decide +kernel
theorem dX5_fitting_252 : decode cX5_fitting 252 = .ok (.invokevirtual 99, 3) := by decide +kernel
theorem dX5_fitting_255 : decode cX5_fitting 255 = .ok (.ifCond .eq 16, 3) := by decide +kernel
theorem dX5_fitting_258 : decode cX5_fitting 258 = .ok (.aload_n 0, 1) := by decide +kernel
theorem dX5_fitting_259 : decode cX5_fitting 259 = .ok (.iload 4, 2) := by decide +kernel
theorem dX5_fitting_261 : decode cX5_fitting 261 = .ok (.invokevirtual 99, 3) := by decide +kernel
theorem dX5_fitting_264 : decode cX5_fitting 264 = .ok (.ifCond .eq 7, 3) := by decide +kernel
theorem dX5_fitting_267 : decode cX5_fitting 267 = .ok (.iconst 1, 1) := by decide +kernel
theorem dX5_fitting_268 : decode cX5_fitting 268 = .ok (.goto 4, 3) := by decide +kernel
theorem dX5_fitting_271 : decode cX5_fitting 271 = .ok (.iconst 0, 1) := by decide +kernel
theorem dX5_fitting_272 : decode cX5_fitting 272 = .ok (.ireturn, 1) := by decide +kernel
theorem dX5_fitting_273 : decode cX5_fitting 273 = .ok (.aload_n 0, 1) := by decide +kernel
theorem dX5_fitting_274 : decode cX5_fitting 274 = .ok (.iload_n 2, 1) := by decide +kernel
theorem dX5_fitting_275 : decode cX5_fitting 275 = .ok (.invokevirtual 96, 3) := by decide +kernel
theorem dX5_fitting_278 : decode cX5_fitting 278 = .ok (.ifCond .eq 24, 3) := by decide +kernel
theorem dX5_fitting_281 : decode cX5_fitting 281 = .ok (.aload_n 0, 1) := by decide +kernel
theorem dX5_fitting_282 : decode cX5_fitting 282 = .ok (.iload_n 3, 1) := by decide +kernel
theorem dX5_fitting_283 : decode cX5_fitting 283 = .ok (.invokevirtual 96, 3) := by decide +kernel
theorem dX5_fitting_286 : decode cX5_fitting 286 = .ok (.ifCond .eq 16, 3) := by decide +kernel
theorem dX5_fitting_289 : decode cX5_fitting 289 = .ok (.aload_n 0, 1) := by decide +kernel
theorem dX5_fitting_290 : decode cX5_fitting 290 = .ok (.iload 4, 2) := by decide +kernel
theorem dX5_fitting_292 : decode cX5_fitting 292 = .ok (.invokevirtual 99, 3) := by decide +kernel
theorem dX5_fitting_295 : decode cX5_fitting 295 = .ok (.ifCond .eq 7, 3) := by decide +kernel
theorem dX5_fitting_298 : decode cX5_fitting 298 = .ok (.iconst 1, 1) := by decide +kernel
theorem dX5_fitting_299 : decode cX5_fitting 299 = .ok (.goto 4, 3) := by decide +kernel
theorem dX5_fitting_302 : decode cX5_fitting 302 = .ok (.iconst 0, 1) := by decide +kernel
theorem dX5_fitting_303 : decode cX5_fitting 303 = .ok (.ireturn, 1) := by decide +kernel
theorem dX5_fitting_304 : decode cX5_fitting 304 = .ok (.iconst 0, 1) := by decide +kernel
theorem dX5_fitting_305 : decode cX5_fitting 305 = .ok (.ireturn, 1) := by decide +kernel
theorem dX5_firstIsNode_0 : decode cX5_firstIsNode 0 = .ok (.iload_n 0, 1) := by decide +kernel
theorem dX5_firstIsNode_1 : decode cX5_firstIsNode 1 = .ok (.iconst 2, 1) := by decide +kernel
theorem dX5_firstIsNode_2 : decode cX5_firstIsNode 2 = .ok (.if_icmp .eq 36, 3) := by decide +kernel
theorem dX5_firstIsNode_5 : decode cX5_firstIsNode 5 = .ok (.iload_n 0, 1) := by decide +kernel
theorem dX5_firstIsNode_6 : decode cX5_firstIsNode 6 = .ok (.iconst 3, 1) := by decide +kernel
theorem dX5_firstIsNode_7 : decode cX5_firstIsNode 7 = .ok (.if_icmp .eq 31, 3) := by decide +kernel
theorem dX5_firstIsNode_10 : decode cX5_firstIsNode 10 = .ok (.iload_n 0, 1) := by decide +kernel
theorem dX5_firstIsNode_11 : decode cX5_firstIsNode 11 = .ok (.iconst 5, 1) := by decide +kernel
theorem dX5_firstIsNode_12 : decode cX5_firstIsNode 12 = .ok (.if_icmp .eq 26, 3) := by decide +kernel
theorem dX5_firstIsNode_15 : decode cX5_firstIsNode 15 = .ok (.iload_n 0, 1) := by decide +kernel
theorem dX5_firstIsNode_16 : decode cX5_firstIsNode 16 = .ok (.bipush 6, 2) := by decide +kernel
theorem dX5_firstIsNode_18 : decode cX5_firstIsNode 18 = .ok (.if_icmp .eq 20, 3) := by decide +kernel
theorem dX5_firstIsNode_21 : decode cX5_firstIsNode 21 = .ok (.iload_n 0, 1) := by decide +kernel
theorem dX5_firstIsNode_22 : decode cX5_firstIsNode 22 = .ok (.bipush 8, 2) := by decide +kernel
theorem dX5_firstIsNode_24 : decode cX5_firstIsNode 24 = .ok (.bipush 10, 2) := by decide +kernel
theorem dX5_firstIsNode_26 : decode cX5_firstIsNode 26 = .ok (.invokestatic 85, 3) := by decide +kernel
theorem dX5_firstIsNode_29 : decode cX5_firstIsNode 29 = .ok (.ifCond .ne 9, 3) := by decide +kernel
theorem dX5_firstIsNode_32 : decode cX5_firstIsNode 32 = .ok (.iload_n 0, 1) := by decide +kernel
theorem dX5_firstIsNode_33 : decode cX5_firstIsNode 33 = .ok (.bipush 12, 2) := by decide +kernel
theorem dX5_firstIsNode_35 : decode cX5_firstIsNode 35 = .ok (.if_icmp .le 7, 3) := by decide +kernel
theorem dX5_firstIsNode_38 : decode cX5_firstIsNode 38 = .ok (.iconst 1, 1) := by decide +kernel
theorem dX5_firstIsNode_39 : decode cX5_firstIsNode 39 = .ok (.goto 4, 3) := by decide +kernel
theorem dX5_firstIsNode_42 : decode cX5_firstIsNode 42 = .ok (.iconst 0, 1) := by decide +kernel
theorem dX5_firstIsNode_43 : decode cX5_firstIsNode 43 = .ok (.ireturn, 1) := by decide +kernel
theorem dX5_secondIsNode_0 : decode cX5_secondIsNode 0 = .ok (.iload_n 0, 1) := by decide +kernel
theorem dX5_secondIsNode_1 : decode cX5_secondIsNode 1 = .ok (.iconst 2, 1) := by decide +kernel
theorem dX5_secondIsNode_2 : decode cX5_secondIsNode 2 = .ok (.bipush 7, 2) := by decide +kernel
theorem dX5_secondIsNode_4 : decode cX5_secondIsNode 4 = .ok (.invokestatic 85, 3) := by decide +kernel
theorem dX5_secondIsNode_7 : decode cX5_secondIsNode 7 = .ok (.ifCond .ne 21, 3) := by decide +kernel
theorem dX5_secondIsNode_10 : decode cX5_secondIsNode 10 = .ok (.iload_n 0, 1) := by decide +kernel
theorem dX5_secondIsNode_11 : decode cX5_secondIsNode 11 = .ok (.bipush 9, 2) := by decide +kernel
theorem dX5_secondIsNode_13 : decode cX5_secondIsNode 13 = .ok (.if_icmp .eq 15, 3) := by decide +kernel
theorem dX5_secondIsNode_16 : decode cX5_secondIsNode 16 = .ok (.iload_n 0, 1) := by decide +kernel
theorem dX5_secondIsNode_17 : decode cX5_secondIsNode 17 = .ok (.bipush 10, 2) := by decide +kernel
theorem dX5_secondIsNode_19 : decode cX5_secondIsNode 19 = .ok (.if_icmp .eq 9, 3) := by decide +kernel
theorem dX5_secondIsNode_22 : decode cX5_secondIsNode 22 = .ok (.iload_n 0, 1) := by decide +kernel
theorem dX5_secondIsNode_23 : decode cX5_secondIsNode 23 = .ok (.bipush 11, 2) := by decide +kernel
theorem dX5_secondIsNode_25 : decode cX5_secondIsNode 25 = .ok (.if_icmp .le 7, 3) := by decide +kernel
theorem dX5_secondIsNode_28 : decode cX5_secondIsNode 28 = .ok (.iconst 1, 1) := by decide +kernel
theorem dX5_secondIsNode_29 : decode cX5_secondIsNode 29 = .ok (.goto 4, 3) := by decide +kernel
theorem dX5_secondIsNode_32 : decode cX5_secondIsNode 32 = .ok (.iconst 0, 1) := by decide +kernel
theorem dX5_secondIsNode_33 : decode cX5_secondIsNode 33 = .ok (.ireturn, 1) := by decide +kernel
theorem dX5_heightWith_0 : decode cX5_heightWith 0 = .ok (.aload_n 0, 1) := by decide +kernel
theorem dX5_heightWith_1 : decode cX5_heightWith 1 = .ok (.getfield 22, 3) := by decide +kernel
theorem dX5_heightWith_4 : decode cX5_heightWith 4 = .ok (.iload_n 2, 1) := by decide +kernel
theorem dX5_heightWith_5 : decode cX5_heightWith 5 = .ok (.iaload, 1) := by decide +kernel
theorem dX5_heightWith_6 : decode cX5_heightWith 6 = .ok (.iconst 1, 1) := by decide +kernel
theorem dX5_heightWith_7 : decode cX5_heightWith 7 = .ok (.iadd, 1) := by decide +kernel
theorem dX5_heightWith_8 : decode cX5_heightWith 8 = .ok (.iload_n 1, 1) := by decide +kernel
theorem dX5_heightWith_9 : decode cX5_heightWith 9 = .ok (.if_icmp .le 14, 3) := by decide +kernel
theorem dX5_heightWith_12 : decode cX5_heightWith 12 = .ok (.aload_n 0, 1) := by decide +kernel
theorem dX5_heightWith_13 : decode cX5_heightWith 13 = .ok (.getfield 22, 3) := by decide +kernel
theorem dX5_heightWith_16 : decode cX5_heightWith 16 = .ok (.iload_n 2, 1) := by decide +kernel
theorem dX5_heightWith_17 : decode cX5_heightWith 17 = .ok (.iaload, 1) := by decide +kernel
theorem dX5_heightWith_18 : decode cX5_heightWith 18 = .ok (.iconst 1, 1) := by decide +kernel
theorem dX5_heightWith_19 : decode cX5_heightWith 19 = .ok (.iadd, 1) := by decide +kernel
theorem dX5_heightWith_20 : decode cX5_heightWith 20 = .ok (.goto 4, 3) := by decide +kernel
theorem dX5_heightWith_23 : decode cX5_heightWith 23 = .ok (.iload_n 1, 1) := by decide +kernel
theorem dX5_heightWith_24 : decode cX5_heightWith 24 = .ok (.ireturn, 1) := by decide +kernel
theorem dX5_make_0 : decode cX5_make 0 = .ok (.aload_n 0, 1) := by decide +kernel
theorem dX5_make_1 : decode cX5_make 1 = .ok (.iconst 0, 1) := by decide +kernel
theorem dX5_make_2 : decode cX5_make 2 = .ok (.putfield 78, 3) := by decide +kernel
theorem dX5_make_5 : decode cX5_make 5 = .ok (.aload_n 0, 1) := by decide +kernel
theorem dX5_make_6 : decode cX5_make 6 = .ok (.iload_n 1, 1) := by decide +kernel
theorem dX5_make_7 : decode cX5_make 7 = .ok (.iload_n 2, 1) := by decide +kernel
theorem dX5_make_8 : decode cX5_make 8 = .ok (.iload_n 3, 1) := by decide +kernel
theorem dX5_make_9 : decode cX5_make 9 = .ok (.iload 4, 2) := by decide +kernel
theorem dX5_make_11 : decode cX5_make 11 = .ok (.invokevirtual 102, 3) := by decide +kernel
theorem dX5_make_14 : decode cX5_make 14 = .ok (.ifCond .ne 9, 3) := by decide +kernel
theorem dX5_make_17 : decode cX5_make 17 = .ok (.aload_n 0, 1) := by decide +kernel
theorem dX5_make_18 : decode cX5_make 18 = .ok (.iconst 1, 1) := by decide +kernel
theorem dX5_make_19 : decode cX5_make 19 = .ok (.invokevirtual 106, 3) := by decide +kernel
theorem dX5_make_22 : decode cX5_make 22 = .ok (.ireturn, 1) := by decide +kernel
theorem dX5_make_23 : decode cX5_make 23 = .ok (.iconst 1, 1) := by decide +kernel
theorem dX5_make_24 : decode cX5_make 24 = .ok (.istore 5, 2) := by decide +kernel
theorem dX5_make_26 : decode cX5_make 26 = .ok (.iload_n 1, 1) := by decide +kernel
theorem dX5_make_27 : decode cX5_make 27 = .ok (.invokestatic 110, 3) := by decide +kernel
theorem dX5_make_30 : decode cX5_make 30 = .ok (.ifCond .eq 13, 3) := by decide +kernel
theorem dX5_make_33 : decode cX5_make 33 = .ok (.aload_n 0, 1) := by decide +kernel
theorem dX5_make_34 : decode cX5_make 34 = .ok (.iload 5, 2) := by decide +kernel
theorem dX5_make_36 : decode cX5_make 36 = .ok (.iload_n 2, 1) := by decide +kernel
theorem dX5_make_37 : decode cX5_make 37 = .ok (.invokevirtual 113, 3) := by decide +kernel
theorem dX5_make_40 : decode cX5_make 40 = .ok (.goto 5, 3) := by decide +kernel
theorem dX5_make_43 : decode cX5_make 43 = .ok (.iload 5, 2) := by decide +kernel
theorem dX5_make_45 : decode cX5_make 45 = .ok (.istore 5, 2) := by decide +kernel
theorem dX5_make_47 : decode cX5_make 47 = .ok (.iload_n 1, 1) := by decide +kernel
theorem dX5_make_48 : decode cX5_make 48 = .ok (.invokestatic 117, 3) := by decide +kernel
theorem dX5_make_51 : decode cX5_make 51 = .ok (.ifCond .eq 13, 3) := by decide +kernel
theorem dX5_make_54 : decode cX5_make 54 = .ok (.aload_n 0, 1) := by decide +kernel
theorem dX5_make_55 : decode cX5_make 55 = .ok (.iload 5, 2) := by decide +kernel
theorem dX5_make_57 : decode cX5_make 57 = .ok (.iload_n 3, 1) := by decide +kernel
theorem dX5_make_58 : decode cX5_make 58 = .ok (.invokevirtual 113, 3) := by decide +kernel
theorem dX5_make_61 : decode cX5_make 61 = .ok (.goto 5, 3) := by decide +kernel
theorem dX5_make_64 : decode cX5_make 64 = .ok (.iload 5, 2) := by decide +kernel
theorem dX5_make_66 : decode cX5_make 66 = .ok (.istore 5, 2) := by decide +kernel
theorem dX5_make_68 : decode cX5_make 68 = .ok (.iload_n 1, 1) := by decide +kernel
theorem dX5_make_69 : decode cX5_make 69 = .ok (.bipush 13, 2) := by decide +kernel
theorem dX5_make_71 : decode cX5_make 71 = .ok (.if_icmp .le 14, 3) := by decide +kernel
theorem dX5_make_74 : decode cX5_make 74 = .ok (.aload_n 0, 1) := by decide +kernel
theorem dX5_make_75 : decode cX5_make 75 = .ok (.iload 5, 2) := by decide +kernel
theorem dX5_make_77 : decode cX5_make 77 = .ok (.iload 4, 2) := by decide +kernel
theorem dX5_make_79 : decode cX5_make 79 = .ok (.invokevirtual 113, 3) := by decide +kernel
theorem dX5_make_82 : decode cX5_make 82 = .ok (.goto 5, 3) := by decide +kernel
theorem dX5_make_85 : decode cX5_make 85 = .ok (.iload 5, 2) := by decide +kernel
theorem dX5_make_87 : decode cX5_make 87 = .ok (.istore 5, 2) := by decide +kernel
theorem dX5_make_89 : decode cX5_make 89 = .ok (.aload_n 0, 1) := by decide +kernel
theorem dX5_make_90 : decode cX5_make 90 = .ok (.getfield 82, 3) := by decide +kernel
theorem dX5_make_93 : decode cX5_make 93 = .ok (.bipush 60, 2) := by decide +kernel
theorem dX5_make_95 : decode cX5_make 95 = .ok (.if_icmp .eq 10, 3) := by decide +kernel
theorem dX5_make_98 : decode cX5_make 98 = .ok (.iload 5, 2) := by decide +kernel
theorem dX5_make_100 : decode cX5_make 100 = .ok (.bipush 6, 2) := by decide +kernel
theorem dX5_make_102 : decode cX5_make 102 = .ok (.if_icmp .le 9, 3) := by decide +kernel
theorem dX5_make_105 : decode cX5_make 105 = .ok (.aload_n 0, 1) := by decide +kernel
theorem dX5_make_106 : decode cX5_make 106 = .ok (.iconst 2, 1) := by decide +kernel
theorem dX5_make_107 : decode cX5_make 107 = .ok (.invokevirtual 106, 3) := by decide +kernel
theorem dX5_make_110 : decode cX5_make 110 = .ok (.ireturn, 1) := by decide +kernel
theorem dX5_make_111 : decode cX5_make 111 = .ok (.aload_n 0, 1) := by decide +kernel
theorem dX5_make_112 : decode cX5_make 112 = .ok (.getfield 7, 3) := by decide +kernel
theorem dX5_make_115 : decode cX5_make 115 = .ok (.aload_n 0, 1) := by decide +kernel
theorem dX5_make_116 : decode cX5_make 116 = .ok (.getfield 82, 3) := by decide +kernel
theorem dX5_make_119 : decode cX5_make 119 = .ok (.iload_n 1, 1) := by decide +kernel
theorem dX5_make_120 : decode cX5_make 120 = .ok (.iastore, 1) := by decide +kernel
theorem dX5_make_121 : decode cX5_make 121 = .ok (.aload_n 0, 1) := by decide +kernel
theorem dX5_make_122 : decode cX5_make 122 = .ok (.getfield 13, 3) := by decide +kernel
theorem dX5_make_125 : decode cX5_make 125 = .ok (.aload_n 0, 1) := by decide +kernel
theorem dX5_make_126 : decode cX5_make 126 = .ok (.getfield 82, 3) := by decide +kernel
theorem dX5_make_129 : decode cX5_make 129 = .ok (.iload_n 2, 1) := by decide +kernel
theorem dX5_make_130 : decode cX5_make 130 = .ok (.iastore, 1) := by decide +kernel
theorem dX5_make_131 : decode cX5_make 131 = .ok (.aload_n 0, 1) := by decide +kernel
theorem dX5_make_132 : decode cX5_make 132 = .ok (.getfield 16, 3) := by decide +kernel
theorem dX5_make_135 : decode cX5_make 135 = .ok (.aload_n 0, 1) := by decide +kernel
theorem dX5_make_136 : decode cX5_make 136 = .ok (.getfield 82, 3) := by decide +kernel
theorem dX5_make_139 : decode cX5_make 139 = .ok (.iload_n 3, 1) := by decide +kernel
theorem dX5_make_140 : decode cX5_make 140 = .ok (.iastore, 1) := by decide +kernel
theorem dX5_make_141 : decode cX5_make 141 = .ok (.aload_n 0, 1) := by decide +kernel
theorem dX5_make_142 : decode cX5_make 142 = .ok (.getfield 19, 3) := by decide +kernel
theorem dX5_make_145 : decode cX5_make 145 = .ok (.aload_n 0, 1) := by decide +kernel
theorem dX5_make_146 : decode cX5_make 146 = .ok (.getfield 82, 3) := by decide +kernel
theorem dX5_make_149 : decode cX5_make 149 = .ok (.iload 4, 2) := by decide +kernel
theorem dX5_make_151 : decode cX5_make 151 = .ok (.iastore, 1) := by decide +kernel
theorem dX5_make_152 : decode cX5_make 152 = .ok (.aload_n 0, 1) := by decide +kernel
theorem dX5_make_153 : decode cX5_make 153 = .ok (.getfield 22, 3) := by decide +kernel
theorem dX5_make_156 : decode cX5_make 156 = .ok (.aload_n 0, 1) := by decide +kernel
theorem dX5_make_157 : decode cX5_make 157 = .ok (.getfield 82, 3) := by decide +kernel
theorem dX5_make_160 : decode cX5_make 160 = .ok (.iload 5, 2) := by decide +kernel
theorem dX5_make_162 : decode cX5_make 162 = .ok (.iastore, 1) := by decide +kernel
theorem dX5_make_163 : decode cX5_make 163 = .ok (.aload_n 0, 1) := by decide +kernel
theorem dX5_make_164 : decode cX5_make 164 = .ok (.getfield 25, 3) := by decide +kernel
theorem dX5_make_167 : decode cX5_make 167 = .ok (.aload_n 0, 1) := by decide +kernel
theorem dX5_make_168 : decode cX5_make 168 = .ok (.getfield 82, 3) := by decide +kernel
theorem dX5_make_171 : decode cX5_make 171 = .ok (.lconst 1, 1) := by decide +kernel
theorem dX5_make_172 : decode cX5_make 172 = .ok (.aload_n 0, 1) := by decide +kernel
theorem dX5_make_173 : decode cX5_make 173 = .ok (.getfield 82, 3) := by decide +kernel
theorem dX5_make_176 : decode cX5_make 176 = .ok (.lshl, 1) := by decide +kernel
theorem dX5_make_177 : decode cX5_make 177 = .ok (.iload_n 1, 1) := by decide +kernel
theorem dX5_make_178 : decode cX5_make 178 = .ok (.invokestatic 110, 3) := by decide +kernel
theorem dX5_make_181 : decode cX5_make 181 = .ok (.ifCond .eq 12, 3) := by decide +kernel
theorem dX5_make_184 : decode cX5_make 184 = .ok (.aload_n 0, 1) := by decide +kernel
theorem dX5_make_185 : decode cX5_make 185 = .ok (.getfield 25, 3) := by decide +kernel
theorem dX5_make_188 : decode cX5_make 188 = .ok (.iload_n 2, 1) := by decide +kernel
theorem dX5_make_189 : decode cX5_make 189 = .ok (.laload, 1) := by decide +kernel
theorem dX5_make_190 : decode cX5_make 190 = .ok (.goto 4, 3) := by decide +kernel
theorem dX5_make_193 : decode cX5_make 193 = .ok (.lconst 0, 1) := by decide +kernel
theorem dX5_make_194 : decode cX5_make 194 = .ok (.lor, 1) := by decide +kernel
theorem dX5_make_195 : decode cX5_make 195 = .ok (.iload_n 1, 1) := by decide +kernel
theorem dX5_make_196 : decode cX5_make 196 = .ok (.invokestatic 117, 3) := by decide +kernel
theorem dX5_make_199 : decode cX5_make 199 = .ok (.ifCond .eq 12, 3) := by decide +kernel
theorem dX5_make_202 : decode cX5_make 202 = .ok (.aload_n 0, 1) := by decide +kernel
theorem dX5_make_203 : decode cX5_make 203 = .ok (.getfield 25, 3) := by decide +kernel
theorem dX5_make_206 : decode cX5_make 206 = .ok (.iload_n 3, 1) := by decide +kernel
theorem dX5_make_207 : decode cX5_make 207 = .ok (.laload, 1) := by decide +kernel
theorem dX5_make_208 : decode cX5_make 208 = .ok (.goto 4, 3) := by decide +kernel
theorem dX5_make_211 : decode cX5_make 211 = .ok (.lconst 0, 1) := by decide +kernel
theorem dX5_make_212 : decode cX5_make 212 = .ok (.lor, 1) := by decide +kernel
theorem dX5_make_213 : decode cX5_make 213 = .ok (.lastore, 1) := by decide +kernel
theorem dX5_make_214 : decode cX5_make 214 = .ok (.aload_n 0, 1) := by decide +kernel
theorem dX5_make_215 : decode cX5_make 215 = .ok (.dup, 1) := by decide +kernel
theorem dX5_make_216 : decode cX5_make 216 = .ok (.getfield 82, 3) := by decide +kernel
theorem dX5_make_219 : decode cX5_make 219 = .ok (.iconst 1, 1) := by decide +kernel
theorem dX5_make_220 : decode cX5_make 220 = .ok (.iadd, 1) := by decide +kernel
theorem dX5_make_221 : decode cX5_make 221 = .ok (.putfield 82, 3) := by decide +kernel
theorem dX5_make_224 : decode cX5_make 224 = .ok (.aload_n 0, 1) := by decide +kernel
theorem dX5_make_225 : decode cX5_make 225 = .ok (.getfield 82, 3) := by decide +kernel
theorem dX5_make_228 : decode cX5_make 228 = .ok (.iconst 1, 1) := by decide +kernel
theorem dX5_make_229 : decode cX5_make 229 = .ok (.isub, 1) := by decide +kernel
theorem dX5_make_230 : decode cX5_make 230 = .ok (.ireturn, 1) := by decide +kernel
theorem dX5_variable_0 : decode cX5_variable 0 = .ok (.iload_n 0, 1) := by decide +kernel
theorem dX5_variable_1 : decode cX5_variable 1 = .ok (.iconst 4, 1) := by decide +kernel
theorem dX5_variable_2 : decode cX5_variable 2 = .ok (.iload_n 1, 1) := by decide +kernel
theorem dX5_variable_3 : decode cX5_variable 3 = .ok (.imul, 1) := by decide +kernel
theorem dX5_variable_4 : decode cX5_variable 4 = .ok (.ishr, 1) := by decide +kernel
theorem dX5_variable_5 : decode cX5_variable 5 = .ok (.bipush 15, 2) := by decide +kernel
theorem dX5_variable_7 : decode cX5_variable 7 = .ok (.iand, 1) := by decide +kernel
theorem dX5_variable_8 : decode cX5_variable 8 = .ok (.ireturn, 1) := by decide +kernel
theorem dX5_give_0 : decode cX5_give 0 = .ok (.iconst 0, 1) := by decide +kernel
theorem dX5_give_1 : decode cX5_give 1 = .ok (.istore_n 3, 1) := by decide +kernel
theorem dX5_give_2 : decode cX5_give 2 = .ok (.iload_n 3, 1) := by decide +kernel
theorem dX5_give_3 : decode cX5_give 3 = .ok (.iload_n 1, 1) := by decide +kernel
theorem dX5_give_4 : decode cX5_give 4 = .ok (.if_icmp .gt 36, 3) := by decide +kernel
theorem dX5_give_7 : decode cX5_give 7 = .ok (.aload_n 0, 1) := by decide +kernel
theorem dX5_give_8 : decode cX5_give 8 = .ok (.getfield 25, 3) := by decide +kernel
theorem dX5_give_11 : decode cX5_give 11 = .ok (.iload_n 1, 1) := by decide +kernel
theorem dX5_give_12 : decode cX5_give 12 = .ok (.laload, 1) := by decide +kernel
theorem dX5_give_13 : decode cX5_give 13 = .ok (.iload_n 3, 1) := by decide +kernel
theorem dX5_give_14 : decode cX5_give 14 = .ok (.lshr, 1) := by decide +kernel
theorem dX5_give_15 : decode cX5_give 15 = .ok (.lconst 1, 1) := by decide +kernel
theorem dX5_give_16 : decode cX5_give 16 = .ok (.land, 1) := by decide +kernel
theorem dX5_give_17 : decode cX5_give 17 = .ok (.lconst 1, 1) := by decide +kernel
theorem dX5_give_18 : decode cX5_give 18 = .ok (.lcmp, 1) := by decide +kernel
theorem dX5_give_19 : decode cX5_give 19 = .ok (.ifCond .ne 15, 3) := by decide +kernel
theorem dX5_give_22 : decode cX5_give 22 = .ok (.aload_n 0, 1) := by decide +kernel
theorem dX5_give_23 : decode cX5_give 23 = .ok (.getfield 29, 3) := by decide +kernel
theorem dX5_give_26 : decode cX5_give 26 = .ok (.iload_n 3, 1) := by decide +kernel
theorem dX5_give_27 : decode cX5_give 27 = .ok (.aload_n 0, 1) := by decide +kernel
theorem dX5_give_28 : decode cX5_give 28 = .ok (.iload_n 3, 1) := by decide +kernel
theorem dX5_give_29 : decode cX5_give 29 = .ok (.iload_n 2, 1) := by decide +kernel
theorem dX5_give_30 : decode cX5_give 30 = .ok (.invokevirtual 120, 3) := by decide +kernel
theorem dX5_give_33 : decode cX5_give 33 = .ok (.iastore, 1) := by decide +kernel
theorem dX5_give_34 : decode cX5_give 34 = .ok (.iinc 3 1, 3) := by decide +kernel
theorem dX5_give_37 : decode cX5_give 37 = .ok (.goto (-35), 3) := by decide +kernel
theorem dX5_give_40 : decode cX5_give 40 = .ok (.aload_n 0, 1) := by decide +kernel
theorem dX5_give_41 : decode cX5_give 41 = .ok (.getfield 29, 3) := by decide +kernel
theorem dX5_give_44 : decode cX5_give 44 = .ok (.iload_n 1, 1) := by decide +kernel
theorem dX5_give_45 : decode cX5_give 45 = .ok (.iaload, 1) := by decide +kernel
theorem dX5_give_46 : decode cX5_give 46 = .ok (.ireturn, 1) := by decide +kernel
theorem dX5_reckon_0 : decode cX5_reckon 0 = .ok (.aload_n 0, 1) := by decide +kernel
theorem dX5_reckon_1 : decode cX5_reckon 1 = .ok (.getfield 13, 3) := by decide +kernel
theorem dX5_reckon_4 : decode cX5_reckon 4 = .ok (.iload_n 1, 1) := by decide +kernel
theorem dX5_reckon_5 : decode cX5_reckon 5 = .ok (.iaload, 1) := by decide +kernel
theorem dX5_reckon_6 : decode cX5_reckon 6 = .ok (.istore_n 3, 1) := by decide +kernel
theorem dX5_reckon_7 : decode cX5_reckon 7 = .ok (.aload_n 0, 1) := by decide +kernel
theorem dX5_reckon_8 : decode cX5_reckon 8 = .ok (.getfield 7, 3) := by decide +kernel
theorem dX5_reckon_11 : decode cX5_reckon 11 = .ok (.iload_n 1, 1) := by decide +kernel
theorem dX5_reckon_12 : decode cX5_reckon 12 = .ok (.iaload, 1) := by decide +kernel
theorem dX5_reckon_13 : decode cX5_reckon 13 = .ok (.invokestatic 110, 3) := by decide +kernel
theorem dX5_reckon_16 : decode cX5_reckon 16 = .ok (.ifCond .eq 12, 3) := by decide +kernel
theorem dX5_reckon_19 : decode cX5_reckon 19 = .ok (.aload_n 0, 1) := by decide +kernel
theorem dX5_reckon_20 : decode cX5_reckon 20 = .ok (.getfield 29, 3) := by decide +kernel
theorem dX5_reckon_23 : decode cX5_reckon 23 = .ok (.iload_n 3, 1) := by decide +kernel
theorem dX5_reckon_24 : decode cX5_reckon 24 = .ok (.iaload, 1) := by decide +kernel
theorem dX5_reckon_25 : decode cX5_reckon 25 = .ok (.goto 4, 3) := by decide +kernel
theorem dX5_reckon_28 : decode cX5_reckon 28 = .ok (.iload_n 3, 1) := by decide +kernel
theorem dX5_reckon_29 : decode cX5_reckon 29 = .ok (.istore 4, 2) := by decide +kernel
theorem dX5_reckon_31 : decode cX5_reckon 31 = .ok (.aload_n 0, 1) := by decide +kernel
theorem dX5_reckon_32 : decode cX5_reckon 32 = .ok (.getfield 7, 3) := by decide +kernel
theorem dX5_reckon_35 : decode cX5_reckon 35 = .ok (.iload_n 1, 1) := by decide +kernel
theorem dX5_reckon_36 : decode cX5_reckon 36 = .ok (.iaload, 1) := by decide +kernel
theorem dX5_reckon_37 : decode cX5_reckon 37 = .ok (.invokestatic 117, 3) := by decide +kernel
theorem dX5_reckon_40 : decode cX5_reckon 40 = .ok (.ifCond .eq 17, 3) := by decide +kernel
