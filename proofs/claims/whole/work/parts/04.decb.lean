theorem dX6_attempt_0 : decode cX6_attempt 0 = .ok (.aload_n 0, 1) := by decide +kernel
theorem dX6_attempt_1 : decode cX6_attempt 1 = .ok (.iconst 0, 1) := by decide +kernel
theorem dX6_attempt_2 : decode cX6_attempt 2 = .ok (.putfield 98, 3) := by decide +kernel
theorem dX6_attempt_5 : decode cX6_attempt 5 = .ok (.aload_n 0, 1) := by decide +kernel
theorem dX6_attempt_6 : decode cX6_attempt 6 = .ok (.iconst 0, 1) := by decide +kernel
theorem dX6_attempt_7 : decode cX6_attempt 7 = .ok (.putfield 102, 3) := by decide +kernel
theorem dX6_attempt_10 : decode cX6_attempt 10 = .ok (.aload_n 0, 1) := by decide +kernel
theorem dX6_attempt_11 : decode cX6_attempt 11 = .ok (.getfield 32, 3) := by decide +kernel
theorem dX6_attempt_14 : decode cX6_attempt 14 = .ok (.invokevirtual 56, 3) := by decide +kernel
theorem dX6_attempt_17 : decode cX6_attempt 17 = .ok (.aload_n 0, 1) := by decide +kernel
theorem dX6_attempt_18 : decode cX6_attempt 18 = .ok (.getfield 38, 3) := by decide +kernel
theorem dX6_attempt_21 : decode cX6_attempt 21 = .ok (.invokevirtual 105, 3) := by decide +kernel
theorem dX6_attempt_24 : decode cX6_attempt 24 = .ok (.iconst 0, 1) := by decide +kernel
theorem dX6_attempt_25 : decode cX6_attempt 25 = .ok (.istore 4, 2) := by decide +kernel
theorem dX6_attempt_27 : decode cX6_attempt 27 = .ok (.iload 4, 2) := by decide +kernel
theorem dX6_attempt_29 : decode cX6_attempt 29 = .ok (.aload_n 0, 1) := by decide +kernel
theorem dX6_attempt_30 : decode cX6_attempt 30 = .ok (.getfield 28, 3) := by decide +kernel
theorem dX6_attempt_33 : decode cX6_attempt 33 = .ok (.invokevirtual 63, 3) := by decide +kernel
theorem dX6_attempt_36 : decode cX6_attempt 36 = .ok (.if_icmp .ge 18, 3) := by decide +kernel
theorem dX6_attempt_39 : decode cX6_attempt 39 = .ok (.aload_n 0, 1) := by decide +kernel
theorem dX6_attempt_40 : decode cX6_attempt 40 = .ok (.aload_n 1, 1) := by decide +kernel
theorem dX6_attempt_41 : decode cX6_attempt 41 = .ok (.iload 4, 2) := by decide +kernel
theorem dX6_attempt_43 : decode cX6_attempt 43 = .ok (.iload_n 2, 1) := by decide +kernel
theorem dX6_attempt_44 : decode cX6_attempt 44 = .ok (.iload_n 3, 1) := by decide +kernel
theorem dX6_attempt_45 : decode cX6_attempt 45 = .ok (.invokevirtual 106, 3) := by decide +kernel
theorem dX6_attempt_48 : decode cX6_attempt 48 = .ok (.iinc 4 1, 3) := by decide +kernel
theorem dX6_attempt_51 : decode cX6_attempt 51 = .ok (.goto (-24), 3) := by decide +kernel
theorem dX6_attempt_54 : decode cX6_attempt 54 = .ok (.aload_n 0, 1) := by decide +kernel
theorem dX6_attempt_55 : decode cX6_attempt 55 = .ok (.getfield 38, 3) := by decide +kernel
theorem dX6_attempt_58 : decode cX6_attempt 58 = .ok (.aload_n 1, 1) := by decide +kernel
theorem dX6_attempt_59 : decode cX6_attempt 59 = .ok (.aload_n 0, 1) := by decide +kernel
theorem dX6_attempt_60 : decode cX6_attempt 60 = .ok (.getfield 102, 3) := by decide +kernel
theorem dX6_attempt_63 : decode cX6_attempt 63 = .ok (.aload_n 1, 1) := by decide +kernel
theorem dX6_attempt_64 : decode cX6_attempt 64 = .ok (.invokevirtual 88, 3) := by decide +kernel
theorem dX6_attempt_67 : decode cX6_attempt 67 = .ok (.invokevirtual 110, 3) := by decide +kernel
theorem dX6_attempt_70 : decode cX6_attempt 70 = .ok (.aload_n 0, 1) := by decide +kernel
theorem dX6_attempt_71 : decode cX6_attempt 71 = .ok (.getfield 38, 3) := by decide +kernel
theorem dX6_attempt_74 : decode cX6_attempt 74 = .ok (.areturn, 1) := by decide +kernel
theorem dX6_attemptHunk_0 : decode cX6_attemptHunk 0 = .ok (.iload 4, 2) := by decide +kernel
theorem dX6_attemptHunk_2 : decode cX6_attemptHunk 2 = .ok (.ifCond .eq 10, 3) := by decide +kernel
theorem dX6_attemptHunk_5 : decode cX6_attemptHunk 5 = .ok (.aload_n 0, 1) := by decide +kernel
theorem dX6_attemptHunk_6 : decode cX6_attemptHunk 6 = .ok (.getfield 20, 3) := by decide +kernel
theorem dX6_attemptHunk_9 : decode cX6_attemptHunk 9 = .ok (.goto 7, 3) := by decide +kernel
theorem dX6_attemptHunk_12 : decode cX6_attemptHunk 12 = .ok (.aload_n 0, 1) := by decide +kernel
theorem dX6_attemptHunk_13 : decode cX6_attemptHunk 13 = .ok (.getfield 14, 3) := by decide +kernel
theorem dX6_attemptHunk_16 : decode cX6_attemptHunk 16 = .ok (.astore 5, 2) := by decide +kernel
theorem dX6_attemptHunk_18 : decode cX6_attemptHunk 18 = .ok (.iload 4, 2) := by decide +kernel
theorem dX6_attemptHunk_20 : decode cX6_attemptHunk 20 = .ok (.ifCond .eq 7, 3) := by decide +kernel
theorem dX6_attemptHunk_23 : decode cX6_attemptHunk 23 = .ok (.iconst 2, 1) := by decide +kernel
theorem dX6_attemptHunk_24 : decode cX6_attemptHunk 24 = .ok (.goto 4, 3) := by decide +kernel
theorem dX6_attemptHunk_27 : decode cX6_attemptHunk 27 = .ok (.iconst 0, 1) := by decide +kernel
theorem dX6_attemptHunk_28 : decode cX6_attemptHunk 28 = .ok (.istore 6, 2) := by decide +kernel
theorem dX6_attemptHunk_30 : decode cX6_attemptHunk 30 = .ok (.iconst 0, 1) := by decide +kernel
theorem dX6_attemptHunk_31 : decode cX6_attemptHunk 31 = .ok (.istore 7, 2) := by decide +kernel
theorem dX6_attemptHunk_33 : decode cX6_attemptHunk 33 = .ok (.iload 7, 2) := by decide +kernel
theorem dX6_attemptHunk_35 : decode cX6_attemptHunk 35 = .ok (.iload_n 3, 1) := by decide +kernel
theorem dX6_attemptHunk_36 : decode cX6_attemptHunk 36 = .ok (.if_icmp .gt 106, 3) := by decide +kernel
theorem dX6_attemptHunk_39 : decode cX6_attemptHunk 39 = .ok (.aload_n 0, 1) := by decide +kernel
theorem dX6_attemptHunk_40 : decode cX6_attemptHunk 40 = .ok (.iload_n 2, 1) := by decide +kernel
theorem dX6_attemptHunk_41 : decode cX6_attemptHunk 41 = .ok (.iload 6, 2) := by decide +kernel
theorem dX6_attemptHunk_43 : decode cX6_attemptHunk 43 = .ok (.iload 7, 2) := by decide +kernel
theorem dX6_attemptHunk_45 : decode cX6_attemptHunk 45 = .ok (.invokevirtual 114, 3) := by decide +kernel
theorem dX6_attemptHunk_48 : decode cX6_attemptHunk 48 = .ok (.istore 8, 2) := by decide +kernel
theorem dX6_attemptHunk_50 : decode cX6_attemptHunk 50 = .ok (.aload_n 0, 1) := by decide +kernel
theorem dX6_attemptHunk_51 : decode cX6_attemptHunk 51 = .ok (.iload_n 2, 1) := by decide +kernel
theorem dX6_attemptHunk_52 : decode cX6_attemptHunk 52 = .ok (.iload 6, 2) := by decide +kernel
theorem dX6_attemptHunk_54 : decode cX6_attemptHunk 54 = .ok (.iload 7, 2) := by decide +kernel
theorem dX6_attemptHunk_56 : decode cX6_attemptHunk 56 = .ok (.invokevirtual 118, 3) := by decide +kernel
theorem dX6_attemptHunk_59 : decode cX6_attemptHunk 59 = .ok (.istore 9, 2) := by decide +kernel
theorem dX6_attemptHunk_61 : decode cX6_attemptHunk 61 = .ok (.aload_n 0, 1) := by decide +kernel
theorem dX6_attemptHunk_62 : decode cX6_attemptHunk 62 = .ok (.aload_n 1, 1) := by decide +kernel
theorem dX6_attemptHunk_63 : decode cX6_attemptHunk 63 = .ok (.aload 5, 2) := by decide +kernel
theorem dX6_attemptHunk_65 : decode cX6_attemptHunk 65 = .ok (.iload 8, 2) := by decide +kernel
theorem dX6_attemptHunk_67 : decode cX6_attemptHunk 67 = .ok (.iload 9, 2) := by decide +kernel
theorem dX6_attemptHunk_69 : decode cX6_attemptHunk 69 = .ok (.invokevirtual 121, 3) := by decide +kernel
theorem dX6_attemptHunk_72 : decode cX6_attemptHunk 72 = .ok (.istore 10, 2) := by decide +kernel
theorem dX6_attemptHunk_74 : decode cX6_attemptHunk 74 = .ok (.iload 10, 2) := by decide +kernel
theorem dX6_attemptHunk_76 : decode cX6_attemptHunk 76 = .ok (.iconst (-1), 1) := by decide +kernel
theorem dX6_attemptHunk_77 : decode cX6_attemptHunk 77 = .ok (.if_icmp .eq 59, 3) := by decide +kernel
theorem dX6_attemptHunk_80 : decode cX6_attemptHunk 80 = .ok (.aload_n 0, 1) := by decide +kernel
theorem dX6_attemptHunk_81 : decode cX6_attemptHunk 81 = .ok (.getfield 38, 3) := by decide +kernel
theorem dX6_attemptHunk_84 : decode cX6_attemptHunk 84 = .ok (.aload_n 1, 1) := by decide +kernel
theorem dX6_attemptHunk_85 : decode cX6_attemptHunk 85 = .ok (.aload_n 0, 1) := by decide +kernel
theorem dX6_attemptHunk_86 : decode cX6_attemptHunk 86 = .ok (.getfield 102, 3) := by decide +kernel
theorem dX6_attemptHunk_89 : decode cX6_attemptHunk 89 = .ok (.iload 10, 2) := by decide +kernel
theorem dX6_attemptHunk_91 : decode cX6_attemptHunk 91 = .ok (.invokevirtual 110, 3) := by decide +kernel
theorem dX6_attemptHunk_94 : decode cX6_attemptHunk 94 = .ok (.aload_n 0, 1) := by decide +kernel
theorem dX6_attemptHunk_95 : decode cX6_attemptHunk 95 = .ok (.iload_n 2, 1) := by decide +kernel
theorem dX6_attemptHunk_96 : decode cX6_attemptHunk 96 = .ok (.iload 7, 2) := by decide +kernel
theorem dX6_attemptHunk_98 : decode cX6_attemptHunk 98 = .ok (.iload 4, 2) := by decide +kernel
theorem dX6_attemptHunk_100 : decode cX6_attemptHunk 100 = .ok (.invokevirtual 125, 3) := by decide +kernel
theorem dX6_attemptHunk_103 : decode cX6_attemptHunk 103 = .ok (.aload_n 0, 1) := by decide +kernel
theorem dX6_attemptHunk_104 : decode cX6_attemptHunk 104 = .ok (.iload 10, 2) := by decide +kernel
theorem dX6_attemptHunk_106 : decode cX6_attemptHunk 106 = .ok (.iload 8, 2) := by decide +kernel
theorem dX6_attemptHunk_108 : decode cX6_attemptHunk 108 = .ok (.isub, 1) := by decide +kernel
theorem dX6_attemptHunk_109 : decode cX6_attemptHunk 109 = .ok (.putfield 98, 3) := by decide +kernel
theorem dX6_attemptHunk_112 : decode cX6_attemptHunk 112 = .ok (.aload_n 0, 1) := by decide +kernel
theorem dX6_attemptHunk_113 : decode cX6_attemptHunk 113 = .ok (.iload 10, 2) := by decide +kernel
theorem dX6_attemptHunk_115 : decode cX6_attemptHunk 115 = .ok (.iload 9, 2) := by decide +kernel
theorem dX6_attemptHunk_117 : decode cX6_attemptHunk 117 = .ok (.iadd, 1) := by decide +kernel
theorem dX6_attemptHunk_118 : decode cX6_attemptHunk 118 = .ok (.iload 8, 2) := by decide +kernel
theorem dX6_attemptHunk_120 : decode cX6_attemptHunk 120 = .ok (.isub, 1) := by decide +kernel
theorem dX6_attemptHunk_121 : decode cX6_attemptHunk 121 = .ok (.putfield 102, 3) := by decide +kernel
theorem dX6_attemptHunk_124 : decode cX6_attemptHunk 124 = .ok (.aload_n 0, 1) := by decide +kernel
theorem dX6_attemptHunk_125 : decode cX6_attemptHunk 125 = .ok (.getfield 32, 3) := by decide +kernel
theorem dX6_attemptHunk_128 : decode cX6_attemptHunk 128 = .ok (.iload 10, 2) := by decide +kernel
theorem dX6_attemptHunk_130 : decode cX6_attemptHunk 130 = .ok (.iload 7, 2) := by decide +kernel
theorem dX6_attemptHunk_132 : decode cX6_attemptHunk 132 = .ok (.invokevirtual 129, 3) := by decide +kernel
theorem dX6_attemptHunk_135 : decode cX6_attemptHunk 135 = .ok (.return_, 1) := by decide +kernel
theorem dX6_attemptHunk_136 : decode cX6_attemptHunk 136 = .ok (.iinc 7 1, 3) := by decide +kernel
theorem dX6_attemptHunk_139 : decode cX6_attemptHunk 139 = .ok (.goto (-106), 3) := by decide +kernel
theorem dX6_attemptHunk_142 : decode cX6_attemptHunk 142 = .ok (.aload_n 0, 1) := by decide +kernel
theorem dX6_attemptHunk_143 : decode cX6_attemptHunk 143 = .ok (.getfield 32, 3) := by decide +kernel
theorem dX6_attemptHunk_146 : decode cX6_attemptHunk 146 = .ok (.iconst (-1), 1) := by decide +kernel
theorem dX6_attemptHunk_147 : decode cX6_attemptHunk 147 = .ok (.iconst (-1), 1) := by decide +kernel
theorem dX6_attemptHunk_148 : decode cX6_attemptHunk 148 = .ok (.invokevirtual 129, 3) := by decide +kernel
theorem dX6_attemptHunk_151 : decode cX6_attemptHunk 151 = .ok (.return_, 1) := by decide +kernel
theorem dX6_pushNewPart_0 : decode cX6_pushNewPart 0 = .ok (.iload_n 3, 1) := by decide +kernel
theorem dX6_pushNewPart_1 : decode cX6_pushNewPart 1 = .ok (.ifCond .eq 10, 3) := by decide +kernel
theorem dX6_pushNewPart_4 : decode cX6_pushNewPart 4 = .ok (.aload_n 0, 1) := by decide +kernel
theorem dX6_pushNewPart_5 : decode cX6_pushNewPart 5 = .ok (.getfield 14, 3) := by decide +kernel
theorem dX6_pushNewPart_8 : decode cX6_pushNewPart 8 = .ok (.goto 7, 3) := by decide +kernel
theorem dX6_pushNewPart_11 : decode cX6_pushNewPart 11 = .ok (.aload_n 0, 1) := by decide +kernel
theorem dX6_pushNewPart_12 : decode cX6_pushNewPart 12 = .ok (.getfield 20, 3) := by decide +kernel
theorem dX6_pushNewPart_15 : decode cX6_pushNewPart 15 = .ok (.astore 4, 2) := by decide +kernel
theorem dX6_pushNewPart_17 : decode cX6_pushNewPart 17 = .ok (.iload_n 3, 1) := by decide +kernel
theorem dX6_pushNewPart_18 : decode cX6_pushNewPart 18 = .ok (.ifCond .eq 7, 3) := by decide +kernel
theorem dX6_pushNewPart_21 : decode cX6_pushNewPart 21 = .ok (.iconst 0, 1) := by decide +kernel
theorem dX6_pushNewPart_22 : decode cX6_pushNewPart 22 = .ok (.goto 4, 3) := by decide +kernel
theorem dX6_pushNewPart_25 : decode cX6_pushNewPart 25 = .ok (.iconst 2, 1) := by decide +kernel
theorem dX6_pushNewPart_26 : decode cX6_pushNewPart 26 = .ok (.istore 5, 2) := by decide +kernel
theorem dX6_pushNewPart_28 : decode cX6_pushNewPart 28 = .ok (.aload_n 0, 1) := by decide +kernel
theorem dX6_pushNewPart_29 : decode cX6_pushNewPart 29 = .ok (.getfield 38, 3) := by decide +kernel
theorem dX6_pushNewPart_32 : decode cX6_pushNewPart 32 = .ok (.aload 4, 2) := by decide +kernel
theorem dX6_pushNewPart_34 : decode cX6_pushNewPart 34 = .ok (.aload_n 0, 1) := by decide +kernel
theorem dX6_pushNewPart_35 : decode cX6_pushNewPart 35 = .ok (.iload_n 1, 1) := by decide +kernel
theorem dX6_pushNewPart_36 : decode cX6_pushNewPart 36 = .ok (.iload 5, 2) := by decide +kernel
theorem dX6_pushNewPart_38 : decode cX6_pushNewPart 38 = .ok (.iload_n 2, 1) := by decide +kernel
theorem dX6_pushNewPart_39 : decode cX6_pushNewPart 39 = .ok (.invokevirtual 114, 3) := by decide +kernel
theorem dX6_pushNewPart_42 : decode cX6_pushNewPart 42 = .ok (.aload_n 0, 1) := by decide +kernel
theorem dX6_pushNewPart_43 : decode cX6_pushNewPart 43 = .ok (.iload_n 1, 1) := by decide +kernel
theorem dX6_pushNewPart_44 : decode cX6_pushNewPart 44 = .ok (.iload 5, 2) := by decide +kernel
theorem dX6_pushNewPart_46 : decode cX6_pushNewPart 46 = .ok (.iload_n 2, 1) := by decide +kernel
theorem dX6_pushNewPart_47 : decode cX6_pushNewPart 47 = .ok (.invokevirtual 118, 3) := by decide +kernel
theorem dX6_pushNewPart_50 : decode cX6_pushNewPart 50 = .ok (.invokevirtual 110, 3) := by decide +kernel
theorem dX6_pushNewPart_53 : decode cX6_pushNewPart 53 = .ok (.return_, 1) := by decide +kernel
theorem dX6_partBegin_0 : decode cX6_partBegin 0 = .ok (.aload_n 0, 1) := by decide +kernel
theorem dX6_partBegin_1 : decode cX6_partBegin 1 = .ok (.getfield 28, 3) := by decide +kernel
theorem dX6_partBegin_4 : decode cX6_partBegin 4 = .ok (.iload_n 1, 1) := by decide +kernel
theorem dX6_partBegin_5 : decode cX6_partBegin 5 = .ok (.iload_n 2, 1) := by decide +kernel
theorem dX6_partBegin_6 : decode cX6_partBegin 6 = .ok (.invokevirtual 79, 3) := by decide +kernel
theorem dX6_partBegin_9 : decode cX6_partBegin 9 = .ok (.iload_n 3, 1) := by decide +kernel
theorem dX6_partBegin_10 : decode cX6_partBegin 10 = .ok (.aload_n 0, 1) := by decide +kernel
theorem dX6_partBegin_11 : decode cX6_partBegin 11 = .ok (.getfield 28, 3) := by decide +kernel
theorem dX6_partBegin_14 : decode cX6_partBegin 14 = .ok (.iload_n 1, 1) := by decide +kernel
theorem dX6_partBegin_15 : decode cX6_partBegin 15 = .ok (.iconst 4, 1) := by decide +kernel
theorem dX6_partBegin_16 : decode cX6_partBegin 16 = .ok (.invokevirtual 79, 3) := by decide +kernel
theorem dX6_partBegin_19 : decode cX6_partBegin 19 = .ok (.invokestatic 83, 3) := by decide +kernel
theorem dX6_partBegin_22 : decode cX6_partBegin 22 = .ok (.iadd, 1) := by decide +kernel
theorem dX6_partBegin_23 : decode cX6_partBegin 23 = .ok (.ireturn, 1) := by decide +kernel
theorem dX6_partEnd_0 : decode cX6_partEnd 0 = .ok (.aload_n 0, 1) := by decide +kernel
theorem dX6_partEnd_1 : decode cX6_partEnd 1 = .ok (.getfield 28, 3) := by decide +kernel
theorem dX6_partEnd_4 : decode cX6_partEnd 4 = .ok (.iload_n 1, 1) := by decide +kernel
theorem dX6_partEnd_5 : decode cX6_partEnd 5 = .ok (.iload_n 2, 1) := by decide +kernel
theorem dX6_partEnd_6 : decode cX6_partEnd 6 = .ok (.invokevirtual 79, 3) := by decide +kernel
theorem dX6_partEnd_9 : decode cX6_partEnd 9 = .ok (.aload_n 0, 1) := by decide +kernel
theorem dX6_partEnd_10 : decode cX6_partEnd 10 = .ok (.getfield 28, 3) := by decide +kernel
theorem dX6_partEnd_13 : decode cX6_partEnd 13 = .ok (.iload_n 1, 1) := by decide +kernel
theorem dX6_partEnd_14 : decode cX6_partEnd 14 = .ok (.iload_n 2, 1) := by decide +kernel
theorem dX6_partEnd_15 : decode cX6_partEnd 15 = .ok (.iconst 1, 1) := by decide +kernel
theorem dX6_partEnd_16 : decode cX6_partEnd 16 = .ok (.iadd, 1) := by decide +kernel
theorem dX6_partEnd_17 : decode cX6_partEnd 17 = .ok (.invokevirtual 79, 3) := by decide +kernel
theorem dX6_partEnd_20 : decode cX6_partEnd 20 = .ok (.iadd, 1) := by decide +kernel
theorem dX6_partEnd_21 : decode cX6_partEnd 21 = .ok (.istore 4, 2) := by decide +kernel
theorem dX6_partEnd_23 : decode cX6_partEnd 23 = .ok (.iload 4, 2) := by decide +kernel
theorem dX6_partEnd_25 : decode cX6_partEnd 25 = .ok (.iload_n 3, 1) := by decide +kernel
theorem dX6_partEnd_26 : decode cX6_partEnd 26 = .ok (.aload_n 0, 1) := by decide +kernel
theorem dX6_partEnd_27 : decode cX6_partEnd 27 = .ok (.getfield 28, 3) := by decide +kernel
theorem dX6_partEnd_30 : decode cX6_partEnd 30 = .ok (.iload_n 1, 1) := by decide +kernel
theorem dX6_partEnd_31 : decode cX6_partEnd 31 = .ok (.iconst 5, 1) := by decide +kernel
theorem dX6_partEnd_32 : decode cX6_partEnd 32 = .ok (.invokevirtual 79, 3) := by decide +kernel
theorem dX6_partEnd_35 : decode cX6_partEnd 35 = .ok (.invokestatic 83, 3) := by decide +kernel
theorem dX6_partEnd_38 : decode cX6_partEnd 38 = .ok (.isub, 1) := by decide +kernel
theorem dX6_partEnd_39 : decode cX6_partEnd 39 = .ok (.ireturn, 1) := by decide +kernel
theorem dX6_findFit_0 : decode cX6_findFit 0 = .ok (.iload_n 3, 1) := by decide +kernel
theorem dX6_findFit_1 : decode cX6_findFit 1 = .ok (.aload_n 0, 1) := by decide +kernel
theorem dX6_findFit_2 : decode cX6_findFit 2 = .ok (.getfield 98, 3) := by decide +kernel
theorem dX6_findFit_5 : decode cX6_findFit 5 = .ok (.iadd, 1) := by decide +kernel
theorem dX6_findFit_6 : decode cX6_findFit 6 = .ok (.istore 5, 2) := by decide +kernel
theorem dX6_findFit_8 : decode cX6_findFit 8 = .ok (.iconst 0, 1) := by decide +kernel
theorem dX6_findFit_9 : decode cX6_findFit 9 = .ok (.istore 6, 2) := by decide +kernel
theorem dX6_findFit_11 : decode cX6_findFit 11 = .ok (.iload 6, 2) := by decide +kernel
theorem dX6_findFit_13 : decode cX6_findFit 13 = .ok (.bipush 10, 2) := by decide +kernel
theorem dX6_findFit_15 : decode cX6_findFit 15 = .ok (.if_icmp .gt 55, 3) := by decide +kernel
theorem dX6_findFit_18 : decode cX6_findFit 18 = .ok (.aload_n 0, 1) := by decide +kernel
theorem dX6_findFit_19 : decode cX6_findFit 19 = .ok (.aload_n 1, 1) := by decide +kernel
theorem dX6_findFit_20 : decode cX6_findFit 20 = .ok (.iload 5, 2) := by decide +kernel
theorem dX6_findFit_22 : decode cX6_findFit 22 = .ok (.iload 6, 2) := by decide +kernel
theorem dX6_findFit_24 : decode cX6_findFit 24 = .ok (.iadd, 1) := by decide +kernel
theorem dX6_findFit_25 : decode cX6_findFit 25 = .ok (.aload_n 2, 1) := by decide +kernel
theorem dX6_findFit_26 : decode cX6_findFit 26 = .ok (.iload_n 3, 1) := by decide +kernel
theorem dX6_findFit_27 : decode cX6_findFit 27 = .ok (.iload 4, 2) := by decide +kernel
theorem dX6_findFit_29 : decode cX6_findFit 29 = .ok (.invokevirtual 132, 3) := by decide +kernel
theorem dX6_findFit_32 : decode cX6_findFit 32 = .ok (.ifCond .eq 9, 3) := by decide +kernel
theorem dX6_findFit_35 : decode cX6_findFit 35 = .ok (.iload 5, 2) := by decide +kernel
theorem dX6_findFit_37 : decode cX6_findFit 37 = .ok (.iload 6, 2) := by decide +kernel
theorem dX6_findFit_39 : decode cX6_findFit 39 = .ok (.iadd, 1) := by decide +kernel
theorem dX6_findFit_40 : decode cX6_findFit 40 = .ok (.ireturn, 1) := by decide +kernel
theorem dX6_findFit_41 : decode cX6_findFit 41 = .ok (.aload_n 0, 1) := by decide +kernel
theorem dX6_findFit_42 : decode cX6_findFit 42 = .ok (.aload_n 1, 1) := by decide +kernel
theorem dX6_findFit_43 : decode cX6_findFit 43 = .ok (.iload 5, 2) := by decide +kernel
theorem dX6_findFit_45 : decode cX6_findFit 45 = .ok (.iload 6, 2) := by decide +kernel
theorem dX6_findFit_47 : decode cX6_findFit 47 = .ok (.isub, 1) := by decide +kernel
theorem dX6_findFit_48 : decode cX6_findFit 48 = .ok (.aload_n 2, 1) := by decide +kernel
theorem dX6_findFit_49 : decode cX6_findFit 49 = .ok (.iload_n 3, 1) := by decide +kernel
theorem dX6_findFit_50 : decode cX6_findFit 50 = .ok (.iload 4, 2) := by decide +kernel
theorem dX6_findFit_52 : decode cX6_findFit 52 = .ok (.invokevirtual 132, 3) := by decide +kernel
theorem dX6_findFit_55 : decode cX6_findFit 55 = .ok (.ifCond .eq 9, 3) := by decide +kernel
theorem dX6_findFit_58 : decode cX6_findFit 58 = .ok (.iload 5, 2) := by decide +kernel
theorem dX6_findFit_60 : decode cX6_findFit 60 = .ok (.iload 6, 2) := by decide +kernel
theorem dX6_findFit_62 : decode cX6_findFit 62 = .ok (.isub, 1) := by decide +kernel
theorem dX6_findFit_63 : decode cX6_findFit 63 = .ok (.ireturn, 1) := by decide +kernel
theorem dX6_findFit_64 : decode cX6_findFit 64 = .ok (.iinc 6 1, 3) := by decide +kernel
theorem dX6_findFit_67 : decode cX6_findFit 67 = .ok (.goto (-56), 3) := by decide +kernel
theorem dX6_findFit_70 : decode cX6_findFit 70 = .ok (.iconst (-1), 1) := by decide +kernel
theorem dX6_findFit_71 : decode cX6_findFit 71 = .ok (.ireturn, 1) := by decide +kernel
theorem dX6_fits_0 : decode cX6_fits 0 = .ok (.iload_n 2, 1) := by decide +kernel
theorem dX6_fits_1 : decode cX6_fits 1 = .ok (.iload 5, 2) := by decide +kernel
theorem dX6_fits_3 : decode cX6_fits 3 = .ok (.iadd, 1) := by decide +kernel
theorem dX6_fits_4 : decode cX6_fits 4 = .ok (.iload 4, 2) := by decide +kernel
theorem dX6_fits_6 : decode cX6_fits 6 = .ok (.isub, 1) := by decide +kernel
theorem dX6_fits_7 : decode cX6_fits 7 = .ok (.istore 6, 2) := by decide +kernel
theorem dX6_fits_9 : decode cX6_fits 9 = .ok (.iload_n 2, 1) := by decide +kernel
theorem dX6_fits_10 : decode cX6_fits 10 = .ok (.aload_n 0, 1) := by decide +kernel
theorem dX6_fits_11 : decode cX6_fits 11 = .ok (.getfield 102, 3) := by decide +kernel
theorem dX6_fits_14 : decode cX6_fits 14 = .ok (.if_icmp .lt 31, 3) := by decide +kernel
theorem dX6_fits_17 : decode cX6_fits 17 = .ok (.iload 6, 2) := by decide +kernel
theorem dX6_fits_19 : decode cX6_fits 19 = .ok (.aload_n 1, 1) := by decide +kernel
theorem dX6_fits_20 : decode cX6_fits 20 = .ok (.invokevirtual 88, 3) := by decide +kernel
theorem dX6_fits_23 : decode cX6_fits 23 = .ok (.if_icmp .gt 22, 3) := by decide +kernel
theorem dX6_fits_26 : decode cX6_fits 26 = .ok (.aload_n 1, 1) := by decide +kernel
theorem dX6_fits_27 : decode cX6_fits 27 = .ok (.iload_n 2, 1) := by decide +kernel
theorem dX6_fits_28 : decode cX6_fits 28 = .ok (.iload 6, 2) := by decide +kernel
theorem dX6_fits_30 : decode cX6_fits 30 = .ok (.aload_n 3, 1) := by decide +kernel
theorem dX6_fits_31 : decode cX6_fits 31 = .ok (.iload 4, 2) := by decide +kernel
theorem dX6_fits_33 : decode cX6_fits 33 = .ok (.iload 5, 2) := by decide +kernel
theorem dX6_fits_35 : decode cX6_fits 35 = .ok (.invokevirtual 136, 3) := by decide +kernel
theorem dX6_fits_38 : decode cX6_fits 38 = .ok (.ifCond .eq 7, 3) := by decide +kernel
theorem dX6_fits_41 : decode cX6_fits 41 = .ok (.iconst 1, 1) := by decide +kernel
theorem dX6_fits_42 : decode cX6_fits 42 = .ok (.goto 4, 3) := by decide +kernel
theorem dX6_fits_45 : decode cX6_fits 45 = .ok (.iconst 0, 1) := by decide +kernel
theorem dX6_fits_46 : decode cX6_fits 46 = .ok (.ireturn, 1) := by decide +kernel
theorem dX6_keepOutcomes_0 : decode cX6_keepOutcomes 0 = .ok (.aload_n 0, 1) := by decide +kernel
theorem dX6_keepOutcomes_1 : decode cX6_keepOutcomes 1 = .ok (.getfield 35, 3) := by decide +kernel
theorem dX6_keepOutcomes_4 : decode cX6_keepOutcomes 4 = .ok (.invokevirtual 56, 3) := by decide +kernel
theorem dX6_keepOutcomes_7 : decode cX6_keepOutcomes 7 = .ok (.iconst 0, 1) := by decide +kernel
theorem dX6_keepOutcomes_8 : decode cX6_keepOutcomes 8 = .ok (.istore_n 1, 1) := by decide +kernel
theorem dX6_keepOutcomes_9 : decode cX6_keepOutcomes 9 = .ok (.iconst 0, 1) := by decide +kernel
theorem dX6_keepOutcomes_10 : decode cX6_keepOutcomes 10 = .ok (.istore_n 2, 1) := by decide +kernel
theorem dX6_keepOutcomes_11 : decode cX6_keepOutcomes 11 = .ok (.iload_n 2, 1) := by decide +kernel
theorem dX6_keepOutcomes_12 : decode cX6_keepOutcomes 12 = .ok (.aload_n 0, 1) := by decide +kernel
theorem dX6_keepOutcomes_13 : decode cX6_keepOutcomes 13 = .ok (.getfield 32, 3) := by decide +kernel
theorem dX6_keepOutcomes_16 : decode cX6_keepOutcomes 16 = .ok (.invokevirtual 63, 3) := by decide +kernel
theorem dX6_keepOutcomes_19 : decode cX6_keepOutcomes 19 = .ok (.if_icmp .ge 50, 3) := by decide +kernel
theorem dX6_keepOutcomes_22 : decode cX6_keepOutcomes 22 = .ok (.aload_n 0, 1) := by decide +kernel
theorem dX6_keepOutcomes_23 : decode cX6_keepOutcomes 23 = .ok (.getfield 35, 3) := by decide +kernel
theorem dX6_keepOutcomes_26 : decode cX6_keepOutcomes 26 = .ok (.aload_n 0, 1) := by decide +kernel
theorem dX6_keepOutcomes_27 : decode cX6_keepOutcomes 27 = .ok (.getfield 32, 3) := by decide +kernel
theorem dX6_keepOutcomes_30 : decode cX6_keepOutcomes 30 = .ok (.iload_n 2, 1) := by decide +kernel
theorem dX6_keepOutcomes_31 : decode cX6_keepOutcomes 31 = .ok (.iconst 0, 1) := by decide +kernel
theorem dX6_keepOutcomes_32 : decode cX6_keepOutcomes 32 = .ok (.invokevirtual 79, 3) := by decide +kernel
theorem dX6_keepOutcomes_35 : decode cX6_keepOutcomes 35 = .ok (.aload_n 0, 1) := by decide +kernel
theorem dX6_keepOutcomes_36 : decode cX6_keepOutcomes 36 = .ok (.getfield 32, 3) := by decide +kernel
theorem dX6_keepOutcomes_39 : decode cX6_keepOutcomes 39 = .ok (.iload_n 2, 1) := by decide +kernel
theorem dX6_keepOutcomes_40 : decode cX6_keepOutcomes 40 = .ok (.iconst 1, 1) := by decide +kernel
theorem dX6_keepOutcomes_41 : decode cX6_keepOutcomes 41 = .ok (.invokevirtual 79, 3) := by decide +kernel
theorem dX6_keepOutcomes_44 : decode cX6_keepOutcomes 44 = .ok (.invokevirtual 129, 3) := by decide +kernel
theorem dX6_keepOutcomes_47 : decode cX6_keepOutcomes 47 = .ok (.aload_n 0, 1) := by decide +kernel
theorem dX6_keepOutcomes_48 : decode cX6_keepOutcomes 48 = .ok (.getfield 32, 3) := by decide +kernel
theorem dX6_keepOutcomes_51 : decode cX6_keepOutcomes 51 = .ok (.iload_n 2, 1) := by decide +kernel
theorem dX6_keepOutcomes_52 : decode cX6_keepOutcomes 52 = .ok (.iconst 0, 1) := by decide +kernel
theorem dX6_keepOutcomes_53 : decode cX6_keepOutcomes 53 = .ok (.invokevirtual 79, 3) := by decide +kernel
theorem dX6_keepOutcomes_56 : decode cX6_keepOutcomes 56 = .ok (.iconst (-1), 1) := by decide +kernel
theorem dX6_keepOutcomes_57 : decode cX6_keepOutcomes 57 = .ok (.if_icmp .eq 6, 3) := by decide +kernel
theorem dX6_keepOutcomes_60 : decode cX6_keepOutcomes 60 = .ok (.iinc 1 1, 3) := by decide +kernel
theorem dX6_keepOutcomes_63 : decode cX6_keepOutcomes 63 = .ok (.iinc 2 1, 3) := by decide +kernel
theorem dX6_keepOutcomes_66 : decode cX6_keepOutcomes 66 = .ok (.goto (-55), 3) := by decide +kernel
theorem dX6_keepOutcomes_69 : decode cX6_keepOutcomes 69 = .ok (.iload_n 1, 1) := by decide +kernel
theorem dX6_keepOutcomes_70 : decode cX6_keepOutcomes 70 = .ok (.ireturn, 1) := by decide +kernel
theorem dX7_init_0 : decode cX7_init 0 = .ok (.aload_n 0, 1) := by decide +kernel
theorem dX7_init_1 : decode cX7_init 1 = .ok (.invokespecial 3, 3) := by decide +kernel
theorem dX7_init_4 : decode cX7_init 4 = .ok (.aload_n 0, 1) := by decide +kernel
theorem dX7_init_5 : decode cX7_init 5 = .ok (.new 9, 3) := by decide +kernel
theorem dX7_init_8 : decode cX7_init 8 = .ok (.dup, 1) := by decide +kernel
theorem dX7_init_9 : decode cX7_init 9 = .ok (.iconst 0, 1) := by decide +kernel
theorem dX7_init_10 : decode cX7_init 10 = .ok (.invokespecial 11, 3) := by decide +kernel
theorem dX7_init_13 : decode cX7_init 13 = .ok (.putfield 14, 3) := by decide +kernel
theorem dX7_init_16 : decode cX7_init 16 = .ok (.aload_n 0, 1) := by decide +kernel
theorem dX7_init_17 : decode cX7_init 17 = .ok (.iload_n 1, 1) := by decide +kernel
theorem dX7_init_18 : decode cX7_init 18 = .ok (.ifCond .le 7, 3) := by decide +kernel
theorem dX7_init_21 : decode cX7_init 21 = .ok (.iload_n 1, 1) := by decide +kernel
theorem dX7_init_22 : decode cX7_init 22 = .ok (.goto 4, 3) := by decide +kernel
theorem dX7_init_25 : decode cX7_init 25 = .ok (.iconst 0, 1) := by decide +kernel
theorem dX7_init_26 : decode cX7_init 26 = .ok (.anewarray 9, 3) := by decide +kernel
theorem dX7_init_29 : decode cX7_init 29 = .ok (.putfield 20, 3) := by decide +kernel
theorem dX7_init_32 : decode cX7_init 32 = .ok (.iconst 0, 1) := by decide +kernel
theorem dX7_init_33 : decode cX7_init 33 = .ok (.istore_n 2, 1) := by decide +kernel
theorem dX7_init_34 : decode cX7_init 34 = .ok (.iload_n 2, 1) := by decide +kernel
theorem dX7_init_35 : decode cX7_init 35 = .ok (.aload_n 0, 1) := by decide +kernel
theorem dX7_init_36 : decode cX7_init 36 = .ok (.getfield 20, 3) := by decide +kernel
theorem dX7_init_39 : decode cX7_init 39 = .ok (.arraylength, 1) := by decide +kernel
theorem dX7_init_40 : decode cX7_init 40 = .ok (.if_icmp .ge 24, 3) := by decide +kernel
theorem dX7_init_43 : decode cX7_init 43 = .ok (.aload_n 0, 1) := by decide +kernel
theorem dX7_init_44 : decode cX7_init 44 = .ok (.getfield 20, 3) := by decide +kernel
theorem dX7_init_47 : decode cX7_init 47 = .ok (.iload_n 2, 1) := by decide +kernel
theorem dX7_init_48 : decode cX7_init 48 = .ok (.new 9, 3) := by decide +kernel
theorem dX7_init_51 : decode cX7_init 51 = .ok (.dup, 1) := by decide +kernel
theorem dX7_init_52 : decode cX7_init 52 = .ok (.bipush 24, 2) := by decide +kernel
theorem dX7_init_54 : decode cX7_init 54 = .ok (.invokespecial 11, 3) := by decide +kernel
theorem dX7_init_57 : decode cX7_init 57 = .ok (.aastore, 1) := by decide +kernel
theorem dX7_init_58 : decode cX7_init 58 = .ok (.iinc 2 1, 3) := by decide +kernel
theorem dX7_init_61 : decode cX7_init 61 = .ok (.goto (-27), 3) := by decide +kernel
theorem dX7_init_64 : decode cX7_init 64 = .ok (.return_, 1) := by decide +kernel
theorem dX7_place_0 : decode cX7_place 0 = .ok (.iload_n 1, 1) := by decide +kernel
theorem dX7_place_1 : decode cX7_place 1 = .ok (.ifCond .lt 12, 3) := by decide +kernel
theorem dX7_place_4 : decode cX7_place 4 = .ok (.iload_n 1, 1) := by decide +kernel
theorem dX7_place_5 : decode cX7_place 5 = .ok (.aload_n 0, 1) := by decide +kernel
theorem dX7_place_6 : decode cX7_place 6 = .ok (.getfield 20, 3) := by decide +kernel
theorem dX7_place_9 : decode cX7_place 9 = .ok (.arraylength, 1) := by decide +kernel
theorem dX7_place_10 : decode cX7_place 10 = .ok (.if_icmp .lt 8, 3) := by decide +kernel
theorem dX7_place_13 : decode cX7_place 13 = .ok (.aload_n 0, 1) := by decide +kernel
theorem dX7_place_14 : decode cX7_place 14 = .ok (.getfield 14, 3) := by decide +kernel
theorem dX7_place_17 : decode cX7_place 17 = .ok (.areturn, 1) := by decide +kernel
theorem dX7_place_18 : decode cX7_place 18 = .ok (.aload_n 0, 1) := by decide +kernel
theorem dX7_place_19 : decode cX7_place 19 = .ok (.getfield 20, 3) := by decide +kernel
theorem dX7_place_22 : decode cX7_place 22 = .ok (.iload_n 1, 1) := by decide +kernel
theorem dX7_place_23 : decode cX7_place 23 = .ok (.aaload, 1) := by decide +kernel
theorem dX7_place_24 : decode cX7_place 24 = .ok (.astore_n 2, 1) := by decide +kernel
theorem dX7_place_25 : decode cX7_place 25 = .ok (.aload_n 2, 1) := by decide +kernel
theorem dX7_place_26 : decode cX7_place 26 = .ok (.ifnonnull 10, 3) := by decide +kernel
theorem dX7_place_29 : decode cX7_place 29 = .ok (.aload_n 0, 1) := by decide +kernel
theorem dX7_place_30 : decode cX7_place 30 = .ok (.getfield 14, 3) := by decide +kernel
theorem dX7_place_33 : decode cX7_place 33 = .ok (.goto 4, 3) := by decide +kernel
theorem dX7_place_36 : decode cX7_place 36 = .ok (.aload_n 2, 1) := by decide +kernel
theorem dX7_place_37 : decode cX7_place 37 = .ok (.areturn, 1) := by decide +kernel
theorem dX7_become_0 : decode cX7_become 0 = .ok (.iconst 0, 1) := by decide +kernel
theorem dX7_become_1 : decode cX7_become 1 = .ok (.istore_n 2, 1) := by decide +kernel
theorem dX7_become_2 : decode cX7_become 2 = .ok (.iload_n 2, 1) := by decide +kernel
theorem dX7_become_3 : decode cX7_become 3 = .ok (.aload_n 0, 1) := by decide +kernel
theorem dX7_become_4 : decode cX7_become 4 = .ok (.getfield 20, 3) := by decide +kernel
theorem dX7_become_7 : decode cX7_become 7 = .ok (.arraylength, 1) := by decide +kernel
theorem dX7_become_8 : decode cX7_become 8 = .ok (.if_icmp .ge 22, 3) := by decide +kernel
theorem dX7_become_11 : decode cX7_become 11 = .ok (.aload_n 0, 1) := by decide +kernel
theorem dX7_become_12 : decode cX7_become 12 = .ok (.iload_n 2, 1) := by decide +kernel
theorem dX7_become_13 : decode cX7_become 13 = .ok (.invokevirtual 24, 3) := by decide +kernel
theorem dX7_become_16 : decode cX7_become 16 = .ok (.aload_n 1, 1) := by decide +kernel
theorem dX7_become_17 : decode cX7_become 17 = .ok (.iload_n 2, 1) := by decide +kernel
theorem dX7_become_18 : decode cX7_become 18 = .ok (.invokevirtual 24, 3) := by decide +kernel
theorem dX7_become_21 : decode cX7_become 21 = .ok (.invokevirtual 28, 3) := by decide +kernel
theorem dX7_become_24 : decode cX7_become 24 = .ok (.iinc 2 1, 3) := by decide +kernel
theorem dX7_become_27 : decode cX7_become 27 = .ok (.goto (-25), 3) := by decide +kernel
theorem dX7_become_30 : decode cX7_become 30 = .ok (.return_, 1) := by decide +kernel
theorem dX7_allLines_0 : decode cX7_allLines 0 = .ok (.iconst 0, 1) := by decide +kernel
theorem dX7_allLines_1 : decode cX7_allLines 1 = .ok (.istore_n 1, 1) := by decide +kernel
theorem dX7_allLines_2 : decode cX7_allLines 2 = .ok (.iconst 0, 1) := by decide +kernel
theorem dX7_allLines_3 : decode cX7_allLines 3 = .ok (.istore_n 2, 1) := by decide +kernel
theorem dX7_allLines_4 : decode cX7_allLines 4 = .ok (.iload_n 2, 1) := by decide +kernel
theorem dX7_allLines_5 : decode cX7_allLines 5 = .ok (.aload_n 0, 1) := by decide +kernel
theorem dX7_allLines_6 : decode cX7_allLines 6 = .ok (.getfield 20, 3) := by decide +kernel
theorem dX7_allLines_9 : decode cX7_allLines 9 = .ok (.arraylength, 1) := by decide +kernel
theorem dX7_allLines_10 : decode cX7_allLines 10 = .ok (.if_icmp .ge 20, 3) := by decide +kernel
theorem dX7_allLines_13 : decode cX7_allLines 13 = .ok (.iload_n 1, 1) := by decide +kernel
theorem dX7_allLines_14 : decode cX7_allLines 14 = .ok (.aload_n 0, 1) := by decide +kernel
theorem dX7_allLines_15 : decode cX7_allLines 15 = .ok (.iload_n 2, 1) := by decide +kernel
theorem dX7_allLines_16 : decode cX7_allLines 16 = .ok (.invokevirtual 24, 3) := by decide +kernel
theorem dX7_allLines_19 : decode cX7_allLines 19 = .ok (.invokevirtual 32, 3) := by decide +kernel
theorem dX7_allLines_22 : decode cX7_allLines 22 = .ok (.iadd, 1) := by decide +kernel
theorem dX7_allLines_23 : decode cX7_allLines 23 = .ok (.istore_n 1, 1) := by decide +kernel
theorem dX7_allLines_24 : decode cX7_allLines 24 = .ok (.iinc 2 1, 3) := by decide +kernel
theorem dX7_allLines_27 : decode cX7_allLines 27 = .ok (.goto (-23), 3) := by decide +kernel
theorem dX7_allLines_30 : decode cX7_allLines 30 = .ok (.iload_n 1, 1) := by decide +kernel
theorem dX7_allLines_31 : decode cX7_allLines 31 = .ok (.ireturn, 1) := by decide +kernel
theorem dX8_init_0 : decode cX8_init 0 = .ok (.aload_n 0, 1) := by decide +kernel
theorem dX8_init_1 : decode cX8_init 1 = .ok (.invokespecial 3, 3) := by decide +kernel
theorem dX8_init_4 : decode cX8_init 4 = .ok (.iload_n 1, 1) := by decide +kernel
theorem dX8_init_5 : decode cX8_init 5 = .ok (.iload_n 2, 1) := by decide +kernel
theorem dX8_init_6 : decode cX8_init 6 = .ok (.imul, 1) := by decide +kernel
theorem dX8_init_7 : decode cX8_init 7 = .ok (.istore_n 3, 1) := by decide +kernel
theorem dX8_init_8 : decode cX8_init 8 = .ok (.aload_n 0, 1) := by decide +kernel
theorem dX8_init_9 : decode cX8_init 9 = .ok (.iload_n 3, 1) := by decide +kernel
theorem dX8_init_10 : decode cX8_init 10 = .ok (.ifCond .le 7, 3) := by decide +kernel
theorem dX8_init_13 : decode cX8_init 13 = .ok (.iload_n 3, 1) := by decide +kernel
theorem dX8_init_14 : decode cX8_init 14 = .ok (.goto 4, 3) := by decide +kernel
theorem dX8_init_17 : decode cX8_init 17 = .ok (.iconst 0, 1) := by decide +kernel
theorem dX8_init_18 : decode cX8_init 18 = .ok (.newarray .int, 2) := by decide +kernel
theorem dX8_init_20 : decode cX8_init 20 = .ok (.putfield 9, 3) := by decide +kernel
theorem dX8_init_23 : decode cX8_init 23 = .ok (.aload_n 0, 1) := by decide +kernel
theorem dX8_init_24 : decode cX8_init 24 = .ok (.iload_n 2, 1) := by decide +kernel
theorem dX8_init_25 : decode cX8_init 25 = .ok (.putfield 15, 3) := by decide +kernel
theorem dX8_init_28 : decode cX8_init 28 = .ok (.return_, 1) := by decide +kernel
theorem dX8_rows_0 : decode cX8_rows 0 = .ok (.aload_n 0, 1) := by decide +kernel
theorem dX8_rows_1 : decode cX8_rows 1 = .ok (.getfield 19, 3) := by decide +kernel
theorem dX8_rows_4 : decode cX8_rows 4 = .ok (.ireturn, 1) := by decide +kernel
theorem dX8_hasRow_0 : decode cX8_hasRow 0 = .ok (.iload_n 1, 1) := by decide +kernel
theorem dX8_hasRow_1 : decode cX8_hasRow 1 = .ok (.ifCond .lt 15, 3) := by decide +kernel
theorem dX8_hasRow_4 : decode cX8_hasRow 4 = .ok (.iload_n 1, 1) := by decide +kernel
theorem dX8_hasRow_5 : decode cX8_hasRow 5 = .ok (.aload_n 0, 1) := by decide +kernel
theorem dX8_hasRow_6 : decode cX8_hasRow 6 = .ok (.getfield 19, 3) := by decide +kernel
theorem dX8_hasRow_9 : decode cX8_hasRow 9 = .ok (.if_icmp .ge 7, 3) := by decide +kernel
theorem dX8_hasRow_12 : decode cX8_hasRow 12 = .ok (.iconst 1, 1) := by decide +kernel
theorem dX8_hasRow_13 : decode cX8_hasRow 13 = .ok (.goto 4, 3) := by decide +kernel
theorem dX8_hasRow_16 : decode cX8_hasRow 16 = .ok (.iconst 0, 1) := by decide +kernel
theorem dX8_hasRow_17 : decode cX8_hasRow 17 = .ok (.ireturn, 1) := by decide +kernel
theorem dX8_at_0 : decode cX8_at 0 = .ok (.iload_n 1, 1) := by decide +kernel
theorem dX8_at_1 : decode cX8_at 1 = .ok (.aload_n 0, 1) := by decide +kernel
theorem dX8_at_2 : decode cX8_at 2 = .ok (.getfield 15, 3) := by decide +kernel
theorem dX8_at_5 : decode cX8_at 5 = .ok (.imul, 1) := by decide +kernel
theorem dX8_at_6 : decode cX8_at 6 = .ok (.iload_n 2, 1) := by decide +kernel
theorem dX8_at_7 : decode cX8_at 7 = .ok (.iadd, 1) := by decide +kernel
theorem dX8_at_8 : decode cX8_at 8 = .ok (.istore_n 3, 1) := by decide +kernel
theorem dX8_at_9 : decode cX8_at 9 = .ok (.iload_n 1, 1) := by decide +kernel
theorem dX8_at_10 : decode cX8_at 10 = .ok (.ifCond .lt 27, 3) := by decide +kernel
theorem dX8_at_13 : decode cX8_at 13 = .ok (.iload_n 1, 1) := by decide +kernel
theorem dX8_at_14 : decode cX8_at 14 = .ok (.aload_n 0, 1) := by decide +kernel
theorem dX8_at_15 : decode cX8_at 15 = .ok (.getfield 19, 3) := by decide +kernel
theorem dX8_at_18 : decode cX8_at 18 = .ok (.if_icmp .ge 19, 3) := by decide +kernel
theorem dX8_at_21 : decode cX8_at 21 = .ok (.iload_n 2, 1) := by decide +kernel
theorem dX8_at_22 : decode cX8_at 22 = .ok (.ifCond .lt 15, 3) := by decide +kernel
theorem dX8_at_25 : decode cX8_at 25 = .ok (.iload_n 2, 1) := by decide +kernel
theorem dX8_at_26 : decode cX8_at 26 = .ok (.aload_n 0, 1) := by decide +kernel
theorem dX8_at_27 : decode cX8_at 27 = .ok (.getfield 15, 3) := by decide +kernel
theorem dX8_at_30 : decode cX8_at 30 = .ok (.if_icmp .ge 7, 3) := by decide +kernel
theorem dX8_at_33 : decode cX8_at 33 = .ok (.iconst 1, 1) := by decide +kernel
theorem dX8_at_34 : decode cX8_at 34 = .ok (.goto 4, 3) := by decide +kernel
theorem dX8_at_37 : decode cX8_at 37 = .ok (.iconst 0, 1) := by decide +kernel
theorem dX8_at_38 : decode cX8_at 38 = .ok (.istore 4, 2) := by decide +kernel
theorem dX8_at_40 : decode cX8_at 40 = .ok (.iload 4, 2) := by decide +kernel
theorem dX8_at_42 : decode cX8_at 42 = .ok (.ifCond .eq 25, 3) := by decide +kernel
theorem dX8_at_45 : decode cX8_at 45 = .ok (.iload_n 3, 1) := by decide +kernel
theorem dX8_at_46 : decode cX8_at 46 = .ok (.ifCond .lt 21, 3) := by decide +kernel
theorem dX8_at_49 : decode cX8_at 49 = .ok (.iload_n 3, 1) := by decide +kernel
theorem dX8_at_50 : decode cX8_at 50 = .ok (.aload_n 0, 1) := by decide +kernel
theorem dX8_at_51 : decode cX8_at 51 = .ok (.getfield 9, 3) := by decide +kernel
theorem dX8_at_54 : decode cX8_at 54 = .ok (.arraylength, 1) := by decide +kernel
theorem dX8_at_55 : decode cX8_at 55 = .ok (.if_icmp .ge 12, 3) := by decide +kernel
theorem dX8_at_58 : decode cX8_at 58 = .ok (.aload_n 0, 1) := by decide +kernel
theorem dX8_at_59 : decode cX8_at 59 = .ok (.getfield 9, 3) := by decide +kernel
theorem dX8_at_62 : decode cX8_at 62 = .ok (.iload_n 3, 1) := by decide +kernel
theorem dX8_at_63 : decode cX8_at 63 = .ok (.iaload, 1) := by decide +kernel
theorem dX8_at_64 : decode cX8_at 64 = .ok (.goto 4, 3) := by decide +kernel
theorem dX8_at_67 : decode cX8_at 67 = .ok (.iconst (-1), 1) := by decide +kernel
theorem dX8_at_68 : decode cX8_at 68 = .ok (.ireturn, 1) := by decide +kernel
theorem dX8_put_0 : decode cX8_put 0 = .ok (.iload_n 1, 1) := by decide +kernel
theorem dX8_put_1 : decode cX8_put 1 = .ok (.aload_n 0, 1) := by decide +kernel
theorem dX8_put_2 : decode cX8_put 2 = .ok (.getfield 15, 3) := by decide +kernel
theorem dX8_put_5 : decode cX8_put 5 = .ok (.imul, 1) := by decide +kernel
theorem dX8_put_6 : decode cX8_put 6 = .ok (.iload_n 2, 1) := by decide +kernel
theorem dX8_put_7 : decode cX8_put 7 = .ok (.iadd, 1) := by decide +kernel
theorem dX8_put_8 : decode cX8_put 8 = .ok (.istore 4, 2) := by decide +kernel
theorem dX8_put_10 : decode cX8_put 10 = .ok (.iload_n 1, 1) := by decide +kernel
theorem dX8_put_11 : decode cX8_put 11 = .ok (.ifCond .lt 27, 3) := by decide +kernel
theorem dX8_put_14 : decode cX8_put 14 = .ok (.iload_n 1, 1) := by decide +kernel
theorem dX8_put_15 : decode cX8_put 15 = .ok (.aload_n 0, 1) := by decide +kernel
theorem dX8_put_16 : decode cX8_put 16 = .ok (.getfield 19, 3) := by decide +kernel
theorem dX8_put_19 : decode cX8_put 19 = .ok (.if_icmp .ge 19, 3) := by decide +kernel
theorem dX8_put_22 : decode cX8_put 22 = .ok (.iload_n 2, 1) := by decide +kernel
theorem dX8_put_23 : decode cX8_put 23 = .ok (.ifCond .lt 15, 3) := by decide +kernel
theorem dX8_put_26 : decode cX8_put 26 = .ok (.iload_n 2, 1) := by decide +kernel
theorem dX8_put_27 : decode cX8_put 27 = .ok (.aload_n 0, 1) := by decide +kernel
theorem dX8_put_28 : decode cX8_put 28 = .ok (.getfield 15, 3) := by decide +kernel
theorem dX8_put_31 : decode cX8_put 31 = .ok (.if_icmp .ge 7, 3) := by decide +kernel
theorem dX8_put_34 : decode cX8_put 34 = .ok (.iconst 1, 1) := by decide +kernel
theorem dX8_put_35 : decode cX8_put 35 = .ok (.goto 4, 3) := by decide +kernel
theorem dX8_put_38 : decode cX8_put 38 = .ok (.iconst 0, 1) := by decide +kernel
theorem dX8_put_39 : decode cX8_put 39 = .ok (.istore 5, 2) := by decide +kernel
theorem dX8_put_41 : decode cX8_put 41 = .ok (.iload 5, 2) := by decide +kernel
theorem dX8_put_43 : decode cX8_put 43 = .ok (.ifCond .eq 26, 3) := by decide +kernel
theorem dX8_put_46 : decode cX8_put 46 = .ok (.iload 4, 2) := by decide +kernel
theorem dX8_put_48 : decode cX8_put 48 = .ok (.ifCond .lt 21, 3) := by decide +kernel
theorem dX8_put_51 : decode cX8_put 51 = .ok (.iload 4, 2) := by decide +kernel
theorem dX8_put_53 : decode cX8_put 53 = .ok (.aload_n 0, 1) := by decide +kernel
theorem dX8_put_54 : decode cX8_put 54 = .ok (.getfield 9, 3) := by decide +kernel
theorem dX8_put_57 : decode cX8_put 57 = .ok (.arraylength, 1) := by decide +kernel
theorem dX8_put_58 : decode cX8_put 58 = .ok (.if_icmp .ge 11, 3) := by decide +kernel
theorem dX8_put_61 : decode cX8_put 61 = .ok (.aload_n 0, 1) := by decide +kernel
theorem dX8_put_62 : decode cX8_put 62 = .ok (.getfield 9, 3) := by decide +kernel
theorem dX8_put_65 : decode cX8_put 65 = .ok (.iload 4, 2) := by decide +kernel
theorem dX8_put_67 : decode cX8_put 67 = .ok (.iload_n 3, 1) := by decide +kernel
theorem dX8_put_68 : decode cX8_put 68 = .ok (.iastore, 1) := by decide +kernel
theorem dX8_put_69 : decode cX8_put 69 = .ok (.return_, 1) := by decide +kernel
theorem dX8_clear_0 : decode cX8_clear 0 = .ok (.aload_n 0, 1) := by decide +kernel
theorem dX8_clear_1 : decode cX8_clear 1 = .ok (.iconst 0, 1) := by decide +kernel
theorem dX8_clear_2 : decode cX8_clear 2 = .ok (.putfield 19, 3) := by decide +kernel
theorem dX8_clear_5 : decode cX8_clear 5 = .ok (.return_, 1) := by decide +kernel
theorem dX8_addRow_0 : decode cX8_addRow 0 = .ok (.aload_n 0, 1) := by decide +kernel
theorem dX8_addRow_1 : decode cX8_addRow 1 = .ok (.getfield 19, 3) := by decide +kernel
theorem dX8_addRow_4 : decode cX8_addRow 4 = .ok (.istore_n 1, 1) := by decide +kernel
theorem dX8_addRow_5 : decode cX8_addRow 5 = .ok (.aload_n 0, 1) := by decide +kernel
theorem dX8_addRow_6 : decode cX8_addRow 6 = .ok (.dup, 1) := by decide +kernel
theorem dX8_addRow_7 : decode cX8_addRow 7 = .ok (.getfield 19, 3) := by decide +kernel
theorem dX8_addRow_10 : decode cX8_addRow 10 = .ok (.iconst 1, 1) := by decide +kernel
theorem dX8_addRow_11 : decode cX8_addRow 11 = .ok (.iadd, 1) := by decide +kernel
theorem dX8_addRow_12 : decode cX8_addRow 12 = .ok (.putfield 19, 3) := by decide +kernel
theorem dX8_addRow_15 : decode cX8_addRow 15 = .ok (.iconst 0, 1) := by decide +kernel
theorem dX8_addRow_16 : decode cX8_addRow 16 = .ok (.istore_n 2, 1) := by decide +kernel
theorem dX8_addRow_17 : decode cX8_addRow 17 = .ok (.iload_n 2, 1) := by decide +kernel
theorem dX8_addRow_18 : decode cX8_addRow 18 = .ok (.aload_n 0, 1) := by decide +kernel
theorem dX8_addRow_19 : decode cX8_addRow 19 = .ok (.getfield 15, 3) := by decide +kernel
theorem dX8_addRow_22 : decode cX8_addRow 22 = .ok (.if_icmp .ge 16, 3) := by decide +kernel
theorem dX8_addRow_25 : decode cX8_addRow 25 = .ok (.aload_n 0, 1) := by decide +kernel
theorem dX8_addRow_26 : decode cX8_addRow 26 = .ok (.iload_n 1, 1) := by decide +kernel
theorem dX8_addRow_27 : decode cX8_addRow 27 = .ok (.iload_n 2, 1) := by decide +kernel
theorem dX8_addRow_28 : decode cX8_addRow 28 = .ok (.iconst (-1), 1) := by decide +kernel
theorem dX8_addRow_29 : decode cX8_addRow 29 = .ok (.invokevirtual 22, 3) := by decide +kernel
theorem dX8_addRow_32 : decode cX8_addRow 32 = .ok (.iinc 2 1, 3) := by decide +kernel
theorem dX8_addRow_35 : decode cX8_addRow 35 = .ok (.goto (-18), 3) := by decide +kernel
theorem dX8_addRow_38 : decode cX8_addRow 38 = .ok (.iload_n 1, 1) := by decide +kernel
theorem dX8_addRow_39 : decode cX8_addRow 39 = .ok (.ireturn, 1) := by decide +kernel
theorem dX8_addPair_0 : decode cX8_addPair 0 = .ok (.aload_n 0, 1) := by decide +kernel
theorem dX8_addPair_1 : decode cX8_addPair 1 = .ok (.invokevirtual 26, 3) := by decide +kernel
theorem dX8_addPair_4 : decode cX8_addPair 4 = .ok (.istore_n 3, 1) := by decide +kernel
theorem dX8_addPair_5 : decode cX8_addPair 5 = .ok (.aload_n 0, 1) := by decide +kernel
theorem dX8_addPair_6 : decode cX8_addPair 6 = .ok (.iload_n 3, 1) := by decide +kernel
theorem dX8_addPair_7 : decode cX8_addPair 7 = .ok (.iconst 0, 1) := by decide +kernel
theorem dX8_addPair_8 : decode cX8_addPair 8 = .ok (.iload_n 1, 1) := by decide +kernel
theorem dX8_addPair_9 : decode cX8_addPair 9 = .ok (.invokevirtual 22, 3) := by decide +kernel
theorem dX8_addPair_12 : decode cX8_addPair 12 = .ok (.aload_n 0, 1) := by decide +kernel
theorem dX8_addPair_13 : decode cX8_addPair 13 = .ok (.iload_n 3, 1) := by decide +kernel
theorem dX8_addPair_14 : decode cX8_addPair 14 = .ok (.iconst 1, 1) := by decide +kernel
theorem dX8_addPair_15 : decode cX8_addPair 15 = .ok (.iload_n 2, 1) := by decide +kernel
theorem dX8_addPair_16 : decode cX8_addPair 16 = .ok (.invokevirtual 22, 3) := by decide +kernel
theorem dX8_addPair_19 : decode cX8_addPair 19 = .ok (.return_, 1) := by decide +kernel
theorem dX9_init_0 : decode cX9_init 0 = .ok (.aload_n 0, 1) := by decide +kernel
theorem dX9_init_1 : decode cX9_init 1 = .ok (.invokespecial 1, 3) := by decide +kernel
theorem dX9_init_4 : decode cX9_init 4 = .ok (.aload_n 0, 1) := by decide +kernel
theorem dX9_init_5 : decode cX9_init 5 = .ok (.new 7, 3) := by decide +kernel
theorem dX9_init_8 : decode cX9_init 8 = .ok (.dup, 1) := by decide +kernel
theorem dX9_init_9 : decode cX9_init 9 = .ok (.iconst 4, 1) := by decide +kernel
theorem dX9_init_10 : decode cX9_init 10 = .ok (.invokespecial 11, 3) := by decide +kernel
theorem dX9_init_13 : decode cX9_init 13 = .ok (.putfield 14, 3) := by decide +kernel
theorem dX9_init_16 : decode cX9_init 16 = .ok (.aload_n 0, 1) := by decide +kernel
theorem dX9_init_17 : decode cX9_init 17 = .ok (.new 7, 3) := by decide +kernel
theorem dX9_init_20 : decode cX9_init 20 = .ok (.dup, 1) := by decide +kernel
theorem dX9_init_21 : decode cX9_init 21 = .ok (.iconst 4, 1) := by decide +kernel
theorem dX9_init_22 : decode cX9_init 22 = .ok (.invokespecial 11, 3) := by decide +kernel
theorem dX9_init_25 : decode cX9_init 25 = .ok (.putfield 18, 3) := by decide +kernel
theorem dX9_init_28 : decode cX9_init 28 = .ok (.aload_n 0, 1) := by decide +kernel
theorem dX9_init_29 : decode cX9_init 29 = .ok (.new 21, 3) := by decide +kernel
theorem dX9_init_32 : decode cX9_init 32 = .ok (.dup, 1) := by decide +kernel
theorem dX9_init_33 : decode cX9_init 33 = .ok (.invokespecial 23, 3) := by decide +kernel
theorem dX9_init_36 : decode cX9_init 36 = .ok (.putfield 24, 3) := by decide +kernel
theorem dX9_init_39 : decode cX9_init 39 = .ok (.aload_n 0, 1) := by decide +kernel
theorem dX9_init_40 : decode cX9_init 40 = .ok (.new 28, 3) := by decide +kernel
theorem dX9_init_43 : decode cX9_init 43 = .ok (.dup, 1) := by decide +kernel
theorem dX9_init_44 : decode cX9_init 44 = .ok (.invokespecial 30, 3) := by decide +kernel
theorem dX9_init_47 : decode cX9_init 47 = .ok (.putfield 31, 3) := by decide +kernel
theorem dX9_init_50 : decode cX9_init 50 = .ok (.aload_n 0, 1) := by decide +kernel
theorem dX9_init_51 : decode cX9_init 51 = .ok (.new 35, 3) := by decide +kernel
theorem dX9_init_54 : decode cX9_init 54 = .ok (.dup, 1) := by decide +kernel
theorem dX9_init_55 : decode cX9_init 55 = .ok (.bipush 24, 2) := by decide +kernel
theorem dX9_init_57 : decode cX9_init 57 = .ok (.invokespecial 37, 3) := by decide +kernel
theorem dX9_init_60 : decode cX9_init 60 = .ok (.putfield 38, 3) := by decide +kernel
theorem dX9_init_63 : decode cX9_init 63 = .ok (.aload_n 0, 1) := by decide +kernel
theorem dX9_init_64 : decode cX9_init 64 = .ok (.new 42, 3) := by decide +kernel
theorem dX9_init_67 : decode cX9_init 67 = .ok (.dup, 1) := by decide +kernel
theorem dX9_init_68 : decode cX9_init 68 = .ok (.invokespecial 44, 3) := by decide +kernel
theorem dX9_init_71 : decode cX9_init 71 = .ok (.putfield 45, 3) := by decide +kernel
theorem dX9_init_74 : decode cX9_init 74 = .ok (.aload_n 0, 1) := by decide +kernel
theorem dX9_init_75 : decode cX9_init 75 = .ok (.new 49, 3) := by decide +kernel
theorem dX9_init_78 : decode cX9_init 78 = .ok (.dup, 1) := by decide +kernel
theorem dX9_init_79 : decode cX9_init 79 = .ok (.invokespecial 51, 3) := by decide +kernel
theorem dX9_init_82 : decode cX9_init 82 = .ok (.putfield 52, 3) := by decide +kernel
theorem dX9_init_85 : decode cX9_init 85 = .ok (.aload_n 0, 1) := by decide +kernel
theorem dX9_init_86 : decode cX9_init 86 = .ok (.new 56, 3) := by decide +kernel
theorem dX9_init_89 : decode cX9_init 89 = .ok (.dup, 1) := by decide +kernel
theorem dX9_init_90 : decode cX9_init 90 = .ok (.invokespecial 58, 3) := by decide +kernel
theorem dX9_init_93 : decode cX9_init 93 = .ok (.putfield 59, 3) := by decide +kernel
theorem dX9_init_96 : decode cX9_init 96 = .ok (.aload_n 0, 1) := by decide +kernel
theorem dX9_init_97 : decode cX9_init 97 = .ok (.new 63, 3) := by decide +kernel
theorem dX9_init_100 : decode cX9_init 100 = .ok (.dup, 1) := by decide +kernel
theorem dX9_init_101 : decode cX9_init 101 = .ok (.invokespecial 65, 3) := by decide +kernel
theorem dX9_init_104 : decode cX9_init 104 = .ok (.putfield 66, 3) := by decide +kernel
theorem dX9_init_107 : decode cX9_init 107 = .ok (.aload_n 0, 1) := by decide +kernel
theorem dX9_init_108 : decode cX9_init 108 = .ok (.iconst 0, 1) := by decide +kernel
theorem dX9_init_109 : decode cX9_init 109 = .ok (.putfield 70, 3) := by decide +kernel
theorem dX9_init_112 : decode cX9_init 112 = .ok (.aload_n 0, 1) := by decide +kernel
theorem dX9_init_113 : decode cX9_init 113 = .ok (.iconst 0, 1) := by decide +kernel
theorem dX9_init_114 : decode cX9_init 114 = .ok (.putfield 74, 3) := by decide +kernel
theorem dX9_init_117 : decode cX9_init 117 = .ok (.aload_n 0, 1) := by decide +kernel
theorem dX9_init_118 : decode cX9_init 118 = .ok (.iconst 0, 1) := by decide +kernel
theorem dX9_init_119 : decode cX9_init 119 = .ok (.putfield 77, 3) := by decide +kernel
theorem dX9_init_122 : decode cX9_init 122 = .ok (.aload_n 0, 1) := by decide +kernel
theorem dX9_init_123 : decode cX9_init 123 = .ok (.iconst 1, 1) := by decide +kernel
theorem dX9_init_124 : decode cX9_init 124 = .ok (.putfield 81, 3) := by decide +kernel
theorem dX9_init_127 : decode cX9_init 127 = .ok (.return_, 1) := by decide +kernel
theorem dX9_append_0 : decode cX9_append 0 = .ok (.aload_n 0, 1) := by decide +kernel
theorem dX9_append_1 : decode cX9_append 1 = .ok (.iload_n 1, 1) := by decide +kernel
theorem dX9_append_2 : decode cX9_append 2 = .ok (.invokevirtual 84, 3) := by decide +kernel
theorem dX9_append_5 : decode cX9_append 5 = .ok (.astore_n 3, 1) := by decide +kernel
theorem dX9_append_6 : decode cX9_append 6 = .ok (.iload_n 2, 1) := by decide +kernel
theorem dX9_append_7 : decode cX9_append 7 = .ok (.invokestatic 88, 3) := by decide +kernel
theorem dX9_append_10 : decode cX9_append 10 = .ok (.aload_n 3, 1) := by decide +kernel
theorem dX9_append_11 : decode cX9_append 11 = .ok (.invokestatic 91, 3) := by decide +kernel
theorem dX9_append_14 : decode cX9_append 14 = .ok (.aload_n 0, 1) := by decide +kernel
theorem dX9_append_15 : decode cX9_append 15 = .ok (.getfield 24, 3) := by decide +kernel
theorem dX9_append_18 : decode cX9_append 18 = .ok (.iload_n 1, 1) := by decide +kernel
theorem dX9_append_19 : decode cX9_append 19 = .ok (.aload_n 3, 1) := by decide +kernel
theorem dX9_append_20 : decode cX9_append 20 = .ok (.invokevirtual 95, 3) := by decide +kernel
theorem dX9_append_23 : decode cX9_append 23 = .ok (.aload_n 3, 1) := by decide +kernel
theorem dX9_append_24 : decode cX9_append 24 = .ok (.iload_n 2, 1) := by decide +kernel
theorem dX9_append_25 : decode cX9_append 25 = .ok (.invokevirtual 99, 3) := by decide +kernel
theorem dX9_append_28 : decode cX9_append 28 = .ok (.aload_n 3, 1) := by decide +kernel
theorem dX9_append_29 : decode cX9_append 29 = .ok (.invokevirtual 102, 3) := by decide +kernel
theorem dX9_append_32 : decode cX9_append 32 = .ok (.ireturn, 1) := by decide +kernel
theorem dX9_insert_0 : decode cX9_insert 0 = .ok (.aload_n 0, 1) := by decide +kernel
theorem dX9_insert_1 : decode cX9_insert 1 = .ok (.iload_n 1, 1) := by decide +kernel
theorem dX9_insert_2 : decode cX9_insert 2 = .ok (.invokevirtual 84, 3) := by decide +kernel
theorem dX9_insert_5 : decode cX9_insert 5 = .ok (.astore 4, 2) := by decide +kernel
theorem dX9_insert_7 : decode cX9_insert 7 = .ok (.iload_n 3, 1) := by decide +kernel
theorem dX9_insert_8 : decode cX9_insert 8 = .ok (.invokestatic 88, 3) := by decide +kernel
theorem dX9_insert_11 : decode cX9_insert 11 = .ok (.aload 4, 2) := by decide +kernel
theorem dX9_insert_13 : decode cX9_insert 13 = .ok (.invokestatic 91, 3) := by decide +kernel
theorem dX9_insert_16 : decode cX9_insert 16 = .ok (.iload_n 2, 1) := by decide +kernel
theorem dX9_insert_17 : decode cX9_insert 17 = .ok (.ifCond .lt 12, 3) := by decide +kernel
theorem dX9_insert_20 : decode cX9_insert 20 = .ok (.iload_n 2, 1) := by decide +kernel
theorem dX9_insert_21 : decode cX9_insert 21 = .ok (.aload 4, 2) := by decide +kernel
theorem dX9_insert_23 : decode cX9_insert 23 = .ok (.invokevirtual 102, 3) := by decide +kernel
theorem dX9_insert_26 : decode cX9_insert 26 = .ok (.if_icmp .le 13, 3) := by decide +kernel
theorem dX9_insert_29 : decode cX9_insert 29 = .ok (.new 106, 3) := by decide +kernel
theorem dX9_insert_32 : decode cX9_insert 32 = .ok (.dup, 1) := by decide +kernel
theorem dX9_insert_33 : decode cX9_insert 33 = .ok (.ldc 108, 2) := by decide +kernel
theorem dX9_insert_35 : decode cX9_insert 35 = .ok (.invokespecial 110, 3) := by decide +kernel
theorem dX9_insert_38 : decode cX9_insert 38 = .ok (.athrow, 1) := by decide +kernel
theorem dX9_insert_39 : decode cX9_insert 39 = .ok (.aload_n 0, 1) := by decide +kernel
theorem dX9_insert_40 : decode cX9_insert 40 = .ok (.getfield 24, 3) := by decide +kernel
theorem dX9_insert_43 : decode cX9_insert 43 = .ok (.iload_n 1, 1) := by decide +kernel
theorem dX9_insert_44 : decode cX9_insert 44 = .ok (.aload 4, 2) := by decide +kernel
theorem dX9_insert_46 : decode cX9_insert 46 = .ok (.invokevirtual 95, 3) := by decide +kernel
theorem dX9_insert_49 : decode cX9_insert 49 = .ok (.aload 4, 2) := by decide +kernel
theorem dX9_insert_51 : decode cX9_insert 51 = .ok (.iload_n 2, 1) := by decide +kernel
theorem dX9_insert_52 : decode cX9_insert 52 = .ok (.iload_n 3, 1) := by decide +kernel
theorem dX9_insert_53 : decode cX9_insert 53 = .ok (.invokevirtual 113, 3) := by decide +kernel
theorem dX9_insert_56 : decode cX9_insert 56 = .ok (.aload 4, 2) := by decide +kernel
theorem dX9_insert_58 : decode cX9_insert 58 = .ok (.invokevirtual 102, 3) := by decide +kernel
theorem dX9_insert_61 : decode cX9_insert 61 = .ok (.ireturn, 1) := by decide +kernel
theorem dX9_delete_0 : decode cX9_delete 0 = .ok (.aload_n 0, 1) := by decide +kernel
theorem dX9_delete_1 : decode cX9_delete 1 = .ok (.iload_n 1, 1) := by decide +kernel
theorem dX9_delete_2 : decode cX9_delete 2 = .ok (.invokevirtual 84, 3) := by decide +kernel
theorem dX9_delete_5 : decode cX9_delete 5 = .ok (.astore_n 3, 1) := by decide +kernel
theorem dX9_delete_6 : decode cX9_delete 6 = .ok (.aload_n 3, 1) := by decide +kernel
theorem dX9_delete_7 : decode cX9_delete 7 = .ok (.iload_n 2, 1) := by decide +kernel
theorem dX9_delete_8 : decode cX9_delete 8 = .ok (.invokevirtual 117, 3) := by decide +kernel
theorem dX9_delete_11 : decode cX9_delete 11 = .ok (.ifCond .ne 13, 3) := by decide +kernel
theorem dX9_delete_14 : decode cX9_delete 14 = .ok (.new 106, 3) := by decide +kernel
theorem dX9_delete_17 : decode cX9_delete 17 = .ok (.dup, 1) := by decide +kernel
theorem dX9_delete_18 : decode cX9_delete 18 = .ok (.ldc 108, 2) := by decide +kernel
theorem dX9_delete_20 : decode cX9_delete 20 = .ok (.invokespecial 110, 3) := by decide +kernel
theorem dX9_delete_23 : decode cX9_delete 23 = .ok (.athrow, 1) := by decide +kernel
theorem dX9_delete_24 : decode cX9_delete 24 = .ok (.aload_n 0, 1) := by decide +kernel
theorem dX9_delete_25 : decode cX9_delete 25 = .ok (.getfield 24, 3) := by decide +kernel
theorem dX9_delete_28 : decode cX9_delete 28 = .ok (.iload_n 1, 1) := by decide +kernel
theorem dX9_delete_29 : decode cX9_delete 29 = .ok (.aload_n 3, 1) := by decide +kernel
theorem dX9_delete_30 : decode cX9_delete 30 = .ok (.invokevirtual 95, 3) := by decide +kernel
theorem dX9_delete_33 : decode cX9_delete 33 = .ok (.aload_n 3, 1) := by decide +kernel
theorem dX9_delete_34 : decode cX9_delete 34 = .ok (.iload_n 2, 1) := by decide +kernel
theorem dX9_delete_35 : decode cX9_delete 35 = .ok (.invokevirtual 121, 3) := by decide +kernel
theorem dX9_delete_38 : decode cX9_delete 38 = .ok (.ireturn, 1) := by decide +kernel
theorem dX9_length_0 : decode cX9_length 0 = .ok (.aload_n 0, 1) := by decide +kernel
theorem dX9_length_1 : decode cX9_length 1 = .ok (.iload_n 1, 1) := by decide +kernel
theorem dX9_length_2 : decode cX9_length 2 = .ok (.invokevirtual 84, 3) := by decide +kernel
theorem dX9_length_5 : decode cX9_length 5 = .ok (.invokevirtual 102, 3) := by decide +kernel
theorem dX9_length_8 : decode cX9_length 8 = .ok (.ireturn, 1) := by decide +kernel
theorem dX9_line_0 : decode cX9_line 0 = .ok (.aload_n 0, 1) := by decide +kernel
theorem dX9_line_1 : decode cX9_line 1 = .ok (.iload_n 1, 1) := by decide +kernel
theorem dX9_line_2 : decode cX9_line 2 = .ok (.invokevirtual 84, 3) := by decide +kernel
theorem dX9_line_5 : decode cX9_line 5 = .ok (.astore_n 3, 1) := by decide +kernel
theorem dX9_line_6 : decode cX9_line 6 = .ok (.aload_n 3, 1) := by decide +kernel
theorem dX9_line_7 : decode cX9_line 7 = .ok (.iload_n 2, 1) := by decide +kernel
theorem dX9_line_8 : decode cX9_line 8 = .ok (.invokevirtual 117, 3) := by decide +kernel
theorem dX9_line_11 : decode cX9_line 11 = .ok (.ifCond .ne 13, 3) := by decide +kernel
theorem dX9_line_14 : decode cX9_line 14 = .ok (.new 106, 3) := by decide +kernel
theorem dX9_line_17 : decode cX9_line 17 = .ok (.dup, 1) := by decide +kernel
theorem dX9_line_18 : decode cX9_line 18 = .ok (.ldc 108, 2) := by decide +kernel
theorem dX9_line_20 : decode cX9_line 20 = .ok (.invokespecial 110, 3) := by decide +kernel
theorem dX9_line_23 : decode cX9_line 23 = .ok (.athrow, 1) := by decide +kernel
theorem dX9_line_24 : decode cX9_line 24 = .ok (.aload_n 3, 1) := by decide +kernel
theorem dX9_line_25 : decode cX9_line 25 = .ok (.iload_n 2, 1) := by decide +kernel
theorem dX9_line_26 : decode cX9_line 26 = .ok (.invokevirtual 125, 3) := by decide +kernel
theorem dX9_line_29 : decode cX9_line 29 = .ok (.ireturn, 1) := by decide +kernel
theorem dX9_copy_0 : decode cX9_copy 0 = .ok (.aload_n 0, 1) := by decide +kernel
theorem dX9_copy_1 : decode cX9_copy 1 = .ok (.iload_n 1, 1) := by decide +kernel
theorem dX9_copy_2 : decode cX9_copy 2 = .ok (.invokevirtual 84, 3) := by decide +kernel
theorem dX9_copy_5 : decode cX9_copy 5 = .ok (.astore_n 3, 1) := by decide +kernel
theorem dX9_copy_6 : decode cX9_copy 6 = .ok (.aload_n 0, 1) := by decide +kernel
theorem dX9_copy_7 : decode cX9_copy 7 = .ok (.iload_n 2, 1) := by decide +kernel
theorem dX9_copy_8 : decode cX9_copy 8 = .ok (.aload_n 0, 1) := by decide +kernel
theorem dX9_copy_9 : decode cX9_copy 9 = .ok (.iload_n 2, 1) := by decide +kernel
theorem dX9_copy_10 : decode cX9_copy 10 = .ok (.invokevirtual 84, 3) := by decide +kernel
theorem dX9_copy_13 : decode cX9_copy 13 = .ok (.aload_n 3, 1) := by decide +kernel
theorem dX9_copy_14 : decode cX9_copy 14 = .ok (.invokevirtual 128, 3) := by decide +kernel
theorem dX9_copy_17 : decode cX9_copy 17 = .ok (.ireturn, 1) := by decide +kernel
theorem dX9_isSame_0 : decode cX9_isSame 0 = .ok (.aload_n 0, 1) := by decide +kernel
theorem dX9_isSame_1 : decode cX9_isSame 1 = .ok (.iload_n 1, 1) := by decide +kernel
theorem dX9_isSame_2 : decode cX9_isSame 2 = .ok (.invokevirtual 84, 3) := by decide +kernel
theorem dX9_isSame_5 : decode cX9_isSame 5 = .ok (.astore_n 3, 1) := by decide +kernel
theorem dX9_isSame_6 : decode cX9_isSame 6 = .ok (.aload_n 0, 1) := by decide +kernel
theorem dX9_isSame_7 : decode cX9_isSame 7 = .ok (.iload_n 2, 1) := by decide +kernel
theorem dX9_isSame_8 : decode cX9_isSame 8 = .ok (.invokevirtual 84, 3) := by decide +kernel
theorem dX9_isSame_11 : decode cX9_isSame 11 = .ok (.astore 4, 2) := by decide +kernel
theorem dX9_isSame_13 : decode cX9_isSame 13 = .ok (.aload_n 3, 1) := by decide +kernel
theorem dX9_isSame_14 : decode cX9_isSame 14 = .ok (.iconst 0, 1) := by decide +kernel
theorem dX9_isSame_15 : decode cX9_isSame 15 = .ok (.aload_n 3, 1) := by decide +kernel
theorem dX9_isSame_16 : decode cX9_isSame 16 = .ok (.invokevirtual 102, 3) := by decide +kernel
theorem dX9_isSame_19 : decode cX9_isSame 19 = .ok (.aload 4, 2) := by decide +kernel
theorem dX9_isSame_21 : decode cX9_isSame 21 = .ok (.iconst 0, 1) := by decide +kernel
theorem dX9_isSame_22 : decode cX9_isSame 22 = .ok (.aload 4, 2) := by decide +kernel
theorem dX9_isSame_24 : decode cX9_isSame 24 = .ok (.invokevirtual 102, 3) := by decide +kernel
theorem dX9_isSame_27 : decode cX9_isSame 27 = .ok (.invokevirtual 132, 3) := by decide +kernel
theorem dX9_isSame_30 : decode cX9_isSame 30 = .ok (.ireturn, 1) := by decide +kernel
theorem dX9_distance_0 : decode cX9_distance 0 = .ok (.aload_n 0, 1) := by decide +kernel
theorem dX9_distance_1 : decode cX9_distance 1 = .ok (.iload_n 1, 1) := by decide +kernel
theorem dX9_distance_2 : decode cX9_distance 2 = .ok (.invokevirtual 84, 3) := by decide +kernel
theorem dX9_distance_5 : decode cX9_distance 5 = .ok (.astore_n 3, 1) := by decide +kernel
theorem dX9_distance_6 : decode cX9_distance 6 = .ok (.aload_n 0, 1) := by decide +kernel
theorem dX9_distance_7 : decode cX9_distance 7 = .ok (.iload_n 2, 1) := by decide +kernel
theorem dX9_distance_8 : decode cX9_distance 8 = .ok (.invokevirtual 84, 3) := by decide +kernel
theorem dX9_distance_11 : decode cX9_distance 11 = .ok (.astore 4, 2) := by decide +kernel
theorem dX9_distance_13 : decode cX9_distance 13 = .ok (.aload_n 0, 1) := by decide +kernel
theorem dX9_distance_14 : decode cX9_distance 14 = .ok (.getfield 45, 3) := by decide +kernel
theorem dX9_distance_17 : decode cX9_distance 17 = .ok (.aload_n 3, 1) := by decide +kernel
theorem dX9_distance_18 : decode cX9_distance 18 = .ok (.aload 4, 2) := by decide +kernel
theorem dX9_distance_20 : decode cX9_distance 20 = .ok (.iconst 0, 1) := by decide +kernel
theorem dX9_distance_21 : decode cX9_distance 21 = .ok (.invokevirtual 136, 3) := by decide +kernel
theorem dX9_distance_24 : decode cX9_distance 24 = .ok (.aload_n 3, 1) := by decide +kernel
theorem dX9_distance_25 : decode cX9_distance 25 = .ok (.invokevirtual 102, 3) := by decide +kernel
theorem dX9_distance_28 : decode cX9_distance 28 = .ok (.aload 4, 2) := by decide +kernel
theorem dX9_distance_30 : decode cX9_distance 30 = .ok (.invokevirtual 102, 3) := by decide +kernel
theorem dX9_distance_33 : decode cX9_distance 33 = .ok (.iadd, 1) := by decide +kernel
theorem dX9_distance_34 : decode cX9_distance 34 = .ok (.iconst 2, 1) := by decide +kernel
theorem dX9_distance_35 : decode cX9_distance 35 = .ok (.aload_n 0, 1) := by decide +kernel
theorem dX9_distance_36 : decode cX9_distance 36 = .ok (.getfield 45, 3) := by decide +kernel
theorem dX9_distance_39 : decode cX9_distance 39 = .ok (.invokevirtual 140, 3) := by decide +kernel
theorem dX9_distance_42 : decode cX9_distance 42 = .ok (.imul, 1) := by decide +kernel
theorem dX9_distance_43 : decode cX9_distance 43 = .ok (.isub, 1) := by decide +kernel
theorem dX9_distance_44 : decode cX9_distance 44 = .ok (.ireturn, 1) := by decide +kernel
theorem dX9_feed_0 : decode cX9_feed 0 = .ok (.aload_n 0, 1) := by decide +kernel
theorem dX9_feed_1 : decode cX9_feed 1 = .ok (.getfield 31, 3) := by decide +kernel
theorem dX9_feed_4 : decode cX9_feed 4 = .ok (.invokevirtual 143, 3) := by decide +kernel
theorem dX9_feed_7 : decode cX9_feed 7 = .ok (.ifCond .eq 13, 3) := by decide +kernel
theorem dX9_feed_10 : decode cX9_feed 10 = .ok (.new 147, 3) := by decide +kernel
theorem dX9_feed_13 : decode cX9_feed 13 = .ok (.dup, 1) := by decide +kernel
theorem dX9_feed_14 : decode cX9_feed 14 = .ok (.ldc 149, 2) := by decide +kernel
theorem dX9_feed_16 : decode cX9_feed 16 = .ok (.invokespecial 151, 3) := by decide +kernel
theorem dX9_feed_19 : decode cX9_feed 19 = .ok (.athrow, 1) := by decide +kernel
theorem dX9_feed_20 : decode cX9_feed 20 = .ok (.aload_n 0, 1) := by decide +kernel
theorem dX9_feed_21 : decode cX9_feed 21 = .ok (.getfield 31, 3) := by decide +kernel
theorem dX9_feed_24 : decode cX9_feed 24 = .ok (.iload_n 1, 1) := by decide +kernel
theorem dX9_feed_25 : decode cX9_feed 25 = .ok (.invokevirtual 152, 3) := by decide +kernel
theorem dX9_feed_28 : decode cX9_feed 28 = .ok (.ireturn, 1) := by decide +kernel
theorem dX9_readDocument_0 : decode cX9_readDocument 0 = .ok (.aload_n 0, 1) := by decide +kernel
theorem dX9_readDocument_1 : decode cX9_readDocument 1 = .ok (.getfield 31, 3) := by decide +kernel
theorem dX9_readDocument_4 : decode cX9_readDocument 4 = .ok (.invokevirtual 156, 3) := by decide +kernel
theorem dX9_readDocument_7 : decode cX9_readDocument 7 = .ok (.istore_n 2, 1) := by decide +kernel
theorem dX9_readDocument_8 : decode cX9_readDocument 8 = .ok (.iload_n 2, 1) := by decide +kernel
theorem dX9_readDocument_9 : decode cX9_readDocument 9 = .ok (.iconst (-1), 1) := by decide +kernel
theorem dX9_readDocument_10 : decode cX9_readDocument 10 = .ok (.if_icmp .ne 21, 3) := by decide +kernel
theorem dX9_readDocument_13 : decode cX9_readDocument 13 = .ok (.aload_n 0, 1) := by decide +kernel
theorem dX9_readDocument_14 : decode cX9_readDocument 14 = .ok (.getfield 31, 3) := by decide +kernel
theorem dX9_readDocument_17 : decode cX9_readDocument 17 = .ok (.aload_n 0, 1) := by decide +kernel
theorem dX9_readDocument_18 : decode cX9_readDocument 18 = .ok (.getfield 38, 3) := by decide +kernel
theorem dX9_readDocument_21 : decode cX9_readDocument 21 = .ok (.invokevirtual 159, 3) := by decide +kernel
theorem dX9_readDocument_24 : decode cX9_readDocument 24 = .ok (.ifCond .eq 7, 3) := by decide +kernel
theorem dX9_readDocument_27 : decode cX9_readDocument 27 = .ok (.iconst 1, 1) := by decide +kernel
theorem dX9_readDocument_28 : decode cX9_readDocument 28 = .ok (.goto 4, 3) := by decide +kernel
theorem dX9_readDocument_31 : decode cX9_readDocument 31 = .ok (.iconst 0, 1) := by decide +kernel
theorem dX9_readDocument_32 : decode cX9_readDocument 32 = .ok (.istore_n 3, 1) := by decide +kernel
theorem dX9_readDocument_33 : decode cX9_readDocument 33 = .ok (.aload_n 0, 1) := by decide +kernel
theorem dX9_readDocument_34 : decode cX9_readDocument 34 = .ok (.getfield 31, 3) := by decide +kernel
theorem dX9_readDocument_37 : decode cX9_readDocument 37 = .ok (.invokevirtual 163, 3) := by decide +kernel
theorem dX9_readDocument_40 : decode cX9_readDocument 40 = .ok (.aload_n 0, 1) := by decide +kernel
theorem dX9_readDocument_41 : decode cX9_readDocument 41 = .ok (.iload_n 1, 1) := by decide +kernel
theorem dX9_readDocument_42 : decode cX9_readDocument 42 = .ok (.invokevirtual 84, 3) := by decide +kernel
theorem dX9_readDocument_45 : decode cX9_readDocument 45 = .ok (.astore 4, 2) := by decide +kernel
theorem dX9_readDocument_47 : decode cX9_readDocument 47 = .ok (.iload_n 2, 1) := by decide +kernel
theorem dX9_readDocument_48 : decode cX9_readDocument 48 = .ok (.iconst (-1), 1) := by decide +kernel
theorem dX9_readDocument_49 : decode cX9_readDocument 49 = .ok (.if_icmp .eq 8, 3) := by decide +kernel
theorem dX9_readDocument_52 : decode cX9_readDocument 52 = .ok (.bipush (-100), 2) := by decide +kernel
theorem dX9_readDocument_54 : decode cX9_readDocument 54 = .ok (.iload_n 2, 1) := by decide +kernel
theorem dX9_readDocument_55 : decode cX9_readDocument 55 = .ok (.isub, 1) := by decide +kernel
theorem dX9_readDocument_56 : decode cX9_readDocument 56 = .ok (.ireturn, 1) := by decide +kernel
theorem dX9_readDocument_57 : decode cX9_readDocument 57 = .ok (.iload_n 3, 1) := by decide +kernel
theorem dX9_readDocument_58 : decode cX9_readDocument 58 = .ok (.ifCond .ne 13, 3) := by decide +kernel
theorem dX9_readDocument_61 : decode cX9_readDocument 61 = .ok (.new 147, 3) := by decide +kernel
theorem dX9_readDocument_64 : decode cX9_readDocument 64 = .ok (.dup, 1) := by decide +kernel
theorem dX9_readDocument_65 : decode cX9_readDocument 65 = .ok (.ldc 166, 2) := by decide +kernel
theorem dX9_readDocument_67 : decode cX9_readDocument 67 = .ok (.invokespecial 151, 3) := by decide +kernel
theorem dX9_readDocument_70 : decode cX9_readDocument 70 = .ok (.athrow, 1) := by decide +kernel
theorem dX9_readDocument_71 : decode cX9_readDocument 71 = .ok (.aload_n 0, 1) := by decide +kernel
theorem dX9_readDocument_72 : decode cX9_readDocument 72 = .ok (.iload_n 1, 1) := by decide +kernel
theorem dX9_readDocument_73 : decode cX9_readDocument 73 = .ok (.aload 4, 2) := by decide +kernel
theorem dX9_readDocument_75 : decode cX9_readDocument 75 = .ok (.aload_n 0, 1) := by decide +kernel
theorem dX9_readDocument_76 : decode cX9_readDocument 76 = .ok (.getfield 38, 3) := by decide +kernel
theorem dX9_readDocument_79 : decode cX9_readDocument 79 = .ok (.invokevirtual 128, 3) := by decide +kernel
theorem dX9_readDocument_82 : decode cX9_readDocument 82 = .ok (.ireturn, 1) := by decide +kernel
theorem dX9_setMode_0 : decode cX9_setMode 0 = .ok (.iload_n 1, 1) := by decide +kernel
theorem dX9_setMode_1 : decode cX9_setMode 1 = .ok (.ifCond .eq 18, 3) := by decide +kernel
theorem dX9_setMode_4 : decode cX9_setMode 4 = .ok (.iload_n 1, 1) := by decide +kernel
theorem dX9_setMode_5 : decode cX9_setMode 5 = .ok (.iconst 1, 1) := by decide +kernel
theorem dX9_setMode_6 : decode cX9_setMode 6 = .ok (.if_icmp .eq 13, 3) := by decide +kernel
theorem dX9_setMode_9 : decode cX9_setMode 9 = .ok (.new 168, 3) := by decide +kernel
theorem dX9_setMode_12 : decode cX9_setMode 12 = .ok (.dup, 1) := by decide +kernel
theorem dX9_setMode_13 : decode cX9_setMode 13 = .ok (.ldc 170, 2) := by decide +kernel
theorem dX9_setMode_15 : decode cX9_setMode 15 = .ok (.invokespecial 172, 3) := by decide +kernel
theorem dX9_setMode_18 : decode cX9_setMode 18 = .ok (.athrow, 1) := by decide +kernel
theorem dX9_setMode_19 : decode cX9_setMode 19 = .ok (.aload_n 0, 1) := by decide +kernel
theorem dX9_setMode_20 : decode cX9_setMode 20 = .ok (.getfield 70, 3) := by decide +kernel
theorem dX9_setMode_23 : decode cX9_setMode 23 = .ok (.istore_n 2, 1) := by decide +kernel
theorem dX9_setMode_24 : decode cX9_setMode 24 = .ok (.aload_n 0, 1) := by decide +kernel
theorem dX9_setMode_25 : decode cX9_setMode 25 = .ok (.iload_n 1, 1) := by decide +kernel
theorem dX9_setMode_26 : decode cX9_setMode 26 = .ok (.putfield 70, 3) := by decide +kernel
theorem dX9_setMode_29 : decode cX9_setMode 29 = .ok (.iload_n 2, 1) := by decide +kernel
theorem dX9_setMode_30 : decode cX9_setMode 30 = .ok (.ireturn, 1) := by decide +kernel
theorem dX9_compare_0 : decode cX9_compare 0 = .ok (.aload_n 0, 1) := by decide +kernel
theorem dX9_compare_1 : decode cX9_compare 1 = .ok (.iload_n 1, 1) := by decide +kernel
theorem dX9_compare_2 : decode cX9_compare 2 = .ok (.invokevirtual 84, 3) := by decide +kernel
theorem dX9_compare_5 : decode cX9_compare 5 = .ok (.astore_n 3, 1) := by decide +kernel
theorem dX9_compare_6 : decode cX9_compare 6 = .ok (.aload_n 0, 1) := by decide +kernel
theorem dX9_compare_7 : decode cX9_compare 7 = .ok (.iload_n 2, 1) := by decide +kernel
theorem dX9_compare_8 : decode cX9_compare 8 = .ok (.invokevirtual 84, 3) := by decide +kernel
theorem dX9_compare_11 : decode cX9_compare 11 = .ok (.astore 4, 2) := by decide +kernel
theorem dX9_compare_13 : decode cX9_compare 13 = .ok (.aload_n 0, 1) := by decide +kernel
theorem dX9_compare_14 : decode cX9_compare 14 = .ok (.getfield 52, 3) := by decide +kernel
theorem dX9_compare_17 : decode cX9_compare 17 = .ok (.aload_n 3, 1) := by decide +kernel
theorem dX9_compare_18 : decode cX9_compare 18 = .ok (.aload 4, 2) := by decide +kernel
theorem dX9_compare_20 : decode cX9_compare 20 = .ok (.aload_n 0, 1) := by decide +kernel
theorem dX9_compare_21 : decode cX9_compare 21 = .ok (.getfield 70, 3) := by decide +kernel
theorem dX9_compare_24 : decode cX9_compare 24 = .ok (.invokevirtual 173, 3) := by decide +kernel
theorem dX9_compare_27 : decode cX9_compare 27 = .ok (.ireturn, 1) := by decide +kernel
theorem dX9_partner_0 : decode cX9_partner 0 = .ok (.aload_n 0, 1) := by decide +kernel
theorem dX9_partner_1 : decode cX9_partner 1 = .ok (.invokevirtual 177, 3) := by decide +kernel
theorem dX9_partner_4 : decode cX9_partner 4 = .ok (.aload_n 0, 1) := by decide +kernel
theorem dX9_partner_5 : decode cX9_partner 5 = .ok (.getfield 52, 3) := by decide +kernel
theorem dX9_partner_8 : decode cX9_partner 8 = .ok (.invokevirtual 180, 3) := by decide +kernel
theorem dX9_partner_11 : decode cX9_partner 11 = .ok (.iload_n 1, 1) := by decide +kernel
theorem dX9_partner_12 : decode cX9_partner 12 = .ok (.invokevirtual 117, 3) := by decide +kernel
theorem dX9_partner_15 : decode cX9_partner 15 = .ok (.ifCond .ne 13, 3) := by decide +kernel
theorem dX9_partner_18 : decode cX9_partner 18 = .ok (.new 106, 3) := by decide +kernel
theorem dX9_partner_21 : decode cX9_partner 21 = .ok (.dup, 1) := by decide +kernel
theorem dX9_partner_22 : decode cX9_partner 22 = .ok (.ldc 108, 2) := by decide +kernel
theorem dX9_partner_24 : decode cX9_partner 24 = .ok (.invokespecial 110, 3) := by decide +kernel
theorem dX9_partner_27 : decode cX9_partner 27 = .ok (.athrow, 1) := by decide +kernel
theorem dX9_partner_28 : decode cX9_partner 28 = .ok (.aload_n 0, 1) := by decide +kernel
theorem dX9_partner_29 : decode cX9_partner 29 = .ok (.getfield 52, 3) := by decide +kernel
theorem dX9_partner_32 : decode cX9_partner 32 = .ok (.invokevirtual 184, 3) := by decide +kernel
theorem dX9_partner_35 : decode cX9_partner 35 = .ok (.iload_n 1, 1) := by decide +kernel
theorem dX9_partner_36 : decode cX9_partner 36 = .ok (.invokevirtual 188, 3) := by decide +kernel
theorem dX9_partner_39 : decode cX9_partner 39 = .ok (.ireturn, 1) := by decide +kernel
theorem dX9_anchors_0 : decode cX9_anchors 0 = .ok (.aload_n 0, 1) := by decide +kernel
theorem dX9_anchors_1 : decode cX9_anchors 1 = .ok (.invokevirtual 177, 3) := by decide +kernel
theorem dX9_anchors_4 : decode cX9_anchors 4 = .ok (.aload_n 0, 1) := by decide +kernel
theorem dX9_anchors_5 : decode cX9_anchors 5 = .ok (.getfield 52, 3) := by decide +kernel
theorem dX9_anchors_8 : decode cX9_anchors 8 = .ok (.invokevirtual 184, 3) := by decide +kernel
theorem dX9_anchors_11 : decode cX9_anchors 11 = .ok (.invokevirtual 191, 3) := by decide +kernel
theorem dX9_anchors_14 : decode cX9_anchors 14 = .ok (.ireturn, 1) := by decide +kernel
theorem dX9_differences_0 : decode cX9_differences 0 = .ok (.aload_n 0, 1) := by decide +kernel
theorem dX9_differences_1 : decode cX9_differences 1 = .ok (.invokevirtual 177, 3) := by decide +kernel
theorem dX9_differences_4 : decode cX9_differences 4 = .ok (.aload_n 0, 1) := by decide +kernel
theorem dX9_differences_5 : decode cX9_differences 5 = .ok (.getfield 52, 3) := by decide +kernel
theorem dX9_differences_8 : decode cX9_differences 8 = .ok (.invokevirtual 194, 3) := by decide +kernel
theorem dX9_differences_11 : decode cX9_differences 11 = .ok (.invokevirtual 198, 3) := by decide +kernel
theorem dX9_differences_14 : decode cX9_differences 14 = .ok (.ireturn, 1) := by decide +kernel
theorem dX9_difference_0 : decode cX9_difference 0 = .ok (.aload_n 0, 1) := by decide +kernel
theorem dX9_difference_1 : decode cX9_difference 1 = .ok (.invokevirtual 177, 3) := by decide +kernel
theorem dX9_difference_4 : decode cX9_difference 4 = .ok (.aload_n 0, 1) := by decide +kernel
theorem dX9_difference_5 : decode cX9_difference 5 = .ok (.getfield 52, 3) := by decide +kernel
theorem dX9_difference_8 : decode cX9_difference 8 = .ok (.invokevirtual 194, 3) := by decide +kernel
theorem dX9_difference_11 : decode cX9_difference 11 = .ok (.iload_n 1, 1) := by decide +kernel
theorem dX9_difference_12 : decode cX9_difference 12 = .ok (.iload_n 2, 1) := by decide +kernel
theorem dX9_difference_13 : decode cX9_difference 13 = .ok (.iconst 4, 1) := by decide +kernel
theorem dX9_difference_14 : decode cX9_difference 14 = .ok (.invokestatic 203, 3) := by decide +kernel
theorem dX9_difference_17 : decode cX9_difference 17 = .ok (.ireturn, 1) := by decide +kernel
theorem dX9_step_0 : decode cX9_step 0 = .ok (.aload_n 0, 1) := by decide +kernel
theorem dX9_step_1 : decode cX9_step 1 = .ok (.invokevirtual 177, 3) := by decide +kernel
theorem dX9_step_4 : decode cX9_step 4 = .ok (.aload_n 0, 1) := by decide +kernel
theorem dX9_step_5 : decode cX9_step 5 = .ok (.getfield 52, 3) := by decide +kernel
theorem dX9_step_8 : decode cX9_step 8 = .ok (.invokevirtual 207, 3) := by decide +kernel
theorem dX9_step_11 : decode cX9_step 11 = .ok (.iload_n 1, 1) := by decide +kernel
theorem dX9_step_12 : decode cX9_step 12 = .ok (.invokevirtual 117, 3) := by decide +kernel
theorem dX9_step_15 : decode cX9_step 15 = .ok (.ifCond .ne 13, 3) := by decide +kernel
theorem dX9_step_18 : decode cX9_step 18 = .ok (.new 210, 3) := by decide +kernel
theorem dX9_step_21 : decode cX9_step 21 = .ok (.dup, 1) := by decide +kernel
theorem dX9_step_22 : decode cX9_step 22 = .ok (.ldc 212, 2) := by decide +kernel
theorem dX9_step_24 : decode cX9_step 24 = .ok (.invokespecial 214, 3) := by decide +kernel
theorem dX9_step_27 : decode cX9_step 27 = .ok (.athrow, 1) := by decide +kernel
theorem dX9_step_28 : decode cX9_step 28 = .ok (.aload_n 0, 1) := by decide +kernel
theorem dX9_step_29 : decode cX9_step 29 = .ok (.getfield 52, 3) := by decide +kernel
theorem dX9_step_32 : decode cX9_step 32 = .ok (.invokevirtual 207, 3) := by decide +kernel
theorem dX9_step_35 : decode cX9_step 35 = .ok (.iload_n 1, 1) := by decide +kernel
theorem dX9_step_36 : decode cX9_step 36 = .ok (.invokevirtual 125, 3) := by decide +kernel
theorem dX9_step_39 : decode cX9_step 39 = .ok (.ireturn, 1) := by decide +kernel
theorem dX9_similarity_0 : decode cX9_similarity 0 = .ok (.aload_n 0, 1) := by decide +kernel
theorem dX9_similarity_1 : decode cX9_similarity 1 = .ok (.invokevirtual 177, 3) := by decide +kernel
theorem dX9_similarity_4 : decode cX9_similarity 4 = .ok (.aload_n 0, 1) := by decide +kernel
theorem dX9_similarity_5 : decode cX9_similarity 5 = .ok (.getfield 52, 3) := by decide +kernel
theorem dX9_similarity_8 : decode cX9_similarity 8 = .ok (.invokevirtual 180, 3) := by decide +kernel
theorem dX9_similarity_11 : decode cX9_similarity 11 = .ok (.invokevirtual 102, 3) := by decide +kernel
theorem dX9_similarity_14 : decode cX9_similarity 14 = .ok (.aload_n 0, 1) := by decide +kernel
theorem dX9_similarity_15 : decode cX9_similarity 15 = .ok (.getfield 52, 3) := by decide +kernel
theorem dX9_similarity_18 : decode cX9_similarity 18 = .ok (.invokevirtual 215, 3) := by decide +kernel
theorem dX9_similarity_21 : decode cX9_similarity 21 = .ok (.invokevirtual 102, 3) := by decide +kernel
theorem dX9_similarity_24 : decode cX9_similarity 24 = .ok (.iadd, 1) := by decide +kernel
theorem dX9_similarity_25 : decode cX9_similarity 25 = .ok (.istore_n 1, 1) := by decide +kernel
theorem dX9_similarity_26 : decode cX9_similarity 26 = .ok (.iload_n 1, 1) := by decide +kernel
theorem dX9_similarity_27 : decode cX9_similarity 27 = .ok (.ifCond .ne 13, 3) := by decide +kernel
theorem dX9_similarity_30 : decode cX9_similarity 30 = .ok (.new 218, 3) := by decide +kernel
theorem dX9_similarity_33 : decode cX9_similarity 33 = .ok (.dup, 1) := by decide +kernel
theorem dX9_similarity_34 : decode cX9_similarity 34 = .ok (.ldc 220, 2) := by decide +kernel
theorem dX9_similarity_36 : decode cX9_similarity 36 = .ok (.invokespecial 222, 3) := by decide +kernel
theorem dX9_similarity_39 : decode cX9_similarity 39 = .ok (.athrow, 1) := by decide +kernel
theorem dX9_similarity_40 : decode cX9_similarity 40 = .ok (.iconst 2, 1) := by decide +kernel
theorem dX9_similarity_41 : decode cX9_similarity 41 = .ok (.aload_n 0, 1) := by decide +kernel
theorem dX9_similarity_42 : decode cX9_similarity 42 = .ok (.getfield 52, 3) := by decide +kernel
theorem dX9_similarity_45 : decode cX9_similarity 45 = .ok (.invokevirtual 184, 3) := by decide +kernel
theorem dX9_similarity_48 : decode cX9_similarity 48 = .ok (.invokevirtual 140, 3) := by decide +kernel
theorem dX9_similarity_51 : decode cX9_similarity 51 = .ok (.imul, 1) := by decide +kernel
theorem dX9_similarity_52 : decode cX9_similarity 52 = .ok (.i2d, 1) := by decide +kernel
theorem dX9_similarity_53 : decode cX9_similarity 53 = .ok (.iload_n 1, 1) := by decide +kernel
theorem dX9_similarity_54 : decode cX9_similarity 54 = .ok (.i2d, 1) := by decide +kernel
theorem dX9_similarity_55 : decode cX9_similarity 55 = .ok (.ddiv, 1) := by decide +kernel
theorem dX9_similarity_56 : decode cX9_similarity 56 = .ok (.dreturn, 1) := by decide +kernel
theorem dX9_findMoves_0 : decode cX9_findMoves 0 = .ok (.iload_n 1, 1) := by decide +kernel
theorem dX9_findMoves_1 : decode cX9_findMoves 1 = .ok (.iconst 1, 1) := by decide +kernel
theorem dX9_findMoves_2 : decode cX9_findMoves 2 = .ok (.if_icmp .lt 9, 3) := by decide +kernel
theorem dX9_findMoves_5 : decode cX9_findMoves 5 = .ok (.iload_n 1, 1) := by decide +kernel
theorem dX9_findMoves_6 : decode cX9_findMoves 6 = .ok (.bipush 9, 2) := by decide +kernel
theorem dX9_findMoves_8 : decode cX9_findMoves 8 = .ok (.if_icmp .le 13, 3) := by decide +kernel
theorem dX9_findMoves_11 : decode cX9_findMoves 11 = .ok (.new 168, 3) := by decide +kernel
theorem dX9_findMoves_14 : decode cX9_findMoves 14 = .ok (.dup, 1) := by decide +kernel
theorem dX9_findMoves_15 : decode cX9_findMoves 15 = .ok (.ldc 223, 2) := by decide +kernel
theorem dX9_findMoves_17 : decode cX9_findMoves 17 = .ok (.invokespecial 172, 3) := by decide +kernel
theorem dX9_findMoves_20 : decode cX9_findMoves 20 = .ok (.athrow, 1) := by decide +kernel
theorem dX9_findMoves_21 : decode cX9_findMoves 21 = .ok (.aload_n 0, 1) := by decide +kernel
theorem dX9_findMoves_22 : decode cX9_findMoves 22 = .ok (.invokevirtual 177, 3) := by decide +kernel
theorem dX9_findMoves_25 : decode cX9_findMoves 25 = .ok (.aload_n 0, 1) := by decide +kernel
theorem dX9_findMoves_26 : decode cX9_findMoves 26 = .ok (.getfield 52, 3) := by decide +kernel
theorem dX9_findMoves_29 : decode cX9_findMoves 29 = .ok (.iload_n 1, 1) := by decide +kernel
theorem dX9_findMoves_30 : decode cX9_findMoves 30 = .ok (.invokevirtual 225, 3) := by decide +kernel
theorem dX9_findMoves_33 : decode cX9_findMoves 33 = .ok (.ireturn, 1) := by decide +kernel
theorem dX9_move_0 : decode cX9_move 0 = .ok (.aload_n 0, 1) := by decide +kernel
theorem dX9_move_1 : decode cX9_move 1 = .ok (.getfield 52, 3) := by decide +kernel
theorem dX9_move_4 : decode cX9_move 4 = .ok (.invokevirtual 228, 3) := by decide +kernel
theorem dX9_move_7 : decode cX9_move 7 = .ok (.iload_n 1, 1) := by decide +kernel
theorem dX9_move_8 : decode cX9_move 8 = .ok (.iload_n 2, 1) := by decide +kernel
theorem dX9_move_9 : decode cX9_move 9 = .ok (.iconst 3, 1) := by decide +kernel
theorem dX9_move_10 : decode cX9_move 10 = .ok (.invokestatic 203, 3) := by decide +kernel
theorem dX9_move_13 : decode cX9_move 13 = .ok (.ireturn, 1) := by decide +kernel
theorem dX9_setShrinking_0 : decode cX9_setShrinking 0 = .ok (.aload_n 0, 1) := by decide +kernel
theorem dX9_setShrinking_1 : decode cX9_setShrinking 1 = .ok (.getfield 81, 3) := by decide +kernel
theorem dX9_setShrinking_4 : decode cX9_setShrinking 4 = .ok (.istore_n 2, 1) := by decide +kernel
theorem dX9_setShrinking_5 : decode cX9_setShrinking 5 = .ok (.aload_n 0, 1) := by decide +kernel
theorem dX9_setShrinking_6 : decode cX9_setShrinking 6 = .ok (.iload_n 1, 1) := by decide +kernel
theorem dX9_setShrinking_7 : decode cX9_setShrinking 7 = .ok (.putfield 81, 3) := by decide +kernel
theorem dX9_setShrinking_10 : decode cX9_setShrinking 10 = .ok (.iload_n 2, 1) := by decide +kernel
theorem dX9_setShrinking_11 : decode cX9_setShrinking 11 = .ok (.ireturn, 1) := by decide +kernel
theorem dX9_merge_0 : decode cX9_merge 0 = .ok (.aload_n 0, 1) := by decide +kernel
theorem dX9_merge_1 : decode cX9_merge 1 = .ok (.iload_n 1, 1) := by decide +kernel
theorem dX9_merge_2 : decode cX9_merge 2 = .ok (.invokevirtual 84, 3) := by decide +kernel
theorem dX9_merge_5 : decode cX9_merge 5 = .ok (.astore 4, 2) := by decide +kernel
theorem dX9_merge_7 : decode cX9_merge 7 = .ok (.aload_n 0, 1) := by decide +kernel
theorem dX9_merge_8 : decode cX9_merge 8 = .ok (.iload_n 2, 1) := by decide +kernel
theorem dX9_merge_9 : decode cX9_merge 9 = .ok (.invokevirtual 84, 3) := by decide +kernel
theorem dX9_merge_12 : decode cX9_merge 12 = .ok (.astore 5, 2) := by decide +kernel
theorem dX9_merge_14 : decode cX9_merge 14 = .ok (.aload_n 0, 1) := by decide +kernel
theorem dX9_merge_15 : decode cX9_merge 15 = .ok (.iload_n 3, 1) := by decide +kernel
theorem dX9_merge_16 : decode cX9_merge 16 = .ok (.invokevirtual 84, 3) := by decide +kernel
theorem dX9_merge_19 : decode cX9_merge 19 = .ok (.astore 6, 2) := by decide +kernel
theorem dX9_merge_21 : decode cX9_merge 21 = .ok (.aload_n 0, 1) := by decide +kernel
theorem dX9_merge_22 : decode cX9_merge 22 = .ok (.getfield 59, 3) := by decide +kernel
theorem dX9_merge_25 : decode cX9_merge 25 = .ok (.aload 4, 2) := by decide +kernel
theorem dX9_merge_27 : decode cX9_merge 27 = .ok (.aload 5, 2) := by decide +kernel
theorem dX9_merge_29 : decode cX9_merge 29 = .ok (.aload 6, 2) := by decide +kernel
theorem dX9_merge_31 : decode cX9_merge 31 = .ok (.invokevirtual 231, 3) := by decide +kernel
theorem dX9_merge_34 : decode cX9_merge 34 = .ok (.aload_n 0, 1) := by decide +kernel
theorem dX9_merge_35 : decode cX9_merge 35 = .ok (.getfield 59, 3) := by decide +kernel
theorem dX9_merge_38 : decode cX9_merge 38 = .ok (.aload_n 0, 1) := by decide +kernel
theorem dX9_merge_39 : decode cX9_merge 39 = .ok (.getfield 70, 3) := by decide +kernel
theorem dX9_merge_42 : decode cX9_merge 42 = .ok (.aload_n 0, 1) := by decide +kernel
theorem dX9_merge_43 : decode cX9_merge 43 = .ok (.getfield 81, 3) := by decide +kernel
theorem dX9_merge_46 : decode cX9_merge 46 = .ok (.invokevirtual 235, 3) := by decide +kernel
theorem dX9_merge_49 : decode cX9_merge 49 = .ok (.ireturn, 1) := by decide +kernel
theorem dX9_chunks_0 : decode cX9_chunks 0 = .ok (.aload_n 0, 1) := by decide +kernel
theorem dX9_chunks_1 : decode cX9_chunks 1 = .ok (.invokevirtual 238, 3) := by decide +kernel
theorem dX9_chunks_4 : decode cX9_chunks 4 = .ok (.aload_n 0, 1) := by decide +kernel
theorem dX9_chunks_5 : decode cX9_chunks 5 = .ok (.getfield 59, 3) := by decide +kernel
theorem dX9_chunks_8 : decode cX9_chunks 8 = .ok (.invokevirtual 241, 3) := by decide +kernel
theorem dX9_chunks_11 : decode cX9_chunks 11 = .ok (.invokevirtual 198, 3) := by decide +kernel
theorem dX9_chunks_14 : decode cX9_chunks 14 = .ok (.ireturn, 1) := by decide +kernel
theorem dX9_chunk_0 : decode cX9_chunk 0 = .ok (.aload_n 0, 1) := by decide +kernel
theorem dX9_chunk_1 : decode cX9_chunk 1 = .ok (.invokevirtual 238, 3) := by decide +kernel
theorem dX9_chunk_4 : decode cX9_chunk 4 = .ok (.aload_n 0, 1) := by decide +kernel
theorem dX9_chunk_5 : decode cX9_chunk 5 = .ok (.getfield 59, 3) := by decide +kernel
theorem dX9_chunk_8 : decode cX9_chunk 8 = .ok (.invokevirtual 241, 3) := by decide +kernel
theorem dX9_chunk_11 : decode cX9_chunk 11 = .ok (.iload_n 1, 1) := by decide +kernel
theorem dX9_chunk_12 : decode cX9_chunk 12 = .ok (.iload_n 2, 1) := by decide +kernel
theorem dX9_chunk_13 : decode cX9_chunk 13 = .ok (.bipush 7, 2) := by decide +kernel
theorem dX9_chunk_15 : decode cX9_chunk 15 = .ok (.invokestatic 203, 3) := by decide +kernel
theorem dX9_chunk_18 : decode cX9_chunk 18 = .ok (.ireturn, 1) := by decide +kernel
theorem dX9_resolve_0 : decode cX9_resolve 0 = .ok (.aload_n 0, 1) := by decide +kernel
theorem dX9_resolve_1 : decode cX9_resolve 1 = .ok (.invokevirtual 238, 3) := by decide +kernel
theorem dX9_resolve_4 : decode cX9_resolve 4 = .ok (.aload_n 0, 1) := by decide +kernel
theorem dX9_resolve_5 : decode cX9_resolve 5 = .ok (.getfield 59, 3) := by decide +kernel
theorem dX9_resolve_8 : decode cX9_resolve 8 = .ok (.iload_n 1, 1) := by decide +kernel
theorem dX9_resolve_9 : decode cX9_resolve 9 = .ok (.invokevirtual 242, 3) := by decide +kernel
theorem dX9_resolve_12 : decode cX9_resolve 12 = .ok (.ifCond .ne 13, 3) := by decide +kernel
theorem dX9_resolve_15 : decode cX9_resolve 15 = .ok (.new 210, 3) := by decide +kernel
theorem dX9_resolve_18 : decode cX9_resolve 18 = .ok (.dup, 1) := by decide +kernel
theorem dX9_resolve_19 : decode cX9_resolve 19 = .ok (.ldc 245, 2) := by decide +kernel
theorem dX9_resolve_21 : decode cX9_resolve 21 = .ok (.invokespecial 214, 3) := by decide +kernel
theorem dX9_resolve_24 : decode cX9_resolve 24 = .ok (.athrow, 1) := by decide +kernel
theorem dX9_resolve_25 : decode cX9_resolve 25 = .ok (.iload_n 2, 1) := by decide +kernel
theorem dX9_resolve_26 : decode cX9_resolve 26 = .ok (.ifCond .lt 8, 3) := by decide +kernel
theorem dX9_resolve_29 : decode cX9_resolve 29 = .ok (.iload_n 2, 1) := by decide +kernel
theorem dX9_resolve_30 : decode cX9_resolve 30 = .ok (.iconst 4, 1) := by decide +kernel
theorem dX9_resolve_31 : decode cX9_resolve 31 = .ok (.if_icmp .le 13, 3) := by decide +kernel
theorem dX9_resolve_34 : decode cX9_resolve 34 = .ok (.new 168, 3) := by decide +kernel
theorem dX9_resolve_37 : decode cX9_resolve 37 = .ok (.dup, 1) := by decide +kernel
theorem dX9_resolve_38 : decode cX9_resolve 38 = .ok (.ldc 247, 2) := by decide +kernel
theorem dX9_resolve_40 : decode cX9_resolve 40 = .ok (.invokespecial 172, 3) := by decide +kernel
theorem dX9_resolve_43 : decode cX9_resolve 43 = .ok (.athrow, 1) := by decide +kernel
theorem dX9_resolve_44 : decode cX9_resolve 44 = .ok (.aload_n 0, 1) := by decide +kernel
theorem dX9_resolve_45 : decode cX9_resolve 45 = .ok (.getfield 59, 3) := by decide +kernel
theorem dX9_resolve_48 : decode cX9_resolve 48 = .ok (.iload_n 1, 1) := by decide +kernel
theorem dX9_resolve_49 : decode cX9_resolve 49 = .ok (.iload_n 2, 1) := by decide +kernel
theorem dX9_resolve_50 : decode cX9_resolve 50 = .ok (.invokevirtual 249, 3) := by decide +kernel
theorem dX9_resolve_53 : decode cX9_resolve 53 = .ok (.ireturn, 1) := by decide +kernel
theorem dX9_unresolved_0 : decode cX9_unresolved 0 = .ok (.aload_n 0, 1) := by decide +kernel
theorem dX9_unresolved_1 : decode cX9_unresolved 1 = .ok (.invokevirtual 238, 3) := by decide +kernel
theorem dX9_unresolved_4 : decode cX9_unresolved 4 = .ok (.aload_n 0, 1) := by decide +kernel
theorem dX9_unresolved_5 : decode cX9_unresolved 5 = .ok (.getfield 59, 3) := by decide +kernel
theorem dX9_unresolved_8 : decode cX9_unresolved 8 = .ok (.invokevirtual 253, 3) := by decide +kernel
theorem dX9_unresolved_11 : decode cX9_unresolved 11 = .ok (.ireturn, 1) := by decide +kernel
theorem dX9_mergedLength_0 : decode cX9_mergedLength 0 = .ok (.aload_n 0, 1) := by decide +kernel
theorem dX9_mergedLength_1 : decode cX9_mergedLength 1 = .ok (.invokevirtual 238, 3) := by decide +kernel
theorem dX9_mergedLength_4 : decode cX9_mergedLength 4 = .ok (.aload_n 0, 1) := by decide +kernel
theorem dX9_mergedLength_5 : decode cX9_mergedLength 5 = .ok (.getfield 59, 3) := by decide +kernel
theorem dX9_mergedLength_8 : decode cX9_mergedLength 8 = .ok (.invokevirtual 256, 3) := by decide +kernel
theorem dX9_mergedLength_11 : decode cX9_mergedLength 11 = .ok (.invokevirtual 102, 3) := by decide +kernel
theorem dX9_mergedLength_14 : decode cX9_mergedLength 14 = .ok (.ireturn, 1) := by decide +kernel
theorem dX9_merged_0 : decode cX9_merged 0 = .ok (.aload_n 0, 1) := by decide +kernel
theorem dX9_merged_1 : decode cX9_merged 1 = .ok (.invokevirtual 238, 3) := by decide +kernel
theorem dX9_merged_4 : decode cX9_merged 4 = .ok (.aload_n 0, 1) := by decide +kernel
theorem dX9_merged_5 : decode cX9_merged 5 = .ok (.getfield 59, 3) := by decide +kernel
theorem dX9_merged_8 : decode cX9_merged 8 = .ok (.invokevirtual 256, 3) := by decide +kernel
theorem dX9_merged_11 : decode cX9_merged 11 = .ok (.iload_n 1, 1) := by decide +kernel
theorem dX9_merged_12 : decode cX9_merged 12 = .ok (.invokevirtual 117, 3) := by decide +kernel
theorem dX9_merged_15 : decode cX9_merged 15 = .ok (.ifCond .ne 14, 3) := by decide +kernel
theorem dX9_merged_18 : decode cX9_merged 18 = .ok (.new 106, 3) := by decide +kernel
theorem dX9_merged_21 : decode cX9_merged 21 = .ok (.dup, 1) := by decide +kernel
theorem dX9_merged_22 : decode cX9_merged 22 = .ok (.ldc_w 259, 3) := by decide +kernel
theorem dX9_merged_25 : decode cX9_merged 25 = .ok (.invokespecial 110, 3) := by decide +kernel
theorem dX9_merged_28 : decode cX9_merged 28 = .ok (.athrow, 1) := by decide +kernel
theorem dX9_merged_29 : decode cX9_merged 29 = .ok (.aload_n 0, 1) := by decide +kernel
theorem dX9_merged_30 : decode cX9_merged 30 = .ok (.getfield 59, 3) := by decide +kernel
theorem dX9_merged_33 : decode cX9_merged 33 = .ok (.invokevirtual 256, 3) := by decide +kernel
theorem dX9_merged_36 : decode cX9_merged 36 = .ok (.iload_n 1, 1) := by decide +kernel
theorem dX9_merged_37 : decode cX9_merged 37 = .ok (.invokevirtual 125, 3) := by decide +kernel
theorem dX9_merged_40 : decode cX9_merged 40 = .ok (.ireturn, 1) := by decide +kernel
theorem dX9_accept_0 : decode cX9_accept 0 = .ok (.aload_n 0, 1) := by decide +kernel
theorem dX9_accept_1 : decode cX9_accept 1 = .ok (.iload_n 1, 1) := by decide +kernel
theorem dX9_accept_2 : decode cX9_accept 2 = .ok (.invokevirtual 84, 3) := by decide +kernel
theorem dX9_accept_5 : decode cX9_accept 5 = .ok (.astore_n 2, 1) := by decide +kernel
theorem dX9_accept_6 : decode cX9_accept 6 = .ok (.aload_n 0, 1) := by decide +kernel
theorem dX9_accept_7 : decode cX9_accept 7 = .ok (.invokevirtual 238, 3) := by decide +kernel
theorem dX9_accept_10 : decode cX9_accept 10 = .ok (.aload_n 0, 1) := by decide +kernel
theorem dX9_accept_11 : decode cX9_accept 11 = .ok (.getfield 59, 3) := by decide +kernel
theorem dX9_accept_14 : decode cX9_accept 14 = .ok (.invokevirtual 253, 3) := by decide +kernel
theorem dX9_accept_17 : decode cX9_accept 17 = .ok (.ifCond .le 14, 3) := by decide +kernel
theorem dX9_accept_20 : decode cX9_accept 20 = .ok (.new 147, 3) := by decide +kernel
theorem dX9_accept_23 : decode cX9_accept 23 = .ok (.dup, 1) := by decide +kernel
theorem dX9_accept_24 : decode cX9_accept 24 = .ok (.ldc_w 261, 3) := by decide +kernel
theorem dX9_accept_27 : decode cX9_accept 27 = .ok (.invokespecial 151, 3) := by decide +kernel
theorem dX9_accept_30 : decode cX9_accept 30 = .ok (.athrow, 1) := by decide +kernel
theorem dX9_accept_31 : decode cX9_accept 31 = .ok (.aload_n 0, 1) := by decide +kernel
theorem dX9_accept_32 : decode cX9_accept 32 = .ok (.getfield 59, 3) := by decide +kernel
theorem dX9_accept_35 : decode cX9_accept 35 = .ok (.invokevirtual 256, 3) := by decide +kernel
theorem dX9_accept_38 : decode cX9_accept 38 = .ok (.invokevirtual 102, 3) := by decide +kernel
theorem dX9_accept_41 : decode cX9_accept 41 = .ok (.bipush 24, 2) := by decide +kernel
theorem dX9_accept_43 : decode cX9_accept 43 = .ok (.if_icmp .le 14, 3) := by decide +kernel
theorem dX9_accept_46 : decode cX9_accept 46 = .ok (.new 263, 3) := by decide +kernel
theorem dX9_accept_49 : decode cX9_accept 49 = .ok (.dup, 1) := by decide +kernel
theorem dX9_accept_50 : decode cX9_accept 50 = .ok (.ldc_w 265, 3) := by decide +kernel
theorem dX9_accept_53 : decode cX9_accept 53 = .ok (.invokespecial 267, 3) := by decide +kernel
theorem dX9_accept_56 : decode cX9_accept 56 = .ok (.athrow, 1) := by decide +kernel
theorem dX9_accept_57 : decode cX9_accept 57 = .ok (.aload_n 0, 1) := by decide +kernel
theorem dX9_accept_58 : decode cX9_accept 58 = .ok (.iload_n 1, 1) := by decide +kernel
theorem dX9_accept_59 : decode cX9_accept 59 = .ok (.aload_n 2, 1) := by decide +kernel
theorem dX9_accept_60 : decode cX9_accept 60 = .ok (.aload_n 0, 1) := by decide +kernel
theorem dX9_accept_61 : decode cX9_accept 61 = .ok (.getfield 59, 3) := by decide +kernel
theorem dX9_accept_64 : decode cX9_accept 64 = .ok (.invokevirtual 256, 3) := by decide +kernel
theorem dX9_accept_67 : decode cX9_accept 67 = .ok (.invokevirtual 128, 3) := by decide +kernel
theorem dX9_accept_70 : decode cX9_accept 70 = .ok (.ireturn, 1) := by decide +kernel
theorem dX9_makePatch_0 : decode cX9_makePatch 0 = .ok (.iload_n 1, 1) := by decide +kernel
theorem dX9_makePatch_1 : decode cX9_makePatch 1 = .ok (.ifCond .lt 8, 3) := by decide +kernel
theorem dX9_makePatch_4 : decode cX9_makePatch 4 = .ok (.iload_n 1, 1) := by decide +kernel
theorem dX9_makePatch_5 : decode cX9_makePatch 5 = .ok (.iconst 3, 1) := by decide +kernel
theorem dX9_makePatch_6 : decode cX9_makePatch 6 = .ok (.if_icmp .le 14, 3) := by decide +kernel
theorem dX9_makePatch_9 : decode cX9_makePatch 9 = .ok (.new 168, 3) := by decide +kernel
theorem dX9_makePatch_12 : decode cX9_makePatch 12 = .ok (.dup, 1) := by decide +kernel
theorem dX9_makePatch_13 : decode cX9_makePatch 13 = .ok (.ldc_w 268, 3) := by decide +kernel
theorem dX9_makePatch_16 : decode cX9_makePatch 16 = .ok (.invokespecial 172, 3) := by decide +kernel
theorem dX9_makePatch_19 : decode cX9_makePatch 19 = .ok (.athrow, 1) := by decide +kernel
theorem dX9_makePatch_20 : decode cX9_makePatch 20 = .ok (.aload_n 0, 1) := by decide +kernel
theorem dX9_makePatch_21 : decode cX9_makePatch 21 = .ok (.invokevirtual 177, 3) := by decide +kernel
theorem dX9_makePatch_24 : decode cX9_makePatch 24 = .ok (.aload_n 0, 1) := by decide +kernel
theorem dX9_makePatch_25 : decode cX9_makePatch 25 = .ok (.getfield 66, 3) := by decide +kernel
theorem dX9_makePatch_28 : decode cX9_makePatch 28 = .ok (.aload_n 0, 1) := by decide +kernel
theorem dX9_makePatch_29 : decode cX9_makePatch 29 = .ok (.getfield 52, 3) := by decide +kernel
theorem dX9_makePatch_32 : decode cX9_makePatch 32 = .ok (.iload_n 1, 1) := by decide +kernel
theorem dX9_makePatch_33 : decode cX9_makePatch 33 = .ok (.invokevirtual 270, 3) := by decide +kernel
theorem dX9_makePatch_36 : decode cX9_makePatch 36 = .ok (.ireturn, 1) := by decide +kernel
theorem dX9_hunk_0 : decode cX9_hunk 0 = .ok (.aload_n 0, 1) := by decide +kernel
theorem dX9_hunk_1 : decode cX9_hunk 1 = .ok (.invokevirtual 273, 3) := by decide +kernel
theorem dX9_hunk_4 : decode cX9_hunk 4 = .ok (.aload_n 0, 1) := by decide +kernel
theorem dX9_hunk_5 : decode cX9_hunk 5 = .ok (.getfield 66, 3) := by decide +kernel
theorem dX9_hunk_8 : decode cX9_hunk 8 = .ok (.invokevirtual 276, 3) := by decide +kernel
theorem dX9_hunk_11 : decode cX9_hunk 11 = .ok (.iload_n 1, 1) := by decide +kernel
theorem dX9_hunk_12 : decode cX9_hunk 12 = .ok (.iload_n 2, 1) := by decide +kernel
theorem dX9_hunk_13 : decode cX9_hunk 13 = .ok (.bipush 6, 2) := by decide +kernel
theorem dX9_hunk_15 : decode cX9_hunk 15 = .ok (.invokestatic 203, 3) := by decide +kernel
theorem dX9_hunk_18 : decode cX9_hunk 18 = .ok (.ireturn, 1) := by decide +kernel
theorem dX9_apply_0 : decode cX9_apply 0 = .ok (.aload_n 0, 1) := by decide +kernel
theorem dX9_apply_1 : decode cX9_apply 1 = .ok (.iload_n 1, 1) := by decide +kernel
theorem dX9_apply_2 : decode cX9_apply 2 = .ok (.invokevirtual 84, 3) := by decide +kernel
theorem dX9_apply_5 : decode cX9_apply 5 = .ok (.astore 4, 2) := by decide +kernel
theorem dX9_apply_7 : decode cX9_apply 7 = .ok (.iload_n 2, 1) := by decide +kernel
theorem dX9_apply_8 : decode cX9_apply 8 = .ok (.ifCond .lt 8, 3) := by decide +kernel
theorem dX9_apply_11 : decode cX9_apply 11 = .ok (.iload_n 2, 1) := by decide +kernel
theorem dX9_apply_12 : decode cX9_apply 12 = .ok (.iconst 2, 1) := by decide +kernel
theorem dX9_apply_13 : decode cX9_apply 13 = .ok (.if_icmp .le 14, 3) := by decide +kernel
theorem dX9_apply_16 : decode cX9_apply 16 = .ok (.new 168, 3) := by decide +kernel
theorem dX9_apply_19 : decode cX9_apply 19 = .ok (.dup, 1) := by decide +kernel
theorem dX9_apply_20 : decode cX9_apply 20 = .ok (.ldc_w 277, 3) := by decide +kernel
theorem dX9_apply_23 : decode cX9_apply 23 = .ok (.invokespecial 172, 3) := by decide +kernel
theorem dX9_apply_26 : decode cX9_apply 26 = .ok (.athrow, 1) := by decide +kernel
theorem dX9_apply_27 : decode cX9_apply 27 = .ok (.aload_n 0, 1) := by decide +kernel
theorem dX9_apply_28 : decode cX9_apply 28 = .ok (.invokevirtual 273, 3) := by decide +kernel
theorem dX9_apply_31 : decode cX9_apply 31 = .ok (.aload_n 0, 1) := by decide +kernel
theorem dX9_apply_32 : decode cX9_apply 32 = .ok (.getfield 66, 3) := by decide +kernel
theorem dX9_apply_35 : decode cX9_apply 35 = .ok (.aload 4, 2) := by decide +kernel
theorem dX9_apply_37 : decode cX9_apply 37 = .ok (.iload_n 2, 1) := by decide +kernel
theorem dX9_apply_38 : decode cX9_apply 38 = .ok (.iload_n 3, 1) := by decide +kernel
theorem dX9_apply_39 : decode cX9_apply 39 = .ok (.invokevirtual 279, 3) := by decide +kernel
theorem dX9_apply_42 : decode cX9_apply 42 = .ok (.astore 5, 2) := by decide +kernel
theorem dX9_apply_44 : decode cX9_apply 44 = .ok (.aload 5, 2) := by decide +kernel
theorem dX9_apply_46 : decode cX9_apply 46 = .ok (.invokevirtual 102, 3) := by decide +kernel
theorem dX9_apply_49 : decode cX9_apply 49 = .ok (.bipush 24, 2) := by decide +kernel
theorem dX9_apply_51 : decode cX9_apply 51 = .ok (.if_icmp .le 13, 3) := by decide +kernel
theorem dX9_apply_54 : decode cX9_apply 54 = .ok (.new 263, 3) := by decide +kernel
theorem dX9_apply_57 : decode cX9_apply 57 = .ok (.dup, 1) := by decide +kernel
theorem dX9_apply_58 : decode cX9_apply 58 = .ok (.ldc 166, 2) := by decide +kernel
theorem dX9_apply_60 : decode cX9_apply 60 = .ok (.invokespecial 267, 3) := by decide +kernel
theorem dX9_apply_63 : decode cX9_apply 63 = .ok (.athrow, 1) := by decide +kernel
theorem dX9_apply_64 : decode cX9_apply 64 = .ok (.aload_n 0, 1) := by decide +kernel
theorem dX9_apply_65 : decode cX9_apply 65 = .ok (.iload_n 1, 1) := by decide +kernel
theorem dX9_apply_66 : decode cX9_apply 66 = .ok (.aload 4, 2) := by decide +kernel
theorem dX9_apply_68 : decode cX9_apply 68 = .ok (.aload 5, 2) := by decide +kernel
theorem dX9_apply_70 : decode cX9_apply 70 = .ok (.invokevirtual 128, 3) := by decide +kernel
theorem dX9_apply_73 : decode cX9_apply 73 = .ok (.pop, 1) := by decide +kernel
theorem dX9_apply_74 : decode cX9_apply 74 = .ok (.aload_n 0, 1) := by decide +kernel
theorem dX9_apply_75 : decode cX9_apply 75 = .ok (.getfield 66, 3) := by decide +kernel
theorem dX9_apply_78 : decode cX9_apply 78 = .ok (.invokevirtual 283, 3) := by decide +kernel
theorem dX9_apply_81 : decode cX9_apply 81 = .ok (.ireturn, 1) := by decide +kernel
theorem dX9_outcome_0 : decode cX9_outcome 0 = .ok (.aload_n 0, 1) := by decide +kernel
theorem dX9_outcome_1 : decode cX9_outcome 1 = .ok (.getfield 66, 3) := by decide +kernel
theorem dX9_outcome_4 : decode cX9_outcome 4 = .ok (.invokevirtual 286, 3) := by decide +kernel
theorem dX9_outcome_7 : decode cX9_outcome 7 = .ok (.iload_n 1, 1) := by decide +kernel
theorem dX9_outcome_8 : decode cX9_outcome 8 = .ok (.invokevirtual 289, 3) := by decide +kernel
theorem dX9_outcome_11 : decode cX9_outcome 11 = .ok (.ifCond .ne 14, 3) := by decide +kernel
theorem dX9_outcome_14 : decode cX9_outcome 14 = .ok (.new 210, 3) := by decide +kernel
theorem dX9_outcome_17 : decode cX9_outcome 17 = .ok (.dup, 1) := by decide +kernel
theorem dX9_outcome_18 : decode cX9_outcome 18 = .ok (.ldc_w 292, 3) := by decide +kernel
theorem dX9_outcome_21 : decode cX9_outcome 21 = .ok (.invokespecial 214, 3) := by decide +kernel
theorem dX9_outcome_24 : decode cX9_outcome 24 = .ok (.athrow, 1) := by decide +kernel
theorem dX9_outcome_25 : decode cX9_outcome 25 = .ok (.iload_n 2, 1) := by decide +kernel
theorem dX9_outcome_26 : decode cX9_outcome 26 = .ok (.ifCond .lt 8, 3) := by decide +kernel
theorem dX9_outcome_29 : decode cX9_outcome 29 = .ok (.iload_n 2, 1) := by decide +kernel
theorem dX9_outcome_30 : decode cX9_outcome 30 = .ok (.iconst 1, 1) := by decide +kernel
theorem dX9_outcome_31 : decode cX9_outcome 31 = .ok (.if_icmp .le 14, 3) := by decide +kernel
theorem dX9_outcome_34 : decode cX9_outcome 34 = .ok (.new 168, 3) := by decide +kernel
theorem dX9_outcome_37 : decode cX9_outcome 37 = .ok (.dup, 1) := by decide +kernel
theorem dX9_outcome_38 : decode cX9_outcome 38 = .ok (.ldc_w 294, 3) := by decide +kernel
theorem dX9_outcome_41 : decode cX9_outcome 41 = .ok (.invokespecial 172, 3) := by decide +kernel
theorem dX9_outcome_44 : decode cX9_outcome 44 = .ok (.athrow, 1) := by decide +kernel
theorem dX9_outcome_45 : decode cX9_outcome 45 = .ok (.aload_n 0, 1) := by decide +kernel
theorem dX9_outcome_46 : decode cX9_outcome 46 = .ok (.getfield 66, 3) := by decide +kernel
theorem dX9_outcome_49 : decode cX9_outcome 49 = .ok (.invokevirtual 286, 3) := by decide +kernel
theorem dX9_outcome_52 : decode cX9_outcome 52 = .ok (.iload_n 1, 1) := by decide +kernel
theorem dX9_outcome_53 : decode cX9_outcome 53 = .ok (.iload_n 2, 1) := by decide +kernel
theorem dX9_outcome_54 : decode cX9_outcome 54 = .ok (.invokevirtual 296, 3) := by decide +kernel
theorem dX9_outcome_57 : decode cX9_outcome 57 = .ok (.ireturn, 1) := by decide +kernel
theorem dX9_undo_0 : decode cX9_undo 0 = .ok (.aload_n 0, 1) := by decide +kernel
theorem dX9_undo_1 : decode cX9_undo 1 = .ok (.getfield 24, 3) := by decide +kernel
theorem dX9_undo_4 : decode cX9_undo 4 = .ok (.invokevirtual 298, 3) := by decide +kernel
theorem dX9_undo_7 : decode cX9_undo 7 = .ok (.ifCond .eq 14, 3) := by decide +kernel
theorem dX9_undo_10 : decode cX9_undo 10 = .ok (.new 147, 3) := by decide +kernel
theorem dX9_undo_13 : decode cX9_undo 13 = .ok (.dup, 1) := by decide +kernel
theorem dX9_undo_14 : decode cX9_undo 14 = .ok (.ldc_w 301, 3) := by decide +kernel
theorem dX9_undo_17 : decode cX9_undo 17 = .ok (.invokespecial 151, 3) := by decide +kernel
theorem dX9_undo_20 : decode cX9_undo 20 = .ok (.athrow, 1) := by decide +kernel
theorem dX9_undo_21 : decode cX9_undo 21 = .ok (.aload_n 0, 1) := by decide +kernel
theorem dX9_undo_22 : decode cX9_undo 22 = .ok (.getfield 24, 3) := by decide +kernel
theorem dX9_undo_25 : decode cX9_undo 25 = .ok (.aload_n 0, 1) := by decide +kernel
theorem dX9_undo_26 : decode cX9_undo 26 = .ok (.getfield 14, 3) := by decide +kernel
theorem dX9_undo_29 : decode cX9_undo 29 = .ok (.invokevirtual 303, 3) := by decide +kernel
theorem dX9_undo_32 : decode cX9_undo 32 = .ok (.ireturn, 1) := by decide +kernel
theorem dX9_save_0 : decode cX9_save 0 = .ok (.aload_n 0, 1) := by decide +kernel
theorem dX9_save_1 : decode cX9_save 1 = .ok (.getfield 18, 3) := by decide +kernel
theorem dX9_save_4 : decode cX9_save 4 = .ok (.aload_n 0, 1) := by decide +kernel
theorem dX9_save_5 : decode cX9_save 5 = .ok (.getfield 14, 3) := by decide +kernel
theorem dX9_save_8 : decode cX9_save 8 = .ok (.invokevirtual 307, 3) := by decide +kernel
theorem dX9_save_11 : decode cX9_save 11 = .ok (.aload_n 0, 1) := by decide +kernel
theorem dX9_save_12 : decode cX9_save 12 = .ok (.aload_n 0, 1) := by decide +kernel
theorem dX9_save_13 : decode cX9_save 13 = .ok (.getfield 70, 3) := by decide +kernel
theorem dX9_save_16 : decode cX9_save 16 = .ok (.putfield 74, 3) := by decide +kernel
theorem dX9_save_19 : decode cX9_save 19 = .ok (.aload_n 0, 1) := by decide +kernel
theorem dX9_save_20 : decode cX9_save 20 = .ok (.iconst 1, 1) := by decide +kernel
theorem dX9_save_21 : decode cX9_save 21 = .ok (.putfield 77, 3) := by decide +kernel
theorem dX9_save_24 : decode cX9_save 24 = .ok (.aload_n 0, 1) := by decide +kernel
theorem dX9_save_25 : decode cX9_save 25 = .ok (.getfield 18, 3) := by decide +kernel
theorem dX9_save_28 : decode cX9_save 28 = .ok (.invokevirtual 311, 3) := by decide +kernel
theorem dX9_save_31 : decode cX9_save 31 = .ok (.ireturn, 1) := by decide +kernel
theorem dX9_restore_0 : decode cX9_restore 0 = .ok (.aload_n 0, 1) := by decide +kernel
theorem dX9_restore_1 : decode cX9_restore 1 = .ok (.getfield 77, 3) := by decide +kernel
theorem dX9_restore_4 : decode cX9_restore 4 = .ok (.ifCond .ne 14, 3) := by decide +kernel
theorem dX9_restore_7 : decode cX9_restore 7 = .ok (.new 147, 3) := by decide +kernel
theorem dX9_restore_10 : decode cX9_restore 10 = .ok (.dup, 1) := by decide +kernel
theorem dX9_restore_11 : decode cX9_restore 11 = .ok (.ldc_w 314, 3) := by decide +kernel
theorem dX9_restore_14 : decode cX9_restore 14 = .ok (.invokespecial 151, 3) := by decide +kernel
theorem dX9_restore_17 : decode cX9_restore 17 = .ok (.athrow, 1) := by decide +kernel
theorem dX9_restore_18 : decode cX9_restore 18 = .ok (.aload_n 0, 1) := by decide +kernel
theorem dX9_restore_19 : decode cX9_restore 19 = .ok (.getfield 14, 3) := by decide +kernel
theorem dX9_restore_22 : decode cX9_restore 22 = .ok (.aload_n 0, 1) := by decide +kernel
theorem dX9_restore_23 : decode cX9_restore 23 = .ok (.getfield 18, 3) := by decide +kernel
theorem dX9_restore_26 : decode cX9_restore 26 = .ok (.invokevirtual 307, 3) := by decide +kernel
theorem dX9_restore_29 : decode cX9_restore 29 = .ok (.aload_n 0, 1) := by decide +kernel
theorem dX9_restore_30 : decode cX9_restore 30 = .ok (.aload_n 0, 1) := by decide +kernel
theorem dX9_restore_31 : decode cX9_restore 31 = .ok (.getfield 74, 3) := by decide +kernel
theorem dX9_restore_34 : decode cX9_restore 34 = .ok (.putfield 70, 3) := by decide +kernel
theorem dX9_restore_37 : decode cX9_restore 37 = .ok (.aload_n 0, 1) := by decide +kernel
theorem dX9_restore_38 : decode cX9_restore 38 = .ok (.getfield 24, 3) := by decide +kernel
theorem dX9_restore_41 : decode cX9_restore 41 = .ok (.invokevirtual 316, 3) := by decide +kernel
theorem dX9_restore_44 : decode cX9_restore 44 = .ok (.aload_n 0, 1) := by decide +kernel
theorem dX9_restore_45 : decode cX9_restore 45 = .ok (.getfield 14, 3) := by decide +kernel
theorem dX9_restore_48 : decode cX9_restore 48 = .ok (.invokevirtual 311, 3) := by decide +kernel
theorem dX9_restore_51 : decode cX9_restore 51 = .ok (.ireturn, 1) := by decide +kernel
theorem dX9_document_0 : decode cX9_document 0 = .ok (.iload_n 1, 1) := by decide +kernel
theorem dX9_document_1 : decode cX9_document 1 = .ok (.ifCond .lt 8, 3) := by decide +kernel
theorem dX9_document_4 : decode cX9_document 4 = .ok (.iload_n 1, 1) := by decide +kernel
theorem dX9_document_5 : decode cX9_document 5 = .ok (.iconst 4, 1) := by decide +kernel
theorem dX9_document_6 : decode cX9_document 6 = .ok (.if_icmp .lt 14, 3) := by decide +kernel
theorem dX9_document_9 : decode cX9_document 9 = .ok (.new 168, 3) := by decide +kernel
theorem dX9_document_12 : decode cX9_document 12 = .ok (.dup, 1) := by decide +kernel
theorem dX9_document_13 : decode cX9_document 13 = .ok (.ldc_w 319, 3) := by decide +kernel
theorem dX9_document_16 : decode cX9_document 16 = .ok (.invokespecial 172, 3) := by decide +kernel
theorem dX9_document_19 : decode cX9_document 19 = .ok (.athrow, 1) := by decide +kernel
theorem dX9_document_20 : decode cX9_document 20 = .ok (.aload_n 0, 1) := by decide +kernel
theorem dX9_document_21 : decode cX9_document 21 = .ok (.getfield 14, 3) := by decide +kernel
theorem dX9_document_24 : decode cX9_document 24 = .ok (.iload_n 1, 1) := by decide +kernel
theorem dX9_document_25 : decode cX9_document 25 = .ok (.invokevirtual 321, 3) := by decide +kernel
theorem dX9_document_28 : decode cX9_document 28 = .ok (.areturn, 1) := by decide +kernel
theorem dX9_requireLine_0 : decode cX9_requireLine 0 = .ok (.iload_n 0, 1) := by decide +kernel
theorem dX9_requireLine_1 : decode cX9_requireLine 1 = .ok (.ifCond .lt 9, 3) := by decide +kernel
theorem dX9_requireLine_4 : decode cX9_requireLine 4 = .ok (.iload_n 0, 1) := by decide +kernel
theorem dX9_requireLine_5 : decode cX9_requireLine 5 = .ok (.bipush 25, 2) := by decide +kernel
theorem dX9_requireLine_7 : decode cX9_requireLine 7 = .ok (.if_icmp .le 14, 3) := by decide +kernel
theorem dX9_requireLine_10 : decode cX9_requireLine 10 = .ok (.new 168, 3) := by decide +kernel
theorem dX9_requireLine_13 : decode cX9_requireLine 13 = .ok (.dup, 1) := by decide +kernel
theorem dX9_requireLine_14 : decode cX9_requireLine 14 = .ok (.ldc_w 324, 3) := by decide +kernel
theorem dX9_requireLine_17 : decode cX9_requireLine 17 = .ok (.invokespecial 172, 3) := by decide +kernel
theorem dX9_requireLine_20 : decode cX9_requireLine 20 = .ok (.athrow, 1) := by decide +kernel
theorem dX9_requireLine_21 : decode cX9_requireLine 21 = .ok (.return_, 1) := by decide +kernel
theorem dX9_requireRoom_0 : decode cX9_requireRoom 0 = .ok (.aload_n 0, 1) := by decide +kernel
theorem dX9_requireRoom_1 : decode cX9_requireRoom 1 = .ok (.invokevirtual 102, 3) := by decide +kernel
theorem dX9_requireRoom_4 : decode cX9_requireRoom 4 = .ok (.bipush 24, 2) := by decide +kernel
theorem dX9_requireRoom_6 : decode cX9_requireRoom 6 = .ok (.if_icmp .lt 14, 3) := by decide +kernel
theorem dX9_requireRoom_9 : decode cX9_requireRoom 9 = .ok (.new 147, 3) := by decide +kernel
theorem dX9_requireRoom_12 : decode cX9_requireRoom 12 = .ok (.dup, 1) := by decide +kernel
theorem dX9_requireRoom_13 : decode cX9_requireRoom 13 = .ok (.ldc_w 326, 3) := by decide +kernel
theorem dX9_requireRoom_16 : decode cX9_requireRoom 16 = .ok (.invokespecial 151, 3) := by decide +kernel
theorem dX9_requireRoom_19 : decode cX9_requireRoom 19 = .ok (.athrow, 1) := by decide +kernel
theorem dX9_requireRoom_20 : decode cX9_requireRoom 20 = .ok (.return_, 1) := by decide +kernel
theorem dX9_requireComparison_0 : decode cX9_requireComparison 0 = .ok (.aload_n 0, 1) := by decide +kernel
theorem dX9_requireComparison_1 : decode cX9_requireComparison 1 = .ok (.getfield 52, 3) := by decide +kernel
theorem dX9_requireComparison_4 : decode cX9_requireComparison 4 = .ok (.invokevirtual 328, 3) := by decide +kernel
theorem dX9_requireComparison_7 : decode cX9_requireComparison 7 = .ok (.ifCond .ne 14, 3) := by decide +kernel
theorem dX9_requireComparison_10 : decode cX9_requireComparison 10 = .ok (.new 147, 3) := by decide +kernel
theorem dX9_requireComparison_13 : decode cX9_requireComparison 13 = .ok (.dup, 1) := by decide +kernel
theorem dX9_requireComparison_14 : decode cX9_requireComparison 14 = .ok (.ldc_w 331, 3) := by decide +kernel
theorem dX9_requireComparison_17 : decode cX9_requireComparison 17 = .ok (.invokespecial 151, 3) := by decide +kernel
theorem dX9_requireComparison_20 : decode cX9_requireComparison 20 = .ok (.athrow, 1) := by decide +kernel
theorem dX9_requireComparison_21 : decode cX9_requireComparison 21 = .ok (.return_, 1) := by decide +kernel
theorem dX9_requireMerge_0 : decode cX9_requireMerge 0 = .ok (.aload_n 0, 1) := by decide +kernel
theorem dX9_requireMerge_1 : decode cX9_requireMerge 1 = .ok (.getfield 59, 3) := by decide +kernel
theorem dX9_requireMerge_4 : decode cX9_requireMerge 4 = .ok (.invokevirtual 333, 3) := by decide +kernel
theorem dX9_requireMerge_7 : decode cX9_requireMerge 7 = .ok (.ifCond .ne 14, 3) := by decide +kernel
theorem dX9_requireMerge_10 : decode cX9_requireMerge 10 = .ok (.new 147, 3) := by decide +kernel
theorem dX9_requireMerge_13 : decode cX9_requireMerge 13 = .ok (.dup, 1) := by decide +kernel
theorem dX9_requireMerge_14 : decode cX9_requireMerge 14 = .ok (.ldc_w 334, 3) := by decide +kernel
theorem dX9_requireMerge_17 : decode cX9_requireMerge 17 = .ok (.invokespecial 151, 3) := by decide +kernel
theorem dX9_requireMerge_20 : decode cX9_requireMerge 20 = .ok (.athrow, 1) := by decide +kernel
theorem dX9_requireMerge_21 : decode cX9_requireMerge 21 = .ok (.return_, 1) := by decide +kernel
theorem dX9_requirePatch_0 : decode cX9_requirePatch 0 = .ok (.aload_n 0, 1) := by decide +kernel
theorem dX9_requirePatch_1 : decode cX9_requirePatch 1 = .ok (.getfield 66, 3) := by decide +kernel
theorem dX9_requirePatch_4 : decode cX9_requirePatch 4 = .ok (.invokevirtual 336, 3) := by decide +kernel
theorem dX9_requirePatch_7 : decode cX9_requirePatch 7 = .ok (.ifCond .ne 14, 3) := by decide +kernel
theorem dX9_requirePatch_10 : decode cX9_requirePatch 10 = .ok (.new 147, 3) := by decide +kernel
theorem dX9_requirePatch_13 : decode cX9_requirePatch 13 = .ok (.dup, 1) := by decide +kernel
theorem dX9_requirePatch_14 : decode cX9_requirePatch 14 = .ok (.ldc_w 337, 3) := by decide +kernel
theorem dX9_requirePatch_17 : decode cX9_requirePatch 17 = .ok (.invokespecial 151, 3) := by decide +kernel
theorem dX9_requirePatch_20 : decode cX9_requirePatch 20 = .ok (.athrow, 1) := by decide +kernel
theorem dX9_requirePatch_21 : decode cX9_requirePatch 21 = .ok (.return_, 1) := by decide +kernel
theorem dX9_property_0 : decode cX9_property 0 = .ok (.aload_n 0, 1) := by decide +kernel
theorem dX9_property_1 : decode cX9_property 1 = .ok (.iload_n 1, 1) := by decide +kernel
theorem dX9_property_2 : decode cX9_property 2 = .ok (.invokevirtual 289, 3) := by decide +kernel
theorem dX9_property_5 : decode cX9_property 5 = .ok (.ifCond .ne 14, 3) := by decide +kernel
theorem dX9_property_8 : decode cX9_property 8 = .ok (.new 106, 3) := by decide +kernel
theorem dX9_property_11 : decode cX9_property 11 = .ok (.dup, 1) := by decide +kernel
theorem dX9_property_12 : decode cX9_property 12 = .ok (.ldc_w 259, 3) := by decide +kernel
theorem dX9_property_15 : decode cX9_property 15 = .ok (.invokespecial 110, 3) := by decide +kernel
theorem dX9_property_18 : decode cX9_property 18 = .ok (.athrow, 1) := by decide +kernel
theorem dX9_property_19 : decode cX9_property 19 = .ok (.iload_n 2, 1) := by decide +kernel
theorem dX9_property_20 : decode cX9_property 20 = .ok (.ifCond .lt 8, 3) := by decide +kernel
theorem dX9_property_23 : decode cX9_property 23 = .ok (.iload_n 2, 1) := by decide +kernel
theorem dX9_property_24 : decode cX9_property 24 = .ok (.iload_n 3, 1) := by decide +kernel
theorem dX9_property_25 : decode cX9_property 25 = .ok (.if_icmp .lt 14, 3) := by decide +kernel
theorem dX9_property_28 : decode cX9_property 28 = .ok (.new 168, 3) := by decide +kernel
theorem dX9_property_31 : decode cX9_property 31 = .ok (.dup, 1) := by decide +kernel
theorem dX9_property_32 : decode cX9_property 32 = .ok (.ldc_w 294, 3) := by decide +kernel
theorem dX9_property_35 : decode cX9_property 35 = .ok (.invokespecial 172, 3) := by decide +kernel
theorem dX9_property_38 : decode cX9_property 38 = .ok (.athrow, 1) := by decide +kernel
theorem dX9_property_39 : decode cX9_property 39 = .ok (.aload_n 0, 1) := by decide +kernel
theorem dX9_property_40 : decode cX9_property 40 = .ok (.iload_n 1, 1) := by decide +kernel
theorem dX9_property_41 : decode cX9_property 41 = .ok (.iload_n 2, 1) := by decide +kernel
theorem dX9_property_42 : decode cX9_property 42 = .ok (.invokevirtual 296, 3) := by decide +kernel
theorem dX9_property_45 : decode cX9_property 45 = .ok (.ireturn, 1) := by decide +kernel
theorem dX9_changeTo_0 : decode cX9_changeTo 0 = .ok (.aload_n 0, 1) := by decide +kernel
theorem dX9_changeTo_1 : decode cX9_changeTo 1 = .ok (.getfield 24, 3) := by decide +kernel
theorem dX9_changeTo_4 : decode cX9_changeTo 4 = .ok (.iload_n 1, 1) := by decide +kernel
theorem dX9_changeTo_5 : decode cX9_changeTo 5 = .ok (.aload_n 2, 1) := by decide +kernel
theorem dX9_changeTo_6 : decode cX9_changeTo 6 = .ok (.invokevirtual 95, 3) := by decide +kernel
theorem dX9_changeTo_9 : decode cX9_changeTo 9 = .ok (.aload_n 2, 1) := by decide +kernel
theorem dX9_changeTo_10 : decode cX9_changeTo 10 = .ok (.aload_n 3, 1) := by decide +kernel
theorem dX9_changeTo_11 : decode cX9_changeTo 11 = .ok (.invokevirtual 339, 3) := by decide +kernel
theorem dX9_changeTo_14 : decode cX9_changeTo 14 = .ok (.aload_n 2, 1) := by decide +kernel
theorem dX9_changeTo_15 : decode cX9_changeTo 15 = .ok (.invokevirtual 102, 3) := by decide +kernel
theorem dX9_changeTo_18 : decode cX9_changeTo 18 = .ok (.ireturn, 1) := by decide +kernel
theorem dX10_init_0 : decode cX10_init 0 = .ok (.aload_n 0, 1) := by decide +kernel
theorem dX10_init_1 : decode cX10_init 1 = .ok (.invokespecial 1, 3) := by decide +kernel
theorem dX10_init_4 : decode cX10_init 4 = .ok (.aload_n 0, 1) := by decide +kernel
theorem dX10_init_5 : decode cX10_init 5 = .ok (.bipush 96, 2) := by decide +kernel
theorem dX10_init_7 : decode cX10_init 7 = .ok (.newarray .int, 2) := by decide +kernel
theorem dX10_init_9 : decode cX10_init 9 = .ok (.putfield 7, 3) := by decide +kernel
theorem dX10_init_12 : decode cX10_init 12 = .ok (.aload_n 0, 1) := by decide +kernel
theorem dX10_init_13 : decode cX10_init 13 = .ok (.iconst 4, 1) := by decide +kernel
theorem dX10_init_14 : decode cX10_init 14 = .ok (.newarray .int, 2) := by decide +kernel
theorem dX10_init_16 : decode cX10_init 16 = .ok (.putfield 13, 3) := by decide +kernel
theorem dX10_init_19 : decode cX10_init 19 = .ok (.aload_n 0, 1) := by decide +kernel
theorem dX10_init_20 : decode cX10_init 20 = .ok (.iconst 1, 1) := by decide +kernel
theorem dX10_init_21 : decode cX10_init 21 = .ok (.putfield 16, 3) := by decide +kernel
theorem dX10_init_24 : decode cX10_init 24 = .ok (.aload_n 0, 1) := by decide +kernel
theorem dX10_init_25 : decode cX10_init 25 = .ok (.bipush 50, 2) := by decide +kernel
theorem dX10_init_27 : decode cX10_init 27 = .ok (.newarray .char, 2) := by decide +kernel
theorem dX10_init_29 : decode cX10_init 29 = .ok (.putfield 20, 3) := by decide +kernel
theorem dX10_init_32 : decode cX10_init 32 = .ok (.aload_n 0, 1) := by decide +kernel
theorem dX10_init_33 : decode cX10_init 33 = .ok (.bipush 8, 2) := by decide +kernel
theorem dX10_init_35 : decode cX10_init 35 = .ok (.newarray .int, 2) := by decide +kernel
theorem dX10_init_37 : decode cX10_init 37 = .ok (.putfield 24, 3) := by decide +kernel
theorem dX10_init_40 : decode cX10_init 40 = .ok (.aload_n 0, 1) := by decide +kernel
theorem dX10_init_41 : decode cX10_init 41 = .ok (.bipush 8, 2) := by decide +kernel
theorem dX10_init_43 : decode cX10_init 43 = .ok (.newarray .int, 2) := by decide +kernel
theorem dX10_init_45 : decode cX10_init 45 = .ok (.putfield 27, 3) := by decide +kernel
theorem dX10_init_48 : decode cX10_init 48 = .ok (.aload_n 0, 1) := by decide +kernel
theorem dX10_init_49 : decode cX10_init 49 = .ok (.sipush 192, 3) := by decide +kernel
theorem dX10_init_52 : decode cX10_init 52 = .ok (.newarray .int, 2) := by decide +kernel
theorem dX10_init_54 : decode cX10_init 54 = .ok (.putfield 30, 3) := by decide +kernel
theorem dX10_init_57 : decode cX10_init 57 = .ok (.aload_n 0, 1) := by decide +kernel
theorem dX10_init_58 : decode cX10_init 58 = .ok (.bipush 96, 2) := by decide +kernel
theorem dX10_init_60 : decode cX10_init 60 = .ok (.newarray .int, 2) := by decide +kernel
theorem dX10_init_62 : decode cX10_init 62 = .ok (.putfield 33, 3) := by decide +kernel
theorem dX10_init_65 : decode cX10_init 65 = .ok (.aload_n 0, 1) := by decide +kernel
theorem dX10_init_66 : decode cX10_init 66 = .ok (.iconst 4, 1) := by decide +kernel
theorem dX10_init_67 : decode cX10_init 67 = .ok (.newarray .int, 2) := by decide +kernel
theorem dX10_init_69 : decode cX10_init 69 = .ok (.putfield 36, 3) := by decide +kernel
theorem dX10_init_72 : decode cX10_init 72 = .ok (.aload_n 0, 1) := by decide +kernel
theorem dX10_init_73 : decode cX10_init 73 = .ok (.sipush 2000, 3) := by decide +kernel
theorem dX10_init_76 : decode cX10_init 76 = .ok (.newarray .int, 2) := by decide +kernel
theorem dX10_init_78 : decode cX10_init 78 = .ok (.putfield 39, 3) := by decide +kernel
theorem dX10_init_81 : decode cX10_init 81 = .ok (.aload_n 0, 1) := by decide +kernel
theorem dX10_init_82 : decode cX10_init 82 = .ok (.sipush 625, 3) := by decide +kernel
theorem dX10_init_85 : decode cX10_init 85 = .ok (.newarray .int, 2) := by decide +kernel
theorem dX10_init_87 : decode cX10_init 87 = .ok (.putfield 42, 3) := by decide +kernel
theorem dX10_init_90 : decode cX10_init 90 = .ok (.aload_n 0, 1) := by decide +kernel
theorem dX10_init_91 : decode cX10_init 91 = .ok (.bipush 24, 2) := by decide +kernel
theorem dX10_init_93 : decode cX10_init 93 = .ok (.newarray .int, 2) := by decide +kernel
theorem dX10_init_95 : decode cX10_init 95 = .ok (.putfield 45, 3) := by decide +kernel
theorem dX10_init_98 : decode cX10_init 98 = .ok (.aload_n 0, 1) := by decide +kernel
theorem dX10_init_99 : decode cX10_init 99 = .ok (.bipush 24, 2) := by decide +kernel
theorem dX10_init_101 : decode cX10_init 101 = .ok (.newarray .int, 2) := by decide +kernel
theorem dX10_init_103 : decode cX10_init 103 = .ok (.putfield 48, 3) := by decide +kernel
theorem dX10_init_106 : decode cX10_init 106 = .ok (.aload_n 0, 1) := by decide +kernel
theorem dX10_init_107 : decode cX10_init 107 = .ok (.bipush 24, 2) := by decide +kernel
theorem dX10_init_109 : decode cX10_init 109 = .ok (.newarray .int, 2) := by decide +kernel
theorem dX10_init_111 : decode cX10_init 111 = .ok (.putfield 51, 3) := by decide +kernel
theorem dX10_init_114 : decode cX10_init 114 = .ok (.aload_n 0, 1) := by decide +kernel
theorem dX10_init_115 : decode cX10_init 115 = .ok (.bipush 24, 2) := by decide +kernel
theorem dX10_init_117 : decode cX10_init 117 = .ok (.newarray .int, 2) := by decide +kernel
theorem dX10_init_119 : decode cX10_init 119 = .ok (.putfield 54, 3) := by decide +kernel
theorem dX10_init_122 : decode cX10_init 122 = .ok (.aload_n 0, 1) := by decide +kernel
theorem dX10_init_123 : decode cX10_init 123 = .ok (.bipush 24, 2) := by decide +kernel
theorem dX10_init_125 : decode cX10_init 125 = .ok (.newarray .int, 2) := by decide +kernel
theorem dX10_init_127 : decode cX10_init 127 = .ok (.putfield 57, 3) := by decide +kernel
theorem dX10_init_130 : decode cX10_init 130 = .ok (.aload_n 0, 1) := by decide +kernel
theorem dX10_init_131 : decode cX10_init 131 = .ok (.bipush 24, 2) := by decide +kernel
theorem dX10_init_133 : decode cX10_init 133 = .ok (.newarray .int, 2) := by decide +kernel
theorem dX10_init_135 : decode cX10_init 135 = .ok (.putfield 60, 3) := by decide +kernel
theorem dX10_init_138 : decode cX10_init 138 = .ok (.aload_n 0, 1) := by decide +kernel
theorem dX10_init_139 : decode cX10_init 139 = .ok (.bipush 24, 2) := by decide +kernel
theorem dX10_init_141 : decode cX10_init 141 = .ok (.newarray .int, 2) := by decide +kernel
theorem dX10_init_143 : decode cX10_init 143 = .ok (.putfield 63, 3) := by decide +kernel
theorem dX10_init_146 : decode cX10_init 146 = .ok (.aload_n 0, 1) := by decide +kernel
theorem dX10_init_147 : decode cX10_init 147 = .ok (.bipush 72, 2) := by decide +kernel
theorem dX10_init_149 : decode cX10_init 149 = .ok (.newarray .int, 2) := by decide +kernel
theorem dX10_init_151 : decode cX10_init 151 = .ok (.putfield 66, 3) := by decide +kernel
theorem dX10_init_154 : decode cX10_init 154 = .ok (.aload_n 0, 1) := by decide +kernel
theorem dX10_init_155 : decode cX10_init 155 = .ok (.bipush 120, 2) := by decide +kernel
theorem dX10_init_157 : decode cX10_init 157 = .ok (.newarray .int, 2) := by decide +kernel
theorem dX10_init_159 : decode cX10_init 159 = .ok (.putfield 69, 3) := by decide +kernel
theorem dX10_init_162 : decode cX10_init 162 = .ok (.aload_n 0, 1) := by decide +kernel
theorem dX10_init_163 : decode cX10_init 163 = .ok (.bipush 24, 2) := by decide +kernel
theorem dX10_init_165 : decode cX10_init 165 = .ok (.newarray .boolean, 2) := by decide +kernel
theorem dX10_init_167 : decode cX10_init 167 = .ok (.putfield 72, 3) := by decide +kernel
theorem dX10_init_170 : decode cX10_init 170 = .ok (.aload_n 0, 1) := by decide +kernel
theorem dX10_init_171 : decode cX10_init 171 = .ok (.bipush 24, 2) := by decide +kernel
theorem dX10_init_173 : decode cX10_init 173 = .ok (.newarray .boolean, 2) := by decide +kernel
theorem dX10_init_175 : decode cX10_init 175 = .ok (.putfield 76, 3) := by decide +kernel
theorem dX10_init_178 : decode cX10_init 178 = .ok (.aload_n 0, 1) := by decide +kernel
theorem dX10_init_179 : decode cX10_init 179 = .ok (.bipush 24, 2) := by decide +kernel
theorem dX10_init_181 : decode cX10_init 181 = .ok (.newarray .int, 2) := by decide +kernel
theorem dX10_init_183 : decode cX10_init 183 = .ok (.putfield 79, 3) := by decide +kernel
theorem dX10_init_186 : decode cX10_init 186 = .ok (.aload_n 0, 1) := by decide +kernel
theorem dX10_init_187 : decode cX10_init 187 = .ok (.bipush 24, 2) := by decide +kernel
theorem dX10_init_189 : decode cX10_init 189 = .ok (.newarray .int, 2) := by decide +kernel
theorem dX10_init_191 : decode cX10_init 191 = .ok (.putfield 82, 3) := by decide +kernel
theorem dX10_init_194 : decode cX10_init 194 = .ok (.aload_n 0, 1) := by decide +kernel
theorem dX10_init_195 : decode cX10_init 195 = .ok (.bipush 24, 2) := by decide +kernel
theorem dX10_init_197 : decode cX10_init 197 = .ok (.newarray .int, 2) := by decide +kernel
theorem dX10_init_199 : decode cX10_init 199 = .ok (.putfield 85, 3) := by decide +kernel
theorem dX10_init_202 : decode cX10_init 202 = .ok (.aload_n 0, 1) := by decide +kernel
theorem dX10_init_203 : decode cX10_init 203 = .ok (.bipush 24, 2) := by decide +kernel
theorem dX10_init_205 : decode cX10_init 205 = .ok (.newarray .int, 2) := by decide +kernel
theorem dX10_init_207 : decode cX10_init 207 = .ok (.putfield 88, 3) := by decide +kernel
theorem dX10_init_210 : decode cX10_init 210 = .ok (.aload_n 0, 1) := by decide +kernel
theorem dX10_init_211 : decode cX10_init 211 = .ok (.bipush 24, 2) := by decide +kernel
theorem dX10_init_213 : decode cX10_init 213 = .ok (.newarray .int, 2) := by decide +kernel
theorem dX10_init_215 : decode cX10_init 215 = .ok (.putfield 91, 3) := by decide +kernel
theorem dX10_init_218 : decode cX10_init 218 = .ok (.aload_n 0, 1) := by decide +kernel
theorem dX10_init_219 : decode cX10_init 219 = .ok (.sipush 700, 3) := by decide +kernel
theorem dX10_init_222 : decode cX10_init 222 = .ok (.newarray .int, 2) := by decide +kernel
theorem dX10_init_224 : decode cX10_init 224 = .ok (.putfield 94, 3) := by decide +kernel
theorem dX10_init_227 : decode cX10_init 227 = .ok (.aload_n 0, 1) := by decide +kernel
theorem dX10_init_228 : decode cX10_init 228 = .ok (.bipush 100, 2) := by decide +kernel
theorem dX10_init_230 : decode cX10_init 230 = .ok (.newarray .int, 2) := by decide +kernel
theorem dX10_init_232 : decode cX10_init 232 = .ok (.putfield 97, 3) := by decide +kernel
theorem dX10_init_235 : decode cX10_init 235 = .ok (.aload_n 0, 1) := by decide +kernel
theorem dX10_init_236 : decode cX10_init 236 = .ok (.sipush 150, 3) := by decide +kernel
theorem dX10_init_239 : decode cX10_init 239 = .ok (.newarray .int, 2) := by decide +kernel
theorem dX10_init_241 : decode cX10_init 241 = .ok (.putfield 100, 3) := by decide +kernel
theorem dX10_init_244 : decode cX10_init 244 = .ok (.aload_n 0, 1) := by decide +kernel
theorem dX10_init_245 : decode cX10_init 245 = .ok (.bipush 24, 2) := by decide +kernel
theorem dX10_init_247 : decode cX10_init 247 = .ok (.newarray .int, 2) := by decide +kernel
theorem dX10_init_249 : decode cX10_init 249 = .ok (.putfield 103, 3) := by decide +kernel
theorem dX10_init_252 : decode cX10_init 252 = .ok (.aload_n 0, 1) := by decide +kernel
theorem dX10_init_253 : decode cX10_init 253 = .ok (.bipush 24, 2) := by decide +kernel
theorem dX10_init_255 : decode cX10_init 255 = .ok (.newarray .int, 2) := by decide +kernel
theorem dX10_init_257 : decode cX10_init 257 = .ok (.putfield 106, 3) := by decide +kernel
theorem dX10_init_260 : decode cX10_init 260 = .ok (.aload_n 0, 1) := by decide +kernel
theorem dX10_init_261 : decode cX10_init 261 = .ok (.bipush 50, 2) := by decide +kernel
theorem dX10_init_263 : decode cX10_init 263 = .ok (.newarray .int, 2) := by decide +kernel
theorem dX10_init_265 : decode cX10_init 265 = .ok (.putfield 109, 3) := by decide +kernel
theorem dX10_init_268 : decode cX10_init 268 = .ok (.aload_n 0, 1) := by decide +kernel
theorem dX10_init_269 : decode cX10_init 269 = .ok (.bipush 50, 2) := by decide +kernel
theorem dX10_init_271 : decode cX10_init 271 = .ok (.newarray .int, 2) := by decide +kernel
theorem dX10_init_273 : decode cX10_init 273 = .ok (.putfield 112, 3) := by decide +kernel
theorem dX10_init_276 : decode cX10_init 276 = .ok (.return_, 1) := by decide +kernel
theorem dX10_thrown_0 : decode cX10_thrown 0 = .ok (.aload_n 0, 1) := by decide +kernel
theorem dX10_thrown_1 : decode cX10_thrown 1 = .ok (.getfield 115, 3) := by decide +kernel
theorem dX10_thrown_4 : decode cX10_thrown 4 = .ok (.ireturn, 1) := by decide +kernel
theorem dX10_in_0 : decode cX10_in 0 = .ok (.iload_n 0, 1) := by decide +kernel
theorem dX10_in_1 : decode cX10_in 1 = .ok (.iload_n 1, 1) := by decide +kernel
theorem dX10_in_2 : decode cX10_in 2 = .ok (.if_icmp .lt 12, 3) := by decide +kernel
theorem dX10_in_5 : decode cX10_in 5 = .ok (.iload_n 0, 1) := by decide +kernel
theorem dX10_in_6 : decode cX10_in 6 = .ok (.iload_n 2, 1) := by decide +kernel
theorem dX10_in_7 : decode cX10_in 7 = .ok (.if_icmp .gt 7, 3) := by decide +kernel
theorem dX10_in_10 : decode cX10_in 10 = .ok (.iconst 1, 1) := by decide +kernel
theorem dX10_in_11 : decode cX10_in 11 = .ok (.goto 4, 3) := by decide +kernel
theorem dX10_in_14 : decode cX10_in 14 = .ok (.iconst 0, 1) := by decide +kernel
theorem dX10_in_15 : decode cX10_in 15 = .ok (.ireturn, 1) := by decide +kernel
theorem dX10_fails_0 : decode cX10_fails 0 = .ok (.aload_n 0, 1) := by decide +kernel
theorem dX10_fails_1 : decode cX10_fails 1 = .ok (.iload_n 1, 1) := by decide +kernel
theorem dX10_fails_2 : decode cX10_fails 2 = .ok (.putfield 115, 3) := by decide +kernel
theorem dX10_fails_5 : decode cX10_fails 5 = .ok (.iconst 0, 1) := by decide +kernel
theorem dX10_fails_6 : decode cX10_fails 6 = .ok (.ireturn, 1) := by decide +kernel
theorem dX10_done_0 : decode cX10_done 0 = .ok (.aload_n 0, 1) := by decide +kernel
theorem dX10_done_1 : decode cX10_done 1 = .ok (.iconst 0, 1) := by decide +kernel
theorem dX10_done_2 : decode cX10_done 2 = .ok (.putfield 115, 3) := by decide +kernel
theorem dX10_done_5 : decode cX10_done 5 = .ok (.iload_n 1, 1) := by decide +kernel
theorem dX10_done_6 : decode cX10_done 6 = .ok (.ireturn, 1) := by decide +kernel
theorem dX10_not_0 : decode cX10_not 0 = .ok (.aload_n 0, 1) := by decide +kernel
theorem dX10_not_1 : decode cX10_not 1 = .ok (.iload_n 1, 1) := by decide +kernel
theorem dX10_not_2 : decode cX10_not 2 = .ok (.putfield 115, 3) := by decide +kernel
theorem dX10_not_5 : decode cX10_not 5 = .ok (.iconst 0, 1) := by decide +kernel
theorem dX10_not_6 : decode cX10_not 6 = .ok (.ireturn, 1) := by decide +kernel
theorem dX10_so_0 : decode cX10_so 0 = .ok (.aload_n 0, 1) := by decide +kernel
theorem dX10_so_1 : decode cX10_so 1 = .ok (.iconst 0, 1) := by decide +kernel
theorem dX10_so_2 : decode cX10_so 2 = .ok (.putfield 115, 3) := by decide +kernel
theorem dX10_so_5 : decode cX10_so 5 = .ok (.iload_n 1, 1) := by decide +kernel
theorem dX10_so_6 : decode cX10_so 6 = .ok (.ireturn, 1) := by decide +kernel
theorem dX10_isRegister_0 : decode cX10_isRegister 0 = .ok (.iload_n 0, 1) := by decide +kernel
theorem dX10_isRegister_1 : decode cX10_isRegister 1 = .ok (.iconst 0, 1) := by decide +kernel
theorem dX10_isRegister_2 : decode cX10_isRegister 2 = .ok (.iconst 3, 1) := by decide +kernel
theorem dX10_isRegister_3 : decode cX10_isRegister 3 = .ok (.invokestatic 119, 3) := by decide +kernel
theorem dX10_isRegister_6 : decode cX10_isRegister 6 = .ok (.ireturn, 1) := by decide +kernel
theorem dX10_remembers_0 : decode cX10_remembers 0 = .ok (.aload_n 0, 1) := by decide +kernel
theorem dX10_remembers_1 : decode cX10_remembers 1 = .ok (.getfield 123, 3) := by decide +kernel
theorem dX10_remembers_4 : decode cX10_remembers 4 = .ok (.bipush 8, 2) := by decide +kernel
theorem dX10_remembers_6 : decode cX10_remembers 6 = .ok (.if_icmp .ne 85, 3) := by decide +kernel
theorem dX10_remembers_9 : decode cX10_remembers 9 = .ok (.iconst 0, 1) := by decide +kernel
theorem dX10_remembers_10 : decode cX10_remembers 10 = .ok (.istore_n 2, 1) := by decide +kernel
theorem dX10_remembers_11 : decode cX10_remembers 11 = .ok (.iload_n 2, 1) := by decide +kernel
theorem dX10_remembers_12 : decode cX10_remembers 12 = .ok (.bipush 7, 2) := by decide +kernel
theorem dX10_remembers_14 : decode cX10_remembers 14 = .ok (.if_icmp .ge 37, 3) := by decide +kernel
theorem dX10_remembers_17 : decode cX10_remembers 17 = .ok (.aload_n 0, 1) := by decide +kernel
theorem dX10_remembers_18 : decode cX10_remembers 18 = .ok (.getfield 24, 3) := by decide +kernel
theorem dX10_remembers_21 : decode cX10_remembers 21 = .ok (.iload_n 2, 1) := by decide +kernel
theorem dX10_remembers_22 : decode cX10_remembers 22 = .ok (.aload_n 0, 1) := by decide +kernel
theorem dX10_remembers_23 : decode cX10_remembers 23 = .ok (.getfield 24, 3) := by decide +kernel
theorem dX10_remembers_26 : decode cX10_remembers 26 = .ok (.iload_n 2, 1) := by decide +kernel
theorem dX10_remembers_27 : decode cX10_remembers 27 = .ok (.iconst 1, 1) := by decide +kernel
theorem dX10_remembers_28 : decode cX10_remembers 28 = .ok (.iadd, 1) := by decide +kernel
theorem dX10_remembers_29 : decode cX10_remembers 29 = .ok (.iaload, 1) := by decide +kernel
theorem dX10_remembers_30 : decode cX10_remembers 30 = .ok (.iastore, 1) := by decide +kernel
theorem dX10_remembers_31 : decode cX10_remembers 31 = .ok (.aload_n 0, 1) := by decide +kernel
theorem dX10_remembers_32 : decode cX10_remembers 32 = .ok (.getfield 27, 3) := by decide +kernel
theorem dX10_remembers_35 : decode cX10_remembers 35 = .ok (.iload_n 2, 1) := by decide +kernel
theorem dX10_remembers_36 : decode cX10_remembers 36 = .ok (.aload_n 0, 1) := by decide +kernel
theorem dX10_remembers_37 : decode cX10_remembers 37 = .ok (.getfield 27, 3) := by decide +kernel
theorem dX10_remembers_40 : decode cX10_remembers 40 = .ok (.iload_n 2, 1) := by decide +kernel
theorem dX10_remembers_41 : decode cX10_remembers 41 = .ok (.iconst 1, 1) := by decide +kernel
theorem dX10_remembers_42 : decode cX10_remembers 42 = .ok (.iadd, 1) := by decide +kernel
theorem dX10_remembers_43 : decode cX10_remembers 43 = .ok (.iaload, 1) := by decide +kernel
theorem dX10_remembers_44 : decode cX10_remembers 44 = .ok (.iastore, 1) := by decide +kernel
theorem dX10_remembers_45 : decode cX10_remembers 45 = .ok (.iinc 2 1, 3) := by decide +kernel
theorem dX10_remembers_48 : decode cX10_remembers 48 = .ok (.goto (-37), 3) := by decide +kernel
theorem dX10_remembers_51 : decode cX10_remembers 51 = .ok (.iconst 0, 1) := by decide +kernel
theorem dX10_remembers_52 : decode cX10_remembers 52 = .ok (.istore_n 2, 1) := by decide +kernel
theorem dX10_remembers_53 : decode cX10_remembers 53 = .ok (.iload_n 2, 1) := by decide +kernel
theorem dX10_remembers_54 : decode cX10_remembers 54 = .ok (.sipush 168, 3) := by decide +kernel
theorem dX10_remembers_57 : decode cX10_remembers 57 = .ok (.if_icmp .ge 24, 3) := by decide +kernel
theorem dX10_remembers_60 : decode cX10_remembers 60 = .ok (.aload_n 0, 1) := by decide +kernel
theorem dX10_remembers_61 : decode cX10_remembers 61 = .ok (.getfield 30, 3) := by decide +kernel
theorem dX10_remembers_64 : decode cX10_remembers 64 = .ok (.iload_n 2, 1) := by decide +kernel
theorem dX10_remembers_65 : decode cX10_remembers 65 = .ok (.aload_n 0, 1) := by decide +kernel
theorem dX10_remembers_66 : decode cX10_remembers 66 = .ok (.getfield 30, 3) := by decide +kernel
theorem dX10_remembers_69 : decode cX10_remembers 69 = .ok (.iload_n 2, 1) := by decide +kernel
theorem dX10_remembers_70 : decode cX10_remembers 70 = .ok (.bipush 24, 2) := by decide +kernel
theorem dX10_remembers_72 : decode cX10_remembers 72 = .ok (.iadd, 1) := by decide +kernel
theorem dX10_remembers_73 : decode cX10_remembers 73 = .ok (.iaload, 1) := by decide +kernel
theorem dX10_remembers_74 : decode cX10_remembers 74 = .ok (.iastore, 1) := by decide +kernel
theorem dX10_remembers_75 : decode cX10_remembers 75 = .ok (.iinc 2 1, 3) := by decide +kernel
theorem dX10_remembers_78 : decode cX10_remembers 78 = .ok (.goto (-25), 3) := by decide +kernel
theorem dX10_remembers_81 : decode cX10_remembers 81 = .ok (.aload_n 0, 1) := by decide +kernel
theorem dX10_remembers_82 : decode cX10_remembers 82 = .ok (.dup, 1) := by decide +kernel
theorem dX10_remembers_83 : decode cX10_remembers 83 = .ok (.getfield 123, 3) := by decide +kernel
theorem dX10_remembers_86 : decode cX10_remembers 86 = .ok (.iconst 1, 1) := by decide +kernel
theorem dX10_remembers_87 : decode cX10_remembers 87 = .ok (.isub, 1) := by decide +kernel
theorem dX10_remembers_88 : decode cX10_remembers 88 = .ok (.putfield 123, 3) := by decide +kernel
theorem dX10_remembers_91 : decode cX10_remembers 91 = .ok (.aload_n 0, 1) := by decide +kernel
theorem dX10_remembers_92 : decode cX10_remembers 92 = .ok (.getfield 24, 3) := by decide +kernel
theorem dX10_remembers_95 : decode cX10_remembers 95 = .ok (.aload_n 0, 1) := by decide +kernel
theorem dX10_remembers_96 : decode cX10_remembers 96 = .ok (.getfield 123, 3) := by decide +kernel
theorem dX10_remembers_99 : decode cX10_remembers 99 = .ok (.iload_n 1, 1) := by decide +kernel
theorem dX10_remembers_100 : decode cX10_remembers 100 = .ok (.iastore, 1) := by decide +kernel
theorem dX10_remembers_101 : decode cX10_remembers 101 = .ok (.aload_n 0, 1) := by decide +kernel
theorem dX10_remembers_102 : decode cX10_remembers 102 = .ok (.getfield 27, 3) := by decide +kernel
theorem dX10_remembers_105 : decode cX10_remembers 105 = .ok (.aload_n 0, 1) := by decide +kernel
theorem dX10_remembers_106 : decode cX10_remembers 106 = .ok (.getfield 123, 3) := by decide +kernel
theorem dX10_remembers_109 : decode cX10_remembers 109 = .ok (.aload_n 0, 1) := by decide +kernel
theorem dX10_remembers_110 : decode cX10_remembers 110 = .ok (.getfield 13, 3) := by decide +kernel
theorem dX10_remembers_113 : decode cX10_remembers 113 = .ok (.iload_n 1, 1) := by decide +kernel
theorem dX10_remembers_114 : decode cX10_remembers 114 = .ok (.iaload, 1) := by decide +kernel
theorem dX10_remembers_115 : decode cX10_remembers 115 = .ok (.iastore, 1) := by decide +kernel
theorem dX10_remembers_116 : decode cX10_remembers 116 = .ok (.iconst 0, 1) := by decide +kernel
theorem dX10_remembers_117 : decode cX10_remembers 117 = .ok (.istore_n 2, 1) := by decide +kernel
theorem dX10_remembers_118 : decode cX10_remembers 118 = .ok (.iload_n 2, 1) := by decide +kernel
theorem dX10_remembers_119 : decode cX10_remembers 119 = .ok (.bipush 24, 2) := by decide +kernel
theorem dX10_remembers_121 : decode cX10_remembers 121 = .ok (.if_icmp .ge 34, 3) := by decide +kernel
theorem dX10_remembers_124 : decode cX10_remembers 124 = .ok (.aload_n 0, 1) := by decide +kernel
theorem dX10_remembers_125 : decode cX10_remembers 125 = .ok (.getfield 30, 3) := by decide +kernel
theorem dX10_remembers_128 : decode cX10_remembers 128 = .ok (.bipush 24, 2) := by decide +kernel
theorem dX10_remembers_130 : decode cX10_remembers 130 = .ok (.aload_n 0, 1) := by decide +kernel
theorem dX10_remembers_131 : decode cX10_remembers 131 = .ok (.getfield 123, 3) := by decide +kernel
theorem dX10_remembers_134 : decode cX10_remembers 134 = .ok (.imul, 1) := by decide +kernel
theorem dX10_remembers_135 : decode cX10_remembers 135 = .ok (.iload_n 2, 1) := by decide +kernel
theorem dX10_remembers_136 : decode cX10_remembers 136 = .ok (.iadd, 1) := by decide +kernel
theorem dX10_remembers_137 : decode cX10_remembers 137 = .ok (.aload_n 0, 1) := by decide +kernel
theorem dX10_remembers_138 : decode cX10_remembers 138 = .ok (.getfield 7, 3) := by decide +kernel
theorem dX10_remembers_141 : decode cX10_remembers 141 = .ok (.bipush 24, 2) := by decide +kernel
theorem dX10_remembers_143 : decode cX10_remembers 143 = .ok (.iload_n 1, 1) := by decide +kernel
theorem dX10_remembers_144 : decode cX10_remembers 144 = .ok (.imul, 1) := by decide +kernel
theorem dX10_remembers_145 : decode cX10_remembers 145 = .ok (.iload_n 2, 1) := by decide +kernel
theorem dX10_remembers_146 : decode cX10_remembers 146 = .ok (.iadd, 1) := by decide +kernel
theorem dX10_remembers_147 : decode cX10_remembers 147 = .ok (.iaload, 1) := by decide +kernel
theorem dX10_remembers_148 : decode cX10_remembers 148 = .ok (.iastore, 1) := by decide +kernel
theorem dX10_remembers_149 : decode cX10_remembers 149 = .ok (.iinc 2 1, 3) := by decide +kernel
theorem dX10_remembers_152 : decode cX10_remembers 152 = .ok (.goto (-34), 3) := by decide +kernel
theorem dX10_remembers_155 : decode cX10_remembers 155 = .ok (.aload_n 0, 1) := by decide +kernel
theorem dX10_remembers_156 : decode cX10_remembers 156 = .ok (.dup, 1) := by decide +kernel
theorem dX10_remembers_157 : decode cX10_remembers 157 = .ok (.getfield 123, 3) := by decide +kernel
theorem dX10_remembers_160 : decode cX10_remembers 160 = .ok (.iconst 1, 1) := by decide +kernel
theorem dX10_remembers_161 : decode cX10_remembers 161 = .ok (.iadd, 1) := by decide +kernel
theorem dX10_remembers_162 : decode cX10_remembers 162 = .ok (.putfield 123, 3) := by decide +kernel
theorem dX10_remembers_165 : decode cX10_remembers 165 = .ok (.return_, 1) := by decide +kernel
theorem dX10_holds_0 : decode cX10_holds 0 = .ok (.aload_n 0, 1) := by decide +kernel
theorem dX10_holds_1 : decode cX10_holds 1 = .ok (.getfield 13, 3) := by decide +kernel
theorem dX10_holds_4 : decode cX10_holds 4 = .ok (.iload_n 1, 1) := by decide +kernel
theorem dX10_holds_5 : decode cX10_holds 5 = .ok (.iload_n 3, 1) := by decide +kernel
theorem dX10_holds_6 : decode cX10_holds 6 = .ok (.iastore, 1) := by decide +kernel
theorem dX10_holds_7 : decode cX10_holds 7 = .ok (.iconst 0, 1) := by decide +kernel
theorem dX10_holds_8 : decode cX10_holds 8 = .ok (.istore 4, 2) := by decide +kernel
theorem dX10_holds_10 : decode cX10_holds 10 = .ok (.iload 4, 2) := by decide +kernel
theorem dX10_holds_12 : decode cX10_holds 12 = .ok (.iload_n 3, 1) := by decide +kernel
theorem dX10_holds_13 : decode cX10_holds 13 = .ok (.if_icmp .ge 25, 3) := by decide +kernel
theorem dX10_holds_16 : decode cX10_holds 16 = .ok (.aload_n 0, 1) := by decide +kernel
theorem dX10_holds_17 : decode cX10_holds 17 = .ok (.getfield 7, 3) := by decide +kernel
theorem dX10_holds_20 : decode cX10_holds 20 = .ok (.bipush 24, 2) := by decide +kernel
theorem dX10_holds_22 : decode cX10_holds 22 = .ok (.iload_n 1, 1) := by decide +kernel
theorem dX10_holds_23 : decode cX10_holds 23 = .ok (.imul, 1) := by decide +kernel
theorem dX10_holds_24 : decode cX10_holds 24 = .ok (.iload 4, 2) := by decide +kernel
theorem dX10_holds_26 : decode cX10_holds 26 = .ok (.iadd, 1) := by decide +kernel
theorem dX10_holds_27 : decode cX10_holds 27 = .ok (.aload_n 2, 1) := by decide +kernel
theorem dX10_holds_28 : decode cX10_holds 28 = .ok (.iload 4, 2) := by decide +kernel
theorem dX10_holds_30 : decode cX10_holds 30 = .ok (.iaload, 1) := by decide +kernel
theorem dX10_holds_31 : decode cX10_holds 31 = .ok (.iastore, 1) := by decide +kernel
theorem dX10_holds_32 : decode cX10_holds 32 = .ok (.iinc 4 1, 3) := by decide +kernel
theorem dX10_holds_35 : decode cX10_holds 35 = .ok (.goto (-25), 3) := by decide +kernel
theorem dX10_holds_38 : decode cX10_holds 38 = .ok (.return_, 1) := by decide +kernel
theorem dX10_append_0 : decode cX10_append 0 = .ok (.iload_n 1, 1) := by decide +kernel
theorem dX10_append_1 : decode cX10_append 1 = .ok (.invokestatic 126, 3) := by decide +kernel
theorem dX10_append_4 : decode cX10_append 4 = .ok (.ifCond .eq 13, 3) := by decide +kernel
theorem dX10_append_7 : decode cX10_append 7 = .ok (.iload_n 2, 1) := by decide +kernel
theorem dX10_append_8 : decode cX10_append 8 = .ok (.iconst 0, 1) := by decide +kernel
theorem dX10_append_9 : decode cX10_append 9 = .ok (.bipush 25, 2) := by decide +kernel
theorem dX10_append_11 : decode cX10_append 11 = .ok (.invokestatic 119, 3) := by decide +kernel
theorem dX10_append_14 : decode cX10_append 14 = .ok (.ifCond .ne 9, 3) := by decide +kernel
theorem dX10_append_17 : decode cX10_append 17 = .ok (.aload_n 0, 1) := by decide +kernel
theorem dX10_append_18 : decode cX10_append 18 = .ok (.iconst 1, 1) := by decide +kernel
theorem dX10_append_19 : decode cX10_append 19 = .ok (.invokevirtual 130, 3) := by decide +kernel
theorem dX10_append_22 : decode cX10_append 22 = .ok (.ireturn, 1) := by decide +kernel
theorem dX10_append_23 : decode cX10_append 23 = .ok (.aload_n 0, 1) := by decide +kernel
theorem dX10_append_24 : decode cX10_append 24 = .ok (.getfield 13, 3) := by decide +kernel
theorem dX10_append_27 : decode cX10_append 27 = .ok (.iload_n 1, 1) := by decide +kernel
theorem dX10_append_28 : decode cX10_append 28 = .ok (.iaload, 1) := by decide +kernel
theorem dX10_append_29 : decode cX10_append 29 = .ok (.bipush 24, 2) := by decide +kernel
theorem dX10_append_31 : decode cX10_append 31 = .ok (.if_icmp .ne 9, 3) := by decide +kernel
theorem dX10_append_34 : decode cX10_append 34 = .ok (.aload_n 0, 1) := by decide +kernel
theorem dX10_append_35 : decode cX10_append 35 = .ok (.iconst 2, 1) := by decide +kernel
theorem dX10_append_36 : decode cX10_append 36 = .ok (.invokevirtual 130, 3) := by decide +kernel
theorem dX10_append_39 : decode cX10_append 39 = .ok (.ireturn, 1) := by decide +kernel
theorem dX10_append_40 : decode cX10_append 40 = .ok (.aload_n 0, 1) := by decide +kernel
theorem dX10_append_41 : decode cX10_append 41 = .ok (.iload_n 1, 1) := by decide +kernel
theorem dX10_append_42 : decode cX10_append 42 = .ok (.invokevirtual 134, 3) := by decide +kernel
theorem dX10_append_45 : decode cX10_append 45 = .ok (.aload_n 0, 1) := by decide +kernel
theorem dX10_append_46 : decode cX10_append 46 = .ok (.getfield 7, 3) := by decide +kernel
theorem dX10_append_49 : decode cX10_append 49 = .ok (.bipush 24, 2) := by decide +kernel
theorem dX10_append_51 : decode cX10_append 51 = .ok (.iload_n 1, 1) := by decide +kernel
theorem dX10_append_52 : decode cX10_append 52 = .ok (.imul, 1) := by decide +kernel
theorem dX10_append_53 : decode cX10_append 53 = .ok (.aload_n 0, 1) := by decide +kernel
theorem dX10_append_54 : decode cX10_append 54 = .ok (.getfield 13, 3) := by decide +kernel
theorem dX10_append_57 : decode cX10_append 57 = .ok (.iload_n 1, 1) := by decide +kernel
theorem dX10_append_58 : decode cX10_append 58 = .ok (.iaload, 1) := by decide +kernel
theorem dX10_append_59 : decode cX10_append 59 = .ok (.iadd, 1) := by decide +kernel
theorem dX10_append_60 : decode cX10_append 60 = .ok (.iload_n 2, 1) := by decide +kernel
theorem dX10_append_61 : decode cX10_append 61 = .ok (.iastore, 1) := by decide +kernel
theorem dX10_append_62 : decode cX10_append 62 = .ok (.aload_n 0, 1) := by decide +kernel
theorem dX10_append_63 : decode cX10_append 63 = .ok (.getfield 13, 3) := by decide +kernel
theorem dX10_append_66 : decode cX10_append 66 = .ok (.iload_n 1, 1) := by decide +kernel
theorem dX10_append_67 : decode cX10_append 67 = .ok (.dup2, 1) := by decide +kernel
theorem dX10_append_68 : decode cX10_append 68 = .ok (.iaload, 1) := by decide +kernel
theorem dX10_append_69 : decode cX10_append 69 = .ok (.iconst 1, 1) := by decide +kernel
theorem dX10_append_70 : decode cX10_append 70 = .ok (.iadd, 1) := by decide +kernel
theorem dX10_append_71 : decode cX10_append 71 = .ok (.iastore, 1) := by decide +kernel
theorem dX10_append_72 : decode cX10_append 72 = .ok (.aload_n 0, 1) := by decide +kernel
theorem dX10_append_73 : decode cX10_append 73 = .ok (.aload_n 0, 1) := by decide +kernel
theorem dX10_append_74 : decode cX10_append 74 = .ok (.getfield 13, 3) := by decide +kernel
theorem dX10_append_77 : decode cX10_append 77 = .ok (.iload_n 1, 1) := by decide +kernel
theorem dX10_append_78 : decode cX10_append 78 = .ok (.iaload, 1) := by decide +kernel
theorem dX10_append_79 : decode cX10_append 79 = .ok (.invokevirtual 138, 3) := by decide +kernel
theorem dX10_append_82 : decode cX10_append 82 = .ok (.ireturn, 1) := by decide +kernel
theorem dX10_insert_0 : decode cX10_insert 0 = .ok (.iload_n 1, 1) := by decide +kernel
theorem dX10_insert_1 : decode cX10_insert 1 = .ok (.invokestatic 126, 3) := by decide +kernel
theorem dX10_insert_4 : decode cX10_insert 4 = .ok (.ifCond .eq 13, 3) := by decide +kernel
theorem dX10_insert_7 : decode cX10_insert 7 = .ok (.iload_n 3, 1) := by decide +kernel
theorem dX10_insert_8 : decode cX10_insert 8 = .ok (.iconst 0, 1) := by decide +kernel
theorem dX10_insert_9 : decode cX10_insert 9 = .ok (.bipush 25, 2) := by decide +kernel
theorem dX10_insert_11 : decode cX10_insert 11 = .ok (.invokestatic 119, 3) := by decide +kernel
theorem dX10_insert_14 : decode cX10_insert 14 = .ok (.ifCond .ne 9, 3) := by decide +kernel
theorem dX10_insert_17 : decode cX10_insert 17 = .ok (.aload_n 0, 1) := by decide +kernel
theorem dX10_insert_18 : decode cX10_insert 18 = .ok (.iconst 1, 1) := by decide +kernel
theorem dX10_insert_19 : decode cX10_insert 19 = .ok (.invokevirtual 130, 3) := by decide +kernel
theorem dX10_insert_22 : decode cX10_insert 22 = .ok (.ireturn, 1) := by decide +kernel
theorem dX10_insert_23 : decode cX10_insert 23 = .ok (.aload_n 0, 1) := by decide +kernel
theorem dX10_insert_24 : decode cX10_insert 24 = .ok (.getfield 13, 3) := by decide +kernel
theorem dX10_insert_27 : decode cX10_insert 27 = .ok (.iload_n 1, 1) := by decide +kernel
theorem dX10_insert_28 : decode cX10_insert 28 = .ok (.iaload, 1) := by decide +kernel
theorem dX10_insert_29 : decode cX10_insert 29 = .ok (.bipush 24, 2) := by decide +kernel
theorem dX10_insert_31 : decode cX10_insert 31 = .ok (.if_icmp .ne 9, 3) := by decide +kernel
theorem dX10_insert_34 : decode cX10_insert 34 = .ok (.aload_n 0, 1) := by decide +kernel
theorem dX10_insert_35 : decode cX10_insert 35 = .ok (.iconst 2, 1) := by decide +kernel
theorem dX10_insert_36 : decode cX10_insert 36 = .ok (.invokevirtual 130, 3) := by decide +kernel
theorem dX10_insert_39 : decode cX10_insert 39 = .ok (.ireturn, 1) := by decide +kernel
theorem dX10_insert_40 : decode cX10_insert 40 = .ok (.iload_n 2, 1) := by decide +kernel
theorem dX10_insert_41 : decode cX10_insert 41 = .ok (.iconst 0, 1) := by decide +kernel
theorem dX10_insert_42 : decode cX10_insert 42 = .ok (.aload_n 0, 1) := by decide +kernel
theorem dX10_insert_43 : decode cX10_insert 43 = .ok (.getfield 13, 3) := by decide +kernel
theorem dX10_insert_46 : decode cX10_insert 46 = .ok (.iload_n 1, 1) := by decide +kernel
theorem dX10_insert_47 : decode cX10_insert 47 = .ok (.iaload, 1) := by decide +kernel
theorem dX10_insert_48 : decode cX10_insert 48 = .ok (.invokestatic 119, 3) := by decide +kernel
theorem dX10_insert_51 : decode cX10_insert 51 = .ok (.ifCond .ne 9, 3) := by decide +kernel
theorem dX10_insert_54 : decode cX10_insert 54 = .ok (.aload_n 0, 1) := by decide +kernel
theorem dX10_insert_55 : decode cX10_insert 55 = .ok (.iconst 3, 1) := by decide +kernel
theorem dX10_insert_56 : decode cX10_insert 56 = .ok (.invokevirtual 130, 3) := by decide +kernel
theorem dX10_insert_59 : decode cX10_insert 59 = .ok (.ireturn, 1) := by decide +kernel
theorem dX10_insert_60 : decode cX10_insert 60 = .ok (.aload_n 0, 1) := by decide +kernel
theorem dX10_insert_61 : decode cX10_insert 61 = .ok (.iload_n 1, 1) := by decide +kernel
theorem dX10_insert_62 : decode cX10_insert 62 = .ok (.invokevirtual 134, 3) := by decide +kernel
theorem dX10_insert_65 : decode cX10_insert 65 = .ok (.aload_n 0, 1) := by decide +kernel
theorem dX10_insert_66 : decode cX10_insert 66 = .ok (.getfield 13, 3) := by decide +kernel
theorem dX10_insert_69 : decode cX10_insert 69 = .ok (.iload_n 1, 1) := by decide +kernel
theorem dX10_insert_70 : decode cX10_insert 70 = .ok (.iaload, 1) := by decide +kernel
theorem dX10_insert_71 : decode cX10_insert 71 = .ok (.istore 4, 2) := by decide +kernel
theorem dX10_insert_73 : decode cX10_insert 73 = .ok (.iload 4, 2) := by decide +kernel
theorem dX10_insert_75 : decode cX10_insert 75 = .ok (.iload_n 2, 1) := by decide +kernel
theorem dX10_insert_76 : decode cX10_insert 76 = .ok (.if_icmp .le 35, 3) := by decide +kernel
theorem dX10_insert_79 : decode cX10_insert 79 = .ok (.aload_n 0, 1) := by decide +kernel
theorem dX10_insert_80 : decode cX10_insert 80 = .ok (.getfield 7, 3) := by decide +kernel
theorem dX10_insert_83 : decode cX10_insert 83 = .ok (.bipush 24, 2) := by decide +kernel
theorem dX10_insert_85 : decode cX10_insert 85 = .ok (.iload_n 1, 1) := by decide +kernel
theorem dX10_insert_86 : decode cX10_insert 86 = .ok (.imul, 1) := by decide +kernel
theorem dX10_insert_87 : decode cX10_insert 87 = .ok (.iload 4, 2) := by decide +kernel
theorem dX10_insert_89 : decode cX10_insert 89 = .ok (.iadd, 1) := by decide +kernel
theorem dX10_insert_90 : decode cX10_insert 90 = .ok (.aload_n 0, 1) := by decide +kernel
theorem dX10_insert_91 : decode cX10_insert 91 = .ok (.getfield 7, 3) := by decide +kernel
theorem dX10_insert_94 : decode cX10_insert 94 = .ok (.bipush 24, 2) := by decide +kernel
theorem dX10_insert_96 : decode cX10_insert 96 = .ok (.iload_n 1, 1) := by decide +kernel
theorem dX10_insert_97 : decode cX10_insert 97 = .ok (.imul, 1) := by decide +kernel
theorem dX10_insert_98 : decode cX10_insert 98 = .ok (.iload 4, 2) := by decide +kernel
theorem dX10_insert_100 : decode cX10_insert 100 = .ok (.iadd, 1) := by decide +kernel
theorem dX10_insert_101 : decode cX10_insert 101 = .ok (.iconst 1, 1) := by decide +kernel
theorem dX10_insert_102 : decode cX10_insert 102 = .ok (.isub, 1) := by decide +kernel
theorem dX10_insert_103 : decode cX10_insert 103 = .ok (.iaload, 1) := by decide +kernel
theorem dX10_insert_104 : decode cX10_insert 104 = .ok (.iastore, 1) := by decide +kernel
theorem dX10_insert_105 : decode cX10_insert 105 = .ok (.iinc 4 (-1), 3) := by decide +kernel
theorem dX10_insert_108 : decode cX10_insert 108 = .ok (.goto (-35), 3) := by decide +kernel
theorem dX10_insert_111 : decode cX10_insert 111 = .ok (.aload_n 0, 1) := by decide +kernel
theorem dX10_insert_112 : decode cX10_insert 112 = .ok (.getfield 7, 3) := by decide +kernel
theorem dX10_insert_115 : decode cX10_insert 115 = .ok (.bipush 24, 2) := by decide +kernel
theorem dX10_insert_117 : decode cX10_insert 117 = .ok (.iload_n 1, 1) := by decide +kernel
theorem dX10_insert_118 : decode cX10_insert 118 = .ok (.imul, 1) := by decide +kernel
theorem dX10_insert_119 : decode cX10_insert 119 = .ok (.iload_n 2, 1) := by decide +kernel
theorem dX10_insert_120 : decode cX10_insert 120 = .ok (.iadd, 1) := by decide +kernel
theorem dX10_insert_121 : decode cX10_insert 121 = .ok (.iload_n 3, 1) := by decide +kernel
theorem dX10_insert_122 : decode cX10_insert 122 = .ok (.iastore, 1) := by decide +kernel
theorem dX10_insert_123 : decode cX10_insert 123 = .ok (.aload_n 0, 1) := by decide +kernel
theorem dX10_insert_124 : decode cX10_insert 124 = .ok (.getfield 13, 3) := by decide +kernel
theorem dX10_insert_127 : decode cX10_insert 127 = .ok (.iload_n 1, 1) := by decide +kernel
theorem dX10_insert_128 : decode cX10_insert 128 = .ok (.dup2, 1) := by decide +kernel
theorem dX10_insert_129 : decode cX10_insert 129 = .ok (.iaload, 1) := by decide +kernel
theorem dX10_insert_130 : decode cX10_insert 130 = .ok (.iconst 1, 1) := by decide +kernel
theorem dX10_insert_131 : decode cX10_insert 131 = .ok (.iadd, 1) := by decide +kernel
theorem dX10_insert_132 : decode cX10_insert 132 = .ok (.iastore, 1) := by decide +kernel
theorem dX10_insert_133 : decode cX10_insert 133 = .ok (.aload_n 0, 1) := by decide +kernel
theorem dX10_insert_134 : decode cX10_insert 134 = .ok (.aload_n 0, 1) := by decide +kernel
theorem dX10_insert_135 : decode cX10_insert 135 = .ok (.getfield 13, 3) := by decide +kernel
theorem dX10_insert_138 : decode cX10_insert 138 = .ok (.iload_n 1, 1) := by decide +kernel
theorem dX10_insert_139 : decode cX10_insert 139 = .ok (.iaload, 1) := by decide +kernel
theorem dX10_insert_140 : decode cX10_insert 140 = .ok (.invokevirtual 138, 3) := by decide +kernel
theorem dX10_insert_143 : decode cX10_insert 143 = .ok (.ireturn, 1) := by decide +kernel
theorem dX10_delete_0 : decode cX10_delete 0 = .ok (.iload_n 1, 1) := by decide +kernel
theorem dX10_delete_1 : decode cX10_delete 1 = .ok (.invokestatic 126, 3) := by decide +kernel
theorem dX10_delete_4 : decode cX10_delete 4 = .ok (.ifCond .ne 9, 3) := by decide +kernel
theorem dX10_delete_7 : decode cX10_delete 7 = .ok (.aload_n 0, 1) := by decide +kernel
theorem dX10_delete_8 : decode cX10_delete 8 = .ok (.iconst 1, 1) := by decide +kernel
theorem dX10_delete_9 : decode cX10_delete 9 = .ok (.invokevirtual 130, 3) := by decide +kernel
theorem dX10_delete_12 : decode cX10_delete 12 = .ok (.ireturn, 1) := by decide +kernel
theorem dX10_delete_13 : decode cX10_delete 13 = .ok (.iload_n 2, 1) := by decide +kernel
theorem dX10_delete_14 : decode cX10_delete 14 = .ok (.iconst 0, 1) := by decide +kernel
theorem dX10_delete_15 : decode cX10_delete 15 = .ok (.aload_n 0, 1) := by decide +kernel
theorem dX10_delete_16 : decode cX10_delete 16 = .ok (.getfield 13, 3) := by decide +kernel
theorem dX10_delete_19 : decode cX10_delete 19 = .ok (.iload_n 1, 1) := by decide +kernel
theorem dX10_delete_20 : decode cX10_delete 20 = .ok (.iaload, 1) := by decide +kernel
theorem dX10_delete_21 : decode cX10_delete 21 = .ok (.iconst 1, 1) := by decide +kernel
theorem dX10_delete_22 : decode cX10_delete 22 = .ok (.isub, 1) := by decide +kernel
theorem dX10_delete_23 : decode cX10_delete 23 = .ok (.invokestatic 119, 3) := by decide +kernel
theorem dX10_delete_26 : decode cX10_delete 26 = .ok (.ifCond .ne 9, 3) := by decide +kernel
theorem dX10_delete_29 : decode cX10_delete 29 = .ok (.aload_n 0, 1) := by decide +kernel
theorem dX10_delete_30 : decode cX10_delete 30 = .ok (.iconst 2, 1) := by decide +kernel
theorem dX10_delete_31 : decode cX10_delete 31 = .ok (.invokevirtual 130, 3) := by decide +kernel
theorem dX10_delete_34 : decode cX10_delete 34 = .ok (.ireturn, 1) := by decide +kernel
theorem dX10_delete_35 : decode cX10_delete 35 = .ok (.aload_n 0, 1) := by decide +kernel
theorem dX10_delete_36 : decode cX10_delete 36 = .ok (.iload_n 1, 1) := by decide +kernel
theorem dX10_delete_37 : decode cX10_delete 37 = .ok (.invokevirtual 134, 3) := by decide +kernel
theorem dX10_delete_40 : decode cX10_delete 40 = .ok (.aload_n 0, 1) := by decide +kernel
theorem dX10_delete_41 : decode cX10_delete 41 = .ok (.getfield 7, 3) := by decide +kernel
theorem dX10_delete_44 : decode cX10_delete 44 = .ok (.bipush 24, 2) := by decide +kernel
theorem dX10_delete_46 : decode cX10_delete 46 = .ok (.iload_n 1, 1) := by decide +kernel
theorem dX10_delete_47 : decode cX10_delete 47 = .ok (.imul, 1) := by decide +kernel
theorem dX10_delete_48 : decode cX10_delete 48 = .ok (.iload_n 2, 1) := by decide +kernel
theorem dX10_delete_49 : decode cX10_delete 49 = .ok (.iadd, 1) := by decide +kernel
theorem dX10_delete_50 : decode cX10_delete 50 = .ok (.iaload, 1) := by decide +kernel
theorem dX10_delete_51 : decode cX10_delete 51 = .ok (.istore_n 3, 1) := by decide +kernel
theorem dX10_delete_52 : decode cX10_delete 52 = .ok (.aload_n 0, 1) := by decide +kernel
theorem dX10_delete_53 : decode cX10_delete 53 = .ok (.getfield 13, 3) := by decide +kernel
theorem dX10_delete_56 : decode cX10_delete 56 = .ok (.iload_n 1, 1) := by decide +kernel
theorem dX10_delete_57 : decode cX10_delete 57 = .ok (.dup2, 1) := by decide +kernel
theorem dX10_delete_58 : decode cX10_delete 58 = .ok (.iaload, 1) := by decide +kernel
theorem dX10_delete_59 : decode cX10_delete 59 = .ok (.iconst 1, 1) := by decide +kernel
theorem dX10_delete_60 : decode cX10_delete 60 = .ok (.isub, 1) := by decide +kernel
theorem dX10_delete_61 : decode cX10_delete 61 = .ok (.iastore, 1) := by decide +kernel
theorem dX10_delete_62 : decode cX10_delete 62 = .ok (.iload_n 2, 1) := by decide +kernel
theorem dX10_delete_63 : decode cX10_delete 63 = .ok (.istore 4, 2) := by decide +kernel
theorem dX10_delete_65 : decode cX10_delete 65 = .ok (.iload 4, 2) := by decide +kernel
theorem dX10_delete_67 : decode cX10_delete 67 = .ok (.aload_n 0, 1) := by decide +kernel
theorem dX10_delete_68 : decode cX10_delete 68 = .ok (.getfield 13, 3) := by decide +kernel
theorem dX10_delete_71 : decode cX10_delete 71 = .ok (.iload_n 1, 1) := by decide +kernel
theorem dX10_delete_72 : decode cX10_delete 72 = .ok (.iaload, 1) := by decide +kernel
theorem dX10_delete_73 : decode cX10_delete 73 = .ok (.if_icmp .ge 35, 3) := by decide +kernel
theorem dX10_delete_76 : decode cX10_delete 76 = .ok (.aload_n 0, 1) := by decide +kernel
theorem dX10_delete_77 : decode cX10_delete 77 = .ok (.getfield 7, 3) := by decide +kernel
theorem dX10_delete_80 : decode cX10_delete 80 = .ok (.bipush 24, 2) := by decide +kernel
theorem dX10_delete_82 : decode cX10_delete 82 = .ok (.iload_n 1, 1) := by decide +kernel
theorem dX10_delete_83 : decode cX10_delete 83 = .ok (.imul, 1) := by decide +kernel
theorem dX10_delete_84 : decode cX10_delete 84 = .ok (.iload 4, 2) := by decide +kernel
theorem dX10_delete_86 : decode cX10_delete 86 = .ok (.iadd, 1) := by decide +kernel
theorem dX10_delete_87 : decode cX10_delete 87 = .ok (.aload_n 0, 1) := by decide +kernel
theorem dX10_delete_88 : decode cX10_delete 88 = .ok (.getfield 7, 3) := by decide +kernel
theorem dX10_delete_91 : decode cX10_delete 91 = .ok (.bipush 24, 2) := by decide +kernel
theorem dX10_delete_93 : decode cX10_delete 93 = .ok (.iload_n 1, 1) := by decide +kernel
theorem dX10_delete_94 : decode cX10_delete 94 = .ok (.imul, 1) := by decide +kernel
theorem dX10_delete_95 : decode cX10_delete 95 = .ok (.iload 4, 2) := by decide +kernel
theorem dX10_delete_97 : decode cX10_delete 97 = .ok (.iadd, 1) := by decide +kernel
theorem dX10_delete_98 : decode cX10_delete 98 = .ok (.iconst 1, 1) := by decide +kernel
theorem dX10_delete_99 : decode cX10_delete 99 = .ok (.iadd, 1) := by decide +kernel
theorem dX10_delete_100 : decode cX10_delete 100 = .ok (.iaload, 1) := by decide +kernel
theorem dX10_delete_101 : decode cX10_delete 101 = .ok (.iastore, 1) := by decide +kernel
theorem dX10_delete_102 : decode cX10_delete 102 = .ok (.iinc 4 1, 3) := by decide +kernel
theorem dX10_delete_105 : decode cX10_delete 105 = .ok (.goto (-40), 3) := by decide +kernel
theorem dX10_delete_108 : decode cX10_delete 108 = .ok (.aload_n 0, 1) := by decide +kernel
theorem dX10_delete_109 : decode cX10_delete 109 = .ok (.iload_n 3, 1) := by decide +kernel
theorem dX10_delete_110 : decode cX10_delete 110 = .ok (.invokevirtual 138, 3) := by decide +kernel
theorem dX10_delete_113 : decode cX10_delete 113 = .ok (.ireturn, 1) := by decide +kernel
theorem dX10_length_0 : decode cX10_length 0 = .ok (.iload_n 1, 1) := by decide +kernel
theorem dX10_length_1 : decode cX10_length 1 = .ok (.invokestatic 126, 3) := by decide +kernel
theorem dX10_length_4 : decode cX10_length 4 = .ok (.ifCond .eq 16, 3) := by decide +kernel
theorem dX10_length_7 : decode cX10_length 7 = .ok (.aload_n 0, 1) := by decide +kernel
theorem dX10_length_8 : decode cX10_length 8 = .ok (.aload_n 0, 1) := by decide +kernel
theorem dX10_length_9 : decode cX10_length 9 = .ok (.getfield 13, 3) := by decide +kernel
theorem dX10_length_12 : decode cX10_length 12 = .ok (.iload_n 1, 1) := by decide +kernel
theorem dX10_length_13 : decode cX10_length 13 = .ok (.iaload, 1) := by decide +kernel
theorem dX10_length_14 : decode cX10_length 14 = .ok (.invokevirtual 138, 3) := by decide +kernel
theorem dX10_length_17 : decode cX10_length 17 = .ok (.goto 8, 3) := by decide +kernel
theorem dX10_length_20 : decode cX10_length 20 = .ok (.aload_n 0, 1) := by decide +kernel
theorem dX10_length_21 : decode cX10_length 21 = .ok (.iconst 1, 1) := by decide +kernel
theorem dX10_length_22 : decode cX10_length 22 = .ok (.invokevirtual 130, 3) := by decide +kernel
theorem dX10_length_25 : decode cX10_length 25 = .ok (.ireturn, 1) := by decide +kernel
theorem dX10_line_0 : decode cX10_line 0 = .ok (.iload_n 1, 1) := by decide +kernel
theorem dX10_line_1 : decode cX10_line 1 = .ok (.invokestatic 126, 3) := by decide +kernel
theorem dX10_line_4 : decode cX10_line 4 = .ok (.ifCond .ne 9, 3) := by decide +kernel
theorem dX10_line_7 : decode cX10_line 7 = .ok (.aload_n 0, 1) := by decide +kernel
theorem dX10_line_8 : decode cX10_line 8 = .ok (.iconst 1, 1) := by decide +kernel
theorem dX10_line_9 : decode cX10_line 9 = .ok (.invokevirtual 130, 3) := by decide +kernel
theorem dX10_line_12 : decode cX10_line 12 = .ok (.ireturn, 1) := by decide +kernel
theorem dX10_line_13 : decode cX10_line 13 = .ok (.iload_n 2, 1) := by decide +kernel
theorem dX10_line_14 : decode cX10_line 14 = .ok (.iconst 0, 1) := by decide +kernel
theorem dX10_line_15 : decode cX10_line 15 = .ok (.aload_n 0, 1) := by decide +kernel
theorem dX10_line_16 : decode cX10_line 16 = .ok (.getfield 13, 3) := by decide +kernel
theorem dX10_line_19 : decode cX10_line 19 = .ok (.iload_n 1, 1) := by decide +kernel
theorem dX10_line_20 : decode cX10_line 20 = .ok (.iaload, 1) := by decide +kernel
theorem dX10_line_21 : decode cX10_line 21 = .ok (.iconst 1, 1) := by decide +kernel
theorem dX10_line_22 : decode cX10_line 22 = .ok (.isub, 1) := by decide +kernel
theorem dX10_line_23 : decode cX10_line 23 = .ok (.invokestatic 119, 3) := by decide +kernel
theorem dX10_line_26 : decode cX10_line 26 = .ok (.ifCond .eq 21, 3) := by decide +kernel
theorem dX10_line_29 : decode cX10_line 29 = .ok (.aload_n 0, 1) := by decide +kernel
theorem dX10_line_30 : decode cX10_line 30 = .ok (.aload_n 0, 1) := by decide +kernel
theorem dX10_line_31 : decode cX10_line 31 = .ok (.getfield 7, 3) := by decide +kernel
theorem dX10_line_34 : decode cX10_line 34 = .ok (.bipush 24, 2) := by decide +kernel
theorem dX10_line_36 : decode cX10_line 36 = .ok (.iload_n 1, 1) := by decide +kernel
theorem dX10_line_37 : decode cX10_line 37 = .ok (.imul, 1) := by decide +kernel
theorem dX10_line_38 : decode cX10_line 38 = .ok (.iload_n 2, 1) := by decide +kernel
theorem dX10_line_39 : decode cX10_line 39 = .ok (.iadd, 1) := by decide +kernel
theorem dX10_line_40 : decode cX10_line 40 = .ok (.iaload, 1) := by decide +kernel
theorem dX10_line_41 : decode cX10_line 41 = .ok (.invokevirtual 138, 3) := by decide +kernel
theorem dX10_line_44 : decode cX10_line 44 = .ok (.goto 8, 3) := by decide +kernel
theorem dX10_line_47 : decode cX10_line 47 = .ok (.aload_n 0, 1) := by decide +kernel
theorem dX10_line_48 : decode cX10_line 48 = .ok (.iconst 2, 1) := by decide +kernel
theorem dX10_line_49 : decode cX10_line 49 = .ok (.invokevirtual 130, 3) := by decide +kernel
theorem dX10_line_52 : decode cX10_line 52 = .ok (.ireturn, 1) := by decide +kernel
theorem dX10_copy_0 : decode cX10_copy 0 = .ok (.iload_n 1, 1) := by decide +kernel
theorem dX10_copy_1 : decode cX10_copy 1 = .ok (.invokestatic 126, 3) := by decide +kernel
theorem dX10_copy_4 : decode cX10_copy 4 = .ok (.ifCond .eq 10, 3) := by decide +kernel
theorem dX10_copy_7 : decode cX10_copy 7 = .ok (.iload_n 2, 1) := by decide +kernel
theorem dX10_copy_8 : decode cX10_copy 8 = .ok (.invokestatic 126, 3) := by decide +kernel
theorem dX10_copy_11 : decode cX10_copy 11 = .ok (.ifCond .ne 9, 3) := by decide +kernel
theorem dX10_copy_14 : decode cX10_copy 14 = .ok (.aload_n 0, 1) := by decide +kernel
theorem dX10_copy_15 : decode cX10_copy 15 = .ok (.iconst 1, 1) := by decide +kernel
theorem dX10_copy_16 : decode cX10_copy 16 = .ok (.invokevirtual 130, 3) := by decide +kernel
theorem dX10_copy_19 : decode cX10_copy 19 = .ok (.ireturn, 1) := by decide +kernel
theorem dX10_copy_20 : decode cX10_copy 20 = .ok (.aload_n 0, 1) := by decide +kernel
theorem dX10_copy_21 : decode cX10_copy 21 = .ok (.iload_n 2, 1) := by decide +kernel
theorem dX10_copy_22 : decode cX10_copy 22 = .ok (.invokevirtual 134, 3) := by decide +kernel
theorem dX10_copy_25 : decode cX10_copy 25 = .ok (.iconst 0, 1) := by decide +kernel
theorem dX10_copy_26 : decode cX10_copy 26 = .ok (.istore_n 3, 1) := by decide +kernel
theorem dX10_copy_27 : decode cX10_copy 27 = .ok (.iload_n 3, 1) := by decide +kernel
theorem dX10_copy_28 : decode cX10_copy 28 = .ok (.aload_n 0, 1) := by decide +kernel
theorem dX10_copy_29 : decode cX10_copy 29 = .ok (.getfield 13, 3) := by decide +kernel
theorem dX10_copy_32 : decode cX10_copy 32 = .ok (.iload_n 1, 1) := by decide +kernel
theorem dX10_copy_33 : decode cX10_copy 33 = .ok (.iaload, 1) := by decide +kernel
theorem dX10_copy_34 : decode cX10_copy 34 = .ok (.if_icmp .ge 26, 3) := by decide +kernel
theorem dX10_copy_37 : decode cX10_copy 37 = .ok (.aload_n 0, 1) := by decide +kernel
theorem dX10_copy_38 : decode cX10_copy 38 = .ok (.getfield 39, 3) := by decide +kernel
theorem dX10_copy_41 : decode cX10_copy 41 = .ok (.iload_n 3, 1) := by decide +kernel
theorem dX10_copy_42 : decode cX10_copy 42 = .ok (.aload_n 0, 1) := by decide +kernel
theorem dX10_copy_43 : decode cX10_copy 43 = .ok (.getfield 7, 3) := by decide +kernel
theorem dX10_copy_46 : decode cX10_copy 46 = .ok (.bipush 24, 2) := by decide +kernel
theorem dX10_copy_48 : decode cX10_copy 48 = .ok (.iload_n 1, 1) := by decide +kernel
theorem dX10_copy_49 : decode cX10_copy 49 = .ok (.imul, 1) := by decide +kernel
theorem dX10_copy_50 : decode cX10_copy 50 = .ok (.iload_n 3, 1) := by decide +kernel
theorem dX10_copy_51 : decode cX10_copy 51 = .ok (.iadd, 1) := by decide +kernel
theorem dX10_copy_52 : decode cX10_copy 52 = .ok (.iaload, 1) := by decide +kernel
theorem dX10_copy_53 : decode cX10_copy 53 = .ok (.iastore, 1) := by decide +kernel
theorem dX10_copy_54 : decode cX10_copy 54 = .ok (.iinc 3 1, 3) := by decide +kernel
theorem dX10_copy_57 : decode cX10_copy 57 = .ok (.goto (-30), 3) := by decide +kernel
theorem dX10_copy_60 : decode cX10_copy 60 = .ok (.aload_n 0, 1) := by decide +kernel
theorem dX10_copy_61 : decode cX10_copy 61 = .ok (.iload_n 2, 1) := by decide +kernel
theorem dX10_copy_62 : decode cX10_copy 62 = .ok (.aload_n 0, 1) := by decide +kernel
theorem dX10_copy_63 : decode cX10_copy 63 = .ok (.getfield 39, 3) := by decide +kernel
theorem dX10_copy_66 : decode cX10_copy 66 = .ok (.aload_n 0, 1) := by decide +kernel
theorem dX10_copy_67 : decode cX10_copy 67 = .ok (.getfield 13, 3) := by decide +kernel
theorem dX10_copy_70 : decode cX10_copy 70 = .ok (.iload_n 1, 1) := by decide +kernel
theorem dX10_copy_71 : decode cX10_copy 71 = .ok (.iaload, 1) := by decide +kernel
theorem dX10_copy_72 : decode cX10_copy 72 = .ok (.invokevirtual 141, 3) := by decide +kernel
theorem dX10_copy_75 : decode cX10_copy 75 = .ok (.aload_n 0, 1) := by decide +kernel
theorem dX10_copy_76 : decode cX10_copy 76 = .ok (.aload_n 0, 1) := by decide +kernel
theorem dX10_copy_77 : decode cX10_copy 77 = .ok (.getfield 13, 3) := by decide +kernel
theorem dX10_copy_80 : decode cX10_copy 80 = .ok (.iload_n 2, 1) := by decide +kernel
theorem dX10_copy_81 : decode cX10_copy 81 = .ok (.iaload, 1) := by decide +kernel
theorem dX10_copy_82 : decode cX10_copy 82 = .ok (.invokevirtual 138, 3) := by decide +kernel
theorem dX10_copy_85 : decode cX10_copy 85 = .ok (.ireturn, 1) := by decide +kernel
theorem dX10_isSame_0 : decode cX10_isSame 0 = .ok (.iload_n 1, 1) := by decide +kernel
theorem dX10_isSame_1 : decode cX10_isSame 1 = .ok (.invokestatic 126, 3) := by decide +kernel
theorem dX10_isSame_4 : decode cX10_isSame 4 = .ok (.ifCond .eq 10, 3) := by decide +kernel
theorem dX10_isSame_7 : decode cX10_isSame 7 = .ok (.iload_n 2, 1) := by decide +kernel
theorem dX10_isSame_8 : decode cX10_isSame 8 = .ok (.invokestatic 126, 3) := by decide +kernel
theorem dX10_isSame_11 : decode cX10_isSame 11 = .ok (.ifCond .ne 9, 3) := by decide +kernel
theorem dX10_isSame_14 : decode cX10_isSame 14 = .ok (.aload_n 0, 1) := by decide +kernel
theorem dX10_isSame_15 : decode cX10_isSame 15 = .ok (.iconst 1, 1) := by decide +kernel
theorem dX10_isSame_16 : decode cX10_isSame 16 = .ok (.invokevirtual 145, 3) := by decide +kernel
theorem dX10_isSame_19 : decode cX10_isSame 19 = .ok (.ireturn, 1) := by decide +kernel
theorem dX10_isSame_20 : decode cX10_isSame 20 = .ok (.aload_n 0, 1) := by decide +kernel
theorem dX10_isSame_21 : decode cX10_isSame 21 = .ok (.getfield 13, 3) := by decide +kernel
theorem dX10_isSame_24 : decode cX10_isSame 24 = .ok (.iload_n 1, 1) := by decide +kernel
theorem dX10_isSame_25 : decode cX10_isSame 25 = .ok (.iaload, 1) := by decide +kernel
theorem dX10_isSame_26 : decode cX10_isSame 26 = .ok (.aload_n 0, 1) := by decide +kernel
theorem dX10_isSame_27 : decode cX10_isSame 27 = .ok (.getfield 13, 3) := by decide +kernel
theorem dX10_isSame_30 : decode cX10_isSame 30 = .ok (.iload_n 2, 1) := by decide +kernel
theorem dX10_isSame_31 : decode cX10_isSame 31 = .ok (.iaload, 1) := by decide +kernel
theorem dX10_isSame_32 : decode cX10_isSame 32 = .ok (.if_icmp .ne 7, 3) := by decide +kernel
theorem dX10_isSame_35 : decode cX10_isSame 35 = .ok (.iconst 1, 1) := by decide +kernel
theorem dX10_isSame_36 : decode cX10_isSame 36 = .ok (.goto 4, 3) := by decide +kernel
theorem dX10_isSame_39 : decode cX10_isSame 39 = .ok (.iconst 0, 1) := by decide +kernel
theorem dX10_isSame_40 : decode cX10_isSame 40 = .ok (.istore_n 3, 1) := by decide +kernel
theorem dX10_isSame_41 : decode cX10_isSame 41 = .ok (.iconst 0, 1) := by decide +kernel
theorem dX10_isSame_42 : decode cX10_isSame 42 = .ok (.istore 4, 2) := by decide +kernel
theorem dX10_isSame_44 : decode cX10_isSame 44 = .ok (.iload 4, 2) := by decide +kernel
theorem dX10_isSame_46 : decode cX10_isSame 46 = .ok (.aload_n 0, 1) := by decide +kernel
theorem dX10_isSame_47 : decode cX10_isSame 47 = .ok (.getfield 13, 3) := by decide +kernel
theorem dX10_isSame_50 : decode cX10_isSame 50 = .ok (.iload_n 1, 1) := by decide +kernel
theorem dX10_isSame_51 : decode cX10_isSame 51 = .ok (.iaload, 1) := by decide +kernel
theorem dX10_isSame_52 : decode cX10_isSame 52 = .ok (.if_icmp .ge 46, 3) := by decide +kernel
theorem dX10_isSame_55 : decode cX10_isSame 55 = .ok (.iload_n 3, 1) := by decide +kernel
theorem dX10_isSame_56 : decode cX10_isSame 56 = .ok (.ifCond .eq 42, 3) := by decide +kernel
theorem dX10_isSame_59 : decode cX10_isSame 59 = .ok (.aload_n 0, 1) := by decide +kernel
theorem dX10_isSame_60 : decode cX10_isSame 60 = .ok (.getfield 7, 3) := by decide +kernel
theorem dX10_isSame_63 : decode cX10_isSame 63 = .ok (.bipush 24, 2) := by decide +kernel
theorem dX10_isSame_65 : decode cX10_isSame 65 = .ok (.iload_n 1, 1) := by decide +kernel
theorem dX10_isSame_66 : decode cX10_isSame 66 = .ok (.imul, 1) := by decide +kernel
theorem dX10_isSame_67 : decode cX10_isSame 67 = .ok (.iload 4, 2) := by decide +kernel
theorem dX10_isSame_69 : decode cX10_isSame 69 = .ok (.iadd, 1) := by decide +kernel
theorem dX10_isSame_70 : decode cX10_isSame 70 = .ok (.iaload, 1) := by decide +kernel
theorem dX10_isSame_71 : decode cX10_isSame 71 = .ok (.aload_n 0, 1) := by decide +kernel
theorem dX10_isSame_72 : decode cX10_isSame 72 = .ok (.getfield 7, 3) := by decide +kernel
theorem dX10_isSame_75 : decode cX10_isSame 75 = .ok (.bipush 24, 2) := by decide +kernel
theorem dX10_isSame_77 : decode cX10_isSame 77 = .ok (.iload_n 2, 1) := by decide +kernel
theorem dX10_isSame_78 : decode cX10_isSame 78 = .ok (.imul, 1) := by decide +kernel
theorem dX10_isSame_79 : decode cX10_isSame 79 = .ok (.iload 4, 2) := by decide +kernel
theorem dX10_isSame_81 : decode cX10_isSame 81 = .ok (.iadd, 1) := by decide +kernel
theorem dX10_isSame_82 : decode cX10_isSame 82 = .ok (.iaload, 1) := by decide +kernel
theorem dX10_isSame_83 : decode cX10_isSame 83 = .ok (.if_icmp .ne 7, 3) := by decide +kernel
theorem dX10_isSame_86 : decode cX10_isSame 86 = .ok (.iconst 1, 1) := by decide +kernel
theorem dX10_isSame_87 : decode cX10_isSame 87 = .ok (.goto 4, 3) := by decide +kernel
theorem dX10_isSame_90 : decode cX10_isSame 90 = .ok (.iconst 0, 1) := by decide +kernel
theorem dX10_isSame_91 : decode cX10_isSame 91 = .ok (.istore_n 3, 1) := by decide +kernel
theorem dX10_isSame_92 : decode cX10_isSame 92 = .ok (.iinc 4 1, 3) := by decide +kernel
theorem dX10_isSame_95 : decode cX10_isSame 95 = .ok (.goto (-51), 3) := by decide +kernel
theorem dX10_isSame_98 : decode cX10_isSame 98 = .ok (.aload_n 0, 1) := by decide +kernel
theorem dX10_isSame_99 : decode cX10_isSame 99 = .ok (.iload_n 3, 1) := by decide +kernel
theorem dX10_isSame_100 : decode cX10_isSame 100 = .ok (.invokevirtual 148, 3) := by decide +kernel
theorem dX10_isSame_103 : decode cX10_isSame 103 = .ok (.ireturn, 1) := by decide +kernel
theorem dX10_here_0 : decode cX10_here 0 = .ok (.aload_n 0, 1) := by decide +kernel
theorem dX10_here_1 : decode cX10_here 1 = .ok (.getfield 152, 3) := by decide +kernel
theorem dX10_here_4 : decode cX10_here 4 = .ok (.aload_n 0, 1) := by decide +kernel
theorem dX10_here_5 : decode cX10_here 5 = .ok (.getfield 155, 3) := by decide +kernel
theorem dX10_here_8 : decode cX10_here 8 = .ok (.if_icmp .ge 15, 3) := by decide +kernel
theorem dX10_here_11 : decode cX10_here 11 = .ok (.aload_n 0, 1) := by decide +kernel
theorem dX10_here_12 : decode cX10_here 12 = .ok (.getfield 20, 3) := by decide +kernel
theorem dX10_here_15 : decode cX10_here 15 = .ok (.aload_n 0, 1) := by decide +kernel
theorem dX10_here_16 : decode cX10_here 16 = .ok (.getfield 152, 3) := by decide +kernel
theorem dX10_here_19 : decode cX10_here 19 = .ok (.caload, 1) := by decide +kernel
theorem dX10_here_20 : decode cX10_here 20 = .ok (.goto 4, 3) := by decide +kernel
theorem dX10_here_23 : decode cX10_here 23 = .ok (.iconst 0, 1) := by decide +kernel
theorem dX10_here_24 : decode cX10_here 24 = .ok (.ireturn, 1) := by decide +kernel
theorem dX10_comes_0 : decode cX10_comes 0 = .ok (.aload_n 0, 1) := by decide +kernel
theorem dX10_comes_1 : decode cX10_comes 1 = .ok (.getfield 158, 3) := by decide +kernel
theorem dX10_comes_4 : decode cX10_comes 4 = .ok (.sipush 1999, 3) := by decide +kernel
theorem dX10_comes_7 : decode cX10_comes 7 = .ok (.if_icmp .ge 23, 3) := by decide +kernel
theorem dX10_comes_10 : decode cX10_comes 10 = .ok (.aload_n 0, 1) := by decide +kernel
theorem dX10_comes_11 : decode cX10_comes 11 = .ok (.getfield 39, 3) := by decide +kernel
theorem dX10_comes_14 : decode cX10_comes 14 = .ok (.aload_n 0, 1) := by decide +kernel
theorem dX10_comes_15 : decode cX10_comes 15 = .ok (.getfield 158, 3) := by decide +kernel
theorem dX10_comes_18 : decode cX10_comes 18 = .ok (.iload_n 1, 1) := by decide +kernel
theorem dX10_comes_19 : decode cX10_comes 19 = .ok (.iastore, 1) := by decide +kernel
theorem dX10_comes_20 : decode cX10_comes 20 = .ok (.aload_n 0, 1) := by decide +kernel
theorem dX10_comes_21 : decode cX10_comes 21 = .ok (.dup, 1) := by decide +kernel
theorem dX10_comes_22 : decode cX10_comes 22 = .ok (.getfield 158, 3) := by decide +kernel
theorem dX10_comes_25 : decode cX10_comes 25 = .ok (.iconst 1, 1) := by decide +kernel
theorem dX10_comes_26 : decode cX10_comes 26 = .ok (.iadd, 1) := by decide +kernel
theorem dX10_comes_27 : decode cX10_comes 27 = .ok (.putfield 158, 3) := by decide +kernel
theorem dX10_comes_30 : decode cX10_comes 30 = .ok (.return_, 1) := by decide +kernel
theorem dX10_repeats_0 : decode cX10_repeats 0 = .ok (.aload_n 0, 1) := by decide +kernel
theorem dX10_repeats_1 : decode cX10_repeats 1 = .ok (.invokevirtual 161, 3) := by decide +kernel
theorem dX10_repeats_4 : decode cX10_repeats 4 = .ok (.bipush 50, 2) := by decide +kernel
theorem dX10_repeats_6 : decode cX10_repeats 6 = .ok (.bipush 57, 2) := by decide +kernel
theorem dX10_repeats_8 : decode cX10_repeats 8 = .ok (.invokestatic 119, 3) := by decide +kernel
theorem dX10_repeats_11 : decode cX10_repeats 11 = .ok (.ifCond .eq 63, 3) := by decide +kernel
theorem dX10_repeats_14 : decode cX10_repeats 14 = .ok (.aload_n 0, 1) := by decide +kernel
theorem dX10_repeats_15 : decode cX10_repeats 15 = .ok (.getfield 158, 3) := by decide +kernel
theorem dX10_repeats_18 : decode cX10_repeats 18 = .ok (.istore_n 2, 1) := by decide +kernel
theorem dX10_repeats_19 : decode cX10_repeats 19 = .ok (.iconst 1, 1) := by decide +kernel
theorem dX10_repeats_20 : decode cX10_repeats 20 = .ok (.istore_n 3, 1) := by decide +kernel
theorem dX10_repeats_21 : decode cX10_repeats 21 = .ok (.iload_n 3, 1) := by decide +kernel
theorem dX10_repeats_22 : decode cX10_repeats 22 = .ok (.aload_n 0, 1) := by decide +kernel
theorem dX10_repeats_23 : decode cX10_repeats 23 = .ok (.invokevirtual 161, 3) := by decide +kernel
theorem dX10_repeats_26 : decode cX10_repeats 26 = .ok (.bipush 48, 2) := by decide +kernel
theorem dX10_repeats_28 : decode cX10_repeats 28 = .ok (.isub, 1) := by decide +kernel
theorem dX10_repeats_29 : decode cX10_repeats 29 = .ok (.if_icmp .ge 35, 3) := by decide +kernel
theorem dX10_repeats_32 : decode cX10_repeats 32 = .ok (.iload_n 1, 1) := by decide +kernel
theorem dX10_repeats_33 : decode cX10_repeats 33 = .ok (.istore 4, 2) := by decide +kernel
theorem dX10_repeats_35 : decode cX10_repeats 35 = .ok (.iload 4, 2) := by decide +kernel
theorem dX10_repeats_37 : decode cX10_repeats 37 = .ok (.iload_n 2, 1) := by decide +kernel
theorem dX10_repeats_38 : decode cX10_repeats 38 = .ok (.if_icmp .ge 20, 3) := by decide +kernel
theorem dX10_repeats_41 : decode cX10_repeats 41 = .ok (.aload_n 0, 1) := by decide +kernel
theorem dX10_repeats_42 : decode cX10_repeats 42 = .ok (.aload_n 0, 1) := by decide +kernel
theorem dX10_repeats_43 : decode cX10_repeats 43 = .ok (.getfield 39, 3) := by decide +kernel
theorem dX10_repeats_46 : decode cX10_repeats 46 = .ok (.iload 4, 2) := by decide +kernel
theorem dX10_repeats_48 : decode cX10_repeats 48 = .ok (.iaload, 1) := by decide +kernel
theorem dX10_repeats_49 : decode cX10_repeats 49 = .ok (.invokevirtual 165, 3) := by decide +kernel
theorem dX10_repeats_52 : decode cX10_repeats 52 = .ok (.iinc 4 1, 3) := by decide +kernel
theorem dX10_repeats_55 : decode cX10_repeats 55 = .ok (.goto (-20), 3) := by decide +kernel
theorem dX10_repeats_58 : decode cX10_repeats 58 = .ok (.iinc 3 1, 3) := by decide +kernel
theorem dX10_repeats_61 : decode cX10_repeats 61 = .ok (.goto (-40), 3) := by decide +kernel
theorem dX10_repeats_64 : decode cX10_repeats 64 = .ok (.aload_n 0, 1) := by decide +kernel
theorem dX10_repeats_65 : decode cX10_repeats 65 = .ok (.dup, 1) := by decide +kernel
theorem dX10_repeats_66 : decode cX10_repeats 66 = .ok (.getfield 152, 3) := by decide +kernel
theorem dX10_repeats_69 : decode cX10_repeats 69 = .ok (.iconst 1, 1) := by decide +kernel
theorem dX10_repeats_70 : decode cX10_repeats 70 = .ok (.iadd, 1) := by decide +kernel
theorem dX10_repeats_71 : decode cX10_repeats 71 = .ok (.putfield 152, 3) := by decide +kernel
theorem dX10_repeats_74 : decode cX10_repeats 74 = .ok (.return_, 1) := by decide +kernel
theorem dX10_readsItem_0 : decode cX10_readsItem 0 = .ok (.aload_n 0, 1) := by decide +kernel
theorem dX10_readsItem_1 : decode cX10_readsItem 1 = .ok (.getfield 158, 3) := by decide +kernel
theorem dX10_readsItem_4 : decode cX10_readsItem 4 = .ok (.istore_n 1, 1) := by decide +kernel
theorem dX10_readsItem_5 : decode cX10_readsItem 5 = .ok (.aload_n 0, 1) := by decide +kernel
theorem dX10_readsItem_6 : decode cX10_readsItem 6 = .ok (.invokevirtual 161, 3) := by decide +kernel
theorem dX10_readsItem_9 : decode cX10_readsItem 9 = .ok (.bipush 97, 2) := by decide +kernel
theorem dX10_readsItem_11 : decode cX10_readsItem 11 = .ok (.bipush 122, 2) := by decide +kernel
theorem dX10_readsItem_13 : decode cX10_readsItem 13 = .ok (.invokestatic 119, 3) := by decide +kernel
theorem dX10_readsItem_16 : decode cX10_readsItem 16 = .ok (.ifCond .eq 27, 3) := by decide +kernel
theorem dX10_readsItem_19 : decode cX10_readsItem 19 = .ok (.aload_n 0, 1) := by decide +kernel
theorem dX10_readsItem_20 : decode cX10_readsItem 20 = .ok (.aload_n 0, 1) := by decide +kernel
theorem dX10_readsItem_21 : decode cX10_readsItem 21 = .ok (.invokevirtual 161, 3) := by decide +kernel
theorem dX10_readsItem_24 : decode cX10_readsItem 24 = .ok (.bipush 97, 2) := by decide +kernel
theorem dX10_readsItem_26 : decode cX10_readsItem 26 = .ok (.isub, 1) := by decide +kernel
theorem dX10_readsItem_27 : decode cX10_readsItem 27 = .ok (.invokevirtual 165, 3) := by decide +kernel
theorem dX10_readsItem_30 : decode cX10_readsItem 30 = .ok (.aload_n 0, 1) := by decide +kernel
theorem dX10_readsItem_31 : decode cX10_readsItem 31 = .ok (.dup, 1) := by decide +kernel
theorem dX10_readsItem_32 : decode cX10_readsItem 32 = .ok (.getfield 152, 3) := by decide +kernel
theorem dX10_readsItem_35 : decode cX10_readsItem 35 = .ok (.iconst 1, 1) := by decide +kernel
theorem dX10_readsItem_36 : decode cX10_readsItem 36 = .ok (.iadd, 1) := by decide +kernel
theorem dX10_readsItem_37 : decode cX10_readsItem 37 = .ok (.putfield 152, 3) := by decide +kernel
theorem dX10_readsItem_40 : decode cX10_readsItem 40 = .ok (.goto 94, 3) := by decide +kernel
theorem dX10_readsItem_43 : decode cX10_readsItem 43 = .ok (.aload_n 0, 1) := by decide +kernel
theorem dX10_readsItem_44 : decode cX10_readsItem 44 = .ok (.invokevirtual 161, 3) := by decide +kernel
theorem dX10_readsItem_47 : decode cX10_readsItem 47 = .ok (.bipush 40, 2) := by decide +kernel
theorem dX10_readsItem_49 : decode cX10_readsItem 49 = .ok (.if_icmp .ne 11, 3) := by decide +kernel
theorem dX10_readsItem_52 : decode cX10_readsItem 52 = .ok (.aload_n 0, 1) := by decide +kernel
theorem dX10_readsItem_53 : decode cX10_readsItem 53 = .ok (.getfield 168, 3) := by decide +kernel
theorem dX10_readsItem_56 : decode cX10_readsItem 56 = .ok (.iconst 4, 1) := by decide +kernel
theorem dX10_readsItem_57 : decode cX10_readsItem 57 = .ok (.if_icmp .ne 5, 3) := by decide +kernel
theorem dX10_readsItem_60 : decode cX10_readsItem 60 = .ok (.iconst 0, 1) := by decide +kernel
theorem dX10_readsItem_61 : decode cX10_readsItem 61 = .ok (.ireturn, 1) := by decide +kernel
theorem dX10_readsItem_62 : decode cX10_readsItem 62 = .ok (.aload_n 0, 1) := by decide +kernel
theorem dX10_readsItem_63 : decode cX10_readsItem 63 = .ok (.dup, 1) := by decide +kernel
theorem dX10_readsItem_64 : decode cX10_readsItem 64 = .ok (.getfield 168, 3) := by decide +kernel
theorem dX10_readsItem_67 : decode cX10_readsItem 67 = .ok (.iconst 1, 1) := by decide +kernel
theorem dX10_readsItem_68 : decode cX10_readsItem 68 = .ok (.iadd, 1) := by decide +kernel
theorem dX10_readsItem_69 : decode cX10_readsItem 69 = .ok (.putfield 168, 3) := by decide +kernel
theorem dX10_readsItem_72 : decode cX10_readsItem 72 = .ok (.aload_n 0, 1) := by decide +kernel
theorem dX10_readsItem_73 : decode cX10_readsItem 73 = .ok (.dup, 1) := by decide +kernel
theorem dX10_readsItem_74 : decode cX10_readsItem 74 = .ok (.getfield 152, 3) := by decide +kernel
theorem dX10_readsItem_77 : decode cX10_readsItem 77 = .ok (.iconst 1, 1) := by decide +kernel
theorem dX10_readsItem_78 : decode cX10_readsItem 78 = .ok (.iadd, 1) := by decide +kernel
theorem dX10_readsItem_79 : decode cX10_readsItem 79 = .ok (.putfield 152, 3) := by decide +kernel
theorem dX10_readsItem_82 : decode cX10_readsItem 82 = .ok (.aload_n 0, 1) := by decide +kernel
theorem dX10_readsItem_83 : decode cX10_readsItem 83 = .ok (.invokestatic 171, 3) := by decide +kernel
theorem dX10_readsItem_86 : decode cX10_readsItem 86 = .ok (.istore_n 2, 1) := by decide +kernel
theorem dX10_readsItem_87 : decode cX10_readsItem 87 = .ok (.iload_n 2, 1) := by decide +kernel
theorem dX10_readsItem_88 : decode cX10_readsItem 88 = .ok (.ifCond .eq 20, 3) := by decide +kernel
theorem dX10_readsItem_91 : decode cX10_readsItem 91 = .ok (.aload_n 0, 1) := by decide +kernel
theorem dX10_readsItem_92 : decode cX10_readsItem 92 = .ok (.invokevirtual 161, 3) := by decide +kernel
theorem dX10_readsItem_95 : decode cX10_readsItem 95 = .ok (.bipush 41, 2) := by decide +kernel
theorem dX10_readsItem_97 : decode cX10_readsItem 97 = .ok (.if_icmp .eq 11, 3) := by decide +kernel
theorem dX10_readsItem_100 : decode cX10_readsItem 100 = .ok (.aload_n 0, 1) := by decide +kernel
theorem dX10_readsItem_101 : decode cX10_readsItem 101 = .ok (.invokestatic 171, 3) := by decide +kernel
theorem dX10_readsItem_104 : decode cX10_readsItem 104 = .ok (.istore_n 2, 1) := by decide +kernel
theorem dX10_readsItem_105 : decode cX10_readsItem 105 = .ok (.goto (-18), 3) := by decide +kernel
theorem dX10_readsItem_108 : decode cX10_readsItem 108 = .ok (.iload_n 2, 1) := by decide +kernel
theorem dX10_readsItem_109 : decode cX10_readsItem 109 = .ok (.ifCond .ne 5, 3) := by decide +kernel
theorem dX10_readsItem_112 : decode cX10_readsItem 112 = .ok (.iconst 0, 1) := by decide +kernel
theorem dX10_readsItem_113 : decode cX10_readsItem 113 = .ok (.ireturn, 1) := by decide +kernel
theorem dX10_readsItem_114 : decode cX10_readsItem 114 = .ok (.aload_n 0, 1) := by decide +kernel
theorem dX10_readsItem_115 : decode cX10_readsItem 115 = .ok (.dup, 1) := by decide +kernel
theorem dX10_readsItem_116 : decode cX10_readsItem 116 = .ok (.getfield 152, 3) := by decide +kernel
theorem dX10_readsItem_119 : decode cX10_readsItem 119 = .ok (.iconst 1, 1) := by decide +kernel
theorem dX10_readsItem_120 : decode cX10_readsItem 120 = .ok (.iadd, 1) := by decide +kernel
theorem dX10_readsItem_121 : decode cX10_readsItem 121 = .ok (.putfield 152, 3) := by decide +kernel
theorem dX10_readsItem_124 : decode cX10_readsItem 124 = .ok (.aload_n 0, 1) := by decide +kernel
theorem dX10_readsItem_125 : decode cX10_readsItem 125 = .ok (.dup, 1) := by decide +kernel
theorem dX10_readsItem_126 : decode cX10_readsItem 126 = .ok (.getfield 168, 3) := by decide +kernel
theorem dX10_readsItem_129 : decode cX10_readsItem 129 = .ok (.iconst 1, 1) := by decide +kernel
theorem dX10_readsItem_130 : decode cX10_readsItem 130 = .ok (.isub, 1) := by decide +kernel
theorem dX10_readsItem_131 : decode cX10_readsItem 131 = .ok (.putfield 168, 3) := by decide +kernel
theorem dX10_readsItem_134 : decode cX10_readsItem 134 = .ok (.aload_n 0, 1) := by decide +kernel
theorem dX10_readsItem_135 : decode cX10_readsItem 135 = .ok (.iload_n 1, 1) := by decide +kernel
theorem dX10_readsItem_136 : decode cX10_readsItem 136 = .ok (.invokevirtual 175, 3) := by decide +kernel
theorem dX10_readsItem_139 : decode cX10_readsItem 139 = .ok (.iconst 1, 1) := by decide +kernel
theorem dX10_readsItem_140 : decode cX10_readsItem 140 = .ok (.ireturn, 1) := by decide +kernel
theorem dX10_feed_0 : decode cX10_feed 0 = .ok (.aload_n 0, 1) := by decide +kernel
theorem dX10_feed_1 : decode cX10_feed 1 = .ok (.getfield 155, 3) := by decide +kernel
theorem dX10_feed_4 : decode cX10_feed 4 = .ok (.bipush 50, 2) := by decide +kernel
theorem dX10_feed_6 : decode cX10_feed 6 = .ok (.if_icmp .ne 9, 3) := by decide +kernel
theorem dX10_feed_9 : decode cX10_feed 9 = .ok (.aload_n 0, 1) := by decide +kernel
theorem dX10_feed_10 : decode cX10_feed 10 = .ok (.iconst 1, 1) := by decide +kernel
theorem dX10_feed_11 : decode cX10_feed 11 = .ok (.invokevirtual 130, 3) := by decide +kernel
theorem dX10_feed_14 : decode cX10_feed 14 = .ok (.ireturn, 1) := by decide +kernel
theorem dX10_feed_15 : decode cX10_feed 15 = .ok (.aload_n 0, 1) := by decide +kernel
theorem dX10_feed_16 : decode cX10_feed 16 = .ok (.getfield 20, 3) := by decide +kernel
theorem dX10_feed_19 : decode cX10_feed 19 = .ok (.aload_n 0, 1) := by decide +kernel
theorem dX10_feed_20 : decode cX10_feed 20 = .ok (.getfield 155, 3) := by decide +kernel
theorem dX10_feed_23 : decode cX10_feed 23 = .ok (.iload_n 1, 1) := by decide +kernel
theorem dX10_feed_24 : decode cX10_feed 24 = .ok (.castore, 1) := by decide +kernel
theorem dX10_feed_25 : decode cX10_feed 25 = .ok (.aload_n 0, 1) := by decide +kernel
theorem dX10_feed_26 : decode cX10_feed 26 = .ok (.dup, 1) := by decide +kernel
theorem dX10_feed_27 : decode cX10_feed 27 = .ok (.getfield 155, 3) := by decide +kernel
theorem dX10_feed_30 : decode cX10_feed 30 = .ok (.iconst 1, 1) := by decide +kernel
theorem dX10_feed_31 : decode cX10_feed 31 = .ok (.iadd, 1) := by decide +kernel
theorem dX10_feed_32 : decode cX10_feed 32 = .ok (.putfield 155, 3) := by decide +kernel
theorem dX10_feed_35 : decode cX10_feed 35 = .ok (.aload_n 0, 1) := by decide +kernel
theorem dX10_feed_36 : decode cX10_feed 36 = .ok (.aload_n 0, 1) := by decide +kernel
theorem dX10_feed_37 : decode cX10_feed 37 = .ok (.getfield 155, 3) := by decide +kernel
theorem dX10_feed_40 : decode cX10_feed 40 = .ok (.invokevirtual 138, 3) := by decide +kernel
theorem dX10_feed_43 : decode cX10_feed 43 = .ok (.ireturn, 1) := by decide +kernel
theorem dX10_readDocument_0 : decode cX10_readDocument 0 = .ok (.iload_n 1, 1) := by decide +kernel
theorem dX10_readDocument_1 : decode cX10_readDocument 1 = .ok (.invokestatic 126, 3) := by decide +kernel
theorem dX10_readDocument_4 : decode cX10_readDocument 4 = .ok (.ifCond .ne 14, 3) := by decide +kernel
theorem dX10_readDocument_7 : decode cX10_readDocument 7 = .ok (.aload_n 0, 1) := by decide +kernel
theorem dX10_readDocument_8 : decode cX10_readDocument 8 = .ok (.iconst 0, 1) := by decide +kernel
theorem dX10_readDocument_9 : decode cX10_readDocument 9 = .ok (.putfield 155, 3) := by decide +kernel
theorem dX10_readDocument_12 : decode cX10_readDocument 12 = .ok (.aload_n 0, 1) := by decide +kernel
theorem dX10_readDocument_13 : decode cX10_readDocument 13 = .ok (.iconst 1, 1) := by decide +kernel
theorem dX10_readDocument_14 : decode cX10_readDocument 14 = .ok (.invokevirtual 130, 3) := by decide +kernel
theorem dX10_readDocument_17 : decode cX10_readDocument 17 = .ok (.ireturn, 1) := by decide +kernel
theorem dX10_readDocument_18 : decode cX10_readDocument 18 = .ok (.aload_n 0, 1) := by decide +kernel
theorem dX10_readDocument_19 : decode cX10_readDocument 19 = .ok (.iconst 0, 1) := by decide +kernel
theorem dX10_readDocument_20 : decode cX10_readDocument 20 = .ok (.putfield 152, 3) := by decide +kernel
theorem dX10_readDocument_23 : decode cX10_readDocument 23 = .ok (.aload_n 0, 1) := by decide +kernel
theorem dX10_readDocument_24 : decode cX10_readDocument 24 = .ok (.iconst 0, 1) := by decide +kernel
theorem dX10_readDocument_25 : decode cX10_readDocument 25 = .ok (.putfield 168, 3) := by decide +kernel
theorem dX10_readDocument_28 : decode cX10_readDocument 28 = .ok (.aload_n 0, 1) := by decide +kernel
theorem dX10_readDocument_29 : decode cX10_readDocument 29 = .ok (.iconst 0, 1) := by decide +kernel
theorem dX10_readDocument_30 : decode cX10_readDocument 30 = .ok (.putfield 158, 3) := by decide +kernel
theorem dX10_readDocument_33 : decode cX10_readDocument 33 = .ok (.iconst 1, 1) := by decide +kernel
theorem dX10_readDocument_34 : decode cX10_readDocument 34 = .ok (.istore_n 2, 1) := by decide +kernel
theorem dX10_readDocument_35 : decode cX10_readDocument 35 = .ok (.iload_n 2, 1) := by decide +kernel
theorem dX10_readDocument_36 : decode cX10_readDocument 36 = .ok (.ifCond .eq 22, 3) := by decide +kernel
theorem dX10_readDocument_39 : decode cX10_readDocument 39 = .ok (.aload_n 0, 1) := by decide +kernel
theorem dX10_readDocument_40 : decode cX10_readDocument 40 = .ok (.getfield 152, 3) := by decide +kernel
theorem dX10_readDocument_43 : decode cX10_readDocument 43 = .ok (.aload_n 0, 1) := by decide +kernel
theorem dX10_readDocument_44 : decode cX10_readDocument 44 = .ok (.getfield 155, 3) := by decide +kernel
theorem dX10_readDocument_47 : decode cX10_readDocument 47 = .ok (.if_icmp .ge 11, 3) := by decide +kernel
theorem dX10_readDocument_50 : decode cX10_readDocument 50 = .ok (.aload_n 0, 1) := by decide +kernel
theorem dX10_readDocument_51 : decode cX10_readDocument 51 = .ok (.invokestatic 171, 3) := by decide +kernel
theorem dX10_readDocument_54 : decode cX10_readDocument 54 = .ok (.istore_n 2, 1) := by decide +kernel
theorem dX10_readDocument_55 : decode cX10_readDocument 55 = .ok (.goto (-20), 3) := by decide +kernel
theorem dX10_readDocument_58 : decode cX10_readDocument 58 = .ok (.aload_n 0, 1) := by decide +kernel
theorem dX10_readDocument_59 : decode cX10_readDocument 59 = .ok (.iconst 0, 1) := by decide +kernel
theorem dX10_readDocument_60 : decode cX10_readDocument 60 = .ok (.putfield 155, 3) := by decide +kernel
theorem dX10_readDocument_63 : decode cX10_readDocument 63 = .ok (.iload_n 2, 1) := by decide +kernel
theorem dX10_readDocument_64 : decode cX10_readDocument 64 = .ok (.ifCond .ne 15, 3) := by decide +kernel
theorem dX10_readDocument_67 : decode cX10_readDocument 67 = .ok (.aload_n 0, 1) := by decide +kernel
theorem dX10_readDocument_68 : decode cX10_readDocument 68 = .ok (.bipush (-100), 2) := by decide +kernel
theorem dX10_readDocument_70 : decode cX10_readDocument 70 = .ok (.aload_n 0, 1) := by decide +kernel
theorem dX10_readDocument_71 : decode cX10_readDocument 71 = .ok (.getfield 152, 3) := by decide +kernel
theorem dX10_readDocument_74 : decode cX10_readDocument 74 = .ok (.isub, 1) := by decide +kernel
theorem dX10_readDocument_75 : decode cX10_readDocument 75 = .ok (.invokevirtual 138, 3) := by decide +kernel
theorem dX10_readDocument_78 : decode cX10_readDocument 78 = .ok (.ireturn, 1) := by decide +kernel
theorem dX10_readDocument_79 : decode cX10_readDocument 79 = .ok (.aload_n 0, 1) := by decide +kernel
theorem dX10_readDocument_80 : decode cX10_readDocument 80 = .ok (.getfield 158, 3) := by decide +kernel
theorem dX10_readDocument_83 : decode cX10_readDocument 83 = .ok (.bipush 24, 2) := by decide +kernel
theorem dX10_readDocument_85 : decode cX10_readDocument 85 = .ok (.if_icmp .le 9, 3) := by decide +kernel
theorem dX10_readDocument_88 : decode cX10_readDocument 88 = .ok (.aload_n 0, 1) := by decide +kernel
theorem dX10_readDocument_89 : decode cX10_readDocument 89 = .ok (.iconst 2, 1) := by decide +kernel
theorem dX10_readDocument_90 : decode cX10_readDocument 90 = .ok (.invokevirtual 130, 3) := by decide +kernel
theorem dX10_readDocument_93 : decode cX10_readDocument 93 = .ok (.ireturn, 1) := by decide +kernel
theorem dX10_readDocument_94 : decode cX10_readDocument 94 = .ok (.aload_n 0, 1) := by decide +kernel
theorem dX10_readDocument_95 : decode cX10_readDocument 95 = .ok (.iload_n 1, 1) := by decide +kernel
theorem dX10_readDocument_96 : decode cX10_readDocument 96 = .ok (.invokevirtual 134, 3) := by decide +kernel
theorem dX10_readDocument_99 : decode cX10_readDocument 99 = .ok (.aload_n 0, 1) := by decide +kernel
theorem dX10_readDocument_100 : decode cX10_readDocument 100 = .ok (.iload_n 1, 1) := by decide +kernel
theorem dX10_readDocument_101 : decode cX10_readDocument 101 = .ok (.aload_n 0, 1) := by decide +kernel
theorem dX10_readDocument_102 : decode cX10_readDocument 102 = .ok (.getfield 39, 3) := by decide +kernel
theorem dX10_readDocument_105 : decode cX10_readDocument 105 = .ok (.aload_n 0, 1) := by decide +kernel
theorem dX10_readDocument_106 : decode cX10_readDocument 106 = .ok (.getfield 158, 3) := by decide +kernel
theorem dX10_readDocument_109 : decode cX10_readDocument 109 = .ok (.invokevirtual 141, 3) := by decide +kernel
theorem dX10_readDocument_112 : decode cX10_readDocument 112 = .ok (.aload_n 0, 1) := by decide +kernel
theorem dX10_readDocument_113 : decode cX10_readDocument 113 = .ok (.aload_n 0, 1) := by decide +kernel
theorem dX10_readDocument_114 : decode cX10_readDocument 114 = .ok (.getfield 158, 3) := by decide +kernel
theorem dX10_readDocument_117 : decode cX10_readDocument 117 = .ok (.invokevirtual 138, 3) := by decide +kernel
theorem dX10_readDocument_120 : decode cX10_readDocument 120 = .ok (.ireturn, 1) := by decide +kernel
theorem dX10_most_0 : decode cX10_most 0 = .ok (.iload_n 0, 1) := by decide +kernel
theorem dX10_most_1 : decode cX10_most 1 = .ok (.iload_n 1, 1) := by decide +kernel
theorem dX10_most_2 : decode cX10_most 2 = .ok (.if_icmp .le 7, 3) := by decide +kernel
theorem dX10_most_5 : decode cX10_most 5 = .ok (.iload_n 0, 1) := by decide +kernel
theorem dX10_most_6 : decode cX10_most 6 = .ok (.goto 4, 3) := by decide +kernel
theorem dX10_most_9 : decode cX10_most 9 = .ok (.iload_n 1, 1) := by decide +kernel
theorem dX10_most_10 : decode cX10_most 10 = .ok (.ireturn, 1) := by decide +kernel
theorem dX10_longestOf_0 : decode cX10_longestOf 0 = .ok (.aload_n 0, 1) := by decide +kernel
theorem dX10_longestOf_1 : decode cX10_longestOf 1 = .ok (.getfield 42, 3) := by decide +kernel
theorem dX10_longestOf_4 : decode cX10_longestOf 4 = .ok (.bipush 25, 2) := by decide +kernel
theorem dX10_longestOf_6 : decode cX10_longestOf 6 = .ok (.iload_n 1, 1) := by decide +kernel
theorem dX10_longestOf_7 : decode cX10_longestOf 7 = .ok (.imul, 1) := by decide +kernel
theorem dX10_longestOf_8 : decode cX10_longestOf 8 = .ok (.iload_n 2, 1) := by decide +kernel
theorem dX10_longestOf_9 : decode cX10_longestOf 9 = .ok (.iadd, 1) := by decide +kernel
theorem dX10_longestOf_10 : decode cX10_longestOf 10 = .ok (.iaload, 1) := by decide +kernel
theorem dX10_longestOf_11 : decode cX10_longestOf 11 = .ok (.ireturn, 1) := by decide +kernel
theorem dX10_measures_0 : decode cX10_measures 0 = .ok (.iload 4, 2) := by decide +kernel
theorem dX10_measures_2 : decode cX10_measures 2 = .ok (.istore 7, 2) := by decide +kernel
theorem dX10_measures_4 : decode cX10_measures 4 = .ok (.iload 7, 2) := by decide +kernel
theorem dX10_measures_6 : decode cX10_measures 6 = .ok (.iload_n 3, 1) := by decide +kernel
theorem dX10_measures_7 : decode cX10_measures 7 = .ok (.if_icmp .lt 130, 3) := by decide +kernel
theorem dX10_measures_10 : decode cX10_measures 10 = .ok (.iload 6, 2) := by decide +kernel
theorem dX10_measures_12 : decode cX10_measures 12 = .ok (.istore 8, 2) := by decide +kernel
theorem dX10_measures_14 : decode cX10_measures 14 = .ok (.iload 8, 2) := by decide +kernel
theorem dX10_measures_16 : decode cX10_measures 16 = .ok (.iload 5, 2) := by decide +kernel
theorem dX10_measures_18 : decode cX10_measures 18 = .ok (.if_icmp .lt 113, 3) := by decide +kernel
theorem dX10_measures_21 : decode cX10_measures 21 = .ok (.iload 7, 2) := by decide +kernel
theorem dX10_measures_23 : decode cX10_measures 23 = .ok (.iload 4, 2) := by decide +kernel
theorem dX10_measures_25 : decode cX10_measures 25 = .ok (.if_icmp .ge 36, 3) := by decide +kernel
theorem dX10_measures_28 : decode cX10_measures 28 = .ok (.iload 8, 2) := by decide +kernel
theorem dX10_measures_30 : decode cX10_measures 30 = .ok (.iload 6, 2) := by decide +kernel
theorem dX10_measures_32 : decode cX10_measures 32 = .ok (.if_icmp .ge 29, 3) := by decide +kernel
theorem dX10_measures_35 : decode cX10_measures 35 = .ok (.aload_n 0, 1) := by decide +kernel
theorem dX10_measures_36 : decode cX10_measures 36 = .ok (.iload 7, 2) := by decide +kernel
theorem dX10_measures_38 : decode cX10_measures 38 = .ok (.iconst 1, 1) := by decide +kernel
theorem dX10_measures_39 : decode cX10_measures 39 = .ok (.iadd, 1) := by decide +kernel
theorem dX10_measures_40 : decode cX10_measures 40 = .ok (.iload 8, 2) := by decide +kernel
theorem dX10_measures_42 : decode cX10_measures 42 = .ok (.invokevirtual 178, 3) := by decide +kernel
theorem dX10_measures_45 : decode cX10_measures 45 = .ok (.aload_n 0, 1) := by decide +kernel
theorem dX10_measures_46 : decode cX10_measures 46 = .ok (.iload 7, 2) := by decide +kernel
theorem dX10_measures_48 : decode cX10_measures 48 = .ok (.iload 8, 2) := by decide +kernel
theorem dX10_measures_50 : decode cX10_measures 50 = .ok (.iconst 1, 1) := by decide +kernel
theorem dX10_measures_51 : decode cX10_measures 51 = .ok (.iadd, 1) := by decide +kernel
theorem dX10_measures_52 : decode cX10_measures 52 = .ok (.invokevirtual 178, 3) := by decide +kernel
theorem dX10_measures_55 : decode cX10_measures 55 = .ok (.invokestatic 182, 3) := by decide +kernel
theorem dX10_measures_58 : decode cX10_measures 58 = .ok (.goto 4, 3) := by decide +kernel
theorem dX10_measures_61 : decode cX10_measures 61 = .ok (.iconst 0, 1) := by decide +kernel
theorem dX10_measures_62 : decode cX10_measures 62 = .ok (.istore 9, 2) := by decide +kernel
theorem dX10_measures_64 : decode cX10_measures 64 = .ok (.iload 7, 2) := by decide +kernel
theorem dX10_measures_66 : decode cX10_measures 66 = .ok (.iload 4, 2) := by decide +kernel
theorem dX10_measures_68 : decode cX10_measures 68 = .ok (.if_icmp .ge 42, 3) := by decide +kernel
theorem dX10_measures_71 : decode cX10_measures 71 = .ok (.iload 8, 2) := by decide +kernel
theorem dX10_measures_73 : decode cX10_measures 73 = .ok (.iload 6, 2) := by decide +kernel
theorem dX10_measures_75 : decode cX10_measures 75 = .ok (.if_icmp .ge 35, 3) := by decide +kernel
theorem dX10_measures_78 : decode cX10_measures 78 = .ok (.aload_n 1, 1) := by decide +kernel
theorem dX10_measures_79 : decode cX10_measures 79 = .ok (.iload 7, 2) := by decide +kernel
theorem dX10_measures_81 : decode cX10_measures 81 = .ok (.iaload, 1) := by decide +kernel
theorem dX10_measures_82 : decode cX10_measures 82 = .ok (.aload_n 2, 1) := by decide +kernel
theorem dX10_measures_83 : decode cX10_measures 83 = .ok (.iload 8, 2) := by decide +kernel
theorem dX10_measures_85 : decode cX10_measures 85 = .ok (.iaload, 1) := by decide +kernel
theorem dX10_measures_86 : decode cX10_measures 86 = .ok (.if_icmp .ne 24, 3) := by decide +kernel
theorem dX10_measures_89 : decode cX10_measures 89 = .ok (.iload 9, 2) := by decide +kernel
theorem dX10_measures_91 : decode cX10_measures 91 = .ok (.iconst 1, 1) := by decide +kernel
theorem dX10_measures_92 : decode cX10_measures 92 = .ok (.aload_n 0, 1) := by decide +kernel
theorem dX10_measures_93 : decode cX10_measures 93 = .ok (.iload 7, 2) := by decide +kernel
theorem dX10_measures_95 : decode cX10_measures 95 = .ok (.iconst 1, 1) := by decide +kernel
theorem dX10_measures_96 : decode cX10_measures 96 = .ok (.iadd, 1) := by decide +kernel
theorem dX10_measures_97 : decode cX10_measures 97 = .ok (.iload 8, 2) := by decide +kernel
theorem dX10_measures_99 : decode cX10_measures 99 = .ok (.iconst 1, 1) := by decide +kernel
theorem dX10_measures_100 : decode cX10_measures 100 = .ok (.iadd, 1) := by decide +kernel
theorem dX10_measures_101 : decode cX10_measures 101 = .ok (.invokevirtual 178, 3) := by decide +kernel
theorem dX10_measures_104 : decode cX10_measures 104 = .ok (.iadd, 1) := by decide +kernel
theorem dX10_measures_105 : decode cX10_measures 105 = .ok (.invokestatic 182, 3) := by decide +kernel
theorem dX10_measures_108 : decode cX10_measures 108 = .ok (.istore 9, 2) := by decide +kernel
theorem dX10_measures_110 : decode cX10_measures 110 = .ok (.aload_n 0, 1) := by decide +kernel
theorem dX10_measures_111 : decode cX10_measures 111 = .ok (.getfield 42, 3) := by decide +kernel
theorem dX10_measures_114 : decode cX10_measures 114 = .ok (.bipush 25, 2) := by decide +kernel
theorem dX10_measures_116 : decode cX10_measures 116 = .ok (.iload 7, 2) := by decide +kernel
theorem dX10_measures_118 : decode cX10_measures 118 = .ok (.imul, 1) := by decide +kernel
theorem dX10_measures_119 : decode cX10_measures 119 = .ok (.iload 8, 2) := by decide +kernel
theorem dX10_measures_121 : decode cX10_measures 121 = .ok (.iadd, 1) := by decide +kernel
theorem dX10_measures_122 : decode cX10_measures 122 = .ok (.iload 9, 2) := by decide +kernel
theorem dX10_measures_124 : decode cX10_measures 124 = .ok (.iastore, 1) := by decide +kernel
theorem dX10_measures_125 : decode cX10_measures 125 = .ok (.iinc 8 (-1), 3) := by decide +kernel
theorem dX10_measures_128 : decode cX10_measures 128 = .ok (.goto (-114), 3) := by decide +kernel
theorem dX10_measures_131 : decode cX10_measures 131 = .ok (.iinc 7 (-1), 3) := by decide +kernel
theorem dX10_measures_134 : decode cX10_measures 134 = .ok (.goto (-130), 3) := by decide +kernel
theorem dX10_measures_137 : decode cX10_measures 137 = .ok (.return_, 1) := by decide +kernel
theorem dX10_pairs_0 : decode cX10_pairs 0 = .ok (.aload_n 0, 1) := by decide +kernel
theorem dX10_pairs_1 : decode cX10_pairs 1 = .ok (.aload_n 1, 1) := by decide +kernel
theorem dX10_pairs_2 : decode cX10_pairs 2 = .ok (.aload_n 2, 1) := by decide +kernel
theorem dX10_pairs_3 : decode cX10_pairs 3 = .ok (.iload_n 3, 1) := by decide +kernel
theorem dX10_pairs_4 : decode cX10_pairs 4 = .ok (.iload 4, 2) := by decide +kernel
theorem dX10_pairs_6 : decode cX10_pairs 6 = .ok (.iload 5, 2) := by decide +kernel
theorem dX10_pairs_8 : decode cX10_pairs 8 = .ok (.iload 6, 2) := by decide +kernel
theorem dX10_pairs_10 : decode cX10_pairs 10 = .ok (.invokevirtual 185, 3) := by decide +kernel
theorem dX10_pairs_13 : decode cX10_pairs 13 = .ok (.iload 5, 2) := by decide +kernel
theorem dX10_pairs_15 : decode cX10_pairs 15 = .ok (.istore 8, 2) := by decide +kernel
theorem dX10_pairs_17 : decode cX10_pairs 17 = .ok (.aload_n 0, 1) := by decide +kernel
theorem dX10_pairs_18 : decode cX10_pairs 18 = .ok (.iload_n 3, 1) := by decide +kernel
theorem dX10_pairs_19 : decode cX10_pairs 19 = .ok (.iload 5, 2) := by decide +kernel
theorem dX10_pairs_21 : decode cX10_pairs 21 = .ok (.invokevirtual 178, 3) := by decide +kernel
theorem dX10_pairs_24 : decode cX10_pairs 24 = .ok (.istore 9, 2) := by decide +kernel
theorem dX10_pairs_26 : decode cX10_pairs 26 = .ok (.iload_n 3, 1) := by decide +kernel
theorem dX10_pairs_27 : decode cX10_pairs 27 = .ok (.istore 10, 2) := by decide +kernel
theorem dX10_pairs_29 : decode cX10_pairs 29 = .ok (.iload 10, 2) := by decide +kernel
theorem dX10_pairs_31 : decode cX10_pairs 31 = .ok (.iload 4, 2) := by decide +kernel
theorem dX10_pairs_33 : decode cX10_pairs 33 = .ok (.if_icmp .ge 86, 3) := by decide +kernel
theorem dX10_pairs_36 : decode cX10_pairs 36 = .ok (.iload 8, 2) := by decide +kernel
theorem dX10_pairs_38 : decode cX10_pairs 38 = .ok (.istore 11, 2) := by decide +kernel
theorem dX10_pairs_40 : decode cX10_pairs 40 = .ok (.iload 11, 2) := by decide +kernel
theorem dX10_pairs_42 : decode cX10_pairs 42 = .ok (.iload 6, 2) := by decide +kernel
theorem dX10_pairs_44 : decode cX10_pairs 44 = .ok (.if_icmp .ge 69, 3) := by decide +kernel
theorem dX10_pairs_47 : decode cX10_pairs 47 = .ok (.aload 7, 2) := by decide +kernel
theorem dX10_pairs_49 : decode cX10_pairs 49 = .ok (.iload 10, 2) := by decide +kernel
theorem dX10_pairs_51 : decode cX10_pairs 51 = .ok (.iaload, 1) := by decide +kernel
theorem dX10_pairs_52 : decode cX10_pairs 52 = .ok (.iconst (-1), 1) := by decide +kernel
theorem dX10_pairs_53 : decode cX10_pairs 53 = .ok (.if_icmp .ne 60, 3) := by decide +kernel
theorem dX10_pairs_56 : decode cX10_pairs 56 = .ok (.iload 9, 2) := by decide +kernel
theorem dX10_pairs_58 : decode cX10_pairs 58 = .ok (.ifCond .le 55, 3) := by decide +kernel
theorem dX10_pairs_61 : decode cX10_pairs 61 = .ok (.aload_n 1, 1) := by decide +kernel
theorem dX10_pairs_62 : decode cX10_pairs 62 = .ok (.iload 10, 2) := by decide +kernel
theorem dX10_pairs_64 : decode cX10_pairs 64 = .ok (.iaload, 1) := by decide +kernel
theorem dX10_pairs_65 : decode cX10_pairs 65 = .ok (.aload_n 2, 1) := by decide +kernel
theorem dX10_pairs_66 : decode cX10_pairs 66 = .ok (.iload 11, 2) := by decide +kernel
theorem dX10_pairs_68 : decode cX10_pairs 68 = .ok (.iaload, 1) := by decide +kernel
theorem dX10_pairs_69 : decode cX10_pairs 69 = .ok (.if_icmp .ne 38, 3) := by decide +kernel
theorem dX10_pairs_72 : decode cX10_pairs 72 = .ok (.aload_n 0, 1) := by decide +kernel
theorem dX10_pairs_73 : decode cX10_pairs 73 = .ok (.iload 10, 2) := by decide +kernel
theorem dX10_pairs_75 : decode cX10_pairs 75 = .ok (.iconst 1, 1) := by decide +kernel
theorem dX10_pairs_76 : decode cX10_pairs 76 = .ok (.iadd, 1) := by decide +kernel
theorem dX10_pairs_77 : decode cX10_pairs 77 = .ok (.iload 11, 2) := by decide +kernel
theorem dX10_pairs_79 : decode cX10_pairs 79 = .ok (.iconst 1, 1) := by decide +kernel
theorem dX10_pairs_80 : decode cX10_pairs 80 = .ok (.iadd, 1) := by decide +kernel
theorem dX10_pairs_81 : decode cX10_pairs 81 = .ok (.invokevirtual 178, 3) := by decide +kernel
theorem dX10_pairs_84 : decode cX10_pairs 84 = .ok (.iload 9, 2) := by decide +kernel
theorem dX10_pairs_86 : decode cX10_pairs 86 = .ok (.iconst 1, 1) := by decide +kernel
theorem dX10_pairs_87 : decode cX10_pairs 87 = .ok (.isub, 1) := by decide +kernel
theorem dX10_pairs_88 : decode cX10_pairs 88 = .ok (.if_icmp .ne 19, 3) := by decide +kernel
theorem dX10_pairs_91 : decode cX10_pairs 91 = .ok (.aload 7, 2) := by decide +kernel
theorem dX10_pairs_93 : decode cX10_pairs 93 = .ok (.iload 10, 2) := by decide +kernel
theorem dX10_pairs_95 : decode cX10_pairs 95 = .ok (.iload 11, 2) := by decide +kernel
theorem dX10_pairs_97 : decode cX10_pairs 97 = .ok (.iastore, 1) := by decide +kernel
theorem dX10_pairs_98 : decode cX10_pairs 98 = .ok (.iload 11, 2) := by decide +kernel
theorem dX10_pairs_100 : decode cX10_pairs 100 = .ok (.iconst 1, 1) := by decide +kernel
theorem dX10_pairs_101 : decode cX10_pairs 101 = .ok (.iadd, 1) := by decide +kernel
theorem dX10_pairs_102 : decode cX10_pairs 102 = .ok (.istore 8, 2) := by decide +kernel
theorem dX10_pairs_104 : decode cX10_pairs 104 = .ok (.iinc 9 (-1), 3) := by decide +kernel
theorem dX10_pairs_107 : decode cX10_pairs 107 = .ok (.iinc 11 1, 3) := by decide +kernel
theorem dX10_pairs_110 : decode cX10_pairs 110 = .ok (.goto (-70), 3) := by decide +kernel
theorem dX10_pairs_113 : decode cX10_pairs 113 = .ok (.iinc 10 1, 3) := by decide +kernel
theorem dX10_pairs_116 : decode cX10_pairs 116 = .ok (.goto (-87), 3) := by decide +kernel
theorem dX10_pairs_119 : decode cX10_pairs 119 = .ok (.return_, 1) := by decide +kernel
theorem dX10_occurs_0 : decode cX10_occurs 0 = .ok (.iconst 0, 1) := by decide +kernel
theorem dX10_occurs_1 : decode cX10_occurs 1 = .ok (.istore_n 3, 1) := by decide +kernel
theorem dX10_occurs_2 : decode cX10_occurs 2 = .ok (.iconst 0, 1) := by decide +kernel
theorem dX10_occurs_3 : decode cX10_occurs 3 = .ok (.istore 4, 2) := by decide +kernel
theorem dX10_occurs_5 : decode cX10_occurs 5 = .ok (.iload 4, 2) := by decide +kernel
theorem dX10_occurs_7 : decode cX10_occurs 7 = .ok (.iload_n 1, 1) := by decide +kernel
theorem dX10_occurs_8 : decode cX10_occurs 8 = .ok (.if_icmp .ge 25, 3) := by decide +kernel
theorem dX10_occurs_11 : decode cX10_occurs 11 = .ok (.iload_n 3, 1) := by decide +kernel
theorem dX10_occurs_12 : decode cX10_occurs 12 = .ok (.aload_n 0, 1) := by decide +kernel
theorem dX10_occurs_13 : decode cX10_occurs 13 = .ok (.iload 4, 2) := by decide +kernel
theorem dX10_occurs_15 : decode cX10_occurs 15 = .ok (.iaload, 1) := by decide +kernel
theorem dX10_occurs_16 : decode cX10_occurs 16 = .ok (.iload_n 2, 1) := by decide +kernel
theorem dX10_occurs_17 : decode cX10_occurs 17 = .ok (.if_icmp .ne 7, 3) := by decide +kernel
theorem dX10_occurs_20 : decode cX10_occurs 20 = .ok (.iconst 1, 1) := by decide +kernel
theorem dX10_occurs_21 : decode cX10_occurs 21 = .ok (.goto 4, 3) := by decide +kernel
theorem dX10_occurs_24 : decode cX10_occurs 24 = .ok (.iconst 0, 1) := by decide +kernel
theorem dX10_occurs_25 : decode cX10_occurs 25 = .ok (.iadd, 1) := by decide +kernel
theorem dX10_occurs_26 : decode cX10_occurs 26 = .ok (.istore_n 3, 1) := by decide +kernel
theorem dX10_occurs_27 : decode cX10_occurs 27 = .ok (.iinc 4 1, 3) := by decide +kernel
theorem dX10_occurs_30 : decode cX10_occurs 30 = .ok (.goto (-25), 3) := by decide +kernel
theorem dX10_occurs_33 : decode cX10_occurs 33 = .ok (.iload_n 3, 1) := by decide +kernel
theorem dX10_occurs_34 : decode cX10_occurs 34 = .ok (.ireturn, 1) := by decide +kernel
theorem dX10_tellCandidates_0 : decode cX10_tellCandidates 0 = .ok (.iload_n 2, 1) := by decide +kernel
theorem dX10_tellCandidates_1 : decode cX10_tellCandidates 1 = .ok (.iconst 1, 1) := by decide +kernel
theorem dX10_tellCandidates_2 : decode cX10_tellCandidates 2 = .ok (.isub, 1) := by decide +kernel
theorem dX10_tellCandidates_3 : decode cX10_tellCandidates 3 = .ok (.istore 5, 2) := by decide +kernel
theorem dX10_tellCandidates_5 : decode cX10_tellCandidates 5 = .ok (.iload 5, 2) := by decide +kernel
theorem dX10_tellCandidates_7 : decode cX10_tellCandidates 7 = .ok (.ifCond .lt 177, 3) := by decide +kernel
theorem dX10_tellCandidates_10 : decode cX10_tellCandidates 10 = .ok (.aload_n 0, 1) := by decide +kernel
theorem dX10_tellCandidates_11 : decode cX10_tellCandidates 11 = .ok (.getfield 45, 3) := by decide +kernel
theorem dX10_tellCandidates_14 : decode cX10_tellCandidates 14 = .ok (.iload 5, 2) := by decide +kernel
theorem dX10_tellCandidates_16 : decode cX10_tellCandidates 16 = .ok (.iconst (-1), 1) := by decide +kernel
theorem dX10_tellCandidates_17 : decode cX10_tellCandidates 17 = .ok (.iastore, 1) := by decide +kernel
theorem dX10_tellCandidates_18 : decode cX10_tellCandidates 18 = .ok (.aload_n 0, 1) := by decide +kernel
theorem dX10_tellCandidates_19 : decode cX10_tellCandidates 19 = .ok (.getfield 48, 3) := by decide +kernel
theorem dX10_tellCandidates_22 : decode cX10_tellCandidates 22 = .ok (.iload 5, 2) := by decide +kernel
theorem dX10_tellCandidates_24 : decode cX10_tellCandidates 24 = .ok (.iconst 0, 1) := by decide +kernel
theorem dX10_tellCandidates_25 : decode cX10_tellCandidates 25 = .ok (.iastore, 1) := by decide +kernel
theorem dX10_tellCandidates_26 : decode cX10_tellCandidates 26 = .ok (.aload_n 1, 1) := by decide +kernel
theorem dX10_tellCandidates_27 : decode cX10_tellCandidates 27 = .ok (.iload_n 2, 1) := by decide +kernel
theorem dX10_tellCandidates_28 : decode cX10_tellCandidates 28 = .ok (.aload_n 1, 1) := by decide +kernel
theorem dX10_tellCandidates_29 : decode cX10_tellCandidates 29 = .ok (.iload 5, 2) := by decide +kernel
theorem dX10_tellCandidates_31 : decode cX10_tellCandidates 31 = .ok (.iaload, 1) := by decide +kernel
theorem dX10_tellCandidates_32 : decode cX10_tellCandidates 32 = .ok (.invokestatic 189, 3) := by decide +kernel
theorem dX10_tellCandidates_35 : decode cX10_tellCandidates 35 = .ok (.iconst 1, 1) := by decide +kernel
theorem dX10_tellCandidates_36 : decode cX10_tellCandidates 36 = .ok (.if_icmp .ne 142, 3) := by decide +kernel
theorem dX10_tellCandidates_39 : decode cX10_tellCandidates 39 = .ok (.aload_n 3, 1) := by decide +kernel
theorem dX10_tellCandidates_40 : decode cX10_tellCandidates 40 = .ok (.iload 4, 2) := by decide +kernel
theorem dX10_tellCandidates_42 : decode cX10_tellCandidates 42 = .ok (.aload_n 1, 1) := by decide +kernel
theorem dX10_tellCandidates_43 : decode cX10_tellCandidates 43 = .ok (.iload 5, 2) := by decide +kernel
theorem dX10_tellCandidates_45 : decode cX10_tellCandidates 45 = .ok (.iaload, 1) := by decide +kernel
theorem dX10_tellCandidates_46 : decode cX10_tellCandidates 46 = .ok (.invokestatic 189, 3) := by decide +kernel
theorem dX10_tellCandidates_49 : decode cX10_tellCandidates 49 = .ok (.iconst 1, 1) := by decide +kernel
theorem dX10_tellCandidates_50 : decode cX10_tellCandidates 50 = .ok (.if_icmp .ne 128, 3) := by decide +kernel
theorem dX10_tellCandidates_53 : decode cX10_tellCandidates 53 = .ok (.iconst 0, 1) := by decide +kernel
theorem dX10_tellCandidates_54 : decode cX10_tellCandidates 54 = .ok (.istore 6, 2) := by decide +kernel
theorem dX10_tellCandidates_56 : decode cX10_tellCandidates 56 = .ok (.iload 6, 2) := by decide +kernel
theorem dX10_tellCandidates_58 : decode cX10_tellCandidates 58 = .ok (.iload 4, 2) := by decide +kernel
theorem dX10_tellCandidates_60 : decode cX10_tellCandidates 60 = .ok (.if_icmp .ge 39, 3) := by decide +kernel
theorem dX10_tellCandidates_63 : decode cX10_tellCandidates 63 = .ok (.aload_n 0, 1) := by decide +kernel
theorem dX10_tellCandidates_64 : decode cX10_tellCandidates 64 = .ok (.getfield 45, 3) := by decide +kernel
theorem dX10_tellCandidates_67 : decode cX10_tellCandidates 67 = .ok (.iload 5, 2) := by decide +kernel
theorem dX10_tellCandidates_69 : decode cX10_tellCandidates 69 = .ok (.aload_n 3, 1) := by decide +kernel
theorem dX10_tellCandidates_70 : decode cX10_tellCandidates 70 = .ok (.iload 6, 2) := by decide +kernel
theorem dX10_tellCandidates_72 : decode cX10_tellCandidates 72 = .ok (.iaload, 1) := by decide +kernel
theorem dX10_tellCandidates_73 : decode cX10_tellCandidates 73 = .ok (.aload_n 1, 1) := by decide +kernel
theorem dX10_tellCandidates_74 : decode cX10_tellCandidates 74 = .ok (.iload 5, 2) := by decide +kernel
theorem dX10_tellCandidates_76 : decode cX10_tellCandidates 76 = .ok (.iaload, 1) := by decide +kernel
theorem dX10_tellCandidates_77 : decode cX10_tellCandidates 77 = .ok (.if_icmp .ne 8, 3) := by decide +kernel
theorem dX10_tellCandidates_80 : decode cX10_tellCandidates 80 = .ok (.iload 6, 2) := by decide +kernel
theorem dX10_tellCandidates_82 : decode cX10_tellCandidates 82 = .ok (.goto 10, 3) := by decide +kernel
theorem dX10_tellCandidates_85 : decode cX10_tellCandidates 85 = .ok (.aload_n 0, 1) := by decide +kernel
theorem dX10_tellCandidates_86 : decode cX10_tellCandidates 86 = .ok (.getfield 45, 3) := by decide +kernel
theorem dX10_tellCandidates_89 : decode cX10_tellCandidates 89 = .ok (.iload 5, 2) := by decide +kernel
theorem dX10_tellCandidates_91 : decode cX10_tellCandidates 91 = .ok (.iaload, 1) := by decide +kernel
theorem dX10_tellCandidates_92 : decode cX10_tellCandidates 92 = .ok (.iastore, 1) := by decide +kernel
theorem dX10_tellCandidates_93 : decode cX10_tellCandidates 93 = .ok (.iinc 6 1, 3) := by decide +kernel
theorem dX10_tellCandidates_96 : decode cX10_tellCandidates 96 = .ok (.goto (-40), 3) := by decide +kernel
theorem dX10_tellCandidates_99 : decode cX10_tellCandidates 99 = .ok (.aload_n 0, 1) := by decide +kernel
theorem dX10_tellCandidates_100 : decode cX10_tellCandidates 100 = .ok (.getfield 48, 3) := by decide +kernel
theorem dX10_tellCandidates_103 : decode cX10_tellCandidates 103 = .ok (.iload 5, 2) := by decide +kernel
theorem dX10_tellCandidates_105 : decode cX10_tellCandidates 105 = .ok (.iconst 1, 1) := by decide +kernel
theorem dX10_tellCandidates_106 : decode cX10_tellCandidates 106 = .ok (.iastore, 1) := by decide +kernel
theorem dX10_tellCandidates_107 : decode cX10_tellCandidates 107 = .ok (.iload 5, 2) := by decide +kernel
theorem dX10_tellCandidates_109 : decode cX10_tellCandidates 109 = .ok (.iconst 1, 1) := by decide +kernel
theorem dX10_tellCandidates_110 : decode cX10_tellCandidates 110 = .ok (.iadd, 1) := by decide +kernel
theorem dX10_tellCandidates_111 : decode cX10_tellCandidates 111 = .ok (.istore 6, 2) := by decide +kernel
theorem dX10_tellCandidates_113 : decode cX10_tellCandidates 113 = .ok (.iload 6, 2) := by decide +kernel
theorem dX10_tellCandidates_115 : decode cX10_tellCandidates 115 = .ok (.iload_n 2, 1) := by decide +kernel
theorem dX10_tellCandidates_116 : decode cX10_tellCandidates 116 = .ok (.if_icmp .ge 62, 3) := by decide +kernel
theorem dX10_tellCandidates_119 : decode cX10_tellCandidates 119 = .ok (.aload_n 0, 1) := by decide +kernel
theorem dX10_tellCandidates_120 : decode cX10_tellCandidates 120 = .ok (.getfield 48, 3) := by decide +kernel
theorem dX10_tellCandidates_123 : decode cX10_tellCandidates 123 = .ok (.iload 5, 2) := by decide +kernel
theorem dX10_tellCandidates_125 : decode cX10_tellCandidates 125 = .ok (.aload_n 0, 1) := by decide +kernel
theorem dX10_tellCandidates_126 : decode cX10_tellCandidates 126 = .ok (.getfield 45, 3) := by decide +kernel
theorem dX10_tellCandidates_129 : decode cX10_tellCandidates 129 = .ok (.iload 6, 2) := by decide +kernel
theorem dX10_tellCandidates_131 : decode cX10_tellCandidates 131 = .ok (.iaload, 1) := by decide +kernel
theorem dX10_tellCandidates_132 : decode cX10_tellCandidates 132 = .ok (.aload_n 0, 1) := by decide +kernel
theorem dX10_tellCandidates_133 : decode cX10_tellCandidates 133 = .ok (.getfield 45, 3) := by decide +kernel
theorem dX10_tellCandidates_136 : decode cX10_tellCandidates 136 = .ok (.iload 5, 2) := by decide +kernel
theorem dX10_tellCandidates_138 : decode cX10_tellCandidates 138 = .ok (.iaload, 1) := by decide +kernel
theorem dX10_tellCandidates_139 : decode cX10_tellCandidates 139 = .ok (.if_icmp .le 25, 3) := by decide +kernel
theorem dX10_tellCandidates_142 : decode cX10_tellCandidates 142 = .ok (.aload_n 0, 1) := by decide +kernel
theorem dX10_tellCandidates_143 : decode cX10_tellCandidates 143 = .ok (.getfield 48, 3) := by decide +kernel
theorem dX10_tellCandidates_146 : decode cX10_tellCandidates 146 = .ok (.iload 5, 2) := by decide +kernel
theorem dX10_tellCandidates_148 : decode cX10_tellCandidates 148 = .ok (.iaload, 1) := by decide +kernel
theorem dX10_tellCandidates_149 : decode cX10_tellCandidates 149 = .ok (.iconst 1, 1) := by decide +kernel
theorem dX10_tellCandidates_150 : decode cX10_tellCandidates 150 = .ok (.aload_n 0, 1) := by decide +kernel
theorem dX10_tellCandidates_151 : decode cX10_tellCandidates 151 = .ok (.getfield 48, 3) := by decide +kernel
theorem dX10_tellCandidates_154 : decode cX10_tellCandidates 154 = .ok (.iload 6, 2) := by decide +kernel
theorem dX10_tellCandidates_156 : decode cX10_tellCandidates 156 = .ok (.iaload, 1) := by decide +kernel
theorem dX10_tellCandidates_157 : decode cX10_tellCandidates 157 = .ok (.iadd, 1) := by decide +kernel
theorem dX10_tellCandidates_158 : decode cX10_tellCandidates 158 = .ok (.invokestatic 182, 3) := by decide +kernel
theorem dX10_tellCandidates_161 : decode cX10_tellCandidates 161 = .ok (.goto 10, 3) := by decide +kernel
theorem dX10_tellCandidates_164 : decode cX10_tellCandidates 164 = .ok (.aload_n 0, 1) := by decide +kernel
theorem dX10_tellCandidates_165 : decode cX10_tellCandidates 165 = .ok (.getfield 48, 3) := by decide +kernel
theorem dX10_tellCandidates_168 : decode cX10_tellCandidates 168 = .ok (.iload 5, 2) := by decide +kernel
theorem dX10_tellCandidates_170 : decode cX10_tellCandidates 170 = .ok (.iaload, 1) := by decide +kernel
theorem dX10_tellCandidates_171 : decode cX10_tellCandidates 171 = .ok (.iastore, 1) := by decide +kernel
theorem dX10_tellCandidates_172 : decode cX10_tellCandidates 172 = .ok (.iinc 6 1, 3) := by decide +kernel
theorem dX10_tellCandidates_175 : decode cX10_tellCandidates 175 = .ok (.goto (-62), 3) := by decide +kernel
theorem dX10_tellCandidates_178 : decode cX10_tellCandidates 178 = .ok (.iinc 5 (-1), 3) := by decide +kernel
theorem dX10_tellCandidates_181 : decode cX10_tellCandidates 181 = .ok (.goto (-176), 3) := by decide +kernel
theorem dX10_tellCandidates_184 : decode cX10_tellCandidates 184 = .ok (.return_, 1) := by decide +kernel
