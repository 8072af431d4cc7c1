theorem dX6_pushNewPart_0 : decode cX6_pushNewPart 0 = .ok (.iload_n 3, 1) := by decide +kernel
theorem dX6_pushNewPart_1 : decode cX6_pushNewPart 1 = .ok (.ifCond .eq 10, 3) := by decide +kernel
theorem dX6_pushNewPart_4 : decode cX6_pushNewPart 4 = .ok (.aload_n 0, 1) := by decide +kernel
theorem dX6_pushNewPart_5 : decode cX6_pushNewPart 5 = .ok (.getfield 14, 3) := by decide +kernel
theorem dX6_pushNewPart_8 : decode cX6_pushNewPart 8 = .ok (.goto 7, 3) := by decide +kernel
theorem dX6_pushNewPart_11 : decode cX6_pushNewPart 11 = .ok (.aload_n 0, 1) := by decide +kernel
theorem dX6_pushNewPart_12 : decode cX6_pushNewPart 12 = .ok (.getfield 20, 3) := by decide +kernel
theorem dX6_pushNewPart_15 : decode cX6_pushNewPart 15 = .ok (.astore 4, 2) := by decide +kernel
theorem dX6_pushNewPart_17 : decode cX6_pushNewPart 17 = .ok (.iload_n 3, 1) := by decide +kernel
theorem dX6_pushNewPart_18 : decode cX6_pushNewPart 18 = .ok (.ifCond .eq 7, 3) := by decide +kernel
theorem dX6_pushNewPart_21 : decode cX6_pushNewPart 21 = .ok (.iconst 0, 1) := by decide +kernel
theorem dX6_pushNewPart_22 : decode cX6_pushNewPart 22 = .ok (.goto 4, 3) := by decide +kernel
theorem dX6_pushNewPart_25 : decode cX6_pushNewPart 25 = .ok (.iconst 2, 1) := by decide +kernel
theorem dX6_pushNewPart_26 : decode cX6_pushNewPart 26 = .ok (.istore 5, 2) := by decide +kernel
theorem dX6_pushNewPart_28 : decode cX6_pushNewPart 28 = .ok (.aload_n 0, 1) := by decide +kernel
theorem dX6_pushNewPart_29 : decode cX6_pushNewPart 29 = .ok (.getfield 38, 3) := by decide +kernel
theorem dX6_pushNewPart_32 : decode cX6_pushNewPart 32 = .ok (.aload 4, 2) := by decide +kernel
theorem dX6_pushNewPart_34 : decode cX6_pushNewPart 34 = .ok (.aload_n 0, 1) := by decide +kernel
theorem dX6_pushNewPart_35 : decode cX6_pushNewPart 35 = .ok (.iload_n 1, 1) := by decide +kernel
theorem dX6_pushNewPart_36 : decode cX6_pushNewPart 36 = .ok (.iload 5, 2) := by decide +kernel
theorem dX6_pushNewPart_38 : decode cX6_pushNewPart 38 = .ok (.iload_n 2, 1) := by decide +kernel
theorem dX6_pushNewPart_39 : decode cX6_pushNewPart 39 = .ok (.invokevirtual 114, 3) := by decide +kernel
theorem dX6_pushNewPart_42 : decode cX6_pushNewPart 42 = .ok (.aload_n 0, 1) := by decide +kernel
theorem dX6_pushNewPart_43 : decode cX6_pushNewPart 43 = .ok (.iload_n 1, 1) := by decide +kernel
theorem dX6_pushNewPart_44 : decode cX6_pushNewPart 44 = .ok (.iload 5, 2) := by decide +kernel
theorem dX6_pushNewPart_46 : decode cX6_pushNewPart 46 = .ok (.iload_n 2, 1) := by decide +kernel
theorem dX6_pushNewPart_47 : decode cX6_pushNewPart 47 = .ok (.invokevirtual 118, 3) := by decide +kernel
theorem dX6_pushNewPart_50 : decode cX6_pushNewPart 50 = .ok (.invokevirtual 110, 3) := by decide +kernel
theorem dX6_pushNewPart_53 : decode cX6_pushNewPart 53 = .ok (.return_, 1) := by decide +kernel
theorem dX6_partBegin_0 : decode cX6_partBegin 0 = .ok (.aload_n 0, 1) := by decide +kernel
theorem dX6_partBegin_1 : decode cX6_partBegin 1 = .ok (.getfield 28, 3) := by decide +kernel
theorem dX6_partBegin_4 : decode cX6_partBegin 4 = .ok (.iload_n 1, 1) := by decide +kernel
theorem dX6_partBegin_5 : decode cX6_partBegin 5 = .ok (.iload_n 2, 1) := by decide +kernel
theorem dX6_partBegin_6 : decode cX6_partBegin 6 = .ok (.invokevirtual 79, 3) := by decide +kernel
theorem dX6_partBegin_9 : decode cX6_partBegin 9 = .ok (.iload_n 3, 1) := by decide +kernel
theorem dX6_partBegin_10 : decode cX6_partBegin 10 = .ok (.aload_n 0, 1) := by decide +kernel
theorem dX6_partBegin_11 : decode cX6_partBegin 11 = .ok (.getfield 28, 3) := by decide +kernel
theorem dX6_partBegin_14 : decode cX6_partBegin 14 = .ok (.iload_n 1, 1) := by decide +kernel
theorem dX6_partBegin_15 : decode cX6_partBegin 15 = .ok (.iconst 4, 1) := by decide +kernel
theorem dX6_partBegin_16 : decode cX6_partBegin 16 = .ok (.invokevirtual 79, 3) := by decide +kernel
theorem dX6_partBegin_19 : decode cX6_partBegin 19 = .ok (.invokestatic 83, 3) := by decide +kernel
theorem dX6_partBegin_22 : decode cX6_partBegin 22 = .ok (.iadd, 1) := by decide +kernel
theorem dX6_partBegin_23 : decode cX6_partBegin 23 = .ok (.ireturn, 1) := by decide +kernel
theorem dX6_partEnd_0 : decode cX6_partEnd 0 = .ok (.aload_n 0, 1) := by decide +kernel
theorem dX6_partEnd_1 : decode cX6_partEnd 1 = .ok (.getfield 28, 3) := by decide +kernel
theorem dX6_partEnd_4 : decode cX6_partEnd 4 = .ok (.iload_n 1, 1) := by decide +kernel
theorem dX6_partEnd_5 : decode cX6_partEnd 5 = .ok (.iload_n 2, 1) := by decide +kernel
theorem dX6_partEnd_6 : decode cX6_partEnd 6 = .ok (.invokevirtual 79, 3) := by decide +kernel
theorem dX6_partEnd_9 : decode cX6_partEnd 9 = .ok (.aload_n 0, 1) := by decide +kernel
theorem dX6_partEnd_10 : decode cX6_partEnd 10 = .ok (.getfield 28, 3) := by decide +kernel
theorem dX6_partEnd_13 : decode cX6_partEnd 13 = .ok (.iload_n 1, 1) := by decide +kernel
theorem dX6_partEnd_14 : decode cX6_partEnd 14 = .ok (.iload_n 2, 1) := by decide +kernel
theorem dX6_partEnd_15 : decode cX6_partEnd 15 = .ok (.iconst 1, 1) := by decide +kernel
theorem dX6_partEnd_16 : decode cX6_partEnd 16 = .ok (.iadd, 1) := by decide +kernel
theorem dX6_partEnd_17 : decode cX6_partEnd 17 = .ok (.invokevirtual 79, 3) := by decide +kernel
theorem dX6_partEnd_20 : decode cX6_partEnd 20 = .ok (.iadd, 1) := by decide +kernel
theorem dX6_partEnd_21 : decode cX6_partEnd 21 = .ok (.istore 4, 2) := by decide +kernel
theorem dX6_partEnd_23 : decode cX6_partEnd 23 = .ok (.iload 4, 2) := by decide +kernel
theorem dX6_partEnd_25 : decode cX6_partEnd 25 = .ok (.iload_n 3, 1) := by decide +kernel
theorem dX6_partEnd_26 : decode cX6_partEnd 26 = .ok (.aload_n 0, 1) := by decide +kernel
theorem dX6_partEnd_27 : decode cX6_partEnd 27 = .ok (.getfield 28, 3) := by decide +kernel
theorem dX6_partEnd_30 : decode cX6_partEnd 30 = .ok (.iload_n 1, 1) := by decide +kernel
theorem dX6_partEnd_31 : decode cX6_partEnd 31 = .ok (.iconst 5, 1) := by decide +kernel
theorem dX6_partEnd_32 : decode cX6_partEnd 32 = .ok (.invokevirtual 79, 3) := by decide +kernel
theorem dX6_partEnd_35 : decode cX6_partEnd 35 = .ok (.invokestatic 83, 3) := by decide +kernel
theorem dX6_partEnd_38 : decode cX6_partEnd 38 = .ok (.isub, 1) := by decide +kernel
theorem dX6_partEnd_39 : decode cX6_partEnd 39 = .ok (.ireturn, 1) := by decide +kernel
theorem dX6_findFit_0 : decode cX6_findFit 0 = .ok (.iload_n 3, 1) := by decide +kernel
theorem dX6_findFit_1 : decode cX6_findFit 1 = .ok (.aload_n 0, 1) := by decide +kernel
theorem dX6_findFit_2 : decode cX6_findFit 2 = .ok (.getfield 98, 3) := by decide +kernel
theorem dX6_findFit_5 : decode cX6_findFit 5 = .ok (.iadd, 1) := by decide +kernel
theorem dX6_findFit_6 : decode cX6_findFit 6 = .ok (.istore 5, 2) := by decide +kernel
theorem dX6_findFit_8 : decode cX6_findFit 8 = .ok (.iconst 0, 1) := by decide +kernel
theorem dX6_findFit_9 : decode cX6_findFit 9 = .ok (.istore 6, 2) := by decide +kernel
theorem dX6_findFit_11 : decode cX6_findFit 11 = .ok (.iload 6, 2) := by decide +kernel
theorem dX6_findFit_13 : decode cX6_findFit 13 = .ok (.bipush 10, 2) := by decide +kernel
theorem dX6_findFit_15 : decode cX6_findFit 15 = .ok (.if_icmp .gt 55, 3) := by decide +kernel
theorem dX6_findFit_18 : decode cX6_findFit 18 = .ok (.aload_n 0, 1) := by decide +kernel
theorem dX6_findFit_19 : decode cX6_findFit 19 = .ok (.aload_n 1, 1) := by decide +kernel
theorem dX6_findFit_20 : decode cX6_findFit 20 = .ok (.iload 5, 2) := by decide +kernel
theorem dX6_findFit_22 : decode cX6_findFit 22 = .ok (.iload 6, 2) := by decide +kernel
theorem dX6_findFit_24 : decode cX6_findFit 24 = .ok (.iadd, 1) := by decide +kernel
theorem dX6_findFit_25 : decode cX6_findFit 25 = .ok (.aload_n 2, 1) := by decide +kernel
theorem dX6_findFit_26 : decode cX6_findFit 26 = .ok (.iload_n 3, 1) := by decide +kernel
theorem dX6_findFit_27 : decode cX6_findFit 27 = .ok (.iload 4, 2) := by decide +kernel
theorem dX6_findFit_29 : decode cX6_findFit 29 = .ok (.invokevirtual 132, 3) := by decide +kernel
theorem dX6_findFit_32 : decode cX6_findFit 32 = .ok (.ifCond .eq 9, 3) := by decide +kernel
theorem dX6_findFit_35 : decode cX6_findFit 35 = .ok (.iload 5, 2) := by decide +kernel
theorem dX6_findFit_37 : decode cX6_findFit 37 = .ok (.iload 6, 2) := by decide +kernel
theorem dX6_findFit_39 : decode cX6_findFit 39 = .ok (.iadd, 1) := by decide +kernel
theorem dX6_findFit_40 : decode cX6_findFit 40 = .ok (.ireturn, 1) := by decide +kernel
theorem dX6_findFit_41 : decode cX6_findFit 41 = .ok (.aload_n 0, 1) := by decide +kernel
theorem dX6_findFit_42 : decode cX6_findFit 42 = .ok (.aload_n 1, 1) := by decide +kernel
theorem dX6_findFit_43 : decode cX6_findFit 43 = .ok (.iload 5, 2) := by decide +kernel
theorem dX6_findFit_45 : decode cX6_findFit 45 = .ok (.iload 6, 2) := by decide +kernel
theorem dX6_findFit_47 : decode cX6_findFit 47 = .ok (.isub, 1) := by decide +kernel
theorem dX6_findFit_48 : decode cX6_findFit 48 = .ok (.aload_n 2, 1) := by decide +kernel
theorem dX6_findFit_49 : decode cX6_findFit 49 = .ok (.iload_n 3, 1) := by decide +kernel
theorem dX6_findFit_50 : decode cX6_findFit 50 = .ok (.iload 4, 2) := by decide +kernel
theorem dX6_findFit_52 : decode cX6_findFit 52 = .ok (.invokevirtual 132, 3) := by decide +kernel
theorem dX6_findFit_55 : decode cX6_findFit 55 = .ok (.ifCond .eq 9, 3) := by decide +kernel
theorem dX6_findFit_58 : decode cX6_findFit 58 = .ok (.iload 5, 2) := by decide +kernel
theorem dX6_findFit_60 : decode cX6_findFit 60 = .ok (.iload 6, 2) := by decide +kernel
theorem dX6_findFit_62 : decode cX6_findFit 62 = .ok (.isub, 1) := by decide +kernel
theorem dX6_findFit_63 : decode cX6_findFit 63 = .ok (.ireturn, 1) := by decide +kernel
theorem dX6_findFit_64 : decode cX6_findFit 64 = .ok (.iinc 6 1, 3) := by decide +kernel
theorem dX6_findFit_67 : decode cX6_findFit 67 = .ok (.goto (-56), 3) := by decide +kernel
theorem dX6_findFit_70 : decode cX6_findFit 70 = .ok (.iconst (-1), 1) := by decide +kernel
theorem dX6_findFit_71 : decode cX6_findFit 71 = .ok (.ireturn, 1) := by decide +kernel
theorem dX6_fits_0 : decode cX6_fits 0 = .ok (.iload_n 2, 1) := by decide +kernel
theorem dX6_fits_1 : decode cX6_fits 1 = .ok (.iload 5, 2) := by decide +kernel
theorem dX6_fits_3 : decode cX6_fits 3 = .ok (.iadd, 1) := by decide +kernel
theorem dX6_fits_4 : decode cX6_fits 4 = .ok (.iload 4, 2) := by decide +kernel
theorem dX6_fits_6 : decode cX6_fits 6 = .ok (.isub, 1) := by decide +kernel
theorem dX6_fits_7 : decode cX6_fits 7 = .ok (.istore 6, 2) := by decide +kernel
theorem dX6_fits_9 : decode cX6_fits 9 = .ok (.iload_n 2, 1) := by decide +kernel
theorem dX6_fits_10 : decode cX6_fits 10 = .ok (.aload_n 0, 1) := by decide +kernel
theorem dX6_fits_11 : decode cX6_fits 11 = .ok (.getfield 102, 3) := by decide +kernel
theorem dX6_fits_14 : decode cX6_fits 14 = .ok (.if_icmp .lt 31, 3) := by decide +kernel
theorem dX6_fits_17 : decode cX6_fits 17 = .ok (.iload 6, 2) := by decide +kernel
theorem dX6_fits_19 : decode cX6_fits 19 = .ok (.aload_n 1, 1) := by decide +kernel
theorem dX6_fits_20 : decode cX6_fits 20 = .ok (.invokevirtual 88, 3) := by decide +kernel
theorem dX6_fits_23 : decode cX6_fits 23 = .ok (.if_icmp .gt 22, 3) := by decide +kernel
theorem dX6_fits_26 : decode cX6_fits 26 = .ok (.aload_n 1, 1) := by decide +kernel
theorem dX6_fits_27 : decode cX6_fits 27 = .ok (.iload_n 2, 1) := by decide +kernel
theorem dX6_fits_28 : decode cX6_fits 28 = .ok (.iload 6, 2) := by decide +kernel
theorem dX6_fits_30 : decode cX6_fits 30 = .ok (.aload_n 3, 1) := by decide +kernel
theorem dX6_fits_31 : decode cX6_fits 31 = .ok (.iload 4, 2) := by decide +kernel
theorem dX6_fits_33 : decode cX6_fits 33 = .ok (.iload 5, 2) := by decide +kernel
theorem dX6_fits_35 : decode cX6_fits 35 = .ok (.invokevirtual 136, 3) := by decide +kernel
theorem dX6_fits_38 : decode cX6_fits 38 = .ok (.ifCond .eq 7, 3) := by decide +kernel
theorem dX6_fits_41 : decode cX6_fits 41 = .ok (.iconst 1, 1) := by decide +kernel
theorem dX6_fits_42 : decode cX6_fits 42 = .ok (.goto 4, 3) := by decide +kernel
theorem dX6_fits_45 : decode cX6_fits 45 = .ok (.iconst 0, 1) := by decide +kernel
theorem dX6_fits_46 : decode cX6_fits 46 = .ok (.ireturn, 1) := by decide +kernel
theorem dX6_keepOutcomes_0 : decode cX6_keepOutcomes 0 = .ok (.aload_n 0, 1) := by decide +kernel
theorem dX6_keepOutcomes_1 : decode cX6_keepOutcomes 1 = .ok (.getfield 35, 3) := by decide +kernel
theorem dX6_keepOutcomes_4 : decode cX6_keepOutcomes 4 = .ok (.invokevirtual 56, 3) := by decide +kernel
theorem dX6_keepOutcomes_7 : decode cX6_keepOutcomes 7 = .ok (.iconst 0, 1) := by decide +kernel
theorem dX6_keepOutcomes_8 : decode cX6_keepOutcomes 8 = .ok (.istore_n 1, 1) := by decide +kernel
theorem dX6_keepOutcomes_9 : decode cX6_keepOutcomes 9 = .ok (.iconst 0, 1) := by decide +kernel
theorem dX6_keepOutcomes_10 : decode cX6_keepOutcomes 10 = .ok (.istore_n 2, 1) := by decide +kernel
theorem dX6_keepOutcomes_11 : decode cX6_keepOutcomes 11 = .ok (.iload_n 2, 1) := by decide +kernel
theorem dX6_keepOutcomes_12 : decode cX6_keepOutcomes 12 = .ok (.aload_n 0, 1) := by decide +kernel
theorem dX6_keepOutcomes_13 : decode cX6_keepOutcomes 13 = .ok (.getfield 32, 3) := by decide +kernel
theorem dX6_keepOutcomes_16 : decode cX6_keepOutcomes 16 = .ok (.invokevirtual 63, 3) := by decide +kernel
theorem dX6_keepOutcomes_19 : decode cX6_keepOutcomes 19 = .ok (.if_icmp .ge 50, 3) := by decide +kernel
theorem dX6_keepOutcomes_22 : decode cX6_keepOutcomes 22 = .ok (.aload_n 0, 1) := by decide +kernel
theorem dX6_keepOutcomes_23 : decode cX6_keepOutcomes 23 = .ok (.getfield 35, 3) := by decide +kernel
theorem dX6_keepOutcomes_26 : decode cX6_keepOutcomes 26 = .ok (.aload_n 0, 1) := by decide +kernel
theorem dX6_keepOutcomes_27 : decode cX6_keepOutcomes 27 = .ok (.getfield 32, 3) := by decide +kernel
theorem dX6_keepOutcomes_30 : decode cX6_keepOutcomes 30 = .ok (.iload_n 2, 1) := by decide +kernel
theorem dX6_keepOutcomes_31 : decode cX6_keepOutcomes 31 = .ok (.iconst 0, 1) := by decide +kernel
theorem dX6_keepOutcomes_32 : decode cX6_keepOutcomes 32 = .ok (.invokevirtual 79, 3) := by decide +kernel
theorem dX6_keepOutcomes_35 : decode cX6_keepOutcomes 35 = .ok (.aload_n 0, 1) := by decide +kernel
theorem dX6_keepOutcomes_36 : decode cX6_keepOutcomes 36 = .ok (.getfield 32, 3) := by decide +kernel
theorem dX6_keepOutcomes_39 : decode cX6_keepOutcomes 39 = .ok (.iload_n 2, 1) := by decide +kernel
theorem dX6_keepOutcomes_40 : decode cX6_keepOutcomes 40 = .ok (.iconst 1, 1) := by decide +kernel
theorem dX6_keepOutcomes_41 : decode cX6_keepOutcomes 41 = .ok (.invokevirtual 79, 3) := by decide +kernel
theorem dX6_keepOutcomes_44 : decode cX6_keepOutcomes 44 = .ok (.invokevirtual 129, 3) := by decide +kernel
theorem dX6_keepOutcomes_47 : decode cX6_keepOutcomes 47 = .ok (.aload_n 0, 1) := by decide +kernel
theorem dX6_keepOutcomes_48 : decode cX6_keepOutcomes 48 = .ok (.getfield 32, 3) := by decide +kernel
theorem dX6_keepOutcomes_51 : decode cX6_keepOutcomes 51 = .ok (.iload_n 2, 1) := by decide +kernel
theorem dX6_keepOutcomes_52 : decode cX6_keepOutcomes 52 = .ok (.iconst 0, 1) := by decide +kernel
theorem dX6_keepOutcomes_53 : decode cX6_keepOutcomes 53 = .ok (.invokevirtual 79, 3) := by decide +kernel
theorem dX6_keepOutcomes_56 : decode cX6_keepOutcomes 56 = .ok (.iconst (-1), 1) := by decide +kernel
theorem dX6_keepOutcomes_57 : decode cX6_keepOutcomes 57 = .ok (.if_icmp .eq 6, 3) := by decide +kernel
theorem dX6_keepOutcomes_60 : decode cX6_keepOutcomes 60 = .ok (.iinc 1 1, 3) := by decide +kernel
theorem dX6_keepOutcomes_63 : decode cX6_keepOutcomes 63 = .ok (.iinc 2 1, 3) := by decide +kernel
theorem dX6_keepOutcomes_66 : decode cX6_keepOutcomes 66 = .ok (.goto (-55), 3) := by decide +kernel
theorem dX6_keepOutcomes_69 : decode cX6_keepOutcomes 69 = .ok (.iload_n 1, 1) := by decide +kernel
theorem dX6_keepOutcomes_70 : decode cX6_keepOutcomes 70 = .ok (.ireturn, 1) := by decide +kernel
theorem dX7_init_0 : decode cX7_init 0 = .ok (.aload_n 0, 1) := by decide +kernel
theorem dX7_init_1 : decode cX7_init 1 = .ok (.invokespecial 3, 3) := by decide +kernel
theorem dX7_init_4 : decode cX7_init 4 = .ok (.aload_n 0, 1) := by decide +kernel
theorem dX7_init_5 : decode cX7_init 5 = .ok (.new 9, 3) := by decide +kernel
theorem dX7_init_8 : decode cX7_init 8 = .ok (.dup, 1) := by decide +kernel
theorem dX7_init_9 : decode cX7_init 9 = .ok (.iconst 0, 1) := by decide +kernel
theorem dX7_init_10 : decode cX7_init 10 = .ok (.invokespecial 11, 3) := by decide +kernel
theorem dX7_init_13 : decode cX7_init 13 = .ok (.putfield 14, 3) := by decide +kernel
theorem dX7_init_16 : decode cX7_init 16 = .ok (.aload_n 0, 1) := by decide +kernel
theorem dX7_init_17 : decode cX7_init 17 = .ok (.iload_n 1, 1) := by decide +kernel
theorem dX7_init_18 : decode cX7_init 18 = .ok (.ifCond .le 7, 3) := by decide +kernel
theorem dX7_init_21 : decode cX7_init 21 = .ok (.iload_n 1, 1) := by decide +kernel
theorem dX7_init_22 : decode cX7_init 22 = .ok (.goto 4, 3) := by decide +kernel
theorem dX7_init_25 : decode cX7_init 25 = .ok (.iconst 0, 1) := by decide +kernel
theorem dX7_init_26 : decode cX7_init 26 = .ok (.anewarray 9, 3) := by decide +kernel
theorem dX7_init_29 : decode cX7_init 29 = .ok (.putfield 20, 3) := by decide +kernel
theorem dX7_init_32 : decode cX7_init 32 = .ok (.iconst 0, 1) := by decide +kernel
theorem dX7_init_33 : decode cX7_init 33 = .ok (.istore_n 2, 1) := by decide +kernel
theorem dX7_init_34 : decode cX7_init 34 = .ok (.iload_n 2, 1) := by decide +kernel
theorem dX7_init_35 : decode cX7_init 35 = .ok (.aload_n 0, 1) := by decide +kernel
theorem dX7_init_36 : decode cX7_init 36 = .ok (.getfield 20, 3) := by decide +kernel
theorem dX7_init_39 : decode cX7_init 39 = .ok (.arraylength, 1) := by decide +kernel
theorem dX7_init_40 : decode cX7_init 40 = .ok (.if_icmp .ge 24, 3) := by decide +kernel
theorem dX7_init_43 : decode cX7_init 43 = .ok (.aload_n 0, 1) := by decide +kernel
theorem dX7_init_44 : decode cX7_init 44 = .ok (.getfield 20, 3) := by decide +kernel
theorem dX7_init_47 : decode cX7_init 47 = .ok (.iload_n 2, 1) := by decide +kernel
theorem dX7_init_48 : decode cX7_init 48 = .ok (.new 9, 3) := by decide +kernel
theorem dX7_init_51 : decode cX7_init 51 = .ok (.dup, 1) := by decide +kernel
theorem dX7_init_52 : decode cX7_init 52 = .ok (.bipush 24, 2) := by decide +kernel
theorem dX7_init_54 : decode cX7_init 54 = .ok (.invokespecial 11, 3) := by decide +kernel
theorem dX7_init_57 : decode cX7_init 57 = .ok (.aastore, 1) := by decide +kernel
theorem dX7_init_58 : decode cX7_init 58 = .ok (.iinc 2 1, 3) := by decide +kernel
theorem dX7_init_61 : decode cX7_init 61 = .ok (.goto (-27), 3) := by decide +kernel
theorem dX7_init_64 : decode cX7_init 64 = .ok (.return_, 1) := by decide +kernel
theorem dX7_place_0 : decode cX7_place 0 = .ok (.iload_n 1, 1) := by decide +kernel
theorem dX7_place_1 : decode cX7_place 1 = .ok (.ifCond .lt 12, 3) := by decide +kernel
theorem dX7_place_4 : decode cX7_place 4 = .ok (.iload_n 1, 1) := by decide +kernel
theorem dX7_place_5 : decode cX7_place 5 = .ok (.aload_n 0, 1) := by decide +kernel
theorem dX7_place_6 : decode cX7_place 6 = .ok (.getfield 20, 3) := by decide +kernel
theorem dX7_place_9 : decode cX7_place 9 = .ok (.arraylength, 1) := by decide +kernel
theorem dX7_place_10 : decode cX7_place 10 = .ok (.if_icmp .lt 8, 3) := by decide +kernel
theorem dX7_place_13 : decode cX7_place 13 = .ok (.aload_n 0, 1) := by decide +kernel
theorem dX7_place_14 : decode cX7_place 14 = .ok (.getfield 14, 3) := by decide +kernel
theorem dX7_place_17 : decode cX7_place 17 = .ok (.areturn, 1) := by decide +kernel
theorem dX7_place_18 : decode cX7_place 18 = .ok (.aload_n 0, 1) := by decide +kernel
theorem dX7_place_19 : decode cX7_place 19 = .ok (.getfield 20, 3) := by decide +kernel
theorem dX7_place_22 : decode cX7_place 22 = .ok (.iload_n 1, 1) := by decide +kernel
theorem dX7_place_23 : decode cX7_place 23 = .ok (.aaload, 1) := by decide +kernel
theorem dX7_place_24 : decode cX7_place 24 = .ok (.astore_n 2, 1) := by decide +kernel
theorem dX7_place_25 : decode cX7_place 25 = .ok (.aload_n 2, 1) := by decide +kernel
theorem dX7_place_26 : decode cX7_place 26 = .ok (.ifnonnull 10, 3) := by decide +kernel
theorem dX7_place_29 : decode cX7_place 29 = .ok (.aload_n 0, 1) := by decide +kernel
theorem dX7_place_30 : decode cX7_place 30 = .ok (.getfield 14, 3) := by decide +kernel
theorem dX7_place_33 : decode cX7_place 33 = .ok (.goto 4, 3) := by decide +kernel
theorem dX7_place_36 : decode cX7_place 36 = .ok (.aload_n 2, 1) := by decide +kernel
theorem dX7_place_37 : decode cX7_place 37 = .ok (.areturn, 1) := by decide +kernel
theorem dX7_become_0 : decode cX7_become 0 = .ok (.iconst 0, 1) := by decide +kernel
theorem dX7_become_1 : decode cX7_become 1 = .ok (.istore_n 2, 1) := by decide +kernel
theorem dX7_become_2 : decode cX7_become 2 = .ok (.iload_n 2, 1) := by decide +kernel
theorem dX7_become_3 : decode cX7_become 3 = .ok (.aload_n 0, 1) := by decide +kernel
theorem dX7_become_4 : decode cX7_become 4 = .ok (.getfield 20, 3) := by decide +kernel
theorem dX7_become_7 : decode cX7_become 7 = .ok (.arraylength, 1) := by decide +kernel
theorem dX7_become_8 : decode cX7_become 8 = .ok (.if_icmp .ge 22, 3) := by decide +kernel
theorem dX7_become_11 : decode cX7_become 11 = .ok (.aload_n 0, 1) := by decide +kernel
theorem dX7_become_12 : decode cX7_become 12 = .ok (.iload_n 2, 1) := by decide +kernel
theorem dX7_become_13 : decode cX7_become 13 = .ok (.invokevirtual 24, 3) := by decide +kernel
theorem dX7_become_16 : decode cX7_become 16 = .ok (.aload_n 1, 1) := by decide +kernel
theorem dX7_become_17 : decode cX7_become 17 = .ok (.iload_n 2, 1) := by decide +kernel
theorem dX7_become_18 : decode cX7_become 18 = .ok (.invokevirtual 24, 3) := by decide +kernel
theorem dX7_become_21 : decode cX7_become 21 = .ok (.invokevirtual 28, 3) := by decide +kernel
theorem dX7_become_24 : decode cX7_become 24 = .ok (.iinc 2 1, 3) := by decide +kernel
theorem dX7_become_27 : decode cX7_become 27 = .ok (.goto (-25), 3) := by decide +kernel
theorem dX7_become_30 : decode cX7_become 30 = .ok (.return_, 1) := by decide +kernel
theorem dX7_allLines_0 : decode cX7_allLines 0 = .ok (.iconst 0, 1) := by decide +kernel
theorem dX7_allLines_1 : decode cX7_allLines 1 = .ok (.istore_n 1, 1) := by decide +kernel
theorem dX7_allLines_2 : decode cX7_allLines 2 = .ok (.iconst 0, 1) := by decide +kernel
theorem dX7_allLines_3 : decode cX7_allLines 3 = .ok (.istore_n 2, 1) := by decide +kernel
theorem dX7_allLines_4 : decode cX7_allLines 4 = .ok (.iload_n 2, 1) := by decide +kernel
theorem dX7_allLines_5 : decode cX7_allLines 5 = .ok (.aload_n 0, 1) := by decide +kernel
theorem dX7_allLines_6 : decode cX7_allLines 6 = .ok (.getfield 20, 3) := by decide +kernel
theorem dX7_allLines_9 : decode cX7_allLines 9 = .ok (.arraylength, 1) := by decide +kernel
theorem dX7_allLines_10 : decode cX7_allLines 10 = .ok (.if_icmp .ge 20, 3) := by decide +kernel
theorem dX7_allLines_13 : decode cX7_allLines 13 = .ok (.iload_n 1, 1) := by decide +kernel
theorem dX7_allLines_14 : decode cX7_allLines 14 = .ok (.aload_n 0, 1) := by decide +kernel
theorem dX7_allLines_15 : decode cX7_allLines 15 = .ok (.iload_n 2, 1) := by decide +kernel
theorem dX7_allLines_16 : decode cX7_allLines 16 = .ok (.invokevirtual 24, 3) := by decide +kernel
theorem dX7_allLines_19 : decode cX7_allLines 19 = .ok (.invokevirtual 32, 3) := by decide +kernel
theorem dX7_allLines_22 : decode cX7_allLines 22 = .ok (.iadd, 1) := by decide +kernel
theorem dX7_allLines_23 : decode cX7_allLines 23 = .ok (.istore_n 1, 1) := by decide +kernel
theorem dX7_allLines_24 : decode cX7_allLines 24 = .ok (.iinc 2 1, 3) := by decide +kernel
theorem dX7_allLines_27 : decode cX7_allLines 27 = .ok (.goto (-23), 3) := by decide +kernel
theorem dX7_allLines_30 : decode cX7_allLines 30 = .ok (.iload_n 1, 1) := by decide +kernel
theorem dX7_allLines_31 : decode cX7_allLines 31 = .ok (.ireturn, 1) := by decide +kernel
theorem dX8_init_0 : decode cX8_init 0 = .ok (.aload_n 0, 1) := by decide +kernel
theorem dX8_init_1 : decode cX8_init 1 = .ok (.invokespecial 3, 3) := by decide +kernel
theorem dX8_init_4 : decode cX8_init 4 = .ok (.iload_n 1, 1) := by decide +kernel
theorem dX8_init_5 : decode cX8_init 5 = .ok (.iload_n 2, 1) := by decide +kernel
theorem dX8_init_6 : decode cX8_init 6 = .ok (.imul, 1) := by decide +kernel
theorem dX8_init_7 : decode cX8_init 7 = .ok (.istore_n 3, 1) := by decide +kernel
theorem dX8_init_8 : decode cX8_init 8 = .ok (.aload_n 0, 1) := by decide +kernel
theorem dX8_init_9 : decode cX8_init 9 = .ok (.iload_n 3, 1) := by decide +kernel
theorem dX8_init_10 : decode cX8_init 10 = .ok (.ifCond .le 7, 3) := by decide +kernel
theorem dX8_init_13 : decode cX8_init 13 = .ok (.iload_n 3, 1) := by decide +kernel
theorem dX8_init_14 : decode cX8_init 14 = .ok (.goto 4, 3) := by decide +kernel
theorem dX8_init_17 : decode cX8_init 17 = .ok (.iconst 0, 1) := by decide +kernel
theorem dX8_init_18 : decode cX8_init 18 = .ok (.newarray .int, 2) := by decide +kernel
theorem dX8_init_20 : decode cX8_init 20 = .ok (.putfield 9, 3) := by decide +kernel
theorem dX8_init_23 : decode cX8_init 23 = .ok (.aload_n 0, 1) := by decide +kernel
theorem dX8_init_24 : decode cX8_init 24 = .ok (.iload_n 2, 1) := by decide +kernel
theorem dX8_init_25 : decode cX8_init 25 = .ok (.putfield 15, 3) := by decide +kernel
theorem dX8_init_28 : decode cX8_init 28 = .ok (.return_, 1) := by decide +kernel
theorem dX8_rows_0 : decode cX8_rows 0 = .ok (.aload_n 0, 1) := by decide +kernel
theorem dX8_rows_1 : decode cX8_rows 1 = .ok (.getfield 19, 3) := by decide +kernel
theorem dX8_rows_4 : decode cX8_rows 4 = .ok (.ireturn, 1) := by decide +kernel
theorem dX8_hasRow_0 : decode cX8_hasRow 0 = .ok (.iload_n 1, 1) := by decide +kernel
theorem dX8_hasRow_1 : decode cX8_hasRow 1 = .ok (.ifCond .lt 15, 3) := by decide +kernel
theorem dX8_hasRow_4 : decode cX8_hasRow 4 = .ok (.iload_n 1, 1) := by decide +kernel
theorem dX8_hasRow_5 : decode cX8_hasRow 5 = .ok (.aload_n 0, 1) := by decide +kernel
theorem dX8_hasRow_6 : decode cX8_hasRow 6 = .ok (.getfield 19, 3) := by decide +kernel
theorem dX8_hasRow_9 : decode cX8_hasRow 9 = .ok (.if_icmp .ge 7, 3) := by decide +kernel
theorem dX8_hasRow_12 : decode cX8_hasRow 12 = .ok (.iconst 1, 1) := by decide +kernel
theorem dX8_hasRow_13 : decode cX8_hasRow 13 = .ok (.goto 4, 3) := by decide +kernel
theorem dX8_hasRow_16 : decode cX8_hasRow 16 = .ok (.iconst 0, 1) := by decide +kernel
theorem dX8_hasRow_17 : decode cX8_hasRow 17 = .ok (.ireturn, 1) := by decide +kernel
theorem dX8_at_0 : decode cX8_at 0 = .ok (.iload_n 1, 1) := by decide +kernel
theorem dX8_at_1 : decode cX8_at 1 = .ok (.aload_n 0, 1) := by decide +kernel
theorem dX8_at_2 : decode cX8_at 2 = .ok (.getfield 15, 3) := by decide +kernel
theorem dX8_at_5 : decode cX8_at 5 = .ok (.imul, 1) := by decide +kernel
theorem dX8_at_6 : decode cX8_at 6 = .ok (.iload_n 2, 1) := by decide +kernel
theorem dX8_at_7 : decode cX8_at 7 = .ok (.iadd, 1) := by decide +kernel
theorem dX8_at_8 : decode cX8_at 8 = .ok (.istore_n 3, 1) := by decide +kernel
theorem dX8_at_9 : decode cX8_at 9 = .ok (.iload_n 1, 1) := by decide +kernel
theorem dX8_at_10 : decode cX8_at 10 = .ok (.ifCond .lt 27, 3) := by decide +kernel
theorem dX8_at_13 : decode cX8_at 13 = .ok (.iload_n 1, 1) := by decide +kernel
theorem dX8_at_14 : decode cX8_at 14 = .ok (.aload_n 0, 1) := by decide +kernel
theorem dX8_at_15 : decode cX8_at 15 = .ok (.getfield 19, 3) := by decide +kernel
theorem dX8_at_18 : decode cX8_at 18 = .ok (.if_icmp .ge 19, 3) := by decide +kernel
theorem dX8_at_21 : decode cX8_at 21 = .ok (.iload_n 2, 1) := by decide +kernel
theorem dX8_at_22 : decode cX8_at 22 = .ok (.ifCond .lt 15, 3) := by decide +kernel
theorem dX8_at_25 : decode cX8_at 25 = .ok (.iload_n 2, 1) := by decide +kernel
theorem dX8_at_26 : decode cX8_at 26 = .ok (.aload_n 0, 1) := by decide +kernel
theorem dX8_at_27 : decode cX8_at 27 = .ok (.getfield 15, 3) := by decide +kernel
theorem dX8_at_30 : decode cX8_at 30 = .ok (.if_icmp .ge 7, 3) := by decide +kernel
theorem dX8_at_33 : decode cX8_at 33 = .ok (.iconst 1, 1) := by decide +kernel
theorem dX8_at_34 : decode cX8_at 34 = .ok (.goto 4, 3) := by decide +kernel
theorem dX8_at_37 : decode cX8_at 37 = .ok (.iconst 0, 1) := by decide +kernel
theorem dX8_at_38 : decode cX8_at 38 = .ok (.istore 4, 2) := by decide +kernel
theorem dX8_at_40 : decode cX8_at 40 = .ok (.iload 4, 2) := by decide +kernel
theorem dX8_at_42 : decode cX8_at 42 = .ok (.ifCond .eq 25, 3) := by decide +kernel
theorem dX8_at_45 : decode cX8_at 45 = .ok (.iload_n 3, 1) := by decide +kernel
theorem dX8_at_46 : decode cX8_at 46 = .ok (.ifCond .lt 21, 3) := by decide +kernel
theorem dX8_at_49 : decode cX8_at 49 = .ok (.iload_n 3, 1) := by decide +kernel
theorem dX8_at_50 : decode cX8_at 50 = .ok (.aload_n 0, 1) := by decide +kernel
theorem dX8_at_51 : decode cX8_at 51 = .ok (.getfield 9, 3) := by decide +kernel
theorem dX8_at_54 : decode cX8_at 54 = .ok (.arraylength, 1) := by decide +kernel
theorem dX8_at_55 : decode cX8_at 55 = .ok (.if_icmp .ge 12, 3) := by decide +kernel
theorem dX8_at_58 : decode cX8_at 58 = .ok (.aload_n 0, 1) := by decide +kernel
theorem dX8_at_59 : decode cX8_at 59 = .ok (.getfield 9, 3) := by decide +kernel
theorem dX8_at_62 : decode cX8_at 62 = .ok (.iload_n 3, 1) := by decide +kernel
theorem dX8_at_63 : decode cX8_at 63 = .ok (.iaload, 1) := by decide +kernel
theorem dX8_at_64 : decode cX8_at 64 = .ok (.goto 4, 3) := by decide +kernel
theorem dX8_at_67 : decode cX8_at 67 = .ok (.iconst (-1), 1) := by decide +kernel
theorem dX8_at_68 : decode cX8_at 68 = .ok (.ireturn, 1) := by decide +kernel
theorem dX8_put_0 : decode cX8_put 0 = .ok (.iload_n 1, 1) := by decide +kernel
theorem dX8_put_1 : decode cX8_put 1 = .ok (.aload_n 0, 1) := by decide +kernel
theorem dX8_put_2 : decode cX8_put 2 = .ok (.getfield 15, 3) := by decide +kernel
theorem dX8_put_5 : decode cX8_put 5 = .ok (.imul, 1) := by decide +kernel
theorem dX8_put_6 : decode cX8_put 6 = .ok (.iload_n 2, 1) := by decide +kernel
theorem dX8_put_7 : decode cX8_put 7 = .ok (.iadd, 1) := by decide +kernel
theorem dX8_put_8 : decode cX8_put 8 = .ok (.istore 4, 2) := by decide +kernel
theorem dX8_put_10 : decode cX8_put 10 = .ok (.iload_n 1, 1) := by decide +kernel
theorem dX8_put_11 : decode cX8_put 11 = .ok (.ifCond .lt 27, 3) := by decide +kernel
theorem dX8_put_14 : decode cX8_put 14 = .ok (.iload_n 1, 1) := by decide +kernel
theorem dX8_put_15 : decode cX8_put 15 = .ok (.aload_n 0, 1) := by decide +kernel
theorem dX8_put_16 : decode cX8_put 16 = .ok (.getfield 19, 3) := by decide +kernel
theorem dX8_put_19 : decode cX8_put 19 = .ok (.if_icmp .ge 19, 3) := by decide +kernel
theorem dX8_put_22 : decode cX8_put 22 = .ok (.iload_n 2, 1) := by decide +kernel
theorem dX8_put_23 : decode cX8_put 23 = .ok (.ifCond .lt 15, 3) := by decide +kernel
theorem dX8_put_26 : decode cX8_put 26 = .ok (.iload_n 2, 1) := by decide +kernel
theorem dX8_put_27 : decode cX8_put 27 = .ok (.aload_n 0, 1) := by decide +kernel
theorem dX8_put_28 : decode cX8_put 28 = .ok (.getfield 15, 3) := by decide +kernel
theorem dX8_put_31 : decode cX8_put 31 = .ok (.if_icmp .ge 7, 3) := by decide +kernel
theorem dX8_put_34 : decode cX8_put 34 = .ok (.iconst 1, 1) := by decide +kernel
theorem dX8_put_35 : decode cX8_put 35 = .ok (.goto 4, 3) := by decide +kernel
theorem dX8_put_38 : decode cX8_put 38 = .ok (.iconst 0, 1) := by decide +kernel
theorem dX8_put_39 : decode cX8_put 39 = .ok (.istore 5, 2) := by decide +kernel
theorem dX8_put_41 : decode cX8_put 41 = .ok (.iload 5, 2) := by decide +kernel
theorem dX8_put_43 : decode cX8_put 43 = .ok (.ifCond .eq 26, 3) := by decide +kernel
theorem dX8_put_46 : decode cX8_put 46 = .ok (.iload 4, 2) := by decide +kernel
theorem dX8_put_48 : decode cX8_put 48 = .ok (.ifCond .lt 21, 3) := by decide +kernel
theorem dX8_put_51 : decode cX8_put 51 = .ok (.iload 4, 2) := by decide +kernel
theorem dX8_put_53 : decode cX8_put 53 = .ok (.aload_n 0, 1) := by decide +kernel
theorem dX8_put_54 : decode cX8_put 54 = .ok (.getfield 9, 3) := by decide +kernel
theorem dX8_put_57 : decode cX8_put 57 = .ok (.arraylength, 1) := by decide +kernel
theorem dX8_put_58 : decode cX8_put 58 = .ok (.if_icmp .ge 11, 3) := by decide +kernel
theorem dX8_put_61 : decode cX8_put 61 = .ok (.aload_n 0, 1) := by decide +kernel
theorem dX8_put_62 : decode cX8_put 62 = .ok (.getfield 9, 3) := by decide +kernel
theorem dX8_put_65 : decode cX8_put 65 = .ok (.iload 4, 2) := by decide +kernel
theorem dX8_put_67 : decode cX8_put 67 = .ok (.iload_n 3, 1) := by decide +kernel
theorem dX8_put_68 : decode cX8_put 68 = .ok (.iastore, 1) := by decide +kernel
theorem dX8_put_69 : decode cX8_put 69 = .ok (.return_, 1) := by decide +kernel
theorem dX8_clear_0 : decode cX8_clear 0 = .ok (.aload_n 0, 1) := by decide +kernel
theorem dX8_clear_1 : decode cX8_clear 1 = .ok (.iconst 0, 1) := by decide +kernel
theorem dX8_clear_2 : decode cX8_clear 2 = .ok (.putfield 19, 3) := by decide +kernel
theorem dX8_clear_5 : decode cX8_clear 5 = .ok (.return_, 1) := by decide +kernel
theorem dX8_addRow_0 : decode cX8_addRow 0 = .ok (.aload_n 0, 1) := by decide +kernel
theorem dX8_addRow_1 : decode cX8_addRow 1 = .ok (.getfield 19, 3) := by decide +kernel
theorem dX8_addRow_4 : decode cX8_addRow 4 = .ok (.istore_n 1, 1) := by decide +kernel
theorem dX8_addRow_5 : decode cX8_addRow 5 = .ok (.aload_n 0, 1) := by decide +kernel
theorem dX8_addRow_6 : decode cX8_addRow 6 = .ok (.dup, 1) := by decide +kernel
theorem dX8_addRow_7 : decode cX8_addRow 7 = .ok (.getfield 19, 3) := by decide +kernel
theorem dX8_addRow_10 : decode cX8_addRow 10 = .ok (.iconst 1, 1) := by decide +kernel
theorem dX8_addRow_11 : decode cX8_addRow 11 = .ok (.iadd, 1) := by decide +kernel
theorem dX8_addRow_12 : decode cX8_addRow 12 = .ok (.putfield 19, 3) := by decide +kernel
theorem dX8_addRow_15 : decode cX8_addRow 15 = .ok (.iconst 0, 1) := by decide +kernel
theorem dX8_addRow_16 : decode cX8_addRow 16 = .ok (.istore_n 2, 1) := by decide +kernel
theorem dX8_addRow_17 : decode cX8_addRow 17 = .ok (.iload_n 2, 1) := by decide +kernel
theorem dX8_addRow_18 : decode cX8_addRow 18 = .ok (.aload_n 0, 1) := by decide +kernel
theorem dX8_addRow_19 : decode cX8_addRow 19 = .ok (.getfield 15, 3) := by decide +kernel
theorem dX8_addRow_22 : decode cX8_addRow 22 = .ok (.if_icmp .ge 16, 3) := by decide +kernel
theorem dX8_addRow_25 : decode cX8_addRow 25 = .ok (.aload_n 0, 1) := by decide +kernel
theorem dX8_addRow_26 : decode cX8_addRow 26 = .ok (.iload_n 1, 1) := by decide +kernel
theorem dX8_addRow_27 : decode cX8_addRow 27 = .ok (.iload_n 2, 1) := by decide +kernel
theorem dX8_addRow_28 : decode cX8_addRow 28 = .ok (.iconst (-1), 1) := by decide +kernel
theorem dX8_addRow_29 : decode cX8_addRow 29 = .ok (.invokevirtual 22, 3) := by decide +kernel
theorem dX8_addRow_32 : decode cX8_addRow 32 = .ok (.iinc 2 1, 3) := by decide +kernel
theorem dX8_addRow_35 : decode cX8_addRow 35 = .ok (.goto (-18), 3) := by decide +kernel
theorem dX8_addRow_38 : decode cX8_addRow 38 = .ok (.iload_n 1, 1) := by decide +kernel
theorem dX8_addRow_39 : decode cX8_addRow 39 = .ok (.ireturn, 1) := by decide +kernel
theorem dX8_addPair_0 : decode cX8_addPair 0 = .ok (.aload_n 0, 1) := by decide +kernel
theorem dX8_addPair_1 : decode cX8_addPair 1 = .ok (.invokevirtual 26, 3) := by decide +kernel
theorem dX8_addPair_4 : decode cX8_addPair 4 = .ok (.istore_n 3, 1) := by decide +kernel
theorem dX8_addPair_5 : decode cX8_addPair 5 = .ok (.aload_n 0, 1) := by decide +kernel
theorem dX8_addPair_6 : decode cX8_addPair 6 = .ok (.iload_n 3, 1) := by decide +kernel
theorem dX8_addPair_7 : decode cX8_addPair 7 = .ok (.iconst 0, 1) := by decide +kernel
theorem dX8_addPair_8 : decode cX8_addPair 8 = .ok (.iload_n 1, 1) := by decide +kernel
theorem dX8_addPair_9 : decode cX8_addPair 9 = .ok (.invokevirtual 22, 3) := by decide +kernel
theorem dX8_addPair_12 : decode cX8_addPair 12 = .ok (.aload_n 0, 1) := by decide +kernel
theorem dX8_addPair_13 : decode cX8_addPair 13 = .ok (.iload_n 3, 1) := by decide +kernel
theorem dX8_addPair_14 : decode cX8_addPair 14 = .ok (.iconst 1, 1) := by decide +kernel
theorem dX8_addPair_15 : decode cX8_addPair 15 = .ok (.iload_n 2, 1) := by decide +kernel
theorem dX8_addPair_16 : decode cX8_addPair 16 = .ok (.invokevirtual 22, 3) := by decide +kernel
theorem dX8_addPair_19 : decode cX8_addPair 19 = .ok (.return_, 1) := by decide +kernel
theorem dX9_init_0 : decode cX9_init 0 = .ok (.aload_n 0, 1) := by decide +kernel
theorem dX9_init_1 : decode cX9_init 1 = .ok (.invokespecial 1, 3) := by decide +kernel
theorem dX9_init_4 : decode cX9_init 4 = .ok (.aload_n 0, 1) := by decide +kernel
theorem dX9_init_5 : decode cX9_init 5 = .ok (.new 7, 3) := by decide +kernel
theorem dX9_init_8 : decode cX9_init 8 = .ok (.dup, 1) := by decide +kernel
theorem dX9_init_9 : decode cX9_init 9 = .ok (.iconst 4, 1) := by decide +kernel
theorem dX9_init_10 : decode cX9_init 10 = .ok (.invokespecial 11, 3) := by decide +kernel
theorem dX9_init_13 : decode cX9_init 13 = .ok (.putfield 14, 3) := by decide +kernel
theorem dX9_init_16 : decode cX9_init 16 = .ok (.aload_n 0, 1) := by decide +kernel
theorem dX9_init_17 : decode cX9_init 17 = .ok (.new 7, 3) := by decide +kernel
theorem dX9_init_20 : decode cX9_init 20 = .ok (.dup, 1) := by decide +kernel
theorem dX9_init_21 : decode cX9_init 21 = .ok (.iconst 4, 1) := by decide +kernel
theorem dX9_init_22 : decode cX9_init 22 = .ok (.invokespecial 11, 3) := by decide +kernel
theorem dX9_init_25 : decode cX9_init 25 = .ok (.putfield 18, 3) := by decide +kernel
theorem dX9_init_28 : decode cX9_init 28 = .ok (.aload_n 0, 1) := by decide +kernel
theorem dX9_init_29 : decode cX9_init 29 = .ok (.new 21, 3) := by decide +kernel
theorem dX9_init_32 : decode cX9_init 32 = .ok (.dup, 1) := by decide +kernel
theorem dX9_init_33 : decode cX9_init 33 = .ok (.invokespecial 23, 3) := by decide +kernel
theorem dX9_init_36 : decode cX9_init 36 = .ok (.putfield 24, 3) := by decide +kernel
theorem dX9_init_39 : decode cX9_init 39 = .ok (.aload_n 0, 1) := by decide +kernel
theorem dX9_init_40 : decode cX9_init 40 = .ok (.new 28, 3) := by decide +kernel
theorem dX9_init_43 : decode cX9_init 43 = .ok (.dup, 1) := by decide +kernel
theorem dX9_init_44 : decode cX9_init 44 = .ok (.invokespecial 30, 3) := by decide +kernel
theorem dX9_init_47 : decode cX9_init 47 = .ok (.putfield 31, 3) := by decide +kernel
theorem dX9_init_50 : decode cX9_init 50 = .ok (.aload_n 0, 1) := by decide +kernel
theorem dX9_init_51 : decode cX9_init 51 = .ok (.new 35, 3) := by decide +kernel
theorem dX9_init_54 : decode cX9_init 54 = .ok (.dup, 1) := by decide +kernel
theorem dX9_init_55 : decode cX9_init 55 = .ok (.bipush 24, 2) := by decide +kernel
theorem dX9_init_57 : decode cX9_init 57 = .ok (.invokespecial 37, 3) := by decide +kernel
theorem dX9_init_60 : decode cX9_init 60 = .ok (.putfield 38, 3) := by decide +kernel
theorem dX9_init_63 : decode cX9_init 63 = .ok (.aload_n 0, 1) := by decide +kernel
theorem dX9_init_64 : decode cX9_init 64 = .ok (.new 42, 3) := by decide +kernel
theorem dX9_init_67 : decode cX9_init 67 = .ok (.dup, 1) := by decide +kernel
theorem dX9_init_68 : decode cX9_init 68 = .ok (.invokespecial 44, 3) := by decide +kernel
theorem dX9_init_71 : decode cX9_init 71 = .ok (.putfield 45, 3) := by decide +kernel
theorem dX9_init_74 : decode cX9_init 74 = .ok (.aload_n 0, 1) := by decide +kernel
theorem dX9_init_75 : decode cX9_init 75 = .ok (.new 49, 3) := by decide +kernel
theorem dX9_init_78 : decode cX9_init 78 = .ok (.dup, 1) := by decide +kernel
theorem dX9_init_79 : decode cX9_init 79 = .ok (.invokespecial 51, 3) := by decide +kernel
theorem dX9_init_82 : decode cX9_init 82 = .ok (.putfield 52, 3) := by decide +kernel
theorem dX9_init_85 : decode cX9_init 85 = .ok (.aload_n 0, 1) := by decide +kernel
theorem dX9_init_86 : decode cX9_init 86 = .ok (.new 56, 3) := by decide +kernel
theorem dX9_init_89 : decode cX9_init 89 = .ok (.dup, 1) := by decide +kernel
theorem dX9_init_90 : decode cX9_init 90 = .ok (.invokespecial 58, 3) := by decide +kernel
theorem dX9_init_93 : decode cX9_init 93 = .ok (.putfield 59, 3) := by decide +kernel
theorem dX9_init_96 : decode cX9_init 96 = .ok (.aload_n 0, 1) := by decide +kernel
theorem dX9_init_97 : decode cX9_init 97 = .ok (.new 63, 3) := by decide +kernel
theorem dX9_init_100 : decode cX9_init 100 = .ok (.dup, 1) := by decide +kernel
theorem dX9_init_101 : decode cX9_init 101 = .ok (.invokespecial 65, 3) := by decide +kernel
theorem dX9_init_104 : decode cX9_init 104 = .ok (.putfield 66, 3) := by decide +kernel
theorem dX9_init_107 : decode cX9_init 107 = .ok (.aload_n 0, 1) := by decide +kernel
theorem dX9_init_108 : decode cX9_init 108 = .ok (.iconst 0, 1) := by decide +kernel
theorem dX9_init_109 : decode cX9_init 109 = .ok (.putfield 70, 3) := by decide +kernel
theorem dX9_init_112 : decode cX9_init 112 = .ok (.aload_n 0, 1) := by decide +kernel
theorem dX9_init_113 : decode cX9_init 113 = .ok (.iconst 0, 1) := by decide +kernel
theorem dX9_init_114 : decode cX9_init 114 = .ok (.putfield 74, 3) := by decide +kernel
theorem dX9_init_117 : decode cX9_init 117 = .ok (.aload_n 0, 1) := by decide +kernel
theorem dX9_init_118 : decode cX9_init 118 = .ok (.iconst 0, 1) := by decide +kernel
theorem dX9_init_119 : decode cX9_init 119 = .ok (.putfield 77, 3) := by decide +kernel
theorem dX9_init_122 : decode cX9_init 122 = .ok (.aload_n 0, 1) := by decide +kernel
theorem dX9_init_123 : decode cX9_init 123 = .ok (.iconst 1, 1) := by decide +kernel
theorem dX9_init_124 : decode cX9_init 124 = .ok (.putfield 81, 3) := by decide +kernel
theorem dX9_init_127 : decode cX9_init 127 = .ok (.return_, 1) := by decide +kernel
theorem dX9_append_0 : decode cX9_append 0 = .ok (.aload_n 0, 1) := by decide +kernel
theorem dX9_append_1 : decode cX9_append 1 = .ok (.iload_n 1, 1) := by decide +kernel
theorem dX9_append_2 : decode cX9_append 2 = .ok (.invokevirtual 84, 3) := by decide +kernel
theorem dX9_append_5 : decode cX9_append 5 = .ok (.astore_n 3, 1) := by decide +kernel
theorem dX9_append_6 : decode cX9_append 6 = .ok (.iload_n 2, 1) := by decide +kernel
theorem dX9_append_7 : decode cX9_append 7 = .ok (.invokestatic 88, 3) := by decide +kernel
theorem dX9_append_10 : decode cX9_append 10 = .ok (.aload_n 3, 1) := by decide +kernel
theorem dX9_append_11 : decode cX9_append 11 = .ok (.invokestatic 91, 3) := by decide +kernel
theorem dX9_append_14 : decode cX9_append 14 = .ok (.aload_n 0, 1) := by decide +kernel
theorem dX9_append_15 : decode cX9_append 15 = .ok (.getfield 24, 3) := by decide +kernel
theorem dX9_append_18 : decode cX9_append 18 = .ok (.iload_n 1, 1) := by decide +kernel
theorem dX9_append_19 : decode cX9_append 19 = .ok (.aload_n 3, 1) := by decide +kernel
theorem dX9_append_20 : decode cX9_append 20 = .ok (.invokevirtual 95, 3) := by decide +kernel
theorem dX9_append_23 : decode cX9_append 23 = .ok (.aload_n 3, 1) := by decide +kernel
theorem dX9_append_24 : decode cX9_append 24 = .ok (.iload_n 2, 1) := by decide +kernel
theorem dX9_append_25 : decode cX9_append 25 = .ok (.invokevirtual 99, 3) := by decide +kernel
theorem dX9_append_28 : decode cX9_append 28 = .ok (.aload_n 3, 1) := by decide +kernel
theorem dX9_append_29 : decode cX9_append 29 = .ok (.invokevirtual 102, 3) := by decide +kernel
theorem dX9_append_32 : decode cX9_append 32 = .ok (.ireturn, 1) := by decide +kernel
theorem dX9_insert_0 : decode cX9_insert 0 = .ok (.aload_n 0, 1) := by decide +kernel
theorem dX9_insert_1 : decode cX9_insert 1 = .ok (.iload_n 1, 1) := by decide +kernel
theorem dX9_insert_2 : decode cX9_insert 2 = .ok (.invokevirtual 84, 3) := by decide +kernel
theorem dX9_insert_5 : decode cX9_insert 5 = .ok (.astore 4, 2) := by decide +kernel
theorem dX9_insert_7 : decode cX9_insert 7 = .ok (.iload_n 3, 1) := by decide +kernel
theorem dX9_insert_8 : decode cX9_insert 8 = .ok (.invokestatic 88, 3) := by decide +kernel
theorem dX9_insert_11 : decode cX9_insert 11 = .ok (.aload 4, 2) := by decide +kernel
theorem dX9_insert_13 : decode cX9_insert 13 = .ok (.invokestatic 91, 3) := by decide +kernel
theorem dX9_insert_16 : decode cX9_insert 16 = .ok (.iload_n 2, 1) := by decide +kernel
theorem dX9_insert_17 : decode cX9_insert 17 = .ok (.ifCond .lt 12, 3) := by decide +kernel
theorem dX9_insert_20 : decode cX9_insert 20 = .ok (.iload_n 2, 1) := by decide +kernel
theorem dX9_insert_21 : decode cX9_insert 21 = .ok (.aload 4, 2) := by decide +kernel
theorem dX9_insert_23 : decode cX9_insert 23 = .ok (.invokevirtual 102, 3) := by decide +kernel
theorem dX9_insert_26 : decode cX9_insert 26 = .ok (.if_icmp .le 13, 3) := by decide +kernel
theorem dX9_insert_29 : decode cX9_insert 29 = .ok (.new 106, 3) := by decide +kernel
theorem dX9_insert_32 : decode cX9_insert 32 = .ok (.dup, 1) := by decide +kernel
theorem dX9_insert_33 : decode cX9_insert 33 = .ok (.ldc 108, 2) := by decide +kernel
theorem dX9_insert_35 : decode cX9_insert 35 = .ok (.invokespecial 110, 3) := by decide +kernel
theorem dX9_insert_38 : decode cX9_insert 38 = .ok (.athrow, 1) := by decide +kernel
theorem dX9_insert_39 : decode cX9_insert 39 = .ok (.aload_n 0, 1) := by decide +kernel
theorem dX9_insert_40 : decode cX9_insert 40 = .ok (.getfield 24, 3) := by decide +kernel
theorem dX9_insert_43 : decode cX9_insert 43 = .ok (.iload_n 1, 1) := by decide +kernel
theorem dX9_insert_44 : decode cX9_insert 44 = .ok (.aload 4, 2) := by decide +kernel
theorem dX9_insert_46 : decode cX9_insert 46 = .ok (.invokevirtual 95, 3) := by decide +kernel
theorem dX9_insert_49 : decode cX9_insert 49 = .ok (.aload 4, 2) := by decide +kernel
theorem dX9_insert_51 : decode cX9_insert 51 = .ok (.iload_n 2, 1) := by decide +kernel
theorem dX9_insert_52 : decode cX9_insert 52 = .ok (.iload_n 3, 1) := by decide +kernel
theorem dX9_insert_53 : decode cX9_insert 53 = .ok (.invokevirtual 113, 3) := by decide +kernel
theorem dX9_insert_56 : decode cX9_insert 56 = .ok (.aload 4, 2) := by decide +kernel
theorem dX9_insert_58 : decode cX9_insert 58 = .ok (.invokevirtual 102, 3) := by decide +kernel
theorem dX9_insert_61 : decode cX9_insert 61 = .ok (.ireturn, 1) := by decide +kernel
theorem dX9_delete_0 : decode cX9_delete 0 = .ok (.aload_n 0, 1) := by decide +kernel
theorem dX9_delete_1 : decode cX9_delete 1 = .ok (.iload_n 1, 1) := by decide +kernel
theorem dX9_delete_2 : decode cX9_delete 2 = .ok (.invokevirtual 84, 3) := by decide +kernel
theorem dX9_delete_5 : decode cX9_delete 5 = .ok (.astore_n 3, 1) := by decide +kernel
theorem dX9_delete_6 : decode cX9_delete 6 = .ok (.aload_n 3, 1) := by decide +kernel
theorem dX9_delete_7 : decode cX9_delete 7 = .ok (.iload_n 2, 1) := by decide +kernel
theorem dX9_delete_8 : decode cX9_delete 8 = .ok (.invokevirtual 117, 3) := by decide +kernel
theorem dX9_delete_11 : decode cX9_delete 11 = .ok (.ifCond .ne 13, 3) := by decide +kernel
theorem dX9_delete_14 : decode cX9_delete 14 = .ok (.new 106, 3) := by decide +kernel
theorem dX9_delete_17 : decode cX9_delete 17 = .ok (.dup, 1) := by decide +kernel
theorem dX9_delete_18 : decode cX9_delete 18 = .ok (.ldc 108, 2) := by decide +kernel
theorem dX9_delete_20 : decode cX9_delete 20 = .ok (.invokespecial 110, 3) := by decide +kernel
theorem dX9_delete_23 : decode cX9_delete 23 = .ok (.athrow, 1) := by decide +kernel
theorem dX9_delete_24 : decode cX9_delete 24 = .ok (.aload_n 0, 1) := by decide +kernel
theorem dX9_delete_25 : decode cX9_delete 25 = .ok (.getfield 24, 3) := by decide +kernel
theorem dX9_delete_28 : decode cX9_delete 28 = .ok (.iload_n 1, 1) := by decide +kernel
theorem dX9_delete_29 : decode cX9_delete 29 = .ok (.aload_n 3, 1) := by decide +kernel
theorem dX9_delete_30 : decode cX9_delete 30 = .ok (.invokevirtual 95, 3) := by decide +kernel
theorem dX9_delete_33 : decode cX9_delete 33 = .ok (.aload_n 3, 1) := by decide +kernel
theorem dX9_delete_34 : decode cX9_delete 34 = .ok (.iload_n 2, 1) := by decide +kernel
theorem dX9_delete_35 : decode cX9_delete 35 = .ok (.invokevirtual 121, 3) := by decide +kernel
theorem dX9_delete_38 : decode cX9_delete 38 = .ok (.ireturn, 1) := by decide +kernel
theorem dX9_length_0 : decode cX9_length 0 = .ok (.aload_n 0, 1) := by decide +kernel
theorem dX9_length_1 : decode cX9_length 1 = .ok (.iload_n 1, 1) := by decide +kernel
theorem dX9_length_2 : decode cX9_length 2 = .ok (.invokevirtual 84, 3) := by decide +kernel
theorem dX9_length_5 : decode cX9_length 5 = .ok (.invokevirtual 102, 3) := by decide +kernel
theorem dX9_length_8 : decode cX9_length 8 = .ok (.ireturn, 1) := by decide +kernel
theorem dX9_line_0 : decode cX9_line 0 = .ok (.aload_n 0, 1) := by decide +kernel
theorem dX9_line_1 : decode cX9_line 1 = .ok (.iload_n 1, 1) := by decide +kernel
theorem dX9_line_2 : decode cX9_line 2 = .ok (.invokevirtual 84, 3) := by decide +kernel
theorem dX9_line_5 : decode cX9_line 5 = .ok (.astore_n 3, 1) := by decide +kernel
theorem dX9_line_6 : decode cX9_line 6 = .ok (.aload_n 3, 1) := by decide +kernel
theorem dX9_line_7 : decode cX9_line 7 = .ok (.iload_n 2, 1) := by decide +kernel
theorem dX9_line_8 : decode cX9_line 8 = .ok (.invokevirtual 117, 3) := by decide +kernel
theorem dX9_line_11 : decode cX9_line 11 = .ok (.ifCond .ne 13, 3) := by decide +kernel
theorem dX9_line_14 : decode cX9_line 14 = .ok (.new 106, 3) := by decide +kernel
theorem dX9_line_17 : decode cX9_line 17 = .ok (.dup, 1) := by decide +kernel
theorem dX9_line_18 : decode cX9_line 18 = .ok (.ldc 108, 2) := by decide +kernel
theorem dX9_line_20 : decode cX9_line 20 = .ok (.invokespecial 110, 3) := by decide +kernel
theorem dX9_line_23 : decode cX9_line 23 = .ok (.athrow, 1) := by decide +kernel
theorem dX9_line_24 : decode cX9_line 24 = .ok (.aload_n 3, 1) := by decide +kernel
theorem dX9_line_25 : decode cX9_line 25 = .ok (.iload_n 2, 1) := by decide +kernel
theorem dX9_line_26 : decode cX9_line 26 = .ok (.invokevirtual 125, 3) := by decide +kernel
theorem dX9_line_29 : decode cX9_line 29 = .ok (.ireturn, 1) := by decide +kernel
theorem dX9_copy_0 : decode cX9_copy 0 = .ok (.aload_n 0, 1) := by decide +kernel
theorem dX9_copy_1 : decode cX9_copy 1 = .ok (.iload_n 1, 1) := by decide +kernel
theorem dX9_copy_2 : decode cX9_copy 2 = .ok (.invokevirtual 84, 3) := by decide +kernel
theorem dX9_copy_5 : decode cX9_copy 5 = .ok (.astore_n 3, 1) := by decide +kernel
theorem dX9_copy_6 : decode cX9_copy 6 = .ok (.aload_n 0, 1) := by decide +kernel
theorem dX9_copy_7 : decode cX9_copy 7 = .ok (.iload_n 2, 1) := by decide +kernel
theorem dX9_copy_8 : decode cX9_copy 8 = .ok (.aload_n 0, 1) := by decide +kernel
theorem dX9_copy_9 : decode cX9_copy 9 = .ok (.iload_n 2, 1) := by decide +kernel
theorem dX9_copy_10 : decode cX9_copy 10 = .ok (.invokevirtual 84, 3) := by decide +kernel
theorem dX9_copy_13 : decode cX9_copy 13 = .ok (.aload_n 3, 1) := by decide +kernel
theorem dX9_copy_14 : decode cX9_copy 14 = .ok (.invokevirtual 128, 3) := by decide +kernel
theorem dX9_copy_17 : decode cX9_copy 17 = .ok (.ireturn, 1) := by decide +kernel
theorem dX9_feed_0 : decode cX9_feed 0 = .ok (.aload_n 0, 1) := by decide +kernel
theorem dX9_feed_1 : decode cX9_feed 1 = .ok (.getfield 31, 3) := by decide +kernel
theorem dX9_feed_4 : decode cX9_feed 4 = .ok (.invokevirtual 143, 3) := by decide +kernel
theorem dX9_feed_7 : decode cX9_feed 7 = .ok (.ifCond .eq 13, 3) := by decide +kernel
theorem dX9_feed_10 : decode cX9_feed 10 = .ok (.new 147, 3) := by decide +kernel
theorem dX9_feed_13 : decode cX9_feed 13 = .ok (.dup, 1) := by decide +kernel
theorem dX9_feed_14 : decode cX9_feed 14 = .ok (.ldc 149, 2) := by decide +kernel
theorem dX9_feed_16 : decode cX9_feed 16 = .ok (.invokespecial 151, 3) := by decide +kernel
theorem dX9_feed_19 : decode cX9_feed 19 = .ok (.athrow, 1) := by decide +kernel
theorem dX9_feed_20 : decode cX9_feed 20 = .ok (.aload_n 0, 1) := by decide +kernel
theorem dX9_feed_21 : decode cX9_feed 21 = .ok (.getfield 31, 3) := by decide +kernel
theorem dX9_feed_24 : decode cX9_feed 24 = .ok (.iload_n 1, 1) := by decide +kernel
theorem dX9_feed_25 : decode cX9_feed 25 = .ok (.invokevirtual 152, 3) := by decide +kernel
theorem dX9_feed_28 : decode cX9_feed 28 = .ok (.ireturn, 1) := by decide +kernel
theorem dX9_readDocument_0 : decode cX9_readDocument 0 = .ok (.aload_n 0, 1) := by decide +kernel
theorem dX9_readDocument_1 : decode cX9_readDocument 1 = .ok (.getfield 31, 3) := by decide +kernel
theorem dX9_readDocument_4 : decode cX9_readDocument 4 = .ok (.invokevirtual 156, 3) := by decide +kernel
theorem dX9_readDocument_7 : decode cX9_readDocument 7 = .ok (.istore_n 2, 1) := by decide +kernel
theorem dX9_readDocument_8 : decode cX9_readDocument 8 = .ok (.iload_n 2, 1) := by decide +kernel
theorem dX9_readDocument_9 : decode cX9_readDocument 9 = .ok (.iconst (-1), 1) := by decide +kernel
theorem dX9_readDocument_10 : decode cX9_readDocument 10 = .ok (.if_icmp .ne 21, 3) := by decide +kernel
theorem dX9_readDocument_13 : decode cX9_readDocument 13 = .ok (.aload_n 0, 1) := by decide +kernel
theorem dX9_readDocument_14 : decode cX9_readDocument 14 = .ok (.getfield 31, 3) := by decide +kernel
theorem dX9_readDocument_17 : decode cX9_readDocument 17 = .ok (.aload_n 0, 1) := by decide +kernel
theorem dX9_readDocument_18 : decode cX9_readDocument 18 = .ok (.getfield 38, 3) := by decide +kernel
theorem dX9_readDocument_21 : decode cX9_readDocument 21 = .ok (.invokevirtual 159, 3) := by decide +kernel
theorem dX9_readDocument_24 : decode cX9_readDocument 24 = .ok (.ifCond .eq 7, 3) := by decide +kernel
theorem dX9_readDocument_27 : decode cX9_readDocument 27 = .ok (.iconst 1, 1) := by decide +kernel
theorem dX9_readDocument_28 : decode cX9_readDocument 28 = .ok (.goto 4, 3) := by decide +kernel
theorem dX9_readDocument_31 : decode cX9_readDocument 31 = .ok (.iconst 0, 1) := by decide +kernel
theorem dX9_readDocument_32 : decode cX9_readDocument 32 = .ok (.istore_n 3, 1) := by decide +kernel
theorem dX9_readDocument_33 : decode cX9_readDocument 33 = .ok (.aload_n 0, 1) := by decide +kernel
theorem dX9_readDocument_34 : decode cX9_readDocument 34 = .ok (.getfield 31, 3) := by decide +kernel
theorem dX9_readDocument_37 : decode cX9_readDocument 37 = .ok (.invokevirtual 163, 3) := by decide +kernel
theorem dX9_readDocument_40 : decode cX9_readDocument 40 = .ok (.aload_n 0, 1) := by decide +kernel
theorem dX9_readDocument_41 : decode cX9_readDocument 41 = .ok (.iload_n 1, 1) := by decide +kernel
theorem dX9_readDocument_42 : decode cX9_readDocument 42 = .ok (.invokevirtual 84, 3) := by decide +kernel
theorem dX9_readDocument_45 : decode cX9_readDocument 45 = .ok (.astore 4, 2) := by decide +kernel
theorem dX9_readDocument_47 : decode cX9_readDocument 47 = .ok (.iload_n 2, 1) := by decide +kernel
theorem dX9_readDocument_48 : decode cX9_readDocument 48 = .ok (.iconst (-1), 1) := by decide +kernel
theorem dX9_readDocument_49 : decode cX9_readDocument 49 = .ok (.if_icmp .eq 8, 3) := by decide +kernel
theorem dX9_readDocument_52 : decode cX9_readDocument 52 = .ok (.bipush (-100), 2) := by decide +kernel
theorem dX9_readDocument_54 : decode cX9_readDocument 54 = .ok (.iload_n 2, 1) := by decide +kernel
theorem dX9_readDocument_55 : decode cX9_readDocument 55 = .ok (.isub, 1) := by decide +kernel
theorem dX9_readDocument_56 : decode cX9_readDocument 56 = .ok (.ireturn, 1) := by decide +kernel
theorem dX9_readDocument_57 : decode cX9_readDocument 57 = .ok (.iload_n 3, 1) := by decide +kernel
theorem dX9_readDocument_58 : decode cX9_readDocument 58 = .ok (.ifCond .ne 13, 3) := by decide +kernel
theorem dX9_readDocument_61 : decode cX9_readDocument 61 = .ok (.new 147, 3) := by decide +kernel
theorem dX9_readDocument_64 : decode cX9_readDocument 64 = .ok (.dup, 1) := by decide +kernel
theorem dX9_readDocument_65 : decode cX9_readDocument 65 = .ok (.ldc 166, 2) := by decide +kernel
theorem dX9_readDocument_67 : decode cX9_readDocument 67 = .ok (.invokespecial 151, 3) := by decide +kernel
theorem dX9_readDocument_70 : decode cX9_readDocument 70 = .ok (.athrow, 1) := by decide +kernel
theorem dX9_readDocument_71 : decode cX9_readDocument 71 = .ok (.aload_n 0, 1) := by decide +kernel
theorem dX9_readDocument_72 : decode cX9_readDocument 72 = .ok (.iload_n 1, 1) := by decide +kernel
theorem dX9_readDocument_73 : decode cX9_readDocument 73 = .ok (.aload 4, 2) := by decide +kernel
theorem dX9_readDocument_75 : decode cX9_readDocument 75 = .ok (.aload_n 0, 1) := by decide +kernel
theorem dX9_readDocument_76 : decode cX9_readDocument 76 = .ok (.getfield 38, 3) := by decide +kernel
theorem dX9_readDocument_79 : decode cX9_readDocument 79 = .ok (.invokevirtual 128, 3) := by decide +kernel
theorem dX9_readDocument_82 : decode cX9_readDocument 82 = .ok (.ireturn, 1) := by decide +kernel
theorem dX9_setMode_0 : decode cX9_setMode 0 = .ok (.iload_n 1, 1) := by decide +kernel
theorem dX9_setMode_1 : decode cX9_setMode 1 = .ok (.ifCond .eq 18, 3) := by decide +kernel
theorem dX9_setMode_4 : decode cX9_setMode 4 = .ok (.iload_n 1, 1) := by decide +kernel
theorem dX9_setMode_5 : decode cX9_setMode 5 = .ok (.iconst 1, 1) := by decide +kernel
theorem dX9_setMode_6 : decode cX9_setMode 6 = .ok (.if_icmp .eq 13, 3) := by decide +kernel
theorem dX9_setMode_9 : decode cX9_setMode 9 = .ok (.new 168, 3) := by decide +kernel
theorem dX9_setMode_12 : decode cX9_setMode 12 = .ok (.dup, 1) := by decide +kernel
theorem dX9_setMode_13 : decode cX9_setMode 13 = .ok (.ldc 170, 2) := by decide +kernel
theorem dX9_setMode_15 : decode cX9_setMode 15 = .ok (.invokespecial 172, 3) := by decide +kernel
theorem dX9_setMode_18 : decode cX9_setMode 18 = .ok (.athrow, 1) := by decide +kernel
theorem dX9_setMode_19 : decode cX9_setMode 19 = .ok (.aload_n 0, 1) := by decide +kernel
theorem dX9_setMode_20 : decode cX9_setMode 20 = .ok (.getfield 70, 3) := by decide +kernel
theorem dX9_setMode_23 : decode cX9_setMode 23 = .ok (.istore_n 2, 1) := by decide +kernel
theorem dX9_setMode_24 : decode cX9_setMode 24 = .ok (.aload_n 0, 1) := by decide +kernel
theorem dX9_setMode_25 : decode cX9_setMode 25 = .ok (.iload_n 1, 1) := by decide +kernel
theorem dX9_setMode_26 : decode cX9_setMode 26 = .ok (.putfield 70, 3) := by decide +kernel
theorem dX9_setMode_29 : decode cX9_setMode 29 = .ok (.iload_n 2, 1) := by decide +kernel
theorem dX9_setMode_30 : decode cX9_setMode 30 = .ok (.ireturn, 1) := by decide +kernel
theorem dX9_compare_0 : decode cX9_compare 0 = .ok (.aload_n 0, 1) := by decide +kernel
theorem dX9_compare_1 : decode cX9_compare 1 = .ok (.iload_n 1, 1) := by decide +kernel
theorem dX9_compare_2 : decode cX9_compare 2 = .ok (.invokevirtual 84, 3) := by decide +kernel
theorem dX9_compare_5 : decode cX9_compare 5 = .ok (.astore_n 3, 1) := by decide +kernel
theorem dX9_compare_6 : decode cX9_compare 6 = .ok (.aload_n 0, 1) := by decide +kernel
theorem dX9_compare_7 : decode cX9_compare 7 = .ok (.iload_n 2, 1) := by decide +kernel
theorem dX9_compare_8 : decode cX9_compare 8 = .ok (.invokevirtual 84, 3) := by decide +kernel
theorem dX9_compare_11 : decode cX9_compare 11 = .ok (.astore 4, 2) := by decide +kernel
theorem dX9_compare_13 : decode cX9_compare 13 = .ok (.aload_n 0, 1) := by decide +kernel
theorem dX9_compare_14 : decode cX9_compare 14 = .ok (.getfield 52, 3) := by decide +kernel
theorem dX9_compare_17 : decode cX9_compare 17 = .ok (.aload_n 3, 1) := by decide +kernel
theorem dX9_compare_18 : decode cX9_compare 18 = .ok (.aload 4, 2) := by decide +kernel
theorem dX9_compare_20 : decode cX9_compare 20 = .ok (.aload_n 0, 1) := by decide +kernel
theorem dX9_compare_21 : decode cX9_compare 21 = .ok (.getfield 70, 3) := by decide +kernel
theorem dX9_compare_24 : decode cX9_compare 24 = .ok (.invokevirtual 173, 3) := by decide +kernel
theorem dX9_compare_27 : decode cX9_compare 27 = .ok (.ireturn, 1) := by decide +kernel
theorem dX9_partner_0 : decode cX9_partner 0 = .ok (.aload_n 0, 1) := by decide +kernel
theorem dX9_partner_1 : decode cX9_partner 1 = .ok (.invokevirtual 177, 3) := by decide +kernel
theorem dX9_partner_4 : decode cX9_partner 4 = .ok (.aload_n 0, 1) := by decide +kernel
theorem dX9_partner_5 : decode cX9_partner 5 = .ok (.getfield 52, 3) := by decide +kernel
theorem dX9_partner_8 : decode cX9_partner 8 = .ok (.invokevirtual 180, 3) := by decide +kernel
theorem dX9_partner_11 : decode cX9_partner 11 = .ok (.iload_n 1, 1) := by decide +kernel
theorem dX9_partner_12 : decode cX9_partner 12 = .ok (.invokevirtual 117, 3) := by decide +kernel
theorem dX9_partner_15 : decode cX9_partner 15 = .ok (.ifCond .ne 13, 3) := by decide +kernel
theorem dX9_partner_18 : decode cX9_partner 18 = .ok (.new 106, 3) := by decide +kernel
theorem dX9_partner_21 : decode cX9_partner 21 = .ok (.dup, 1) := by decide +kernel
theorem dX9_partner_22 : decode cX9_partner 22 = .ok (.ldc 108, 2) := by decide +kernel
theorem dX9_partner_24 : decode cX9_partner 24 = .ok (.invokespecial 110, 3) := by decide +kernel
theorem dX9_partner_27 : decode cX9_partner 27 = .ok (.athrow, 1) := by decide +kernel
theorem dX9_partner_28 : decode cX9_partner 28 = .ok (.aload_n 0, 1) := by decide +kernel
theorem dX9_partner_29 : decode cX9_partner 29 = .ok (.getfield 52, 3) := by decide +kernel
theorem dX9_partner_32 : decode cX9_partner 32 = .ok (.invokevirtual 184, 3) := by decide +kernel
theorem dX9_partner_35 : decode cX9_partner 35 = .ok (.iload_n 1, 1) := by decide +kernel
theorem dX9_partner_36 : decode cX9_partner 36 = .ok (.invokevirtual 188, 3) := by decide +kernel
theorem dX9_partner_39 : decode cX9_partner 39 = .ok (.ireturn, 1) := by decide +kernel
theorem dX9_findMoves_0 : decode cX9_findMoves 0 = .ok (.iload_n 1, 1) := by decide +kernel
theorem dX9_findMoves_1 : decode cX9_findMoves 1 = .ok (.iconst 1, 1) := by decide +kernel
theorem dX9_findMoves_2 : decode cX9_findMoves 2 = .ok (.if_icmp .lt 9, 3) := by decide +kernel
theorem dX9_findMoves_5 : decode cX9_findMoves 5 = .ok (.iload_n 1, 1) := by decide +kernel
theorem dX9_findMoves_6 : decode cX9_findMoves 6 = .ok (.bipush 9, 2) := by decide +kernel
theorem dX9_findMoves_8 : decode cX9_findMoves 8 = .ok (.if_icmp .le 13, 3) := by decide +kernel
theorem dX9_findMoves_11 : decode cX9_findMoves 11 = .ok (.new 168, 3) := by decide +kernel
theorem dX9_findMoves_14 : decode cX9_findMoves 14 = .ok (.dup, 1) := by decide +kernel
theorem dX9_findMoves_15 : decode cX9_findMoves 15 = .ok (.ldc 223, 2) := by decide +kernel
theorem dX9_findMoves_17 : decode cX9_findMoves 17 = .ok (.invokespecial 172, 3) := by decide +kernel
theorem dX9_findMoves_20 : decode cX9_findMoves 20 = .ok (.athrow, 1) := by decide +kernel
theorem dX9_findMoves_21 : decode cX9_findMoves 21 = .ok (.aload_n 0, 1) := by decide +kernel
theorem dX9_findMoves_22 : decode cX9_findMoves 22 = .ok (.invokevirtual 177, 3) := by decide +kernel
theorem dX9_findMoves_25 : decode cX9_findMoves 25 = .ok (.aload_n 0, 1) := by decide +kernel
theorem dX9_findMoves_26 : decode cX9_findMoves 26 = .ok (.getfield 52, 3) := by decide +kernel
theorem dX9_findMoves_29 : decode cX9_findMoves 29 = .ok (.iload_n 1, 1) := by decide +kernel
theorem dX9_findMoves_30 : decode cX9_findMoves 30 = .ok (.invokevirtual 225, 3) := by decide +kernel
theorem dX9_findMoves_33 : decode cX9_findMoves 33 = .ok (.ireturn, 1) := by decide +kernel
theorem dX9_move_0 : decode cX9_move 0 = .ok (.aload_n 0, 1) := by decide +kernel
theorem dX9_move_1 : decode cX9_move 1 = .ok (.getfield 52, 3) := by decide +kernel
theorem dX9_move_4 : decode cX9_move 4 = .ok (.invokevirtual 228, 3) := by decide +kernel
theorem dX9_move_7 : decode cX9_move 7 = .ok (.iload_n 1, 1) := by decide +kernel
theorem dX9_move_8 : decode cX9_move 8 = .ok (.iload_n 2, 1) := by decide +kernel
theorem dX9_move_9 : decode cX9_move 9 = .ok (.iconst 3, 1) := by decide +kernel
theorem dX9_move_10 : decode cX9_move 10 = .ok (.invokestatic 203, 3) := by decide +kernel
theorem dX9_move_13 : decode cX9_move 13 = .ok (.ireturn, 1) := by decide +kernel
theorem dX9_setShrinking_0 : decode cX9_setShrinking 0 = .ok (.aload_n 0, 1) := by decide +kernel
theorem dX9_setShrinking_1 : decode cX9_setShrinking 1 = .ok (.getfield 81, 3) := by decide +kernel
theorem dX9_setShrinking_4 : decode cX9_setShrinking 4 = .ok (.istore_n 2, 1) := by decide +kernel
theorem dX9_setShrinking_5 : decode cX9_setShrinking 5 = .ok (.aload_n 0, 1) := by decide +kernel
theorem dX9_setShrinking_6 : decode cX9_setShrinking 6 = .ok (.iload_n 1, 1) := by decide +kernel
theorem dX9_setShrinking_7 : decode cX9_setShrinking 7 = .ok (.putfield 81, 3) := by decide +kernel
theorem dX9_setShrinking_10 : decode cX9_setShrinking 10 = .ok (.iload_n 2, 1) := by decide +kernel
theorem dX9_setShrinking_11 : decode cX9_setShrinking 11 = .ok (.ireturn, 1) := by decide +kernel
theorem dX9_merge_0 : decode cX9_merge 0 = .ok (.aload_n 0, 1) := by decide +kernel
theorem dX9_merge_1 : decode cX9_merge 1 = .ok (.iload_n 1, 1) := by decide +kernel
theorem dX9_merge_2 : decode cX9_merge 2 = .ok (.invokevirtual 84, 3) := by decide +kernel
theorem dX9_merge_5 : decode cX9_merge 5 = .ok (.astore 4, 2) := by decide +kernel
theorem dX9_merge_7 : decode cX9_merge 7 = .ok (.aload_n 0, 1) := by decide +kernel
theorem dX9_merge_8 : decode cX9_merge 8 = .ok (.iload_n 2, 1) := by decide +kernel
theorem dX9_merge_9 : decode cX9_merge 9 = .ok (.invokevirtual 84, 3) := by decide +kernel
theorem dX9_merge_12 : decode cX9_merge 12 = .ok (.astore 5, 2) := by decide +kernel
theorem dX9_merge_14 : decode cX9_merge 14 = .ok (.aload_n 0, 1) := by decide +kernel
theorem dX9_merge_15 : decode cX9_merge 15 = .ok (.iload_n 3, 1) := by decide +kernel
theorem dX9_merge_16 : decode cX9_merge 16 = .ok (.invokevirtual 84, 3) := by decide +kernel
theorem dX9_merge_19 : decode cX9_merge 19 = .ok (.astore 6, 2) := by decide +kernel
theorem dX9_merge_21 : decode cX9_merge 21 = .ok (.aload_n 0, 1) := by decide +kernel
theorem dX9_merge_22 : decode cX9_merge 22 = .ok (.getfield 59, 3) := by decide +kernel
theorem dX9_merge_25 : decode cX9_merge 25 = .ok (.aload 4, 2) := by decide +kernel
theorem dX9_merge_27 : decode cX9_merge 27 = .ok (.aload 5, 2) := by decide +kernel
theorem dX9_merge_29 : decode cX9_merge 29 = .ok (.aload 6, 2) := by decide +kernel
theorem dX9_merge_31 : decode cX9_merge 31 = .ok (.invokevirtual 231, 3) := by decide +kernel
theorem dX9_merge_34 : decode cX9_merge 34 = .ok (.aload_n 0, 1) := by decide +kernel
theorem dX9_merge_35 : decode cX9_merge 35 = .ok (.getfield 59, 3) := by decide +kernel
theorem dX9_merge_38 : decode cX9_merge 38 = .ok (.aload_n 0, 1) := by decide +kernel
theorem dX9_merge_39 : decode cX9_merge 39 = .ok (.getfield 70, 3) := by decide +kernel
theorem dX9_merge_42 : decode cX9_merge 42 = .ok (.aload_n 0, 1) := by decide +kernel
theorem dX9_merge_43 : decode cX9_merge 43 = .ok (.getfield 81, 3) := by decide +kernel
theorem dX9_merge_46 : decode cX9_merge 46 = .ok (.invokevirtual 235, 3) := by decide +kernel
theorem dX9_merge_49 : decode cX9_merge 49 = .ok (.ireturn, 1) := by decide +kernel
theorem dX9_mergedLength_0 : decode cX9_mergedLength 0 = .ok (.aload_n 0, 1) := by decide +kernel
theorem dX9_mergedLength_1 : decode cX9_mergedLength 1 = .ok (.invokevirtual 238, 3) := by decide +kernel
theorem dX9_mergedLength_4 : decode cX9_mergedLength 4 = .ok (.aload_n 0, 1) := by decide +kernel
theorem dX9_mergedLength_5 : decode cX9_mergedLength 5 = .ok (.getfield 59, 3) := by decide +kernel
theorem dX9_mergedLength_8 : decode cX9_mergedLength 8 = .ok (.invokevirtual 256, 3) := by decide +kernel
theorem dX9_mergedLength_11 : decode cX9_mergedLength 11 = .ok (.invokevirtual 102, 3) := by decide +kernel
theorem dX9_mergedLength_14 : decode cX9_mergedLength 14 = .ok (.ireturn, 1) := by decide +kernel
theorem dX9_makePatch_0 : decode cX9_makePatch 0 = .ok (.iload_n 1, 1) := by decide +kernel
theorem dX9_makePatch_1 : decode cX9_makePatch 1 = .ok (.ifCond .lt 8, 3) := by decide +kernel
theorem dX9_makePatch_4 : decode cX9_makePatch 4 = .ok (.iload_n 1, 1) := by decide +kernel
theorem dX9_makePatch_5 : decode cX9_makePatch 5 = .ok (.iconst 3, 1) := by decide +kernel
theorem dX9_makePatch_6 : decode cX9_makePatch 6 = .ok (.if_icmp .le 14, 3) := by decide +kernel
theorem dX9_makePatch_9 : decode cX9_makePatch 9 = .ok (.new 168, 3) := by decide +kernel
theorem dX9_makePatch_12 : decode cX9_makePatch 12 = .ok (.dup, 1) := by decide +kernel
theorem dX9_makePatch_13 : decode cX9_makePatch 13 = .ok (.ldc_w 268, 3) := by decide +kernel
theorem dX9_makePatch_16 : decode cX9_makePatch 16 = .ok (.invokespecial 172, 3) := by decide +kernel
theorem dX9_makePatch_19 : decode cX9_makePatch 19 = .ok (.athrow, 1) := by decide +kernel
theorem dX9_makePatch_20 : decode cX9_makePatch 20 = .ok (.aload_n 0, 1) := by decide +kernel
theorem dX9_makePatch_21 : decode cX9_makePatch 21 = .ok (.invokevirtual 177, 3) := by decide +kernel
theorem dX9_makePatch_24 : decode cX9_makePatch 24 = .ok (.aload_n 0, 1) := by decide +kernel
theorem dX9_makePatch_25 : decode cX9_makePatch 25 = .ok (.getfield 66, 3) := by decide +kernel
theorem dX9_makePatch_28 : decode cX9_makePatch 28 = .ok (.aload_n 0, 1) := by decide +kernel
theorem dX9_makePatch_29 : decode cX9_makePatch 29 = .ok (.getfield 52, 3) := by decide +kernel
theorem dX9_makePatch_32 : decode cX9_makePatch 32 = .ok (.iload_n 1, 1) := by decide +kernel
theorem dX9_makePatch_33 : decode cX9_makePatch 33 = .ok (.invokevirtual 270, 3) := by decide +kernel
theorem dX9_makePatch_36 : decode cX9_makePatch 36 = .ok (.ireturn, 1) := by decide +kernel
theorem dX9_hunk_0 : decode cX9_hunk 0 = .ok (.aload_n 0, 1) := by decide +kernel
theorem dX9_hunk_1 : decode cX9_hunk 1 = .ok (.invokevirtual 273, 3) := by decide +kernel
theorem dX9_hunk_4 : decode cX9_hunk 4 = .ok (.aload_n 0, 1) := by decide +kernel
theorem dX9_hunk_5 : decode cX9_hunk 5 = .ok (.getfield 66, 3) := by decide +kernel
theorem dX9_hunk_8 : decode cX9_hunk 8 = .ok (.invokevirtual 276, 3) := by decide +kernel
theorem dX9_hunk_11 : decode cX9_hunk 11 = .ok (.iload_n 1, 1) := by decide +kernel
theorem dX9_hunk_12 : decode cX9_hunk 12 = .ok (.iload_n 2, 1) := by decide +kernel
theorem dX9_hunk_13 : decode cX9_hunk 13 = .ok (.bipush 6, 2) := by decide +kernel
theorem dX9_hunk_15 : decode cX9_hunk 15 = .ok (.invokestatic 203, 3) := by decide +kernel
theorem dX9_hunk_18 : decode cX9_hunk 18 = .ok (.ireturn, 1) := by decide +kernel
theorem dX9_apply_0 : decode cX9_apply 0 = .ok (.aload_n 0, 1) := by decide +kernel
theorem dX9_apply_1 : decode cX9_apply 1 = .ok (.iload_n 1, 1) := by decide +kernel
theorem dX9_apply_2 : decode cX9_apply 2 = .ok (.invokevirtual 84, 3) := by decide +kernel
theorem dX9_apply_5 : decode cX9_apply 5 = .ok (.astore 4, 2) := by decide +kernel
theorem dX9_apply_7 : decode cX9_apply 7 = .ok (.iload_n 2, 1) := by decide +kernel
theorem dX9_apply_8 : decode cX9_apply 8 = .ok (.ifCond .lt 8, 3) := by decide +kernel
theorem dX9_apply_11 : decode cX9_apply 11 = .ok (.iload_n 2, 1) := by decide +kernel
theorem dX9_apply_12 : decode cX9_apply 12 = .ok (.iconst 2, 1) := by decide +kernel
theorem dX9_apply_13 : decode cX9_apply 13 = .ok (.if_icmp .le 14, 3) := by decide +kernel
theorem dX9_apply_16 : decode cX9_apply 16 = .ok (.new 168, 3) := by decide +kernel
theorem dX9_apply_19 : decode cX9_apply 19 = .ok (.dup, 1) := by decide +kernel
theorem dX9_apply_20 : decode cX9_apply 20 = .ok (.ldc_w 277, 3) := by decide +kernel
theorem dX9_apply_23 : decode cX9_apply 23 = .ok (.invokespecial 172, 3) := by decide +kernel
theorem dX9_apply_26 : decode cX9_apply 26 = .ok (.athrow, 1) := by decide +kernel
theorem dX9_apply_27 : decode cX9_apply 27 = .ok (.aload_n 0, 1) := by decide +kernel
theorem dX9_apply_28 : decode cX9_apply 28 = .ok (.invokevirtual 273, 3) := by decide +kernel
theorem dX9_apply_31 : decode cX9_apply 31 = .ok (.aload_n 0, 1) := by decide +kernel
theorem dX9_apply_32 : decode cX9_apply 32 = .ok (.getfield 66, 3) := by decide +kernel
theorem dX9_apply_35 : decode cX9_apply 35 = .ok (.aload 4, 2) := by decide +kernel
theorem dX9_apply_37 : decode cX9_apply 37 = .ok (.iload_n 2, 1) := by decide +kernel
theorem dX9_apply_38 : decode cX9_apply 38 = .ok (.iload_n 3, 1) := by decide +kernel
theorem dX9_apply_39 : decode cX9_apply 39 = .ok (.invokevirtual 279, 3) := by decide +kernel
theorem dX9_apply_42 : decode cX9_apply 42 = .ok (.astore 5, 2) := by decide +kernel
theorem dX9_apply_44 : decode cX9_apply 44 = .ok (.aload 5, 2) := by decide +kernel
theorem dX9_apply_46 : decode cX9_apply 46 = .ok (.invokevirtual 102, 3) := by decide +kernel
theorem dX9_apply_49 : decode cX9_apply 49 = .ok (.bipush 24, 2) := by decide +kernel
theorem dX9_apply_51 : decode cX9_apply 51 = .ok (.if_icmp .le 13, 3) := by decide +kernel
theorem dX9_apply_54 : decode cX9_apply 54 = .ok (.new 263, 3) := by decide +kernel
theorem dX9_apply_57 : decode cX9_apply 57 = .ok (.dup, 1) := by decide +kernel
theorem dX9_apply_58 : decode cX9_apply 58 = .ok (.ldc 166, 2) := by decide +kernel
theorem dX9_apply_60 : decode cX9_apply 60 = .ok (.invokespecial 267, 3) := by decide +kernel
theorem dX9_apply_63 : decode cX9_apply 63 = .ok (.athrow, 1) := by decide +kernel
theorem dX9_apply_64 : decode cX9_apply 64 = .ok (.aload_n 0, 1) := by decide +kernel
theorem dX9_apply_65 : decode cX9_apply 65 = .ok (.iload_n 1, 1) := by decide +kernel
theorem dX9_apply_66 : decode cX9_apply 66 = .ok (.aload 4, 2) := by decide +kernel
theorem dX9_apply_68 : decode cX9_apply 68 = .ok (.aload 5, 2) := by decide +kernel
theorem dX9_apply_70 : decode cX9_apply 70 = .ok (.invokevirtual 128, 3) := by decide +kernel
theorem dX9_apply_73 : decode cX9_apply 73 = .ok (.pop, 1) := by decide +kernel
theorem dX9_apply_74 : decode cX9_apply 74 = .ok (.aload_n 0, 1) := by decide +kernel
theorem dX9_apply_75 : decode cX9_apply 75 = .ok (.getfield 66, 3) := by decide +kernel
theorem dX9_apply_78 : decode cX9_apply 78 = .ok (.invokevirtual 283, 3) := by decide +kernel
theorem dX9_apply_81 : decode cX9_apply 81 = .ok (.ireturn, 1) := by decide +kernel
theorem dX9_outcome_0 : decode cX9_outcome 0 = .ok (.aload_n 0, 1) := by decide +kernel
theorem dX9_outcome_1 : decode cX9_outcome 1 = .ok (.getfield 66, 3) := by decide +kernel
theorem dX9_outcome_4 : decode cX9_outcome 4 = .ok (.invokevirtual 286, 3) := by decide +kernel
theorem dX9_outcome_7 : decode cX9_outcome 7 = .ok (.iload_n 1, 1) := by decide +kernel
theorem dX9_outcome_8 : decode cX9_outcome 8 = .ok (.invokevirtual 289, 3) := by decide +kernel
theorem dX9_outcome_11 : decode cX9_outcome 11 = .ok (.ifCond .ne 14, 3) := by decide +kernel
theorem dX9_outcome_14 : decode cX9_outcome 14 = .ok (.new 210, 3) := by decide +kernel
theorem dX9_outcome_17 : decode cX9_outcome 17 = .ok (.dup, 1) := by decide +kernel
theorem dX9_outcome_18 : decode cX9_outcome 18 = .ok (.ldc_w 292, 3) := by decide +kernel
theorem dX9_outcome_21 : decode cX9_outcome 21 = .ok (.invokespecial 214, 3) := by decide +kernel
theorem dX9_outcome_24 : decode cX9_outcome 24 = .ok (.athrow, 1) := by decide +kernel
theorem dX9_outcome_25 : decode cX9_outcome 25 = .ok (.iload_n 2, 1) := by decide +kernel
theorem dX9_outcome_26 : decode cX9_outcome 26 = .ok (.ifCond .lt 8, 3) := by decide +kernel
theorem dX9_outcome_29 : decode cX9_outcome 29 = .ok (.iload_n 2, 1) := by decide +kernel
theorem dX9_outcome_30 : decode cX9_outcome 30 = .ok (.iconst 1, 1) := by decide +kernel
theorem dX9_outcome_31 : decode cX9_outcome 31 = .ok (.if_icmp .le 14, 3) := by decide +kernel
theorem dX9_outcome_34 : decode cX9_outcome 34 = .ok (.new 168, 3) := by decide +kernel
theorem dX9_outcome_37 : decode cX9_outcome 37 = .ok (.dup, 1) := by decide +kernel
theorem dX9_outcome_38 : decode cX9_outcome 38 = .ok (.ldc_w 294, 3) := by decide +kernel
theorem dX9_outcome_41 : decode cX9_outcome 41 = .ok (.invokespecial 172, 3) := by decide +kernel
theorem dX9_outcome_44 : decode cX9_outcome 44 = .ok (.athrow, 1) := by decide +kernel
theorem dX9_outcome_45 : decode cX9_outcome 45 = .ok (.aload_n 0, 1) := by decide +kernel
theorem dX9_outcome_46 : decode cX9_outcome 46 = .ok (.getfield 66, 3) := by decide +kernel
theorem dX9_outcome_49 : decode cX9_outcome 49 = .ok (.invokevirtual 286, 3) := by decide +kernel
theorem dX9_outcome_52 : decode cX9_outcome 52 = .ok (.iload_n 1, 1) := by decide +kernel
theorem dX9_outcome_53 : decode cX9_outcome 53 = .ok (.iload_n 2, 1) := by decide +kernel
theorem dX9_outcome_54 : decode cX9_outcome 54 = .ok (.invokevirtual 296, 3) := by decide +kernel
theorem dX9_outcome_57 : decode cX9_outcome 57 = .ok (.ireturn, 1) := by decide +kernel
theorem dX9_undo_0 : decode cX9_undo 0 = .ok (.aload_n 0, 1) := by decide +kernel
theorem dX9_undo_1 : decode cX9_undo 1 = .ok (.getfield 24, 3) := by decide +kernel
theorem dX9_undo_4 : decode cX9_undo 4 = .ok (.invokevirtual 298, 3) := by decide +kernel
theorem dX9_undo_7 : decode cX9_undo 7 = .ok (.ifCond .eq 14, 3) := by decide +kernel
theorem dX9_undo_10 : decode cX9_undo 10 = .ok (.new 147, 3) := by decide +kernel
theorem dX9_undo_13 : decode cX9_undo 13 = .ok (.dup, 1) := by decide +kernel
theorem dX9_undo_14 : decode cX9_undo 14 = .ok (.ldc_w 301, 3) := by decide +kernel
theorem dX9_undo_17 : decode cX9_undo 17 = .ok (.invokespecial 151, 3) := by decide +kernel
theorem dX9_undo_20 : decode cX9_undo 20 = .ok (.athrow, 1) := by decide +kernel
theorem dX9_undo_21 : decode cX9_undo 21 = .ok (.aload_n 0, 1) := by decide +kernel
theorem dX9_undo_22 : decode cX9_undo 22 = .ok (.getfield 24, 3) := by decide +kernel
theorem dX9_undo_25 : decode cX9_undo 25 = .ok (.aload_n 0, 1) := by decide +kernel
theorem dX9_undo_26 : decode cX9_undo 26 = .ok (.getfield 14, 3) := by decide +kernel
theorem dX9_undo_29 : decode cX9_undo 29 = .ok (.invokevirtual 303, 3) := by decide +kernel
theorem dX9_undo_32 : decode cX9_undo 32 = .ok (.ireturn, 1) := by decide +kernel
theorem dX9_save_0 : decode cX9_save 0 = .ok (.aload_n 0, 1) := by decide +kernel
theorem dX9_save_1 : decode cX9_save 1 = .ok (.getfield 18, 3) := by decide +kernel
theorem dX9_save_4 : decode cX9_save 4 = .ok (.aload_n 0, 1) := by decide +kernel
theorem dX9_save_5 : decode cX9_save 5 = .ok (.getfield 14, 3) := by decide +kernel
theorem dX9_save_8 : decode cX9_save 8 = .ok (.invokevirtual 307, 3) := by decide +kernel
theorem dX9_save_11 : decode cX9_save 11 = .ok (.aload_n 0, 1) := by decide +kernel
theorem dX9_save_12 : decode cX9_save 12 = .ok (.aload_n 0, 1) := by decide +kernel
theorem dX9_save_13 : decode cX9_save 13 = .ok (.getfield 70, 3) := by decide +kernel
theorem dX9_save_16 : decode cX9_save 16 = .ok (.putfield 74, 3) := by decide +kernel
theorem dX9_save_19 : decode cX9_save 19 = .ok (.aload_n 0, 1) := by decide +kernel
theorem dX9_save_20 : decode cX9_save 20 = .ok (.iconst 1, 1) := by decide +kernel
theorem dX9_save_21 : decode cX9_save 21 = .ok (.putfield 77, 3) := by decide +kernel
theorem dX9_save_24 : decode cX9_save 24 = .ok (.aload_n 0, 1) := by decide +kernel
theorem dX9_save_25 : decode cX9_save 25 = .ok (.getfield 18, 3) := by decide +kernel
theorem dX9_save_28 : decode cX9_save 28 = .ok (.invokevirtual 311, 3) := by decide +kernel
theorem dX9_save_31 : decode cX9_save 31 = .ok (.ireturn, 1) := by decide +kernel
theorem dX9_restore_0 : decode cX9_restore 0 = .ok (.aload_n 0, 1) := by decide +kernel
theorem dX9_restore_1 : decode cX9_restore 1 = .ok (.getfield 77, 3) := by decide +kernel
theorem dX9_restore_4 : decode cX9_restore 4 = .ok (.ifCond .ne 14, 3) := by decide +kernel
theorem dX9_restore_7 : decode cX9_restore 7 = .ok (.new 147, 3) := by decide +kernel
theorem dX9_restore_10 : decode cX9_restore 10 = .ok (.dup, 1) := by decide +kernel
theorem dX9_restore_11 : decode cX9_restore 11 = .ok (.ldc_w 314, 3) := by decide +kernel
theorem dX9_restore_14 : decode cX9_restore 14 = .ok (.invokespecial 151, 3) := by decide +kernel
theorem dX9_restore_17 : decode cX9_restore 17 = .ok (.athrow, 1) := by decide +kernel
theorem dX9_restore_18 : decode cX9_restore 18 = .ok (.aload_n 0, 1) := by decide +kernel
theorem dX9_restore_19 : decode cX9_restore 19 = .ok (.getfield 14, 3) := by decide +kernel
theorem dX9_restore_22 : decode cX9_restore 22 = .ok (.aload_n 0, 1) := by decide +kernel
theorem dX9_restore_23 : decode cX9_restore 23 = .ok (.getfield 18, 3) := by decide +kernel
theorem dX9_restore_26 : decode cX9_restore 26 = .ok (.invokevirtual 307, 3) := by decide +kernel
theorem dX9_restore_29 : decode cX9_restore 29 = .ok (.aload_n 0, 1) := by decide +kernel
theorem dX9_restore_30 : decode cX9_restore 30 = .ok (.aload_n 0, 1) := by decide +kernel
theorem dX9_restore_31 : decode cX9_restore 31 = .ok (.getfield 74, 3) := by decide +kernel
theorem dX9_restore_34 : decode cX9_restore 34 = .ok (.putfield 70, 3) := by decide +kernel
theorem dX9_restore_37 : decode cX9_restore 37 = .ok (.aload_n 0, 1) := by decide +kernel
theorem dX9_restore_38 : decode cX9_restore 38 = .ok (.getfield 24, 3) := by decide +kernel
theorem dX9_restore_41 : decode cX9_restore 41 = .ok (.invokevirtual 316, 3) := by decide +kernel
theorem dX9_restore_44 : decode cX9_restore 44 = .ok (.aload_n 0, 1) := by decide +kernel
theorem dX9_restore_45 : decode cX9_restore 45 = .ok (.getfield 14, 3) := by decide +kernel
theorem dX9_restore_48 : decode cX9_restore 48 = .ok (.invokevirtual 311, 3) := by decide +kernel
theorem dX9_restore_51 : decode cX9_restore 51 = .ok (.ireturn, 1) := by decide +kernel
theorem dX9_document_0 : decode cX9_document 0 = .ok (.iload_n 1, 1) := by decide +kernel
theorem dX9_document_1 : decode cX9_document 1 = .ok (.ifCond .lt 8, 3) := by decide +kernel
theorem dX9_document_4 : decode cX9_document 4 = .ok (.iload_n 1, 1) := by decide +kernel
theorem dX9_document_5 : decode cX9_document 5 = .ok (.iconst 4, 1) := by decide +kernel
theorem dX9_document_6 : decode cX9_document 6 = .ok (.if_icmp .lt 14, 3) := by decide +kernel
theorem dX9_document_9 : decode cX9_document 9 = .ok (.new 168, 3) := by decide +kernel
theorem dX9_document_12 : decode cX9_document 12 = .ok (.dup, 1) := by decide +kernel
theorem dX9_document_13 : decode cX9_document 13 = .ok (.ldc_w 319, 3) := by decide +kernel
theorem dX9_document_16 : decode cX9_document 16 = .ok (.invokespecial 172, 3) := by decide +kernel
theorem dX9_document_19 : decode cX9_document 19 = .ok (.athrow, 1) := by decide +kernel
theorem dX9_document_20 : decode cX9_document 20 = .ok (.aload_n 0, 1) := by decide +kernel
theorem dX9_document_21 : decode cX9_document 21 = .ok (.getfield 14, 3) := by decide +kernel
theorem dX9_document_24 : decode cX9_document 24 = .ok (.iload_n 1, 1) := by decide +kernel
theorem dX9_document_25 : decode cX9_document 25 = .ok (.invokevirtual 321, 3) := by decide +kernel
theorem dX9_document_28 : decode cX9_document 28 = .ok (.areturn, 1) := by decide +kernel
theorem dX9_requireLine_0 : decode cX9_requireLine 0 = .ok (.iload_n 0, 1) := by decide +kernel
theorem dX9_requireLine_1 : decode cX9_requireLine 1 = .ok (.ifCond .lt 9, 3) := by decide +kernel
theorem dX9_requireLine_4 : decode cX9_requireLine 4 = .ok (.iload_n 0, 1) := by decide +kernel
theorem dX9_requireLine_5 : decode cX9_requireLine 5 = .ok (.bipush 25, 2) := by decide +kernel
theorem dX9_requireLine_7 : decode cX9_requireLine 7 = .ok (.if_icmp .le 14, 3) := by decide +kernel
theorem dX9_requireLine_10 : decode cX9_requireLine 10 = .ok (.new 168, 3) := by decide +kernel
theorem dX9_requireLine_13 : decode cX9_requireLine 13 = .ok (.dup, 1) := by decide +kernel
theorem dX9_requireLine_14 : decode cX9_requireLine 14 = .ok (.ldc_w 324, 3) := by decide +kernel
theorem dX9_requireLine_17 : decode cX9_requireLine 17 = .ok (.invokespecial 172, 3) := by decide +kernel
theorem dX9_requireLine_20 : decode cX9_requireLine 20 = .ok (.athrow, 1) := by decide +kernel
theorem dX9_requireLine_21 : decode cX9_requireLine 21 = .ok (.return_, 1) := by decide +kernel
theorem dX9_requireRoom_0 : decode cX9_requireRoom 0 = .ok (.aload_n 0, 1) := by decide +kernel
theorem dX9_requireRoom_1 : decode cX9_requireRoom 1 = .ok (.invokevirtual 102, 3) := by decide +kernel
theorem dX9_requireRoom_4 : decode cX9_requireRoom 4 = .ok (.bipush 24, 2) := by decide +kernel
theorem dX9_requireRoom_6 : decode cX9_requireRoom 6 = .ok (.if_icmp .lt 14, 3) := by decide +kernel
theorem dX9_requireRoom_9 : decode cX9_requireRoom 9 = .ok (.new 147, 3) := by decide +kernel
theorem dX9_requireRoom_12 : decode cX9_requireRoom 12 = .ok (.dup, 1) := by decide +kernel
theorem dX9_requireRoom_13 : decode cX9_requireRoom 13 = .ok (.ldc_w 326, 3) := by decide +kernel
theorem dX9_requireRoom_16 : decode cX9_requireRoom 16 = .ok (.invokespecial 151, 3) := by decide +kernel
theorem dX9_requireRoom_19 : decode cX9_requireRoom 19 = .ok (.athrow, 1) := by decide +kernel
theorem dX9_requireRoom_20 : decode cX9_requireRoom 20 = .ok (.return_, 1) := by decide +kernel
theorem dX9_requireComparison_0 : decode cX9_requireComparison 0 = .ok (.aload_n 0, 1) := by decide +kernel
theorem dX9_requireComparison_1 : decode cX9_requireComparison 1 = .ok (.getfield 52, 3) := by decide +kernel
theorem dX9_requireComparison_4 : decode cX9_requireComparison 4 = .ok (.invokevirtual 328, 3) := by decide +kernel
theorem dX9_requireComparison_7 : decode cX9_requireComparison 7 = .ok (.ifCond .ne 14, 3) := by decide +kernel
theorem dX9_requireComparison_10 : decode cX9_requireComparison 10 = .ok (.new 147, 3) := by decide +kernel
theorem dX9_requireComparison_13 : decode cX9_requireComparison 13 = .ok (.dup, 1) := by decide +kernel
theorem dX9_requireComparison_14 : decode cX9_requireComparison 14 = .ok (.ldc_w 331, 3) := by decide +kernel
theorem dX9_requireComparison_17 : decode cX9_requireComparison 17 = .ok (.invokespecial 151, 3) := by decide +kernel
theorem dX9_requireComparison_20 : decode cX9_requireComparison 20 = .ok (.athrow, 1) := by decide +kernel
theorem dX9_requireComparison_21 : decode cX9_requireComparison 21 = .ok (.return_, 1) := by decide +kernel
theorem dX9_requireMerge_0 : decode cX9_requireMerge 0 = .ok (.aload_n 0, 1) := by decide +kernel
theorem dX9_requireMerge_1 : decode cX9_requireMerge 1 = .ok (.getfield 59, 3) := by decide +kernel
theorem dX9_requireMerge_4 : decode cX9_requireMerge 4 = .ok (.invokevirtual 333, 3) := by decide +kernel
theorem dX9_requireMerge_7 : decode cX9_requireMerge 7 = .ok (.ifCond .ne 14, 3) := by decide +kernel
theorem dX9_requireMerge_10 : decode cX9_requireMerge 10 = .ok (.new 147, 3) := by decide +kernel
theorem dX9_requireMerge_13 : decode cX9_requireMerge 13 = .ok (.dup, 1) := by decide +kernel
theorem dX9_requireMerge_14 : decode cX9_requireMerge 14 = .ok (.ldc_w 334, 3) := by decide +kernel
theorem dX9_requireMerge_17 : decode cX9_requireMerge 17 = .ok (.invokespecial 151, 3) := by decide +kernel
theorem dX9_requireMerge_20 : decode cX9_requireMerge 20 = .ok (.athrow, 1) := by decide +kernel
theorem dX9_requireMerge_21 : decode cX9_requireMerge 21 = .ok (.return_, 1) := by decide +kernel
theorem dX9_requirePatch_0 : decode cX9_requirePatch 0 = .ok (.aload_n 0, 1) := by decide +kernel
theorem dX9_requirePatch_1 : decode cX9_requirePatch 1 = .ok (.getfield 66, 3) := by decide +kernel
theorem dX9_requirePatch_4 : decode cX9_requirePatch 4 = .ok (.invokevirtual 336, 3) := by decide +kernel
theorem dX9_requirePatch_7 : decode cX9_requirePatch 7 = .ok (.ifCond .ne 14, 3) := by decide +kernel
theorem dX9_requirePatch_10 : decode cX9_requirePatch 10 = .ok (.new 147, 3) := by decide +kernel
theorem dX9_requirePatch_13 : decode cX9_requirePatch 13 = .ok (.dup, 1) := by decide +kernel
theorem dX9_requirePatch_14 : decode cX9_requirePatch 14 = .ok (.ldc_w 337, 3) := by decide +kernel
theorem dX9_requirePatch_17 : decode cX9_requirePatch 17 = .ok (.invokespecial 151, 3) := by decide +kernel
theorem dX9_requirePatch_20 : decode cX9_requirePatch 20 = .ok (.athrow, 1) := by decide +kernel
theorem dX9_requirePatch_21 : decode cX9_requirePatch 21 = .ok (.return_, 1) := by decide +kernel
theorem dX9_property_0 : decode cX9_property 0 = .ok (.aload_n 0, 1) := by decide +kernel
theorem dX9_property_1 : decode cX9_property 1 = .ok (.iload_n 1, 1) := by decide +kernel
theorem dX9_property_2 : decode cX9_property 2 = .ok (.invokevirtual 289, 3) := by decide +kernel
theorem dX9_property_5 : decode cX9_property 5 = .ok (.ifCond .ne 14, 3) := by decide +kernel
theorem dX9_property_8 : decode cX9_property 8 = .ok (.new 106, 3) := by decide +kernel
theorem dX9_property_11 : decode cX9_property 11 = .ok (.dup, 1) := by decide +kernel
theorem dX9_property_12 : decode cX9_property 12 = .ok (.ldc_w 259, 3) := by decide +kernel
theorem dX9_property_15 : decode cX9_property 15 = .ok (.invokespecial 110, 3) := by decide +kernel
theorem dX9_property_18 : decode cX9_property 18 = .ok (.athrow, 1) := by decide +kernel
theorem dX9_property_19 : decode cX9_property 19 = .ok (.iload_n 2, 1) := by decide +kernel
theorem dX9_property_20 : decode cX9_property 20 = .ok (.ifCond .lt 8, 3) := by decide +kernel
theorem dX9_property_23 : decode cX9_property 23 = .ok (.iload_n 2, 1) := by decide +kernel
theorem dX9_property_24 : decode cX9_property 24 = .ok (.iload_n 3, 1) := by decide +kernel
theorem dX9_property_25 : decode cX9_property 25 = .ok (.if_icmp .lt 14, 3) := by decide +kernel
theorem dX9_property_28 : decode cX9_property 28 = .ok (.new 168, 3) := by decide +kernel
theorem dX9_property_31 : decode cX9_property 31 = .ok (.dup, 1) := by decide +kernel
theorem dX9_property_32 : decode cX9_property 32 = .ok (.ldc_w 294, 3) := by decide +kernel
theorem dX9_property_35 : decode cX9_property 35 = .ok (.invokespecial 172, 3) := by decide +kernel
theorem dX9_property_38 : decode cX9_property 38 = .ok (.athrow, 1) := by decide +kernel
theorem dX9_property_39 : decode cX9_property 39 = .ok (.aload_n 0, 1) := by decide +kernel
theorem dX9_property_40 : decode cX9_property 40 = .ok (.iload_n 1, 1) := by decide +kernel
theorem dX9_property_41 : decode cX9_property 41 = .ok (.iload_n 2, 1) := by decide +kernel
theorem dX9_property_42 : decode cX9_property 42 = .ok (.invokevirtual 296, 3) := by decide +kernel
theorem dX9_property_45 : decode cX9_property 45 = .ok (.ireturn, 1) := by decide +kernel
theorem dX9_changeTo_0 : decode cX9_changeTo 0 = .ok (.aload_n 0, 1) := by decide +kernel
theorem dX9_changeTo_1 : decode cX9_changeTo 1 = .ok (.getfield 24, 3) := by decide +kernel
theorem dX9_changeTo_4 : decode cX9_changeTo 4 = .ok (.iload_n 1, 1) := by decide +kernel
theorem dX9_changeTo_5 : decode cX9_changeTo 5 = .ok (.aload_n 2, 1) := by decide +kernel
theorem dX9_changeTo_6 : decode cX9_changeTo 6 = .ok (.invokevirtual 95, 3) := by decide +kernel
theorem dX9_changeTo_9 : decode cX9_changeTo 9 = .ok (.aload_n 2, 1) := by decide +kernel
theorem dX9_changeTo_10 : decode cX9_changeTo 10 = .ok (.aload_n 3, 1) := by decide +kernel
theorem dX9_changeTo_11 : decode cX9_changeTo 11 = .ok (.invokevirtual 339, 3) := by decide +kernel
theorem dX9_changeTo_14 : decode cX9_changeTo 14 = .ok (.aload_n 2, 1) := by decide +kernel
theorem dX9_changeTo_15 : decode cX9_changeTo 15 = .ok (.invokevirtual 102, 3) := by decide +kernel
theorem dX9_changeTo_18 : decode cX9_changeTo 18 = .ok (.ireturn, 1) := by decide +kernel
theorem dJ9_abs_0f7a4_0 : decode cJ9_abs_0f7a4 0 = .ok (.iload_n 0, 1) := by decide +kernel
theorem dJ9_abs_0f7a4_1 : decode cJ9_abs_0f7a4 1 = .ok (.ifCond .ge 8, 3) := by decide +kernel
theorem dJ9_abs_0f7a4_4 : decode cJ9_abs_0f7a4 4 = .ok (.iload_n 0, 1) := by decide +kernel
theorem dJ9_abs_0f7a4_5 : decode cJ9_abs_0f7a4 5 = .ok (.ineg, 1) := by decide +kernel
theorem dJ9_abs_0f7a4_6 : decode cJ9_abs_0f7a4 6 = .ok (.goto 4, 3) := by decide +kernel
theorem dJ9_abs_0f7a4_9 : decode cJ9_abs_0f7a4 9 = .ok (.iload_n 0, 1) := by decide +kernel
theorem dJ9_abs_0f7a4_10 : decode cJ9_abs_0f7a4 10 = .ok (.ireturn, 1) := by decide +kernel
theorem dJ9_max_7cf53_0 : decode cJ9_max_7cf53 0 = .ok (.iload_n 0, 1) := by decide +kernel
theorem dJ9_max_7cf53_1 : decode cJ9_max_7cf53 1 = .ok (.iload_n 1, 1) := by decide +kernel
theorem dJ9_max_7cf53_2 : decode cJ9_max_7cf53 2 = .ok (.if_icmp .lt 7, 3) := by decide +kernel
theorem dJ9_max_7cf53_5 : decode cJ9_max_7cf53 5 = .ok (.iload_n 0, 1) := by decide +kernel
theorem dJ9_max_7cf53_6 : decode cJ9_max_7cf53 6 = .ok (.goto 4, 3) := by decide +kernel
theorem dJ9_max_7cf53_9 : decode cJ9_max_7cf53 9 = .ok (.iload_n 1, 1) := by decide +kernel
theorem dJ9_max_7cf53_10 : decode cJ9_max_7cf53 10 = .ok (.ireturn, 1) := by decide +kernel
theorem dJ9_min_7cf53_0 : decode cJ9_min_7cf53 0 = .ok (.iload_n 0, 1) := by decide +kernel
theorem dJ9_min_7cf53_1 : decode cJ9_min_7cf53 1 = .ok (.iload_n 1, 1) := by decide +kernel
theorem dJ9_min_7cf53_2 : decode cJ9_min_7cf53 2 = .ok (.if_icmp .gt 7, 3) := by decide +kernel
theorem dJ9_min_7cf53_5 : decode cJ9_min_7cf53 5 = .ok (.iload_n 0, 1) := by decide +kernel
theorem dJ9_min_7cf53_6 : decode cJ9_min_7cf53 6 = .ok (.goto 4, 3) := by decide +kernel
theorem dJ9_min_7cf53_9 : decode cJ9_min_7cf53 9 = .ok (.iload_n 1, 1) := by decide +kernel
theorem dJ9_min_7cf53_10 : decode cJ9_min_7cf53 10 = .ok (.ireturn, 1) := by decide +kernel
theorem dL_at_0 : decode cL_at 0 = .ok (.iload_n 1, 1) := by decide +kernel
theorem dL_at_1 : decode cL_at 1 = .ok (.aload_n 0, 1) := by decide +kernel
theorem dL_at_2 : decode cL_at 2 = .ok (.arraylength, 1) := by decide +kernel
theorem dL_at_3 : decode cL_at 3 = .ok (.if_icmp .ge 9, 3) := by decide +kernel
theorem dL_at_6 : decode cL_at 6 = .ok (.aload_n 0, 1) := by decide +kernel
theorem dL_at_7 : decode cL_at 7 = .ok (.iload_n 1, 1) := by decide +kernel
theorem dL_at_8 : decode cL_at 8 = .ok (.iaload, 1) := by decide +kernel
theorem dL_at_9 : decode cL_at 9 = .ok (.goto 4, 3) := by decide +kernel
theorem dL_at_12 : decode cL_at 12 = .ok (.iconst 0, 1) := by decide +kernel
theorem dL_at_13 : decode cL_at 13 = .ok (.ireturn, 1) := by decide +kernel
theorem dL_build_0 : decode cL_build 0 = .ok (.new 7, 3) := by decide +kernel
theorem dL_build_3 : decode cL_build 3 = .ok (.dup, 1) := by decide +kernel
theorem dL_build_4 : decode cL_build 4 = .ok (.invokespecial 9, 3) := by decide +kernel
theorem dL_build_7 : decode cL_build 7 = .ok (.astore_n 1, 1) := by decide +kernel
theorem dL_build_8 : decode cL_build 8 = .ok (.aload_n 0, 1) := by decide +kernel
theorem dL_build_9 : decode cL_build 9 = .ok (.iconst 0, 1) := by decide +kernel
theorem dL_build_10 : decode cL_build 10 = .ok (.invokestatic 10, 3) := by decide +kernel
theorem dL_build_13 : decode cL_build 13 = .ok (.bipush 15, 2) := by decide +kernel
theorem dL_build_15 : decode cL_build 15 = .ok (.iand, 1) := by decide +kernel
theorem dL_build_16 : decode cL_build 16 = .ok (.bipush 12, 2) := by decide +kernel
theorem dL_build_18 : decode cL_build 18 = .ok (.irem, 1) := by decide +kernel
theorem dL_build_19 : decode cL_build 19 = .ok (.istore_n 2, 1) := by decide +kernel
theorem dL_build_20 : decode cL_build 20 = .ok (.iconst 2, 1) := by decide +kernel
theorem dL_build_21 : decode cL_build 21 = .ok (.aload_n 0, 1) := by decide +kernel
theorem dL_build_22 : decode cL_build 22 = .ok (.iconst 0, 1) := by decide +kernel
theorem dL_build_23 : decode cL_build 23 = .ok (.invokestatic 10, 3) := by decide +kernel
theorem dL_build_26 : decode cL_build 26 = .ok (.iconst 4, 1) := by decide +kernel
theorem dL_build_27 : decode cL_build 27 = .ok (.ishr, 1) := by decide +kernel
theorem dL_build_28 : decode cL_build 28 = .ok (.bipush 7, 2) := by decide +kernel
theorem dL_build_30 : decode cL_build 30 = .ok (.iand, 1) := by decide +kernel
theorem dL_build_31 : decode cL_build 31 = .ok (.iadd, 1) := by decide +kernel
theorem dL_build_32 : decode cL_build 32 = .ok (.istore_n 3, 1) := by decide +kernel
theorem dL_build_33 : decode cL_build 33 = .ok (.iconst 0, 1) := by decide +kernel
theorem dL_build_34 : decode cL_build 34 = .ok (.istore 4, 2) := by decide +kernel
theorem dL_build_36 : decode cL_build 36 = .ok (.iload 4, 2) := by decide +kernel
theorem dL_build_38 : decode cL_build 38 = .ok (.iload_n 2, 1) := by decide +kernel
theorem dL_build_39 : decode cL_build 39 = .ok (.if_icmp .ge 30, 3) := by decide +kernel
theorem dL_build_42 : decode cL_build 42 = .ok (.aload_n 1, 1) := by decide +kernel
theorem dL_build_43 : decode cL_build 43 = .ok (.iconst 0, 1) := by decide +kernel
theorem dL_build_44 : decode cL_build 44 = .ok (.aload_n 0, 1) := by decide +kernel
theorem dL_build_45 : decode cL_build 45 = .ok (.iconst 1, 1) := by decide +kernel
theorem dL_build_46 : decode cL_build 46 = .ok (.invokestatic 10, 3) := by decide +kernel
theorem dL_build_49 : decode cL_build 49 = .ok (.iconst 2, 1) := by decide +kernel
theorem dL_build_50 : decode cL_build 50 = .ok (.iload 4, 2) := by decide +kernel
theorem dL_build_52 : decode cL_build 52 = .ok (.imul, 1) := by decide +kernel
theorem dL_build_53 : decode cL_build 53 = .ok (.ishr, 1) := by decide +kernel
theorem dL_build_54 : decode cL_build 54 = .ok (.bipush 15, 2) := by decide +kernel
theorem dL_build_56 : decode cL_build 56 = .ok (.iand, 1) := by decide +kernel
theorem dL_build_57 : decode cL_build 57 = .ok (.iload_n 3, 1) := by decide +kernel
theorem dL_build_58 : decode cL_build 58 = .ok (.irem, 1) := by decide +kernel
theorem dL_build_59 : decode cL_build 59 = .ok (.invokevirtual 16, 3) := by decide +kernel
theorem dL_build_62 : decode cL_build 62 = .ok (.pop, 1) := by decide +kernel
theorem dL_build_63 : decode cL_build 63 = .ok (.iinc 4 1, 3) := by decide +kernel
theorem dL_build_66 : decode cL_build 66 = .ok (.goto (-30), 3) := by decide +kernel
theorem dL_build_69 : decode cL_build 69 = .ok (.aload_n 1, 1) := by decide +kernel
theorem dL_build_70 : decode cL_build 70 = .ok (.iconst 0, 1) := by decide +kernel
theorem dL_build_71 : decode cL_build 71 = .ok (.iconst 1, 1) := by decide +kernel
theorem dL_build_72 : decode cL_build 72 = .ok (.invokevirtual 20, 3) := by decide +kernel
theorem dL_build_75 : decode cL_build 75 = .ok (.pop, 1) := by decide +kernel
theorem dL_build_76 : decode cL_build 76 = .ok (.aload_n 1, 1) := by decide +kernel
theorem dL_build_77 : decode cL_build 77 = .ok (.iconst 0, 1) := by decide +kernel
theorem dL_build_78 : decode cL_build 78 = .ok (.iconst 2, 1) := by decide +kernel
theorem dL_build_79 : decode cL_build 79 = .ok (.invokevirtual 20, 3) := by decide +kernel
theorem dL_build_82 : decode cL_build 82 = .ok (.pop, 1) := by decide +kernel
theorem dL_build_83 : decode cL_build 83 = .ok (.iconst 2, 1) := by decide +kernel
theorem dL_build_84 : decode cL_build 84 = .ok (.istore 4, 2) := by decide +kernel
theorem dL_build_86 : decode cL_build 86 = .ok (.iload 4, 2) := by decide +kernel
theorem dL_build_88 : decode cL_build 88 = .ok (.aload_n 0, 1) := by decide +kernel
theorem dL_build_89 : decode cL_build 89 = .ok (.arraylength, 1) := by decide +kernel
theorem dL_build_90 : decode cL_build 90 = .ok (.if_icmp .ge 112, 3) := by decide +kernel
theorem dL_build_93 : decode cL_build 93 = .ok (.iload 4, 2) := by decide +kernel
theorem dL_build_95 : decode cL_build 95 = .ok (.bipush 9, 2) := by decide +kernel
theorem dL_build_97 : decode cL_build 97 = .ok (.if_icmp .ge 105, 3) := by decide +kernel
theorem dL_build_100 : decode cL_build 100 = .ok (.iconst 1, 1) := by decide +kernel
theorem dL_build_101 : decode cL_build 101 = .ok (.aload_n 0, 1) := by decide +kernel
theorem dL_build_102 : decode cL_build 102 = .ok (.iload 4, 2) := by decide +kernel
theorem dL_build_104 : decode cL_build 104 = .ok (.iaload, 1) := by decide +kernel
theorem dL_build_105 : decode cL_build 105 = .ok (.iconst 1, 1) := by decide +kernel
theorem dL_build_106 : decode cL_build 106 = .ok (.iand, 1) := by decide +kernel
theorem dL_build_107 : decode cL_build 107 = .ok (.iadd, 1) := by decide +kernel
theorem dL_build_108 : decode cL_build 108 = .ok (.istore 5, 2) := by decide +kernel
theorem dL_build_110 : decode cL_build 110 = .ok (.aload_n 1, 1) := by decide +kernel
theorem dL_build_111 : decode cL_build 111 = .ok (.iload 5, 2) := by decide +kernel
theorem dL_build_113 : decode cL_build 113 = .ok (.invokevirtual 23, 3) := by decide +kernel
theorem dL_build_116 : decode cL_build 116 = .ok (.istore 6, 2) := by decide +kernel
theorem dL_build_118 : decode cL_build 118 = .ok (.aload_n 0, 1) := by decide +kernel
theorem dL_build_119 : decode cL_build 119 = .ok (.iload 4, 2) := by decide +kernel
theorem dL_build_121 : decode cL_build 121 = .ok (.iaload, 1) := by decide +kernel
theorem dL_build_122 : decode cL_build 122 = .ok (.iconst 1, 1) := by decide +kernel
theorem dL_build_123 : decode cL_build 123 = .ok (.ishr, 1) := by decide +kernel
theorem dL_build_124 : decode cL_build 124 = .ok (.bipush 31, 2) := by decide +kernel
theorem dL_build_126 : decode cL_build 126 = .ok (.iand, 1) := by decide +kernel
theorem dL_build_127 : decode cL_build 127 = .ok (.iload 6, 2) := by decide +kernel
theorem dL_build_129 : decode cL_build 129 = .ok (.iconst 1, 1) := by decide +kernel
theorem dL_build_130 : decode cL_build 130 = .ok (.iadd, 1) := by decide +kernel
theorem dL_build_131 : decode cL_build 131 = .ok (.irem, 1) := by decide +kernel
theorem dL_build_132 : decode cL_build 132 = .ok (.istore 7, 2) := by decide +kernel
theorem dL_build_134 : decode cL_build 134 = .ok (.aload_n 0, 1) := by decide +kernel
theorem dL_build_135 : decode cL_build 135 = .ok (.iload 4, 2) := by decide +kernel
theorem dL_build_137 : decode cL_build 137 = .ok (.iaload, 1) := by decide +kernel
theorem dL_build_138 : decode cL_build 138 = .ok (.bipush 6, 2) := by decide +kernel
theorem dL_build_140 : decode cL_build 140 = .ok (.ishr, 1) := by decide +kernel
theorem dL_build_141 : decode cL_build 141 = .ok (.iconst 3, 1) := by decide +kernel
theorem dL_build_142 : decode cL_build 142 = .ok (.iand, 1) := by decide +kernel
theorem dL_build_143 : decode cL_build 143 = .ok (.ifCond .ne 23, 3) := by decide +kernel
theorem dL_build_146 : decode cL_build 146 = .ok (.iload 6, 2) := by decide +kernel
theorem dL_build_148 : decode cL_build 148 = .ok (.ifCond .le 18, 3) := by decide +kernel
theorem dL_build_151 : decode cL_build 151 = .ok (.aload_n 1, 1) := by decide +kernel
theorem dL_build_152 : decode cL_build 152 = .ok (.iload 5, 2) := by decide +kernel
theorem dL_build_154 : decode cL_build 154 = .ok (.iload 7, 2) := by decide +kernel
theorem dL_build_156 : decode cL_build 156 = .ok (.iload 6, 2) := by decide +kernel
theorem dL_build_158 : decode cL_build 158 = .ok (.irem, 1) := by decide +kernel
theorem dL_build_159 : decode cL_build 159 = .ok (.invokevirtual 27, 3) := by decide +kernel
theorem dL_build_162 : decode cL_build 162 = .ok (.pop, 1) := by decide +kernel
theorem dL_build_163 : decode cL_build 163 = .ok (.goto 33, 3) := by decide +kernel
theorem dL_build_166 : decode cL_build 166 = .ok (.iload 6, 2) := by decide +kernel
theorem dL_build_168 : decode cL_build 168 = .ok (.bipush 20, 2) := by decide +kernel
theorem dL_build_170 : decode cL_build 170 = .ok (.if_icmp .ge 26, 3) := by decide +kernel
theorem dL_build_173 : decode cL_build 173 = .ok (.aload_n 1, 1) := by decide +kernel
theorem dL_build_174 : decode cL_build 174 = .ok (.iload 5, 2) := by decide +kernel
theorem dL_build_176 : decode cL_build 176 = .ok (.iload 7, 2) := by decide +kernel
theorem dL_build_178 : decode cL_build 178 = .ok (.aload_n 0, 1) := by decide +kernel
theorem dL_build_179 : decode cL_build 179 = .ok (.iload 4, 2) := by decide +kernel
theorem dL_build_181 : decode cL_build 181 = .ok (.iaload, 1) := by decide +kernel
theorem dL_build_182 : decode cL_build 182 = .ok (.bipush 8, 2) := by decide +kernel
theorem dL_build_184 : decode cL_build 184 = .ok (.ishr, 1) := by decide +kernel
theorem dL_build_185 : decode cL_build 185 = .ok (.bipush 15, 2) := by decide +kernel
theorem dL_build_187 : decode cL_build 187 = .ok (.iand, 1) := by decide +kernel
theorem dL_build_188 : decode cL_build 188 = .ok (.iload_n 3, 1) := by decide +kernel
theorem dL_build_189 : decode cL_build 189 = .ok (.iconst 2, 1) := by decide +kernel
theorem dL_build_190 : decode cL_build 190 = .ok (.iadd, 1) := by decide +kernel
theorem dL_build_191 : decode cL_build 191 = .ok (.irem, 1) := by decide +kernel
theorem dL_build_192 : decode cL_build 192 = .ok (.invokevirtual 30, 3) := by decide +kernel
theorem dL_build_195 : decode cL_build 195 = .ok (.pop, 1) := by decide +kernel
theorem dL_build_196 : decode cL_build 196 = .ok (.iinc 4 1, 3) := by decide +kernel
theorem dL_build_199 : decode cL_build 199 = .ok (.goto (-113), 3) := by decide +kernel
theorem dL_build_202 : decode cL_build 202 = .ok (.aload_n 1, 1) := by decide +kernel
theorem dL_build_203 : decode cL_build 203 = .ok (.aload_n 0, 1) := by decide +kernel
theorem dL_build_204 : decode cL_build 204 = .ok (.iconst 0, 1) := by decide +kernel
theorem dL_build_205 : decode cL_build 205 = .ok (.invokestatic 10, 3) := by decide +kernel
theorem dL_build_208 : decode cL_build 208 = .ok (.bipush 7, 2) := by decide +kernel
theorem dL_build_210 : decode cL_build 210 = .ok (.ishr, 1) := by decide +kernel
theorem dL_build_211 : decode cL_build 211 = .ok (.iconst 1, 1) := by decide +kernel
theorem dL_build_212 : decode cL_build 212 = .ok (.iand, 1) := by decide +kernel
theorem dL_build_213 : decode cL_build 213 = .ok (.invokevirtual 34, 3) := by decide +kernel
theorem dL_build_216 : decode cL_build 216 = .ok (.pop, 1) := by decide +kernel
theorem dL_build_217 : decode cL_build 217 = .ok (.aload_n 1, 1) := by decide +kernel
theorem dL_build_218 : decode cL_build 218 = .ok (.aload_n 0, 1) := by decide +kernel
theorem dL_build_219 : decode cL_build 219 = .ok (.iconst 0, 1) := by decide +kernel
theorem dL_build_220 : decode cL_build 220 = .ok (.invokestatic 10, 3) := by decide +kernel
theorem dL_build_223 : decode cL_build 223 = .ok (.bipush 8, 2) := by decide +kernel
theorem dL_build_225 : decode cL_build 225 = .ok (.ishr, 1) := by decide +kernel
theorem dL_build_226 : decode cL_build 226 = .ok (.iconst 1, 1) := by decide +kernel
theorem dL_build_227 : decode cL_build 227 = .ok (.iand, 1) := by decide +kernel
theorem dL_build_228 : decode cL_build 228 = .ok (.ifCond .ne 7, 3) := by decide +kernel
theorem dL_build_231 : decode cL_build 231 = .ok (.iconst 1, 1) := by decide +kernel
theorem dL_build_232 : decode cL_build 232 = .ok (.goto 4, 3) := by decide +kernel
theorem dL_build_235 : decode cL_build 235 = .ok (.iconst 0, 1) := by decide +kernel
theorem dL_build_236 : decode cL_build 236 = .ok (.invokevirtual 37, 3) := by decide +kernel
theorem dL_build_239 : decode cL_build 239 = .ok (.pop, 1) := by decide +kernel
theorem dL_build_240 : decode cL_build 240 = .ok (.aload_n 1, 1) := by decide +kernel
theorem dL_build_241 : decode cL_build 241 = .ok (.areturn, 1) := by decide +kernel
theorem dL_applied_0 : decode cL_applied 0 = .ok (.aload_n 0, 1) := by decide +kernel
theorem dL_applied_1 : decode cL_applied 1 = .ok (.iconst 3, 1) := by decide +kernel
theorem dL_applied_2 : decode cL_applied 2 = .ok (.iconst 0, 1) := by decide +kernel
theorem dL_applied_3 : decode cL_applied 3 = .ok (.iconst 0, 1) := by decide +kernel
theorem dL_applied_4 : decode cL_applied 4 = .ok (.invokevirtual 41, 3) := by decide +kernel
theorem dL_applied_7 : decode cL_applied 7 = .ok (.ireturn, 1) := by decide +kernel
theorem dL_applied_8 : decode cL_applied 8 = .ok (.astore_n 1, 1) := by decide +kernel
theorem dL_applied_9 : decode cL_applied 9 = .ok (.iconst (-1), 1) := by decide +kernel
theorem dL_applied_10 : decode cL_applied 10 = .ok (.ireturn, 1) := by decide +kernel
theorem dL_feed_0 : decode cL_feed 0 = .ok (.iconst 0, 1) := by decide +kernel
theorem dL_feed_1 : decode cL_feed 1 = .ok (.istore_n 2, 1) := by decide +kernel
theorem dL_feed_2 : decode cL_feed 2 = .ok (.iload_n 2, 1) := by decide +kernel
theorem dL_feed_3 : decode cL_feed 3 = .ok (.aload_n 1, 1) := by decide +kernel
theorem dL_feed_4 : decode cL_feed 4 = .ok (.arraylength, 1) := by decide +kernel
theorem dL_feed_5 : decode cL_feed 5 = .ok (.if_icmp .ge 17, 3) := by decide +kernel
theorem dL_feed_8 : decode cL_feed 8 = .ok (.aload_n 0, 1) := by decide +kernel
theorem dL_feed_9 : decode cL_feed 9 = .ok (.aload_n 1, 1) := by decide +kernel
theorem dL_feed_10 : decode cL_feed 10 = .ok (.iload_n 2, 1) := by decide +kernel
theorem dL_feed_11 : decode cL_feed 11 = .ok (.caload, 1) := by decide +kernel
theorem dL_feed_12 : decode cL_feed 12 = .ok (.invokevirtual 47, 3) := by decide +kernel
theorem dL_feed_15 : decode cL_feed 15 = .ok (.pop, 1) := by decide +kernel
theorem dL_feed_16 : decode cL_feed 16 = .ok (.iinc 2 1, 3) := by decide +kernel
theorem dL_feed_19 : decode cL_feed 19 = .ok (.goto (-17), 3) := by decide +kernel
theorem dL_feed_22 : decode cL_feed 22 = .ok (.return_, 1) := by decide +kernel
theorem dL_law_0 : decode cL_law 0 = .ok (.aload_n 0, 1) := by decide +kernel
theorem dL_law_1 : decode cL_law 1 = .ok (.invokestatic 51, 3) := by decide +kernel
theorem dL_law_4 : decode cL_law 4 = .ok (.astore_n 1, 1) := by decide +kernel
theorem dL_law_5 : decode cL_law 5 = .ok (.aload_n 1, 1) := by decide +kernel
theorem dL_law_6 : decode cL_law 6 = .ok (.invokevirtual 55, 3) := by decide +kernel
theorem dL_law_9 : decode cL_law 9 = .ok (.istore_n 2, 1) := by decide +kernel
theorem dL_law_10 : decode cL_law 10 = .ok (.aload_n 1, 1) := by decide +kernel
theorem dL_law_11 : decode cL_law 11 = .ok (.iconst 1, 1) := by decide +kernel
theorem dL_law_12 : decode cL_law 12 = .ok (.iconst 2, 1) := by decide +kernel
theorem dL_law_13 : decode cL_law 13 = .ok (.invokevirtual 59, 3) := by decide +kernel
theorem dL_law_16 : decode cL_law 16 = .ok (.pop, 1) := by decide +kernel
theorem dL_law_17 : decode cL_law 17 = .ok (.iconst 1, 1) := by decide +kernel
theorem dL_law_18 : decode cL_law 18 = .ok (.aload_n 0, 1) := by decide +kernel
theorem dL_law_19 : decode cL_law 19 = .ok (.bipush 9, 2) := by decide +kernel
theorem dL_law_21 : decode cL_law 21 = .ok (.invokestatic 10, 3) := by decide +kernel
theorem dL_law_24 : decode cL_law 24 = .ok (.iconst 3, 1) := by decide +kernel
theorem dL_law_25 : decode cL_law 25 = .ok (.iand, 1) := by decide +kernel
theorem dL_law_26 : decode cL_law 26 = .ok (.iadd, 1) := by decide +kernel
theorem dL_law_27 : decode cL_law 27 = .ok (.istore_n 3, 1) := by decide +kernel
theorem dL_law_28 : decode cL_law 28 = .ok (.aload_n 1, 1) := by decide +kernel
theorem dL_law_29 : decode cL_law 29 = .ok (.iload_n 3, 1) := by decide +kernel
theorem dL_law_30 : decode cL_law 30 = .ok (.invokevirtual 62, 3) := by decide +kernel
theorem dL_law_33 : decode cL_law 33 = .ok (.istore 4, 2) := by decide +kernel
theorem dL_law_35 : decode cL_law 35 = .ok (.bipush 24, 2) := by decide +kernel
theorem dL_law_37 : decode cL_law 37 = .ok (.newarray .boolean, 2) := by decide +kernel
theorem dL_law_39 : decode cL_law 39 = .ok (.astore 5, 2) := by decide +kernel
theorem dL_law_41 : decode cL_law 41 = .ok (.bipush 24, 2) := by decide +kernel
theorem dL_law_43 : decode cL_law 43 = .ok (.newarray .boolean, 2) := by decide +kernel
theorem dL_law_45 : decode cL_law 45 = .ok (.astore 6, 2) := by decide +kernel
theorem dL_law_47 : decode cL_law 47 = .ok (.iconst 0, 1) := by decide +kernel
theorem dL_law_48 : decode cL_law 48 = .ok (.istore 7, 2) := by decide +kernel
theorem dL_law_50 : decode cL_law 50 = .ok (.iload 7, 2) := by decide +kernel
theorem dL_law_52 : decode cL_law 52 = .ok (.iload 4, 2) := by decide +kernel
theorem dL_law_54 : decode cL_law 54 = .ok (.if_icmp .ge 157, 3) := by decide +kernel
theorem dL_law_57 : decode cL_law 57 = .ok (.aload_n 1, 1) := by decide +kernel
theorem dL_law_58 : decode cL_law 58 = .ok (.iload 7, 2) := by decide +kernel
theorem dL_law_60 : decode cL_law 60 = .ok (.iconst 0, 1) := by decide +kernel
theorem dL_law_61 : decode cL_law 61 = .ok (.invokevirtual 65, 3) := by decide +kernel
theorem dL_law_64 : decode cL_law 64 = .ok (.istore 8, 2) := by decide +kernel
theorem dL_law_66 : decode cL_law 66 = .ok (.aload_n 1, 1) := by decide +kernel
theorem dL_law_67 : decode cL_law 67 = .ok (.iload 7, 2) := by decide +kernel
theorem dL_law_69 : decode cL_law 69 = .ok (.iconst 1, 1) := by decide +kernel
theorem dL_law_70 : decode cL_law 70 = .ok (.invokevirtual 65, 3) := by decide +kernel
theorem dL_law_73 : decode cL_law 73 = .ok (.istore 9, 2) := by decide +kernel
theorem dL_law_75 : decode cL_law 75 = .ok (.aload_n 1, 1) := by decide +kernel
theorem dL_law_76 : decode cL_law 76 = .ok (.iload 7, 2) := by decide +kernel
theorem dL_law_78 : decode cL_law 78 = .ok (.iconst 2, 1) := by decide +kernel
theorem dL_law_79 : decode cL_law 79 = .ok (.invokevirtual 65, 3) := by decide +kernel
theorem dL_law_82 : decode cL_law 82 = .ok (.istore 10, 2) := by decide +kernel
theorem dL_law_84 : decode cL_law 84 = .ok (.iload 10, 2) := by decide +kernel
theorem dL_law_86 : decode cL_law 86 = .ok (.iload_n 3, 1) := by decide +kernel
theorem dL_law_87 : decode cL_law 87 = .ok (.if_icmp .lt 22, 3) := by decide +kernel
theorem dL_law_90 : decode cL_law 90 = .ok (.iload 7, 2) := by decide +kernel
theorem dL_law_92 : decode cL_law 92 = .ok (.ifCond .le 19, 3) := by decide +kernel
theorem dL_law_95 : decode cL_law 95 = .ok (.iload 10, 2) := by decide +kernel
theorem dL_law_97 : decode cL_law 97 = .ok (.aload_n 1, 1) := by decide +kernel
theorem dL_law_98 : decode cL_law 98 = .ok (.iload 7, 2) := by decide +kernel
theorem dL_law_100 : decode cL_law 100 = .ok (.iconst 1, 1) := by decide +kernel
theorem dL_law_101 : decode cL_law 101 = .ok (.isub, 1) := by decide +kernel
theorem dL_law_102 : decode cL_law 102 = .ok (.iconst 2, 1) := by decide +kernel
theorem dL_law_103 : decode cL_law 103 = .ok (.invokevirtual 65, 3) := by decide +kernel
theorem dL_law_106 : decode cL_law 106 = .ok (.if_icmp .le 5, 3) := by decide +kernel
theorem dL_law_109 : decode cL_law 109 = .ok (.iconst 0, 1) := by decide +kernel
theorem dL_law_110 : decode cL_law 110 = .ok (.ireturn, 1) := by decide +kernel
theorem dL_law_111 : decode cL_law 111 = .ok (.iconst 0, 1) := by decide +kernel
theorem dL_law_112 : decode cL_law 112 = .ok (.istore 11, 2) := by decide +kernel
theorem dL_law_114 : decode cL_law 114 = .ok (.iload 11, 2) := by decide +kernel
theorem dL_law_116 : decode cL_law 116 = .ok (.iload 10, 2) := by decide +kernel
theorem dL_law_118 : decode cL_law 118 = .ok (.if_icmp .ge 87, 3) := by decide +kernel
theorem dL_law_121 : decode cL_law 121 = .ok (.aload_n 1, 1) := by decide +kernel
theorem dL_law_122 : decode cL_law 122 = .ok (.iconst 1, 1) := by decide +kernel
theorem dL_law_123 : decode cL_law 123 = .ok (.iload 8, 2) := by decide +kernel
theorem dL_law_125 : decode cL_law 125 = .ok (.iload 11, 2) := by decide +kernel
theorem dL_law_127 : decode cL_law 127 = .ok (.iadd, 1) := by decide +kernel
theorem dL_law_128 : decode cL_law 128 = .ok (.invokevirtual 68, 3) := by decide +kernel
theorem dL_law_131 : decode cL_law 131 = .ok (.aload_n 1, 1) := by decide +kernel
theorem dL_law_132 : decode cL_law 132 = .ok (.iconst 2, 1) := by decide +kernel
theorem dL_law_133 : decode cL_law 133 = .ok (.iload 9, 2) := by decide +kernel
theorem dL_law_135 : decode cL_law 135 = .ok (.iload 11, 2) := by decide +kernel
theorem dL_law_137 : decode cL_law 137 = .ok (.iadd, 1) := by decide +kernel
theorem dL_law_138 : decode cL_law 138 = .ok (.invokevirtual 68, 3) := by decide +kernel
theorem dL_law_141 : decode cL_law 141 = .ok (.if_icmp .ne 38, 3) := by decide +kernel
theorem dL_law_144 : decode cL_law 144 = .ok (.aload_n 1, 1) := by decide +kernel
theorem dL_law_145 : decode cL_law 145 = .ok (.iload 8, 2) := by decide +kernel
theorem dL_law_147 : decode cL_law 147 = .ok (.iload 11, 2) := by decide +kernel
theorem dL_law_149 : decode cL_law 149 = .ok (.iadd, 1) := by decide +kernel
theorem dL_law_150 : decode cL_law 150 = .ok (.invokevirtual 71, 3) := by decide +kernel
theorem dL_law_153 : decode cL_law 153 = .ok (.iconst (-1), 1) := by decide +kernel
theorem dL_law_154 : decode cL_law 154 = .ok (.if_icmp .ne 25, 3) := by decide +kernel
theorem dL_law_157 : decode cL_law 157 = .ok (.aload 5, 2) := by decide +kernel
theorem dL_law_159 : decode cL_law 159 = .ok (.iload 8, 2) := by decide +kernel
theorem dL_law_161 : decode cL_law 161 = .ok (.iload 11, 2) := by decide +kernel
theorem dL_law_163 : decode cL_law 163 = .ok (.iadd, 1) := by decide +kernel
theorem dL_law_164 : decode cL_law 164 = .ok (.baload, 1) := by decide +kernel
theorem dL_law_165 : decode cL_law 165 = .ok (.ifCond .ne 14, 3) := by decide +kernel
theorem dL_law_168 : decode cL_law 168 = .ok (.aload 6, 2) := by decide +kernel
theorem dL_law_170 : decode cL_law 170 = .ok (.iload 9, 2) := by decide +kernel
theorem dL_law_172 : decode cL_law 172 = .ok (.iload 11, 2) := by decide +kernel
theorem dL_law_174 : decode cL_law 174 = .ok (.iadd, 1) := by decide +kernel
theorem dL_law_175 : decode cL_law 175 = .ok (.baload, 1) := by decide +kernel
theorem dL_law_176 : decode cL_law 176 = .ok (.ifCond .eq 5, 3) := by decide +kernel
theorem dL_law_179 : decode cL_law 179 = .ok (.iconst 0, 1) := by decide +kernel
theorem dL_law_180 : decode cL_law 180 = .ok (.ireturn, 1) := by decide +kernel
theorem dL_law_181 : decode cL_law 181 = .ok (.aload 5, 2) := by decide +kernel
theorem dL_law_183 : decode cL_law 183 = .ok (.iload 8, 2) := by decide +kernel
theorem dL_law_185 : decode cL_law 185 = .ok (.iload 11, 2) := by decide +kernel
theorem dL_law_187 : decode cL_law 187 = .ok (.iadd, 1) := by decide +kernel
theorem dL_law_188 : decode cL_law 188 = .ok (.iconst 1, 1) := by decide +kernel
theorem dL_law_189 : decode cL_law 189 = .ok (.bastore, 1) := by decide +kernel
theorem dL_law_190 : decode cL_law 190 = .ok (.aload 6, 2) := by decide +kernel
theorem dL_law_192 : decode cL_law 192 = .ok (.iload 9, 2) := by decide +kernel
theorem dL_law_194 : decode cL_law 194 = .ok (.iload 11, 2) := by decide +kernel
theorem dL_law_196 : decode cL_law 196 = .ok (.iadd, 1) := by decide +kernel
theorem dL_law_197 : decode cL_law 197 = .ok (.iconst 1, 1) := by decide +kernel
theorem dL_law_198 : decode cL_law 198 = .ok (.bastore, 1) := by decide +kernel
theorem dL_law_199 : decode cL_law 199 = .ok (.iinc 11 1, 3) := by decide +kernel
theorem dL_law_202 : decode cL_law 202 = .ok (.goto (-88), 3) := by decide +kernel
theorem dL_law_205 : decode cL_law 205 = .ok (.iinc 7 1, 3) := by decide +kernel
theorem dL_law_208 : decode cL_law 208 = .ok (.goto (-158), 3) := by decide +kernel
theorem dL_law_211 : decode cL_law 211 = .ok (.aload_n 1, 1) := by decide +kernel
theorem dL_law_212 : decode cL_law 212 = .ok (.iconst 1, 1) := by decide +kernel
theorem dL_law_213 : decode cL_law 213 = .ok (.aload_n 0, 1) := by decide +kernel
theorem dL_law_214 : decode cL_law 214 = .ok (.bipush 9, 2) := by decide +kernel
theorem dL_law_216 : decode cL_law 216 = .ok (.invokestatic 10, 3) := by decide +kernel
theorem dL_law_219 : decode cL_law 219 = .ok (.iconst 2, 1) := by decide +kernel
theorem dL_law_220 : decode cL_law 220 = .ok (.ishr, 1) := by decide +kernel
theorem dL_law_221 : decode cL_law 221 = .ok (.iconst 1, 1) := by decide +kernel
theorem dL_law_222 : decode cL_law 222 = .ok (.iand, 1) := by decide +kernel
theorem dL_law_223 : decode cL_law 223 = .ok (.iadd, 1) := by decide +kernel
theorem dL_law_224 : decode cL_law 224 = .ok (.invokevirtual 74, 3) := by decide +kernel
theorem dL_law_227 : decode cL_law 227 = .ok (.istore 7, 2) := by decide +kernel
theorem dL_law_229 : decode cL_law 229 = .ok (.aload_n 1, 1) := by decide +kernel
theorem dL_law_230 : decode cL_law 230 = .ok (.iconst 1, 1) := by decide +kernel
theorem dL_law_231 : decode cL_law 231 = .ok (.iconst 3, 1) := by decide +kernel
theorem dL_law_232 : decode cL_law 232 = .ok (.invokevirtual 20, 3) := by decide +kernel
theorem dL_law_235 : decode cL_law 235 = .ok (.pop, 1) := by decide +kernel
theorem dL_law_236 : decode cL_law 236 = .ok (.iconst 0, 1) := by decide +kernel
theorem dL_law_237 : decode cL_law 237 = .ok (.istore 8, 2) := by decide +kernel
theorem dL_law_239 : decode cL_law 239 = .ok (.iload 8, 2) := by decide +kernel
theorem dL_law_241 : decode cL_law 241 = .ok (.iconst 3, 1) := by decide +kernel
theorem dL_law_242 : decode cL_law 242 = .ok (.if_icmp .ge 28, 3) := by decide +kernel
theorem dL_law_245 : decode cL_law 245 = .ok (.aload_n 1, 1) := by decide +kernel
theorem dL_law_246 : decode cL_law 246 = .ok (.iconst 3, 1) := by decide +kernel
theorem dL_law_247 : decode cL_law 247 = .ok (.invokevirtual 23, 3) := by decide +kernel
theorem dL_law_250 : decode cL_law 250 = .ok (.bipush 24, 2) := by decide +kernel
theorem dL_law_252 : decode cL_law 252 = .ok (.if_icmp .ge 18, 3) := by decide +kernel
theorem dL_law_255 : decode cL_law 255 = .ok (.aload_n 1, 1) := by decide +kernel
theorem dL_law_256 : decode cL_law 256 = .ok (.iconst 3, 1) := by decide +kernel
theorem dL_law_257 : decode cL_law 257 = .ok (.iconst 0, 1) := by decide +kernel
theorem dL_law_258 : decode cL_law 258 = .ok (.bipush 25, 2) := by decide +kernel
theorem dL_law_260 : decode cL_law 260 = .ok (.invokevirtual 30, 3) := by decide +kernel
theorem dL_law_263 : decode cL_law 263 = .ok (.pop, 1) := by decide +kernel
theorem dL_law_264 : decode cL_law 264 = .ok (.iinc 8 1, 3) := by decide +kernel
theorem dL_law_267 : decode cL_law 267 = .ok (.goto (-28), 3) := by decide +kernel
theorem dL_law_270 : decode cL_law 270 = .ok (.aload_n 1, 1) := by decide +kernel
theorem dL_law_271 : decode cL_law 271 = .ok (.iconst 3, 1) := by decide +kernel
theorem dL_law_272 : decode cL_law 272 = .ok (.invokevirtual 23, 3) := by decide +kernel
theorem dL_law_275 : decode cL_law 275 = .ok (.istore 8, 2) := by decide +kernel
theorem dL_law_277 : decode cL_law 277 = .ok (.iload 8, 2) := by decide +kernel
theorem dL_law_279 : decode cL_law 279 = .ok (.newarray .int, 2) := by decide +kernel
theorem dL_law_281 : decode cL_law 281 = .ok (.astore 9, 2) := by decide +kernel
theorem dL_law_283 : decode cL_law 283 = .ok (.iconst 0, 1) := by decide +kernel
theorem dL_law_284 : decode cL_law 284 = .ok (.istore 10, 2) := by decide +kernel
theorem dL_law_286 : decode cL_law 286 = .ok (.iload 10, 2) := by decide +kernel
theorem dL_law_288 : decode cL_law 288 = .ok (.iload 8, 2) := by decide +kernel
theorem dL_law_290 : decode cL_law 290 = .ok (.if_icmp .ge 21, 3) := by decide +kernel
theorem dL_law_293 : decode cL_law 293 = .ok (.aload 9, 2) := by decide +kernel
theorem dL_law_295 : decode cL_law 295 = .ok (.iload 10, 2) := by decide +kernel
theorem dL_law_297 : decode cL_law 297 = .ok (.aload_n 1, 1) := by decide +kernel
theorem dL_law_298 : decode cL_law 298 = .ok (.iconst 3, 1) := by decide +kernel
theorem dL_law_299 : decode cL_law 299 = .ok (.iload 10, 2) := by decide +kernel
theorem dL_law_301 : decode cL_law 301 = .ok (.invokevirtual 68, 3) := by decide +kernel
theorem dL_law_304 : decode cL_law 304 = .ok (.iastore, 1) := by decide +kernel
theorem dL_law_305 : decode cL_law 305 = .ok (.iinc 10 1, 3) := by decide +kernel
theorem dL_law_308 : decode cL_law 308 = .ok (.goto (-22), 3) := by decide +kernel
theorem dL_law_311 : decode cL_law 311 = .ok (.aload_n 1, 1) := by decide +kernel
theorem dL_law_312 : decode cL_law 312 = .ok (.invokestatic 77, 3) := by decide +kernel
theorem dL_law_315 : decode cL_law 315 = .ok (.istore 10, 2) := by decide +kernel
theorem dL_law_317 : decode cL_law 317 = .ok (.iload 10, 2) := by decide +kernel
theorem dL_law_319 : decode cL_law 319 = .ok (.ifCond .lt 206, 3) := by decide +kernel
theorem dL_law_322 : decode cL_law 322 = .ok (.iconst 0, 1) := by decide +kernel
theorem dL_law_323 : decode cL_law 323 = .ok (.istore 11, 2) := by decide +kernel
theorem dL_law_325 : decode cL_law 325 = .ok (.iconst 0, 1) := by decide +kernel
theorem dL_law_326 : decode cL_law 326 = .ok (.istore 12, 2) := by decide +kernel
theorem dL_law_328 : decode cL_law 328 = .ok (.iconst 0, 1) := by decide +kernel
theorem dL_law_329 : decode cL_law 329 = .ok (.istore 13, 2) := by decide +kernel
theorem dL_law_331 : decode cL_law 331 = .ok (.iconst 0, 1) := by decide +kernel
theorem dL_law_332 : decode cL_law 332 = .ok (.istore 14, 2) := by decide +kernel
theorem dL_law_334 : decode cL_law 334 = .ok (.iload 14, 2) := by decide +kernel
theorem dL_law_336 : decode cL_law 336 = .ok (.iload 7, 2) := by decide +kernel
theorem dL_law_338 : decode cL_law 338 = .ok (.if_icmp .ge 157, 3) := by decide +kernel
theorem dL_law_341 : decode cL_law 341 = .ok (.aload_n 1, 1) := by decide +kernel
theorem dL_law_342 : decode cL_law 342 = .ok (.iload 14, 2) := by decide +kernel
theorem dL_law_344 : decode cL_law 344 = .ok (.iconst 0, 1) := by decide +kernel
theorem dL_law_345 : decode cL_law 345 = .ok (.invokevirtual 81, 3) := by decide +kernel
theorem dL_law_348 : decode cL_law 348 = .ok (.istore 15, 2) := by decide +kernel
theorem dL_law_350 : decode cL_law 350 = .ok (.iload 15, 2) := by decide +kernel
theorem dL_law_352 : decode cL_law 352 = .ok (.iconst (-1), 1) := by decide +kernel
theorem dL_law_353 : decode cL_law 353 = .ok (.if_icmp .ne 6, 3) := by decide +kernel
theorem dL_law_356 : decode cL_law 356 = .ok (.goto 133, 3) := by decide +kernel
theorem dL_law_359 : decode cL_law 359 = .ok (.iload 15, 2) := by decide +kernel
theorem dL_law_361 : decode cL_law 361 = .ok (.aload_n 1, 1) := by decide +kernel
theorem dL_law_362 : decode cL_law 362 = .ok (.iload 14, 2) := by decide +kernel
theorem dL_law_364 : decode cL_law 364 = .ok (.iconst 0, 1) := by decide +kernel
theorem dL_law_365 : decode cL_law 365 = .ok (.invokevirtual 84, 3) := by decide +kernel
theorem dL_law_368 : decode cL_law 368 = .ok (.isub, 1) := by decide +kernel
theorem dL_law_369 : decode cL_law 369 = .ok (.istore 16, 2) := by decide +kernel
theorem dL_law_371 : decode cL_law 371 = .ok (.aload_n 1, 1) := by decide +kernel
theorem dL_law_372 : decode cL_law 372 = .ok (.iload 14, 2) := by decide +kernel
theorem dL_law_374 : decode cL_law 374 = .ok (.iconst 1, 1) := by decide +kernel
theorem dL_law_375 : decode cL_law 375 = .ok (.invokevirtual 81, 3) := by decide +kernel
theorem dL_law_378 : decode cL_law 378 = .ok (.ifCond .ne 25, 3) := by decide +kernel
theorem dL_law_381 : decode cL_law 381 = .ok (.iload 15, 2) := by decide +kernel
theorem dL_law_383 : decode cL_law 383 = .ok (.iload 11, 2) := by decide +kernel
theorem dL_law_385 : decode cL_law 385 = .ok (.if_icmp .lt 18, 3) := by decide +kernel
theorem dL_law_388 : decode cL_law 388 = .ok (.iload 13, 2) := by decide +kernel
theorem dL_law_390 : decode cL_law 390 = .ok (.ifCond .ne 15, 3) := by decide +kernel
theorem dL_law_393 : decode cL_law 393 = .ok (.iload 16, 2) := by decide +kernel
theorem dL_law_395 : decode cL_law 395 = .ok (.invokestatic 87, 3) := by decide +kernel
theorem dL_law_398 : decode cL_law 398 = .ok (.bipush 10, 2) := by decide +kernel
theorem dL_law_400 : decode cL_law 400 = .ok (.if_icmp .le 5, 3) := by decide +kernel
theorem dL_law_403 : decode cL_law 403 = .ok (.iconst 0, 1) := by decide +kernel
theorem dL_law_404 : decode cL_law 404 = .ok (.ireturn, 1) := by decide +kernel
theorem dL_law_405 : decode cL_law 405 = .ok (.iconst 0, 1) := by decide +kernel
theorem dL_law_406 : decode cL_law 406 = .ok (.istore 17, 2) := by decide +kernel
theorem dL_law_408 : decode cL_law 408 = .ok (.iload 17, 2) := by decide +kernel
theorem dL_law_410 : decode cL_law 410 = .ok (.aload_n 1, 1) := by decide +kernel
theorem dL_law_411 : decode cL_law 411 = .ok (.iload 14, 2) := by decide +kernel
theorem dL_law_413 : decode cL_law 413 = .ok (.iconst 1, 1) := by decide +kernel
theorem dL_law_414 : decode cL_law 414 = .ok (.invokevirtual 84, 3) := by decide +kernel
theorem dL_law_417 : decode cL_law 417 = .ok (.if_icmp .ge 37, 3) := by decide +kernel
theorem dL_law_420 : decode cL_law 420 = .ok (.aload 9, 2) := by decide +kernel
theorem dL_law_422 : decode cL_law 422 = .ok (.iload 15, 2) := by decide +kernel
theorem dL_law_424 : decode cL_law 424 = .ok (.iload 17, 2) := by decide +kernel
theorem dL_law_426 : decode cL_law 426 = .ok (.iadd, 1) := by decide +kernel
theorem dL_law_427 : decode cL_law 427 = .ok (.iaload, 1) := by decide +kernel
theorem dL_law_428 : decode cL_law 428 = .ok (.aload_n 1, 1) := by decide +kernel
theorem dL_law_429 : decode cL_law 429 = .ok (.iconst 1, 1) := by decide +kernel
theorem dL_law_430 : decode cL_law 430 = .ok (.aload_n 1, 1) := by decide +kernel
theorem dL_law_431 : decode cL_law 431 = .ok (.iload 14, 2) := by decide +kernel
theorem dL_law_433 : decode cL_law 433 = .ok (.iconst 0, 1) := by decide +kernel
theorem dL_law_434 : decode cL_law 434 = .ok (.invokevirtual 84, 3) := by decide +kernel
theorem dL_law_437 : decode cL_law 437 = .ok (.iload 17, 2) := by decide +kernel
theorem dL_law_439 : decode cL_law 439 = .ok (.iadd, 1) := by decide +kernel
theorem dL_law_440 : decode cL_law 440 = .ok (.invokevirtual 68, 3) := by decide +kernel
theorem dL_law_443 : decode cL_law 443 = .ok (.if_icmp .eq 5, 3) := by decide +kernel
theorem dL_law_446 : decode cL_law 446 = .ok (.iconst 0, 1) := by decide +kernel
theorem dL_law_447 : decode cL_law 447 = .ok (.ireturn, 1) := by decide +kernel
theorem dL_law_448 : decode cL_law 448 = .ok (.iinc 17 1, 3) := by decide +kernel
theorem dL_law_451 : decode cL_law 451 = .ok (.goto (-43), 3) := by decide +kernel
theorem dL_law_454 : decode cL_law 454 = .ok (.iload 15, 2) := by decide +kernel
theorem dL_law_456 : decode cL_law 456 = .ok (.aload_n 1, 1) := by decide +kernel
theorem dL_law_457 : decode cL_law 457 = .ok (.iload 14, 2) := by decide +kernel
theorem dL_law_459 : decode cL_law 459 = .ok (.iconst 1, 1) := by decide +kernel
theorem dL_law_460 : decode cL_law 460 = .ok (.invokevirtual 84, 3) := by decide +kernel
theorem dL_law_463 : decode cL_law 463 = .ok (.iadd, 1) := by decide +kernel
theorem dL_law_464 : decode cL_law 464 = .ok (.istore 11, 2) := by decide +kernel
theorem dL_law_466 : decode cL_law 466 = .ok (.iload 12, 2) := by decide +kernel
theorem dL_law_468 : decode cL_law 468 = .ok (.aload_n 1, 1) := by decide +kernel
theorem dL_law_469 : decode cL_law 469 = .ok (.iload 14, 2) := by decide +kernel
theorem dL_law_471 : decode cL_law 471 = .ok (.iconst 3, 1) := by decide +kernel
theorem dL_law_472 : decode cL_law 472 = .ok (.invokevirtual 84, 3) := by decide +kernel
theorem dL_law_475 : decode cL_law 475 = .ok (.aload_n 1, 1) := by decide +kernel
theorem dL_law_476 : decode cL_law 476 = .ok (.iload 14, 2) := by decide +kernel
theorem dL_law_478 : decode cL_law 478 = .ok (.iconst 1, 1) := by decide +kernel
theorem dL_law_479 : decode cL_law 479 = .ok (.invokevirtual 84, 3) := by decide +kernel
theorem dL_law_482 : decode cL_law 482 = .ok (.isub, 1) := by decide +kernel
theorem dL_law_483 : decode cL_law 483 = .ok (.iadd, 1) := by decide +kernel
theorem dL_law_484 : decode cL_law 484 = .ok (.istore 12, 2) := by decide +kernel
theorem dL_law_486 : decode cL_law 486 = .ok (.iinc 13 1, 3) := by decide +kernel
theorem dL_law_489 : decode cL_law 489 = .ok (.iinc 14 1, 3) := by decide +kernel
theorem dL_law_492 : decode cL_law 492 = .ok (.goto (-158), 3) := by decide +kernel
theorem dL_law_495 : decode cL_law 495 = .ok (.iload 13, 2) := by decide +kernel
theorem dL_law_497 : decode cL_law 497 = .ok (.iload 10, 2) := by decide +kernel
theorem dL_law_499 : decode cL_law 499 = .ok (.if_icmp .ne 24, 3) := by decide +kernel
theorem dL_law_502 : decode cL_law 502 = .ok (.aload_n 1, 1) := by decide +kernel
theorem dL_law_503 : decode cL_law 503 = .ok (.iconst 3, 1) := by decide +kernel
theorem dL_law_504 : decode cL_law 504 = .ok (.invokevirtual 23, 3) := by decide +kernel
theorem dL_law_507 : decode cL_law 507 = .ok (.iload 8, 2) := by decide +kernel
theorem dL_law_509 : decode cL_law 509 = .ok (.iload 12, 2) := by decide +kernel
theorem dL_law_511 : decode cL_law 511 = .ok (.iadd, 1) := by decide +kernel
theorem dL_law_512 : decode cL_law 512 = .ok (.if_icmp .ne 11, 3) := by decide +kernel
theorem dL_law_515 : decode cL_law 515 = .ok (.aload_n 1, 1) := by decide +kernel
theorem dL_law_516 : decode cL_law 516 = .ok (.invokevirtual 92, 3) := by decide +kernel
theorem dL_law_519 : decode cL_law 519 = .ok (.iconst 3, 1) := by decide +kernel
theorem dL_law_520 : decode cL_law 520 = .ok (.if_icmp .eq 5, 3) := by decide +kernel
theorem dL_law_523 : decode cL_law 523 = .ok (.iconst 0, 1) := by decide +kernel
theorem dL_law_524 : decode cL_law 524 = .ok (.ireturn, 1) := by decide +kernel
theorem dL_law_525 : decode cL_law 525 = .ok (.aload_n 1, 1) := by decide +kernel
theorem dL_law_526 : decode cL_law 526 = .ok (.iconst 3, 1) := by decide +kernel
theorem dL_law_527 : decode cL_law 527 = .ok (.invokevirtual 23, 3) := by decide +kernel
theorem dL_law_530 : decode cL_law 530 = .ok (.iload 8, 2) := by decide +kernel
theorem dL_law_532 : decode cL_law 532 = .ok (.if_icmp .eq 5, 3) := by decide +kernel
theorem dL_law_535 : decode cL_law 535 = .ok (.iconst 0, 1) := by decide +kernel
theorem dL_law_536 : decode cL_law 536 = .ok (.ireturn, 1) := by decide +kernel
theorem dL_law_537 : decode cL_law 537 = .ok (.iconst 0, 1) := by decide +kernel
theorem dL_law_538 : decode cL_law 538 = .ok (.istore 11, 2) := by decide +kernel
theorem dL_law_540 : decode cL_law 540 = .ok (.iload 11, 2) := by decide +kernel
theorem dL_law_542 : decode cL_law 542 = .ok (.iload 8, 2) := by decide +kernel
theorem dL_law_544 : decode cL_law 544 = .ok (.if_icmp .ge 26, 3) := by decide +kernel
theorem dL_law_547 : decode cL_law 547 = .ok (.aload_n 1, 1) := by decide +kernel
theorem dL_law_548 : decode cL_law 548 = .ok (.iconst 3, 1) := by decide +kernel
theorem dL_law_549 : decode cL_law 549 = .ok (.iload 11, 2) := by decide +kernel
theorem dL_law_551 : decode cL_law 551 = .ok (.invokevirtual 68, 3) := by decide +kernel
theorem dL_law_554 : decode cL_law 554 = .ok (.aload 9, 2) := by decide +kernel
theorem dL_law_556 : decode cL_law 556 = .ok (.iload 11, 2) := by decide +kernel
theorem dL_law_558 : decode cL_law 558 = .ok (.iaload, 1) := by decide +kernel
theorem dL_law_559 : decode cL_law 559 = .ok (.if_icmp .eq 5, 3) := by decide +kernel
theorem dL_law_562 : decode cL_law 562 = .ok (.iconst 0, 1) := by decide +kernel
theorem dL_law_563 : decode cL_law 563 = .ok (.ireturn, 1) := by decide +kernel
theorem dL_law_564 : decode cL_law 564 = .ok (.iinc 11 1, 3) := by decide +kernel
theorem dL_law_567 : decode cL_law 567 = .ok (.goto (-27), 3) := by decide +kernel
theorem dL_law_570 : decode cL_law 570 = .ok (.aload_n 1, 1) := by decide +kernel
theorem dL_law_571 : decode cL_law 571 = .ok (.bipush 7, 2) := by decide +kernel
theorem dL_law_573 : decode cL_law 573 = .ok (.newarray .char, 2) := by decide +kernel
theorem dL_law_575 : decode cL_law 575 = .ok (.dup, 1) := by decide +kernel
theorem dL_law_576 : decode cL_law 576 = .ok (.iconst 0, 1) := by decide +kernel
theorem dL_law_577 : decode cL_law 577 = .ok (.bipush 97, 2) := by decide +kernel
theorem dL_law_579 : decode cL_law 579 = .ok (.castore, 1) := by decide +kernel
theorem dL_law_580 : decode cL_law 580 = .ok (.dup, 1) := by decide +kernel
theorem dL_law_581 : decode cL_law 581 = .ok (.iconst 1, 1) := by decide +kernel
theorem dL_law_582 : decode cL_law 582 = .ok (.bipush 40, 2) := by decide +kernel
theorem dL_law_584 : decode cL_law 584 = .ok (.castore, 1) := by decide +kernel
theorem dL_law_585 : decode cL_law 585 = .ok (.dup, 1) := by decide +kernel
theorem dL_law_586 : decode cL_law 586 = .ok (.iconst 2, 1) := by decide +kernel
theorem dL_law_587 : decode cL_law 587 = .ok (.bipush 98, 2) := by decide +kernel
theorem dL_law_589 : decode cL_law 589 = .ok (.castore, 1) := by decide +kernel
theorem dL_law_590 : decode cL_law 590 = .ok (.dup, 1) := by decide +kernel
theorem dL_law_591 : decode cL_law 591 = .ok (.iconst 3, 1) := by decide +kernel
theorem dL_law_592 : decode cL_law 592 = .ok (.bipush 99, 2) := by decide +kernel
theorem dL_law_594 : decode cL_law 594 = .ok (.castore, 1) := by decide +kernel
theorem dL_law_595 : decode cL_law 595 = .ok (.dup, 1) := by decide +kernel
theorem dL_law_596 : decode cL_law 596 = .ok (.iconst 4, 1) := by decide +kernel
theorem dL_law_597 : decode cL_law 597 = .ok (.bipush 50, 2) := by decide +kernel
theorem dL_law_599 : decode cL_law 599 = .ok (.castore, 1) := by decide +kernel
theorem dL_law_600 : decode cL_law 600 = .ok (.dup, 1) := by decide +kernel
theorem dL_law_601 : decode cL_law 601 = .ok (.iconst 5, 1) := by decide +kernel
theorem dL_law_602 : decode cL_law 602 = .ok (.bipush 41, 2) := by decide +kernel
theorem dL_law_604 : decode cL_law 604 = .ok (.castore, 1) := by decide +kernel
theorem dL_law_605 : decode cL_law 605 = .ok (.dup, 1) := by decide +kernel
theorem dL_law_606 : decode cL_law 606 = .ok (.bipush 6, 2) := by decide +kernel
theorem dL_law_608 : decode cL_law 608 = .ok (.bipush 51, 2) := by decide +kernel
theorem dL_law_610 : decode cL_law 610 = .ok (.castore, 1) := by decide +kernel
theorem dL_law_611 : decode cL_law 611 = .ok (.invokestatic 95, 3) := by decide +kernel
theorem dL_law_614 : decode cL_law 614 = .ok (.aload_n 1, 1) := by decide +kernel
theorem dL_law_615 : decode cL_law 615 = .ok (.iconst 3, 1) := by decide +kernel
theorem dL_law_616 : decode cL_law 616 = .ok (.invokevirtual 98, 3) := by decide +kernel
theorem dL_law_619 : decode cL_law 619 = .ok (.bipush 10, 2) := by decide +kernel
theorem dL_law_621 : decode cL_law 621 = .ok (.if_icmp .ne 42, 3) := by decide +kernel
theorem dL_law_624 : decode cL_law 624 = .ok (.aload_n 1, 1) := by decide +kernel
theorem dL_law_625 : decode cL_law 625 = .ok (.iconst 3, 1) := by decide +kernel
theorem dL_law_626 : decode cL_law 626 = .ok (.iconst 0, 1) := by decide +kernel
theorem dL_law_627 : decode cL_law 627 = .ok (.invokevirtual 68, 3) := by decide +kernel
theorem dL_law_630 : decode cL_law 630 = .ok (.ifCond .ne 33, 3) := by decide +kernel
theorem dL_law_633 : decode cL_law 633 = .ok (.aload_n 1, 1) := by decide +kernel
theorem dL_law_634 : decode cL_law 634 = .ok (.iconst 3, 1) := by decide +kernel
theorem dL_law_635 : decode cL_law 635 = .ok (.iconst 1, 1) := by decide +kernel
theorem dL_law_636 : decode cL_law 636 = .ok (.invokevirtual 68, 3) := by decide +kernel
theorem dL_law_639 : decode cL_law 639 = .ok (.iconst 1, 1) := by decide +kernel
theorem dL_law_640 : decode cL_law 640 = .ok (.if_icmp .ne 23, 3) := by decide +kernel
theorem dL_law_643 : decode cL_law 643 = .ok (.aload_n 1, 1) := by decide +kernel
theorem dL_law_644 : decode cL_law 644 = .ok (.iconst 3, 1) := by decide +kernel
theorem dL_law_645 : decode cL_law 645 = .ok (.iconst 3, 1) := by decide +kernel
theorem dL_law_646 : decode cL_law 646 = .ok (.invokevirtual 68, 3) := by decide +kernel
theorem dL_law_649 : decode cL_law 649 = .ok (.iconst 2, 1) := by decide +kernel
theorem dL_law_650 : decode cL_law 650 = .ok (.if_icmp .ne 13, 3) := by decide +kernel
theorem dL_law_653 : decode cL_law 653 = .ok (.aload_n 1, 1) := by decide +kernel
theorem dL_law_654 : decode cL_law 654 = .ok (.iconst 3, 1) := by decide +kernel
theorem dL_law_655 : decode cL_law 655 = .ok (.iconst 4, 1) := by decide +kernel
theorem dL_law_656 : decode cL_law 656 = .ok (.invokevirtual 68, 3) := by decide +kernel
theorem dL_law_659 : decode cL_law 659 = .ok (.iconst 1, 1) := by decide +kernel
theorem dL_law_660 : decode cL_law 660 = .ok (.if_icmp .eq 5, 3) := by decide +kernel
theorem dL_law_663 : decode cL_law 663 = .ok (.iconst 0, 1) := by decide +kernel
theorem dL_law_664 : decode cL_law 664 = .ok (.ireturn, 1) := by decide +kernel
theorem dL_law_665 : decode cL_law 665 = .ok (.aload_n 1, 1) := by decide +kernel
theorem dL_law_666 : decode cL_law 666 = .ok (.iconst 3, 1) := by decide +kernel
theorem dL_law_667 : decode cL_law 667 = .ok (.newarray .char, 2) := by decide +kernel
theorem dL_law_669 : decode cL_law 669 = .ok (.dup, 1) := by decide +kernel
theorem dL_law_670 : decode cL_law 670 = .ok (.iconst 0, 1) := by decide +kernel
theorem dL_law_671 : decode cL_law 671 = .ok (.bipush 97, 2) := by decide +kernel
theorem dL_law_673 : decode cL_law 673 = .ok (.castore, 1) := by decide +kernel
theorem dL_law_674 : decode cL_law 674 = .ok (.dup, 1) := by decide +kernel
theorem dL_law_675 : decode cL_law 675 = .ok (.iconst 1, 1) := by decide +kernel
theorem dL_law_676 : decode cL_law 676 = .ok (.bipush 40, 2) := by decide +kernel
theorem dL_law_678 : decode cL_law 678 = .ok (.castore, 1) := by decide +kernel
theorem dL_law_679 : decode cL_law 679 = .ok (.dup, 1) := by decide +kernel
theorem dL_law_680 : decode cL_law 680 = .ok (.iconst 2, 1) := by decide +kernel
theorem dL_law_681 : decode cL_law 681 = .ok (.bipush 41, 2) := by decide +kernel
theorem dL_law_683 : decode cL_law 683 = .ok (.castore, 1) := by decide +kernel
theorem dL_law_684 : decode cL_law 684 = .ok (.invokestatic 95, 3) := by decide +kernel
theorem dL_law_687 : decode cL_law 687 = .ok (.aload_n 1, 1) := by decide +kernel
theorem dL_law_688 : decode cL_law 688 = .ok (.iconst 3, 1) := by decide +kernel
theorem dL_law_689 : decode cL_law 689 = .ok (.invokevirtual 98, 3) := by decide +kernel
theorem dL_law_692 : decode cL_law 692 = .ok (.bipush (-102), 2) := by decide +kernel
theorem dL_law_694 : decode cL_law 694 = .ok (.if_icmp .ne 31, 3) := by decide +kernel
theorem dL_law_697 : decode cL_law 697 = .ok (.aload_n 1, 1) := by decide +kernel
theorem dL_law_698 : decode cL_law 698 = .ok (.iconst 3, 1) := by decide +kernel
theorem dL_law_699 : decode cL_law 699 = .ok (.invokevirtual 23, 3) := by decide +kernel
theorem dL_law_702 : decode cL_law 702 = .ok (.bipush 10, 2) := by decide +kernel
theorem dL_law_704 : decode cL_law 704 = .ok (.if_icmp .ne 21, 3) := by decide +kernel
theorem dL_law_707 : decode cL_law 707 = .ok (.aload_n 1, 1) := by decide +kernel
theorem dL_law_708 : decode cL_law 708 = .ok (.invokevirtual 92, 3) := by decide +kernel
theorem dL_law_711 : decode cL_law 711 = .ok (.iconst 3, 1) := by decide +kernel
theorem dL_law_712 : decode cL_law 712 = .ok (.if_icmp .ne 13, 3) := by decide +kernel
theorem dL_law_715 : decode cL_law 715 = .ok (.aload_n 1, 1) := by decide +kernel
theorem dL_law_716 : decode cL_law 716 = .ok (.iconst 3, 1) := by decide +kernel
theorem dL_law_717 : decode cL_law 717 = .ok (.invokevirtual 23, 3) := by decide +kernel
theorem dL_law_720 : decode cL_law 720 = .ok (.iload 8, 2) := by decide +kernel
theorem dL_law_722 : decode cL_law 722 = .ok (.if_icmp .eq 5, 3) := by decide +kernel
theorem dL_law_725 : decode cL_law 725 = .ok (.iconst 0, 1) := by decide +kernel
theorem dL_law_726 : decode cL_law 726 = .ok (.ireturn, 1) := by decide +kernel
theorem dL_law_727 : decode cL_law 727 = .ok (.aload_n 1, 1) := by decide +kernel
theorem dL_law_728 : decode cL_law 728 = .ok (.invokevirtual 101, 3) := by decide +kernel
theorem dL_law_731 : decode cL_law 731 = .ok (.iload_n 2, 1) := by decide +kernel
theorem dL_law_732 : decode cL_law 732 = .ok (.if_icmp .ne 37, 3) := by decide +kernel
theorem dL_law_735 : decode cL_law 735 = .ok (.aload_n 1, 1) := by decide +kernel
theorem dL_law_736 : decode cL_law 736 = .ok (.iconst 3, 1) := by decide +kernel
theorem dL_law_737 : decode cL_law 737 = .ok (.invokevirtual 23, 3) := by decide +kernel
theorem dL_law_740 : decode cL_law 740 = .ok (.ifCond .ne 29, 3) := by decide +kernel
theorem dL_law_743 : decode cL_law 743 = .ok (.aload_n 1, 1) := by decide +kernel
theorem dL_law_744 : decode cL_law 744 = .ok (.iconst 0, 1) := by decide +kernel
theorem dL_law_745 : decode cL_law 745 = .ok (.iconst 0, 1) := by decide +kernel
theorem dL_law_746 : decode cL_law 746 = .ok (.iconst 0, 1) := by decide +kernel
theorem dL_law_747 : decode cL_law 747 = .ok (.invokevirtual 104, 3) := by decide +kernel
theorem dL_law_750 : decode cL_law 750 = .ok (.ifCond .ne 19, 3) := by decide +kernel
theorem dL_law_753 : decode cL_law 753 = .ok (.aload_n 1, 1) := by decide +kernel
theorem dL_law_754 : decode cL_law 754 = .ok (.invokevirtual 107, 3) := by decide +kernel
theorem dL_law_757 : decode cL_law 757 = .ok (.aload_n 1, 1) := by decide +kernel
theorem dL_law_758 : decode cL_law 758 = .ok (.iconst 0, 1) := by decide +kernel
theorem dL_law_759 : decode cL_law 759 = .ok (.invokevirtual 23, 3) := by decide +kernel
theorem dL_law_762 : decode cL_law 762 = .ok (.if_icmp .ne 7, 3) := by decide +kernel
theorem dL_law_765 : decode cL_law 765 = .ok (.iconst 1, 1) := by decide +kernel
theorem dL_law_766 : decode cL_law 766 = .ok (.goto 4, 3) := by decide +kernel
theorem dL_law_769 : decode cL_law 769 = .ok (.iconst 0, 1) := by decide +kernel
theorem dL_law_770 : decode cL_law 770 = .ok (.ireturn, 1) := by decide +kernel
