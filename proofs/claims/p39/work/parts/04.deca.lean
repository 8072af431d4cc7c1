theorem dX0_init_0 : decode cX0_init 0 = .ok (.aload_n 0, 1) := by decide +kernel
theorem dX0_init_1 : decode cX0_init 1 = .ok (.invokespecial 3, 3) := by decide +kernel
theorem dX0_init_4 : decode cX0_init 4 = .ok (.aload_n 0, 1) := by decide +kernel
theorem dX0_init_5 : decode cX0_init 5 = .ok (.new 9, 3) := by decide +kernel
theorem dX0_init_8 : decode cX0_init 8 = .ok (.dup, 1) := by decide +kernel
theorem dX0_init_9 : decode cX0_init 9 = .ok (.bipush 24, 2) := by decide +kernel
theorem dX0_init_11 : decode cX0_init 11 = .ok (.invokespecial 11, 3) := by decide +kernel
theorem dX0_init_14 : decode cX0_init 14 = .ok (.putfield 14, 3) := by decide +kernel
theorem dX0_init_17 : decode cX0_init 17 = .ok (.aload_n 0, 1) := by decide +kernel
theorem dX0_init_18 : decode cX0_init 18 = .ok (.new 9, 3) := by decide +kernel
theorem dX0_init_21 : decode cX0_init 21 = .ok (.dup, 1) := by decide +kernel
theorem dX0_init_22 : decode cX0_init 22 = .ok (.bipush 24, 2) := by decide +kernel
theorem dX0_init_24 : decode cX0_init 24 = .ok (.invokespecial 11, 3) := by decide +kernel
theorem dX0_init_27 : decode cX0_init 27 = .ok (.putfield 20, 3) := by decide +kernel
theorem dX0_init_30 : decode cX0_init 30 = .ok (.aload_n 0, 1) := by decide +kernel
theorem dX0_init_31 : decode cX0_init 31 = .ok (.new 9, 3) := by decide +kernel
theorem dX0_init_34 : decode cX0_init 34 = .ok (.dup, 1) := by decide +kernel
theorem dX0_init_35 : decode cX0_init 35 = .ok (.bipush 24, 2) := by decide +kernel
theorem dX0_init_37 : decode cX0_init 37 = .ok (.invokespecial 11, 3) := by decide +kernel
theorem dX0_init_40 : decode cX0_init 40 = .ok (.putfield 23, 3) := by decide +kernel
theorem dX0_init_43 : decode cX0_init 43 = .ok (.aload_n 0, 1) := by decide +kernel
theorem dX0_init_44 : decode cX0_init 44 = .ok (.new 9, 3) := by decide +kernel
theorem dX0_init_47 : decode cX0_init 47 = .ok (.dup, 1) := by decide +kernel
theorem dX0_init_48 : decode cX0_init 48 = .ok (.bipush 24, 2) := by decide +kernel
theorem dX0_init_50 : decode cX0_init 50 = .ok (.invokespecial 11, 3) := by decide +kernel
theorem dX0_init_53 : decode cX0_init 53 = .ok (.putfield 26, 3) := by decide +kernel
theorem dX0_init_56 : decode cX0_init 56 = .ok (.aload_n 0, 1) := by decide +kernel
theorem dX0_init_57 : decode cX0_init 57 = .ok (.new 29, 3) := by decide +kernel
theorem dX0_init_60 : decode cX0_init 60 = .ok (.dup, 1) := by decide +kernel
theorem dX0_init_61 : decode cX0_init 61 = .ok (.bipush 25, 2) := by decide +kernel
theorem dX0_init_63 : decode cX0_init 63 = .ok (.bipush 25, 2) := by decide +kernel
theorem dX0_init_65 : decode cX0_init 65 = .ok (.invokespecial 31, 3) := by decide +kernel
theorem dX0_init_68 : decode cX0_init 68 = .ok (.putfield 34, 3) := by decide +kernel
theorem dX0_init_71 : decode cX0_init 71 = .ok (.iconst 0, 1) := by decide +kernel
theorem dX0_init_72 : decode cX0_init 72 = .ok (.istore_n 1, 1) := by decide +kernel
theorem dX0_init_73 : decode cX0_init 73 = .ok (.iload_n 1, 1) := by decide +kernel
theorem dX0_init_74 : decode cX0_init 74 = .ok (.bipush 24, 2) := by decide +kernel
theorem dX0_init_76 : decode cX0_init 76 = .ok (.if_icmp .gt 17, 3) := by decide +kernel
theorem dX0_init_79 : decode cX0_init 79 = .ok (.aload_n 0, 1) := by decide +kernel
theorem dX0_init_80 : decode cX0_init 80 = .ok (.getfield 34, 3) := by decide +kernel
theorem dX0_init_83 : decode cX0_init 83 = .ok (.invokevirtual 38, 3) := by decide +kernel
theorem dX0_init_86 : decode cX0_init 86 = .ok (.pop, 1) := by decide +kernel
theorem dX0_init_87 : decode cX0_init 87 = .ok (.iinc 1 1, 3) := by decide +kernel
theorem dX0_init_90 : decode cX0_init 90 = .ok (.goto (-17), 3) := by decide +kernel
theorem dX0_init_93 : decode cX0_init 93 = .ok (.return_, 1) := by decide +kernel
theorem dX0_pairs_0 : decode cX0_pairs 0 = .ok (.aload_n 0, 1) := by decide +kernel
theorem dX0_pairs_1 : decode cX0_pairs 1 = .ok (.getfield 42, 3) := by decide +kernel
theorem dX0_pairs_4 : decode cX0_pairs 4 = .ok (.ireturn, 1) := by decide +kernel
theorem dX0_partnerOf_0 : decode cX0_partnerOf 0 = .ok (.aload_n 0, 1) := by decide +kernel
theorem dX0_partnerOf_1 : decode cX0_partnerOf 1 = .ok (.getfield 14, 3) := by decide +kernel
theorem dX0_partnerOf_4 : decode cX0_partnerOf 4 = .ok (.iload_n 1, 1) := by decide +kernel
theorem dX0_partnerOf_5 : decode cX0_partnerOf 5 = .ok (.invokevirtual 49, 3) := by decide +kernel
theorem dX0_partnerOf_8 : decode cX0_partnerOf 8 = .ok (.ireturn, 1) := by decide +kernel
theorem dX0_isFirstKept_0 : decode cX0_isFirstKept 0 = .ok (.aload_n 0, 1) := by decide +kernel
theorem dX0_isFirstKept_1 : decode cX0_isFirstKept 1 = .ok (.getfield 14, 3) := by decide +kernel
theorem dX0_isFirstKept_4 : decode cX0_isFirstKept 4 = .ok (.iload_n 1, 1) := by decide +kernel
theorem dX0_isFirstKept_5 : decode cX0_isFirstKept 5 = .ok (.invokevirtual 49, 3) := by decide +kernel
theorem dX0_isFirstKept_8 : decode cX0_isFirstKept 8 = .ok (.iconst (-1), 1) := by decide +kernel
theorem dX0_isFirstKept_9 : decode cX0_isFirstKept 9 = .ok (.if_icmp .eq 7, 3) := by decide +kernel
theorem dX0_isFirstKept_12 : decode cX0_isFirstKept 12 = .ok (.iconst 1, 1) := by decide +kernel
theorem dX0_isFirstKept_13 : decode cX0_isFirstKept 13 = .ok (.goto 4, 3) := by decide +kernel
theorem dX0_isFirstKept_16 : decode cX0_isFirstKept 16 = .ok (.iconst 0, 1) := by decide +kernel
theorem dX0_isFirstKept_17 : decode cX0_isFirstKept 17 = .ok (.ireturn, 1) := by decide +kernel
theorem dX0_isSecondKept_0 : decode cX0_isSecondKept 0 = .ok (.aload_n 0, 1) := by decide +kernel
theorem dX0_isSecondKept_1 : decode cX0_isSecondKept 1 = .ok (.getfield 20, 3) := by decide +kernel
theorem dX0_isSecondKept_4 : decode cX0_isSecondKept 4 = .ok (.iload_n 1, 1) := by decide +kernel
theorem dX0_isSecondKept_5 : decode cX0_isSecondKept 5 = .ok (.invokevirtual 49, 3) := by decide +kernel
theorem dX0_isSecondKept_8 : decode cX0_isSecondKept 8 = .ok (.iconst (-1), 1) := by decide +kernel
theorem dX0_isSecondKept_9 : decode cX0_isSecondKept 9 = .ok (.if_icmp .eq 7, 3) := by decide +kernel
theorem dX0_isSecondKept_12 : decode cX0_isSecondKept 12 = .ok (.iconst 1, 1) := by decide +kernel
theorem dX0_isSecondKept_13 : decode cX0_isSecondKept 13 = .ok (.goto 4, 3) := by decide +kernel
theorem dX0_isSecondKept_16 : decode cX0_isSecondKept 16 = .ok (.iconst 0, 1) := by decide +kernel
theorem dX0_isSecondKept_17 : decode cX0_isSecondKept 17 = .ok (.ireturn, 1) := by decide +kernel
theorem dX0_build_0 : decode cX0_build 0 = .ok (.aload_n 0, 1) := by decide +kernel
theorem dX0_build_1 : decode cX0_build 1 = .ok (.getfield 14, 3) := by decide +kernel
theorem dX0_build_4 : decode cX0_build 4 = .ok (.iconst (-1), 1) := by decide +kernel
theorem dX0_build_5 : decode cX0_build 5 = .ok (.aload_n 1, 1) := by decide +kernel
theorem dX0_build_6 : decode cX0_build 6 = .ok (.invokevirtual 53, 3) := by decide +kernel
theorem dX0_build_9 : decode cX0_build 9 = .ok (.invokevirtual 56, 3) := by decide +kernel
theorem dX0_build_12 : decode cX0_build 12 = .ok (.aload_n 0, 1) := by decide +kernel
theorem dX0_build_13 : decode cX0_build 13 = .ok (.getfield 20, 3) := by decide +kernel
theorem dX0_build_16 : decode cX0_build 16 = .ok (.iconst (-1), 1) := by decide +kernel
theorem dX0_build_17 : decode cX0_build 17 = .ok (.aload_n 2, 1) := by decide +kernel
theorem dX0_build_18 : decode cX0_build 18 = .ok (.invokevirtual 53, 3) := by decide +kernel
theorem dX0_build_21 : decode cX0_build 21 = .ok (.invokevirtual 56, 3) := by decide +kernel
theorem dX0_build_24 : decode cX0_build 24 = .ok (.aload_n 0, 1) := by decide +kernel
theorem dX0_build_25 : decode cX0_build 25 = .ok (.iconst 0, 1) := by decide +kernel
theorem dX0_build_26 : decode cX0_build 26 = .ok (.putfield 42, 3) := by decide +kernel
theorem dX0_build_29 : decode cX0_build 29 = .ok (.aload_n 0, 1) := by decide +kernel
theorem dX0_build_30 : decode cX0_build 30 = .ok (.iconst 0, 1) := by decide +kernel
theorem dX0_build_31 : decode cX0_build 31 = .ok (.putfield 46, 3) := by decide +kernel
theorem dX0_build_34 : decode cX0_build 34 = .ok (.iload_n 3, 1) := by decide +kernel
theorem dX0_build_35 : decode cX0_build 35 = .ok (.iconst 1, 1) := by decide +kernel
theorem dX0_build_36 : decode cX0_build 36 = .ok (.if_icmp .ne 12, 3) := by decide +kernel
theorem dX0_build_39 : decode cX0_build 39 = .ok (.aload_n 0, 1) := by decide +kernel
theorem dX0_build_40 : decode cX0_build 40 = .ok (.aload_n 1, 1) := by decide +kernel
theorem dX0_build_41 : decode cX0_build 41 = .ok (.aload_n 2, 1) := by decide +kernel
theorem dX0_build_42 : decode cX0_build 42 = .ok (.invokevirtual 59, 3) := by decide +kernel
theorem dX0_build_45 : decode cX0_build 45 = .ok (.goto 19, 3) := by decide +kernel
theorem dX0_build_48 : decode cX0_build 48 = .ok (.aload_n 0, 1) := by decide +kernel
theorem dX0_build_49 : decode cX0_build 49 = .ok (.aload_n 1, 1) := by decide +kernel
theorem dX0_build_50 : decode cX0_build 50 = .ok (.iconst 0, 1) := by decide +kernel
theorem dX0_build_51 : decode cX0_build 51 = .ok (.aload_n 1, 1) := by decide +kernel
theorem dX0_build_52 : decode cX0_build 52 = .ok (.invokevirtual 53, 3) := by decide +kernel
theorem dX0_build_55 : decode cX0_build 55 = .ok (.aload_n 2, 1) := by decide +kernel
theorem dX0_build_56 : decode cX0_build 56 = .ok (.iconst 0, 1) := by decide +kernel
theorem dX0_build_57 : decode cX0_build 57 = .ok (.aload_n 2, 1) := by decide +kernel
theorem dX0_build_58 : decode cX0_build 58 = .ok (.invokevirtual 53, 3) := by decide +kernel
theorem dX0_build_61 : decode cX0_build 61 = .ok (.invokevirtual 63, 3) := by decide +kernel
theorem dX0_build_64 : decode cX0_build 64 = .ok (.return_, 1) := by decide +kernel
theorem dX0_addPair_0 : decode cX0_addPair 0 = .ok (.aload_n 0, 1) := by decide +kernel
theorem dX0_addPair_1 : decode cX0_addPair 1 = .ok (.getfield 14, 3) := by decide +kernel
theorem dX0_addPair_4 : decode cX0_addPair 4 = .ok (.iload_n 1, 1) := by decide +kernel
theorem dX0_addPair_5 : decode cX0_addPair 5 = .ok (.iload_n 2, 1) := by decide +kernel
theorem dX0_addPair_6 : decode cX0_addPair 6 = .ok (.invokevirtual 67, 3) := by decide +kernel
theorem dX0_addPair_9 : decode cX0_addPair 9 = .ok (.aload_n 0, 1) := by decide +kernel
theorem dX0_addPair_10 : decode cX0_addPair 10 = .ok (.getfield 20, 3) := by decide +kernel
theorem dX0_addPair_13 : decode cX0_addPair 13 = .ok (.iload_n 2, 1) := by decide +kernel
theorem dX0_addPair_14 : decode cX0_addPair 14 = .ok (.iload_n 1, 1) := by decide +kernel
theorem dX0_addPair_15 : decode cX0_addPair 15 = .ok (.invokevirtual 67, 3) := by decide +kernel
theorem dX0_addPair_18 : decode cX0_addPair 18 = .ok (.aload_n 0, 1) := by decide +kernel
theorem dX0_addPair_19 : decode cX0_addPair 19 = .ok (.dup, 1) := by decide +kernel
theorem dX0_addPair_20 : decode cX0_addPair 20 = .ok (.getfield 42, 3) := by decide +kernel
theorem dX0_addPair_23 : decode cX0_addPair 23 = .ok (.iconst 1, 1) := by decide +kernel
theorem dX0_addPair_24 : decode cX0_addPair 24 = .ok (.iadd, 1) := by decide +kernel
theorem dX0_addPair_25 : decode cX0_addPair 25 = .ok (.putfield 42, 3) := by decide +kernel
theorem dX0_addPair_28 : decode cX0_addPair 28 = .ok (.return_, 1) := by decide +kernel
theorem dX0_alignPart_0 : decode cX0_alignPart 0 = .ok (.aload_n 0, 1) := by decide +kernel
theorem dX0_alignPart_1 : decode cX0_alignPart 1 = .ok (.aload_n 1, 1) := by decide +kernel
theorem dX0_alignPart_2 : decode cX0_alignPart 2 = .ok (.iload_n 2, 1) := by decide +kernel
theorem dX0_alignPart_3 : decode cX0_alignPart 3 = .ok (.iload_n 3, 1) := by decide +kernel
theorem dX0_alignPart_4 : decode cX0_alignPart 4 = .ok (.aload 4, 2) := by decide +kernel
theorem dX0_alignPart_6 : decode cX0_alignPart 6 = .ok (.iload 5, 2) := by decide +kernel
theorem dX0_alignPart_8 : decode cX0_alignPart 8 = .ok (.iload 6, 2) := by decide +kernel
theorem dX0_alignPart_10 : decode cX0_alignPart 10 = .ok (.invokevirtual 70, 3) := by decide +kernel
theorem dX0_alignPart_13 : decode cX0_alignPart 13 = .ok (.iload 5, 2) := by decide +kernel
theorem dX0_alignPart_15 : decode cX0_alignPart 15 = .ok (.istore 7, 2) := by decide +kernel
theorem dX0_alignPart_17 : decode cX0_alignPart 17 = .ok (.iload_n 2, 1) := by decide +kernel
theorem dX0_alignPart_18 : decode cX0_alignPart 18 = .ok (.istore 8, 2) := by decide +kernel
theorem dX0_alignPart_20 : decode cX0_alignPart 20 = .ok (.iload 8, 2) := by decide +kernel
theorem dX0_alignPart_22 : decode cX0_alignPart 22 = .ok (.iload_n 3, 1) := by decide +kernel
theorem dX0_alignPart_23 : decode cX0_alignPart 23 = .ok (.if_icmp .ge 77, 3) := by decide +kernel
theorem dX0_alignPart_26 : decode cX0_alignPart 26 = .ok (.aload 4, 2) := by decide +kernel
theorem dX0_alignPart_28 : decode cX0_alignPart 28 = .ok (.aload_n 1, 1) := by decide +kernel
theorem dX0_alignPart_29 : decode cX0_alignPart 29 = .ok (.iload 8, 2) := by decide +kernel
theorem dX0_alignPart_31 : decode cX0_alignPart 31 = .ok (.invokevirtual 49, 3) := by decide +kernel
theorem dX0_alignPart_34 : decode cX0_alignPart 34 = .ok (.iload 7, 2) := by decide +kernel
theorem dX0_alignPart_36 : decode cX0_alignPart 36 = .ok (.iload 6, 2) := by decide +kernel
theorem dX0_alignPart_38 : decode cX0_alignPart 38 = .ok (.invokevirtual 73, 3) := by decide +kernel
theorem dX0_alignPart_41 : decode cX0_alignPart 41 = .ok (.istore 9, 2) := by decide +kernel
theorem dX0_alignPart_43 : decode cX0_alignPart 43 = .ok (.iload 9, 2) := by decide +kernel
theorem dX0_alignPart_45 : decode cX0_alignPart 45 = .ok (.iconst (-1), 1) := by decide +kernel
theorem dX0_alignPart_46 : decode cX0_alignPart 46 = .ok (.if_icmp .eq 48, 3) := by decide +kernel
theorem dX0_alignPart_49 : decode cX0_alignPart 49 = .ok (.aload_n 0, 1) := by decide +kernel
theorem dX0_alignPart_50 : decode cX0_alignPart 50 = .ok (.getfield 34, 3) := by decide +kernel
theorem dX0_alignPart_53 : decode cX0_alignPart 53 = .ok (.iload 8, 2) := by decide +kernel
theorem dX0_alignPart_55 : decode cX0_alignPart 55 = .ok (.iconst 1, 1) := by decide +kernel
theorem dX0_alignPart_56 : decode cX0_alignPart 56 = .ok (.iadd, 1) := by decide +kernel
theorem dX0_alignPart_57 : decode cX0_alignPart 57 = .ok (.iload 9, 2) := by decide +kernel
theorem dX0_alignPart_59 : decode cX0_alignPart 59 = .ok (.iconst 1, 1) := by decide +kernel
theorem dX0_alignPart_60 : decode cX0_alignPart 60 = .ok (.iadd, 1) := by decide +kernel
theorem dX0_alignPart_61 : decode cX0_alignPart 61 = .ok (.invokevirtual 77, 3) := by decide +kernel
theorem dX0_alignPart_64 : decode cX0_alignPart 64 = .ok (.iconst 1, 1) := by decide +kernel
theorem dX0_alignPart_65 : decode cX0_alignPart 65 = .ok (.iadd, 1) := by decide +kernel
theorem dX0_alignPart_66 : decode cX0_alignPart 66 = .ok (.aload_n 0, 1) := by decide +kernel
theorem dX0_alignPart_67 : decode cX0_alignPart 67 = .ok (.getfield 34, 3) := by decide +kernel
theorem dX0_alignPart_70 : decode cX0_alignPart 70 = .ok (.iload 8, 2) := by decide +kernel
theorem dX0_alignPart_72 : decode cX0_alignPart 72 = .ok (.iload 7, 2) := by decide +kernel
theorem dX0_alignPart_74 : decode cX0_alignPart 74 = .ok (.invokevirtual 77, 3) := by decide +kernel
theorem dX0_alignPart_77 : decode cX0_alignPart 77 = .ok (.if_icmp .ne 17, 3) := by decide +kernel
theorem dX0_alignPart_80 : decode cX0_alignPart 80 = .ok (.aload_n 0, 1) := by decide +kernel
theorem dX0_alignPart_81 : decode cX0_alignPart 81 = .ok (.iload 8, 2) := by decide +kernel
theorem dX0_alignPart_83 : decode cX0_alignPart 83 = .ok (.iload 9, 2) := by decide +kernel
theorem dX0_alignPart_85 : decode cX0_alignPart 85 = .ok (.invokevirtual 80, 3) := by decide +kernel
theorem dX0_alignPart_88 : decode cX0_alignPart 88 = .ok (.iload 9, 2) := by decide +kernel
theorem dX0_alignPart_90 : decode cX0_alignPart 90 = .ok (.iconst 1, 1) := by decide +kernel
theorem dX0_alignPart_91 : decode cX0_alignPart 91 = .ok (.iadd, 1) := by decide +kernel
theorem dX0_alignPart_92 : decode cX0_alignPart 92 = .ok (.istore 7, 2) := by decide +kernel
theorem dX0_alignPart_94 : decode cX0_alignPart 94 = .ok (.iinc 8 1, 3) := by decide +kernel
theorem dX0_alignPart_97 : decode cX0_alignPart 97 = .ok (.goto (-77), 3) := by decide +kernel
theorem dX0_alignPart_100 : decode cX0_alignPart 100 = .ok (.return_, 1) := by decide +kernel
theorem dX0_measureEnds_0 : decode cX0_measureEnds 0 = .ok (.iload_n 3, 1) := by decide +kernel
theorem dX0_measureEnds_1 : decode cX0_measureEnds 1 = .ok (.istore 7, 2) := by decide +kernel
theorem dX0_measureEnds_3 : decode cX0_measureEnds 3 = .ok (.iload 7, 2) := by decide +kernel
theorem dX0_measureEnds_5 : decode cX0_measureEnds 5 = .ok (.iload_n 2, 1) := by decide +kernel
theorem dX0_measureEnds_6 : decode cX0_measureEnds 6 = .ok (.if_icmp .lt 122, 3) := by decide +kernel
theorem dX0_measureEnds_9 : decode cX0_measureEnds 9 = .ok (.iload 6, 2) := by decide +kernel
theorem dX0_measureEnds_11 : decode cX0_measureEnds 11 = .ok (.istore 8, 2) := by decide +kernel
theorem dX0_measureEnds_13 : decode cX0_measureEnds 13 = .ok (.iload 8, 2) := by decide +kernel
theorem dX0_measureEnds_15 : decode cX0_measureEnds 15 = .ok (.iload 5, 2) := by decide +kernel
theorem dX0_measureEnds_17 : decode cX0_measureEnds 17 = .ok (.if_icmp .lt 105, 3) := by decide +kernel
theorem dX0_measureEnds_20 : decode cX0_measureEnds 20 = .ok (.iconst 0, 1) := by decide +kernel
theorem dX0_measureEnds_21 : decode cX0_measureEnds 21 = .ok (.istore 9, 2) := by decide +kernel
theorem dX0_measureEnds_23 : decode cX0_measureEnds 23 = .ok (.iload 7, 2) := by decide +kernel
theorem dX0_measureEnds_25 : decode cX0_measureEnds 25 = .ok (.iload_n 3, 1) := by decide +kernel
theorem dX0_measureEnds_26 : decode cX0_measureEnds 26 = .ok (.if_icmp .ge 77, 3) := by decide +kernel
theorem dX0_measureEnds_29 : decode cX0_measureEnds 29 = .ok (.iload 8, 2) := by decide +kernel
theorem dX0_measureEnds_31 : decode cX0_measureEnds 31 = .ok (.iload 6, 2) := by decide +kernel
theorem dX0_measureEnds_33 : decode cX0_measureEnds 33 = .ok (.if_icmp .ge 70, 3) := by decide +kernel
theorem dX0_measureEnds_36 : decode cX0_measureEnds 36 = .ok (.aload_n 1, 1) := by decide +kernel
theorem dX0_measureEnds_37 : decode cX0_measureEnds 37 = .ok (.iload 7, 2) := by decide +kernel
theorem dX0_measureEnds_39 : decode cX0_measureEnds 39 = .ok (.invokevirtual 49, 3) := by decide +kernel
theorem dX0_measureEnds_42 : decode cX0_measureEnds 42 = .ok (.aload 4, 2) := by decide +kernel
theorem dX0_measureEnds_44 : decode cX0_measureEnds 44 = .ok (.iload 8, 2) := by decide +kernel
theorem dX0_measureEnds_46 : decode cX0_measureEnds 46 = .ok (.invokevirtual 49, 3) := by decide +kernel
theorem dX0_measureEnds_49 : decode cX0_measureEnds 49 = .ok (.if_icmp .ne 23, 3) := by decide +kernel
theorem dX0_measureEnds_52 : decode cX0_measureEnds 52 = .ok (.aload_n 0, 1) := by decide +kernel
theorem dX0_measureEnds_53 : decode cX0_measureEnds 53 = .ok (.getfield 34, 3) := by decide +kernel
theorem dX0_measureEnds_56 : decode cX0_measureEnds 56 = .ok (.iload 7, 2) := by decide +kernel
theorem dX0_measureEnds_58 : decode cX0_measureEnds 58 = .ok (.iconst 1, 1) := by decide +kernel
theorem dX0_measureEnds_59 : decode cX0_measureEnds 59 = .ok (.iadd, 1) := by decide +kernel
theorem dX0_measureEnds_60 : decode cX0_measureEnds 60 = .ok (.iload 8, 2) := by decide +kernel
theorem dX0_measureEnds_62 : decode cX0_measureEnds 62 = .ok (.iconst 1, 1) := by decide +kernel
theorem dX0_measureEnds_63 : decode cX0_measureEnds 63 = .ok (.iadd, 1) := by decide +kernel
theorem dX0_measureEnds_64 : decode cX0_measureEnds 64 = .ok (.invokevirtual 77, 3) := by decide +kernel
theorem dX0_measureEnds_67 : decode cX0_measureEnds 67 = .ok (.iconst 1, 1) := by decide +kernel
theorem dX0_measureEnds_68 : decode cX0_measureEnds 68 = .ok (.iadd, 1) := by decide +kernel
theorem dX0_measureEnds_69 : decode cX0_measureEnds 69 = .ok (.goto 32, 3) := by decide +kernel
theorem dX0_measureEnds_72 : decode cX0_measureEnds 72 = .ok (.aload_n 0, 1) := by decide +kernel
theorem dX0_measureEnds_73 : decode cX0_measureEnds 73 = .ok (.getfield 34, 3) := by decide +kernel
theorem dX0_measureEnds_76 : decode cX0_measureEnds 76 = .ok (.iload 7, 2) := by decide +kernel
theorem dX0_measureEnds_78 : decode cX0_measureEnds 78 = .ok (.iconst 1, 1) := by decide +kernel
theorem dX0_measureEnds_79 : decode cX0_measureEnds 79 = .ok (.iadd, 1) := by decide +kernel
theorem dX0_measureEnds_80 : decode cX0_measureEnds 80 = .ok (.iload 8, 2) := by decide +kernel
theorem dX0_measureEnds_82 : decode cX0_measureEnds 82 = .ok (.invokevirtual 77, 3) := by decide +kernel
theorem dX0_measureEnds_85 : decode cX0_measureEnds 85 = .ok (.aload_n 0, 1) := by decide +kernel
theorem dX0_measureEnds_86 : decode cX0_measureEnds 86 = .ok (.getfield 34, 3) := by decide +kernel
theorem dX0_measureEnds_89 : decode cX0_measureEnds 89 = .ok (.iload 7, 2) := by decide +kernel
theorem dX0_measureEnds_91 : decode cX0_measureEnds 91 = .ok (.iload 8, 2) := by decide +kernel
theorem dX0_measureEnds_93 : decode cX0_measureEnds 93 = .ok (.iconst 1, 1) := by decide +kernel
theorem dX0_measureEnds_94 : decode cX0_measureEnds 94 = .ok (.iadd, 1) := by decide +kernel
theorem dX0_measureEnds_95 : decode cX0_measureEnds 95 = .ok (.invokevirtual 77, 3) := by decide +kernel
theorem dX0_measureEnds_98 : decode cX0_measureEnds 98 = .ok (.invokestatic 83, 3) := by decide +kernel
theorem dX0_measureEnds_101 : decode cX0_measureEnds 101 = .ok (.istore 9, 2) := by decide +kernel
theorem dX0_measureEnds_103 : decode cX0_measureEnds 103 = .ok (.aload_n 0, 1) := by decide +kernel
theorem dX0_measureEnds_104 : decode cX0_measureEnds 104 = .ok (.getfield 34, 3) := by decide +kernel
theorem dX0_measureEnds_107 : decode cX0_measureEnds 107 = .ok (.iload 7, 2) := by decide +kernel
theorem dX0_measureEnds_109 : decode cX0_measureEnds 109 = .ok (.iload 8, 2) := by decide +kernel
theorem dX0_measureEnds_111 : decode cX0_measureEnds 111 = .ok (.iload 9, 2) := by decide +kernel
theorem dX0_measureEnds_113 : decode cX0_measureEnds 113 = .ok (.invokevirtual 88, 3) := by decide +kernel
theorem dX0_measureEnds_116 : decode cX0_measureEnds 116 = .ok (.iinc 8 (-1), 3) := by decide +kernel
theorem dX0_measureEnds_119 : decode cX0_measureEnds 119 = .ok (.goto (-106), 3) := by decide +kernel
theorem dX0_measureEnds_122 : decode cX0_measureEnds 122 = .ok (.iinc 7 (-1), 3) := by decide +kernel
theorem dX0_measureEnds_125 : decode cX0_measureEnds 125 = .ok (.goto (-122), 3) := by decide +kernel
theorem dX0_measureEnds_128 : decode cX0_measureEnds 128 = .ok (.return_, 1) := by decide +kernel
theorem dX0_alignByAnchors_0 : decode cX0_alignByAnchors 0 = .ok (.aload_n 0, 1) := by decide +kernel
theorem dX0_alignByAnchors_1 : decode cX0_alignByAnchors 1 = .ok (.aload_n 1, 1) := by decide +kernel
theorem dX0_alignByAnchors_2 : decode cX0_alignByAnchors 2 = .ok (.aload_n 2, 1) := by decide +kernel
theorem dX0_alignByAnchors_3 : decode cX0_alignByAnchors 3 = .ok (.invokevirtual 91, 3) := by decide +kernel
theorem dX0_alignByAnchors_6 : decode cX0_alignByAnchors 6 = .ok (.aload_n 0, 1) := by decide +kernel
theorem dX0_alignByAnchors_7 : decode cX0_alignByAnchors 7 = .ok (.invokevirtual 94, 3) := by decide +kernel
theorem dX0_alignByAnchors_10 : decode cX0_alignByAnchors 10 = .ok (.istore_n 3, 1) := by decide +kernel
theorem dX0_alignByAnchors_11 : decode cX0_alignByAnchors 11 = .ok (.iconst 0, 1) := by decide +kernel
theorem dX0_alignByAnchors_12 : decode cX0_alignByAnchors 12 = .ok (.istore 4, 2) := by decide +kernel
theorem dX0_alignByAnchors_14 : decode cX0_alignByAnchors 14 = .ok (.iconst 0, 1) := by decide +kernel
theorem dX0_alignByAnchors_15 : decode cX0_alignByAnchors 15 = .ok (.istore 5, 2) := by decide +kernel
theorem dX0_alignByAnchors_17 : decode cX0_alignByAnchors 17 = .ok (.iconst 0, 1) := by decide +kernel
theorem dX0_alignByAnchors_18 : decode cX0_alignByAnchors 18 = .ok (.istore 6, 2) := by decide +kernel
theorem dX0_alignByAnchors_20 : decode cX0_alignByAnchors 20 = .ok (.iload 6, 2) := by decide +kernel
theorem dX0_alignByAnchors_22 : decode cX0_alignByAnchors 22 = .ok (.aload_n 1, 1) := by decide +kernel
theorem dX0_alignByAnchors_23 : decode cX0_alignByAnchors 23 = .ok (.invokevirtual 53, 3) := by decide +kernel
theorem dX0_alignByAnchors_26 : decode cX0_alignByAnchors 26 = .ok (.if_icmp .ge 91, 3) := by decide +kernel
theorem dX0_alignByAnchors_29 : decode cX0_alignByAnchors 29 = .ok (.aload_n 0, 1) := by decide +kernel
theorem dX0_alignByAnchors_30 : decode cX0_alignByAnchors 30 = .ok (.getfield 23, 3) := by decide +kernel
theorem dX0_alignByAnchors_33 : decode cX0_alignByAnchors 33 = .ok (.iload 6, 2) := by decide +kernel
theorem dX0_alignByAnchors_35 : decode cX0_alignByAnchors 35 = .ok (.invokevirtual 49, 3) := by decide +kernel
theorem dX0_alignByAnchors_38 : decode cX0_alignByAnchors 38 = .ok (.istore 7, 2) := by decide +kernel
theorem dX0_alignByAnchors_40 : decode cX0_alignByAnchors 40 = .ok (.iload_n 3, 1) := by decide +kernel
theorem dX0_alignByAnchors_41 : decode cX0_alignByAnchors 41 = .ok (.ifCond .le 70, 3) := by decide +kernel
theorem dX0_alignByAnchors_44 : decode cX0_alignByAnchors 44 = .ok (.iload 7, 2) := by decide +kernel
theorem dX0_alignByAnchors_46 : decode cX0_alignByAnchors 46 = .ok (.iload 5, 2) := by decide +kernel
theorem dX0_alignByAnchors_48 : decode cX0_alignByAnchors 48 = .ok (.if_icmp .lt 63, 3) := by decide +kernel
theorem dX0_alignByAnchors_51 : decode cX0_alignByAnchors 51 = .ok (.aload_n 0, 1) := by decide +kernel
theorem dX0_alignByAnchors_52 : decode cX0_alignByAnchors 52 = .ok (.getfield 26, 3) := by decide +kernel
theorem dX0_alignByAnchors_55 : decode cX0_alignByAnchors 55 = .ok (.iload 6, 2) := by decide +kernel
theorem dX0_alignByAnchors_57 : decode cX0_alignByAnchors 57 = .ok (.invokevirtual 49, 3) := by decide +kernel
theorem dX0_alignByAnchors_60 : decode cX0_alignByAnchors 60 = .ok (.iload_n 3, 1) := by decide +kernel
theorem dX0_alignByAnchors_61 : decode cX0_alignByAnchors 61 = .ok (.if_icmp .ne 50, 3) := by decide +kernel
theorem dX0_alignByAnchors_64 : decode cX0_alignByAnchors 64 = .ok (.aload_n 0, 1) := by decide +kernel
theorem dX0_alignByAnchors_65 : decode cX0_alignByAnchors 65 = .ok (.aload_n 1, 1) := by decide +kernel
theorem dX0_alignByAnchors_66 : decode cX0_alignByAnchors 66 = .ok (.iload 4, 2) := by decide +kernel
theorem dX0_alignByAnchors_68 : decode cX0_alignByAnchors 68 = .ok (.iload 6, 2) := by decide +kernel
theorem dX0_alignByAnchors_70 : decode cX0_alignByAnchors 70 = .ok (.aload_n 2, 1) := by decide +kernel
theorem dX0_alignByAnchors_71 : decode cX0_alignByAnchors 71 = .ok (.iload 5, 2) := by decide +kernel
theorem dX0_alignByAnchors_73 : decode cX0_alignByAnchors 73 = .ok (.iload 7, 2) := by decide +kernel
theorem dX0_alignByAnchors_75 : decode cX0_alignByAnchors 75 = .ok (.invokevirtual 63, 3) := by decide +kernel
theorem dX0_alignByAnchors_78 : decode cX0_alignByAnchors 78 = .ok (.aload_n 0, 1) := by decide +kernel
theorem dX0_alignByAnchors_79 : decode cX0_alignByAnchors 79 = .ok (.iload 6, 2) := by decide +kernel
theorem dX0_alignByAnchors_81 : decode cX0_alignByAnchors 81 = .ok (.iload 7, 2) := by decide +kernel
theorem dX0_alignByAnchors_83 : decode cX0_alignByAnchors 83 = .ok (.invokevirtual 80, 3) := by decide +kernel
theorem dX0_alignByAnchors_86 : decode cX0_alignByAnchors 86 = .ok (.aload_n 0, 1) := by decide +kernel
theorem dX0_alignByAnchors_87 : decode cX0_alignByAnchors 87 = .ok (.dup, 1) := by decide +kernel
theorem dX0_alignByAnchors_88 : decode cX0_alignByAnchors 88 = .ok (.getfield 46, 3) := by decide +kernel
theorem dX0_alignByAnchors_91 : decode cX0_alignByAnchors 91 = .ok (.iconst 1, 1) := by decide +kernel
theorem dX0_alignByAnchors_92 : decode cX0_alignByAnchors 92 = .ok (.iadd, 1) := by decide +kernel
theorem dX0_alignByAnchors_93 : decode cX0_alignByAnchors 93 = .ok (.putfield 46, 3) := by decide +kernel
theorem dX0_alignByAnchors_96 : decode cX0_alignByAnchors 96 = .ok (.iload 6, 2) := by decide +kernel
theorem dX0_alignByAnchors_98 : decode cX0_alignByAnchors 98 = .ok (.iconst 1, 1) := by decide +kernel
theorem dX0_alignByAnchors_99 : decode cX0_alignByAnchors 99 = .ok (.iadd, 1) := by decide +kernel
theorem dX0_alignByAnchors_100 : decode cX0_alignByAnchors 100 = .ok (.istore 4, 2) := by decide +kernel
theorem dX0_alignByAnchors_102 : decode cX0_alignByAnchors 102 = .ok (.iload 7, 2) := by decide +kernel
theorem dX0_alignByAnchors_104 : decode cX0_alignByAnchors 104 = .ok (.iconst 1, 1) := by decide +kernel
theorem dX0_alignByAnchors_105 : decode cX0_alignByAnchors 105 = .ok (.iadd, 1) := by decide +kernel
theorem dX0_alignByAnchors_106 : decode cX0_alignByAnchors 106 = .ok (.istore 5, 2) := by decide +kernel
theorem dX0_alignByAnchors_108 : decode cX0_alignByAnchors 108 = .ok (.iinc 3 (-1), 3) := by decide +kernel
theorem dX0_alignByAnchors_111 : decode cX0_alignByAnchors 111 = .ok (.iinc 6 1, 3) := by decide +kernel
theorem dX0_alignByAnchors_114 : decode cX0_alignByAnchors 114 = .ok (.goto (-94), 3) := by decide +kernel
theorem dX0_alignByAnchors_117 : decode cX0_alignByAnchors 117 = .ok (.aload_n 0, 1) := by decide +kernel
theorem dX0_alignByAnchors_118 : decode cX0_alignByAnchors 118 = .ok (.aload_n 1, 1) := by decide +kernel
theorem dX0_alignByAnchors_119 : decode cX0_alignByAnchors 119 = .ok (.iload 4, 2) := by decide +kernel
theorem dX0_alignByAnchors_121 : decode cX0_alignByAnchors 121 = .ok (.aload_n 1, 1) := by decide +kernel
theorem dX0_alignByAnchors_122 : decode cX0_alignByAnchors 122 = .ok (.invokevirtual 53, 3) := by decide +kernel
theorem dX0_alignByAnchors_125 : decode cX0_alignByAnchors 125 = .ok (.aload_n 2, 1) := by decide +kernel
theorem dX0_alignByAnchors_126 : decode cX0_alignByAnchors 126 = .ok (.iload 5, 2) := by decide +kernel
theorem dX0_alignByAnchors_128 : decode cX0_alignByAnchors 128 = .ok (.aload_n 2, 1) := by decide +kernel
theorem dX0_alignByAnchors_129 : decode cX0_alignByAnchors 129 = .ok (.invokevirtual 53, 3) := by decide +kernel
theorem dX0_alignByAnchors_132 : decode cX0_alignByAnchors 132 = .ok (.invokevirtual 63, 3) := by decide +kernel
theorem dX0_alignByAnchors_135 : decode cX0_alignByAnchors 135 = .ok (.return_, 1) := by decide +kernel
theorem dX0_findCandidates_0 : decode cX0_findCandidates 0 = .ok (.aload_n 0, 1) := by decide +kernel
theorem dX0_findCandidates_1 : decode cX0_findCandidates 1 = .ok (.getfield 23, 3) := by decide +kernel
theorem dX0_findCandidates_4 : decode cX0_findCandidates 4 = .ok (.invokevirtual 97, 3) := by decide +kernel
theorem dX0_findCandidates_7 : decode cX0_findCandidates 7 = .ok (.iconst 0, 1) := by decide +kernel
theorem dX0_findCandidates_8 : decode cX0_findCandidates 8 = .ok (.istore_n 3, 1) := by decide +kernel
theorem dX0_findCandidates_9 : decode cX0_findCandidates 9 = .ok (.iload_n 3, 1) := by decide +kernel
theorem dX0_findCandidates_10 : decode cX0_findCandidates 10 = .ok (.aload_n 1, 1) := by decide +kernel
theorem dX0_findCandidates_11 : decode cX0_findCandidates 11 = .ok (.invokevirtual 53, 3) := by decide +kernel
theorem dX0_findCandidates_14 : decode cX0_findCandidates 14 = .ok (.if_icmp .ge 68, 3) := by decide +kernel
theorem dX0_findCandidates_17 : decode cX0_findCandidates 17 = .ok (.aload_n 1, 1) := by decide +kernel
theorem dX0_findCandidates_18 : decode cX0_findCandidates 18 = .ok (.iload_n 3, 1) := by decide +kernel
theorem dX0_findCandidates_19 : decode cX0_findCandidates 19 = .ok (.invokevirtual 49, 3) := by decide +kernel
theorem dX0_findCandidates_22 : decode cX0_findCandidates 22 = .ok (.istore 4, 2) := by decide +kernel
theorem dX0_findCandidates_24 : decode cX0_findCandidates 24 = .ok (.aload_n 1, 1) := by decide +kernel
theorem dX0_findCandidates_25 : decode cX0_findCandidates 25 = .ok (.iload 4, 2) := by decide +kernel
theorem dX0_findCandidates_27 : decode cX0_findCandidates 27 = .ok (.invokevirtual 100, 3) := by decide +kernel
theorem dX0_findCandidates_30 : decode cX0_findCandidates 30 = .ok (.ifCond .eq 16, 3) := by decide +kernel
theorem dX0_findCandidates_33 : decode cX0_findCandidates 33 = .ok (.aload_n 2, 1) := by decide +kernel
theorem dX0_findCandidates_34 : decode cX0_findCandidates 34 = .ok (.iload 4, 2) := by decide +kernel
theorem dX0_findCandidates_36 : decode cX0_findCandidates 36 = .ok (.invokevirtual 100, 3) := by decide +kernel
theorem dX0_findCandidates_39 : decode cX0_findCandidates 39 = .ok (.ifCond .eq 7, 3) := by decide +kernel
theorem dX0_findCandidates_42 : decode cX0_findCandidates 42 = .ok (.iconst 1, 1) := by decide +kernel
theorem dX0_findCandidates_43 : decode cX0_findCandidates 43 = .ok (.goto 4, 3) := by decide +kernel
theorem dX0_findCandidates_46 : decode cX0_findCandidates 46 = .ok (.iconst 0, 1) := by decide +kernel
theorem dX0_findCandidates_47 : decode cX0_findCandidates 47 = .ok (.istore 5, 2) := by decide +kernel
theorem dX0_findCandidates_49 : decode cX0_findCandidates 49 = .ok (.aload_n 0, 1) := by decide +kernel
theorem dX0_findCandidates_50 : decode cX0_findCandidates 50 = .ok (.getfield 23, 3) := by decide +kernel
theorem dX0_findCandidates_53 : decode cX0_findCandidates 53 = .ok (.iload 5, 2) := by decide +kernel
theorem dX0_findCandidates_55 : decode cX0_findCandidates 55 = .ok (.ifCond .eq 17, 3) := by decide +kernel
theorem dX0_findCandidates_58 : decode cX0_findCandidates 58 = .ok (.aload_n 2, 1) := by decide +kernel
theorem dX0_findCandidates_59 : decode cX0_findCandidates 59 = .ok (.iload 4, 2) := by decide +kernel
theorem dX0_findCandidates_61 : decode cX0_findCandidates 61 = .ok (.iconst 0, 1) := by decide +kernel
theorem dX0_findCandidates_62 : decode cX0_findCandidates 62 = .ok (.aload_n 2, 1) := by decide +kernel
theorem dX0_findCandidates_63 : decode cX0_findCandidates 63 = .ok (.invokevirtual 53, 3) := by decide +kernel
theorem dX0_findCandidates_66 : decode cX0_findCandidates 66 = .ok (.invokevirtual 73, 3) := by decide +kernel
theorem dX0_findCandidates_69 : decode cX0_findCandidates 69 = .ok (.goto 4, 3) := by decide +kernel
theorem dX0_findCandidates_72 : decode cX0_findCandidates 72 = .ok (.iconst (-1), 1) := by decide +kernel
theorem dX0_findCandidates_73 : decode cX0_findCandidates 73 = .ok (.invokevirtual 104, 3) := by decide +kernel
theorem dX0_findCandidates_76 : decode cX0_findCandidates 76 = .ok (.iinc 3 1, 3) := by decide +kernel
theorem dX0_findCandidates_79 : decode cX0_findCandidates 79 = .ok (.goto (-70), 3) := by decide +kernel
theorem dX0_findCandidates_82 : decode cX0_findCandidates 82 = .ok (.return_, 1) := by decide +kernel
theorem dX0_measureChains_0 : decode cX0_measureChains 0 = .ok (.iconst 0, 1) := by decide +kernel
theorem dX0_measureChains_1 : decode cX0_measureChains 1 = .ok (.istore_n 1, 1) := by decide +kernel
theorem dX0_measureChains_2 : decode cX0_measureChains 2 = .ok (.aload_n 0, 1) := by decide +kernel
theorem dX0_measureChains_3 : decode cX0_measureChains 3 = .ok (.getfield 26, 3) := by decide +kernel
theorem dX0_measureChains_6 : decode cX0_measureChains 6 = .ok (.iconst 0, 1) := by decide +kernel
theorem dX0_measureChains_7 : decode cX0_measureChains 7 = .ok (.aload_n 0, 1) := by decide +kernel
theorem dX0_measureChains_8 : decode cX0_measureChains 8 = .ok (.getfield 23, 3) := by decide +kernel
theorem dX0_measureChains_11 : decode cX0_measureChains 11 = .ok (.invokevirtual 53, 3) := by decide +kernel
theorem dX0_measureChains_14 : decode cX0_measureChains 14 = .ok (.invokevirtual 56, 3) := by decide +kernel
theorem dX0_measureChains_17 : decode cX0_measureChains 17 = .ok (.aload_n 0, 1) := by decide +kernel
theorem dX0_measureChains_18 : decode cX0_measureChains 18 = .ok (.getfield 23, 3) := by decide +kernel
theorem dX0_measureChains_21 : decode cX0_measureChains 21 = .ok (.invokevirtual 53, 3) := by decide +kernel
theorem dX0_measureChains_24 : decode cX0_measureChains 24 = .ok (.iconst 1, 1) := by decide +kernel
theorem dX0_measureChains_25 : decode cX0_measureChains 25 = .ok (.isub, 1) := by decide +kernel
theorem dX0_measureChains_26 : decode cX0_measureChains 26 = .ok (.istore_n 2, 1) := by decide +kernel
theorem dX0_measureChains_27 : decode cX0_measureChains 27 = .ok (.iload_n 2, 1) := by decide +kernel
theorem dX0_measureChains_28 : decode cX0_measureChains 28 = .ok (.ifCond .lt 99, 3) := by decide +kernel
theorem dX0_measureChains_31 : decode cX0_measureChains 31 = .ok (.iconst 0, 1) := by decide +kernel
theorem dX0_measureChains_32 : decode cX0_measureChains 32 = .ok (.istore_n 3, 1) := by decide +kernel
theorem dX0_measureChains_33 : decode cX0_measureChains 33 = .ok (.iload_n 2, 1) := by decide +kernel
theorem dX0_measureChains_34 : decode cX0_measureChains 34 = .ok (.iconst 1, 1) := by decide +kernel
theorem dX0_measureChains_35 : decode cX0_measureChains 35 = .ok (.iadd, 1) := by decide +kernel
theorem dX0_measureChains_36 : decode cX0_measureChains 36 = .ok (.istore 4, 2) := by decide +kernel
theorem dX0_measureChains_38 : decode cX0_measureChains 38 = .ok (.iload 4, 2) := by decide +kernel
theorem dX0_measureChains_40 : decode cX0_measureChains 40 = .ok (.aload_n 0, 1) := by decide +kernel
theorem dX0_measureChains_41 : decode cX0_measureChains 41 = .ok (.getfield 23, 3) := by decide +kernel
theorem dX0_measureChains_44 : decode cX0_measureChains 44 = .ok (.invokevirtual 53, 3) := by decide +kernel
theorem dX0_measureChains_47 : decode cX0_measureChains 47 = .ok (.if_icmp .ge 43, 3) := by decide +kernel
theorem dX0_measureChains_50 : decode cX0_measureChains 50 = .ok (.aload_n 0, 1) := by decide +kernel
theorem dX0_measureChains_51 : decode cX0_measureChains 51 = .ok (.getfield 23, 3) := by decide +kernel
theorem dX0_measureChains_54 : decode cX0_measureChains 54 = .ok (.iload 4, 2) := by decide +kernel
theorem dX0_measureChains_56 : decode cX0_measureChains 56 = .ok (.invokevirtual 49, 3) := by decide +kernel
theorem dX0_measureChains_59 : decode cX0_measureChains 59 = .ok (.aload_n 0, 1) := by decide +kernel
theorem dX0_measureChains_60 : decode cX0_measureChains 60 = .ok (.getfield 23, 3) := by decide +kernel
theorem dX0_measureChains_63 : decode cX0_measureChains 63 = .ok (.iload_n 2, 1) := by decide +kernel
theorem dX0_measureChains_64 : decode cX0_measureChains 64 = .ok (.invokevirtual 49, 3) := by decide +kernel
theorem dX0_measureChains_67 : decode cX0_measureChains 67 = .ok (.if_icmp .le 17, 3) := by decide +kernel
theorem dX0_measureChains_70 : decode cX0_measureChains 70 = .ok (.iload_n 3, 1) := by decide +kernel
theorem dX0_measureChains_71 : decode cX0_measureChains 71 = .ok (.aload_n 0, 1) := by decide +kernel
theorem dX0_measureChains_72 : decode cX0_measureChains 72 = .ok (.getfield 26, 3) := by decide +kernel
theorem dX0_measureChains_75 : decode cX0_measureChains 75 = .ok (.iload 4, 2) := by decide +kernel
theorem dX0_measureChains_77 : decode cX0_measureChains 77 = .ok (.invokevirtual 49, 3) := by decide +kernel
theorem dX0_measureChains_80 : decode cX0_measureChains 80 = .ok (.invokestatic 83, 3) := by decide +kernel
theorem dX0_measureChains_83 : decode cX0_measureChains 83 = .ok (.istore_n 3, 1) := by decide +kernel
theorem dX0_measureChains_84 : decode cX0_measureChains 84 = .ok (.iinc 4 1, 3) := by decide +kernel
theorem dX0_measureChains_87 : decode cX0_measureChains 87 = .ok (.goto (-49), 3) := by decide +kernel
theorem dX0_measureChains_90 : decode cX0_measureChains 90 = .ok (.aload_n 0, 1) := by decide +kernel
theorem dX0_measureChains_91 : decode cX0_measureChains 91 = .ok (.getfield 23, 3) := by decide +kernel
theorem dX0_measureChains_94 : decode cX0_measureChains 94 = .ok (.iload_n 2, 1) := by decide +kernel
theorem dX0_measureChains_95 : decode cX0_measureChains 95 = .ok (.invokevirtual 49, 3) := by decide +kernel
theorem dX0_measureChains_98 : decode cX0_measureChains 98 = .ok (.iconst (-1), 1) := by decide +kernel
theorem dX0_measureChains_99 : decode cX0_measureChains 99 = .ok (.if_icmp .eq 22, 3) := by decide +kernel
theorem dX0_measureChains_102 : decode cX0_measureChains 102 = .ok (.aload_n 0, 1) := by decide +kernel
theorem dX0_measureChains_103 : decode cX0_measureChains 103 = .ok (.getfield 26, 3) := by decide +kernel
theorem dX0_measureChains_106 : decode cX0_measureChains 106 = .ok (.iload_n 2, 1) := by decide +kernel
theorem dX0_measureChains_107 : decode cX0_measureChains 107 = .ok (.iload_n 3, 1) := by decide +kernel
theorem dX0_measureChains_108 : decode cX0_measureChains 108 = .ok (.iconst 1, 1) := by decide +kernel
theorem dX0_measureChains_109 : decode cX0_measureChains 109 = .ok (.iadd, 1) := by decide +kernel
theorem dX0_measureChains_110 : decode cX0_measureChains 110 = .ok (.invokevirtual 67, 3) := by decide +kernel
theorem dX0_measureChains_113 : decode cX0_measureChains 113 = .ok (.iload_n 1, 1) := by decide +kernel
theorem dX0_measureChains_114 : decode cX0_measureChains 114 = .ok (.iload_n 3, 1) := by decide +kernel
theorem dX0_measureChains_115 : decode cX0_measureChains 115 = .ok (.iconst 1, 1) := by decide +kernel
theorem dX0_measureChains_116 : decode cX0_measureChains 116 = .ok (.iadd, 1) := by decide +kernel
theorem dX0_measureChains_117 : decode cX0_measureChains 117 = .ok (.invokestatic 83, 3) := by decide +kernel
theorem dX0_measureChains_120 : decode cX0_measureChains 120 = .ok (.istore_n 1, 1) := by decide +kernel
theorem dX0_measureChains_121 : decode cX0_measureChains 121 = .ok (.iinc 2 (-1), 3) := by decide +kernel
theorem dX0_measureChains_124 : decode cX0_measureChains 124 = .ok (.goto (-97), 3) := by decide +kernel
theorem dX0_measureChains_127 : decode cX0_measureChains 127 = .ok (.iload_n 1, 1) := by decide +kernel
theorem dX0_measureChains_128 : decode cX0_measureChains 128 = .ok (.ireturn, 1) := by decide +kernel
theorem dX1_init_0 : decode cX1_init 0 = .ok (.aload_n 0, 1) := by decide +kernel
theorem dX1_init_1 : decode cX1_init 1 = .ok (.invokespecial 3, 3) := by decide +kernel
theorem dX1_init_4 : decode cX1_init 4 = .ok (.aload_n 0, 1) := by decide +kernel
theorem dX1_init_5 : decode cX1_init 5 = .ok (.new 9, 3) := by decide +kernel
theorem dX1_init_8 : decode cX1_init 8 = .ok (.dup, 1) := by decide +kernel
theorem dX1_init_9 : decode cX1_init 9 = .ok (.bipush 24, 2) := by decide +kernel
theorem dX1_init_11 : decode cX1_init 11 = .ok (.invokespecial 11, 3) := by decide +kernel
theorem dX1_init_14 : decode cX1_init 14 = .ok (.putfield 14, 3) := by decide +kernel
theorem dX1_init_17 : decode cX1_init 17 = .ok (.aload_n 0, 1) := by decide +kernel
theorem dX1_init_18 : decode cX1_init 18 = .ok (.new 9, 3) := by decide +kernel
theorem dX1_init_21 : decode cX1_init 21 = .ok (.dup, 1) := by decide +kernel
theorem dX1_init_22 : decode cX1_init 22 = .ok (.bipush 24, 2) := by decide +kernel
theorem dX1_init_24 : decode cX1_init 24 = .ok (.invokespecial 11, 3) := by decide +kernel
theorem dX1_init_27 : decode cX1_init 27 = .ok (.putfield 20, 3) := by decide +kernel
theorem dX1_init_30 : decode cX1_init 30 = .ok (.aload_n 0, 1) := by decide +kernel
theorem dX1_init_31 : decode cX1_init 31 = .ok (.new 23, 3) := by decide +kernel
theorem dX1_init_34 : decode cX1_init 34 = .ok (.dup, 1) := by decide +kernel
theorem dX1_init_35 : decode cX1_init 35 = .ok (.invokespecial 25, 3) := by decide +kernel
theorem dX1_init_38 : decode cX1_init 38 = .ok (.putfield 26, 3) := by decide +kernel
theorem dX1_init_41 : decode cX1_init 41 = .ok (.aload_n 0, 1) := by decide +kernel
theorem dX1_init_42 : decode cX1_init 42 = .ok (.new 30, 3) := by decide +kernel
theorem dX1_init_45 : decode cX1_init 45 = .ok (.dup, 1) := by decide +kernel
theorem dX1_init_46 : decode cX1_init 46 = .ok (.bipush 25, 2) := by decide +kernel
theorem dX1_init_48 : decode cX1_init 48 = .ok (.iconst 4, 1) := by decide +kernel
theorem dX1_init_49 : decode cX1_init 49 = .ok (.invokespecial 32, 3) := by decide +kernel
theorem dX1_init_52 : decode cX1_init 52 = .ok (.putfield 35, 3) := by decide +kernel
theorem dX1_init_55 : decode cX1_init 55 = .ok (.aload_n 0, 1) := by decide +kernel
theorem dX1_init_56 : decode cX1_init 56 = .ok (.new 9, 3) := by decide +kernel
theorem dX1_init_59 : decode cX1_init 59 = .ok (.dup, 1) := by decide +kernel
theorem dX1_init_60 : decode cX1_init 60 = .ok (.bipush 48, 2) := by decide +kernel
theorem dX1_init_62 : decode cX1_init 62 = .ok (.invokespecial 11, 3) := by decide +kernel
theorem dX1_init_65 : decode cX1_init 65 = .ok (.putfield 39, 3) := by decide +kernel
theorem dX1_init_68 : decode cX1_init 68 = .ok (.aload_n 0, 1) := by decide +kernel
theorem dX1_init_69 : decode cX1_init 69 = .ok (.new 30, 3) := by decide +kernel
theorem dX1_init_72 : decode cX1_init 72 = .ok (.dup, 1) := by decide +kernel
theorem dX1_init_73 : decode cX1_init 73 = .ok (.bipush 24, 2) := by decide +kernel
theorem dX1_init_75 : decode cX1_init 75 = .ok (.iconst 3, 1) := by decide +kernel
theorem dX1_init_76 : decode cX1_init 76 = .ok (.invokespecial 32, 3) := by decide +kernel
theorem dX1_init_79 : decode cX1_init 79 = .ok (.putfield 42, 3) := by decide +kernel
theorem dX1_init_82 : decode cX1_init 82 = .ok (.aload_n 0, 1) := by decide +kernel
theorem dX1_init_83 : decode cX1_init 83 = .ok (.new 9, 3) := by decide +kernel
theorem dX1_init_86 : decode cX1_init 86 = .ok (.dup, 1) := by decide +kernel
theorem dX1_init_87 : decode cX1_init 87 = .ok (.bipush 24, 2) := by decide +kernel
theorem dX1_init_89 : decode cX1_init 89 = .ok (.invokespecial 11, 3) := by decide +kernel
theorem dX1_init_92 : decode cX1_init 92 = .ok (.putfield 45, 3) := by decide +kernel
theorem dX1_init_95 : decode cX1_init 95 = .ok (.aload_n 0, 1) := by decide +kernel
theorem dX1_init_96 : decode cX1_init 96 = .ok (.new 9, 3) := by decide +kernel
theorem dX1_init_99 : decode cX1_init 99 = .ok (.dup, 1) := by decide +kernel
theorem dX1_init_100 : decode cX1_init 100 = .ok (.bipush 24, 2) := by decide +kernel
theorem dX1_init_102 : decode cX1_init 102 = .ok (.invokespecial 11, 3) := by decide +kernel
theorem dX1_init_105 : decode cX1_init 105 = .ok (.putfield 48, 3) := by decide +kernel
theorem dX1_init_108 : decode cX1_init 108 = .ok (.return_, 1) := by decide +kernel
theorem dX1_exists_0 : decode cX1_exists 0 = .ok (.aload_n 0, 1) := by decide +kernel
theorem dX1_exists_1 : decode cX1_exists 1 = .ok (.getfield 51, 3) := by decide +kernel
theorem dX1_exists_4 : decode cX1_exists 4 = .ok (.ireturn, 1) := by decide +kernel
theorem dX1_first_0 : decode cX1_first 0 = .ok (.aload_n 0, 1) := by decide +kernel
theorem dX1_first_1 : decode cX1_first 1 = .ok (.getfield 14, 3) := by decide +kernel
theorem dX1_first_4 : decode cX1_first 4 = .ok (.areturn, 1) := by decide +kernel
theorem dX1_second_0 : decode cX1_second 0 = .ok (.aload_n 0, 1) := by decide +kernel
theorem dX1_second_1 : decode cX1_second 1 = .ok (.getfield 20, 3) := by decide +kernel
theorem dX1_second_4 : decode cX1_second 4 = .ok (.areturn, 1) := by decide +kernel
theorem dX1_alignment_0 : decode cX1_alignment 0 = .ok (.aload_n 0, 1) := by decide +kernel
theorem dX1_alignment_1 : decode cX1_alignment 1 = .ok (.getfield 26, 3) := by decide +kernel
theorem dX1_alignment_4 : decode cX1_alignment 4 = .ok (.areturn, 1) := by decide +kernel
theorem dX1_parts_0 : decode cX1_parts 0 = .ok (.aload_n 0, 1) := by decide +kernel
theorem dX1_parts_1 : decode cX1_parts 1 = .ok (.getfield 35, 3) := by decide +kernel
theorem dX1_parts_4 : decode cX1_parts 4 = .ok (.areturn, 1) := by decide +kernel
theorem dX1_moved_0 : decode cX1_moved 0 = .ok (.aload_n 0, 1) := by decide +kernel
theorem dX1_moved_1 : decode cX1_moved 1 = .ok (.getfield 42, 3) := by decide +kernel
theorem dX1_moved_4 : decode cX1_moved 4 = .ok (.areturn, 1) := by decide +kernel
theorem dX1_make_0 : decode cX1_make 0 = .ok (.aload_n 0, 1) := by decide +kernel
theorem dX1_make_1 : decode cX1_make 1 = .ok (.getfield 14, 3) := by decide +kernel
theorem dX1_make_4 : decode cX1_make 4 = .ok (.aload_n 1, 1) := by decide +kernel
theorem dX1_make_5 : decode cX1_make 5 = .ok (.invokevirtual 55, 3) := by decide +kernel
theorem dX1_make_8 : decode cX1_make 8 = .ok (.aload_n 0, 1) := by decide +kernel
theorem dX1_make_9 : decode cX1_make 9 = .ok (.getfield 20, 3) := by decide +kernel
theorem dX1_make_12 : decode cX1_make 12 = .ok (.aload_n 2, 1) := by decide +kernel
theorem dX1_make_13 : decode cX1_make 13 = .ok (.invokevirtual 55, 3) := by decide +kernel
theorem dX1_make_16 : decode cX1_make 16 = .ok (.aload_n 0, 1) := by decide +kernel
theorem dX1_make_17 : decode cX1_make 17 = .ok (.getfield 26, 3) := by decide +kernel
theorem dX1_make_20 : decode cX1_make 20 = .ok (.aload_n 0, 1) := by decide +kernel
theorem dX1_make_21 : decode cX1_make 21 = .ok (.getfield 14, 3) := by decide +kernel
theorem dX1_make_24 : decode cX1_make 24 = .ok (.aload_n 0, 1) := by decide +kernel
theorem dX1_make_25 : decode cX1_make 25 = .ok (.getfield 20, 3) := by decide +kernel
theorem dX1_make_28 : decode cX1_make 28 = .ok (.iload_n 3, 1) := by decide +kernel
theorem dX1_make_29 : decode cX1_make 29 = .ok (.invokevirtual 59, 3) := by decide +kernel
theorem dX1_make_32 : decode cX1_make 32 = .ok (.aload_n 0, 1) := by decide +kernel
theorem dX1_make_33 : decode cX1_make 33 = .ok (.getfield 35, 3) := by decide +kernel
theorem dX1_make_36 : decode cX1_make 36 = .ok (.invokevirtual 63, 3) := by decide +kernel
theorem dX1_make_39 : decode cX1_make 39 = .ok (.aload_n 0, 1) := by decide +kernel
theorem dX1_make_40 : decode cX1_make 40 = .ok (.getfield 39, 3) := by decide +kernel
theorem dX1_make_43 : decode cX1_make 43 = .ok (.invokevirtual 66, 3) := by decide +kernel
theorem dX1_make_46 : decode cX1_make 46 = .ok (.aload_n 0, 1) := by decide +kernel
theorem dX1_make_47 : decode cX1_make 47 = .ok (.getfield 42, 3) := by decide +kernel
theorem dX1_make_50 : decode cX1_make 50 = .ok (.invokevirtual 63, 3) := by decide +kernel
theorem dX1_make_53 : decode cX1_make 53 = .ok (.aload_n 0, 1) := by decide +kernel
theorem dX1_make_54 : decode cX1_make 54 = .ok (.invokevirtual 67, 3) := by decide +kernel
theorem dX1_make_57 : decode cX1_make 57 = .ok (.aload_n 0, 1) := by decide +kernel
theorem dX1_make_58 : decode cX1_make 58 = .ok (.iconst 1, 1) := by decide +kernel
theorem dX1_make_59 : decode cX1_make 59 = .ok (.putfield 51, 3) := by decide +kernel
theorem dX1_make_62 : decode cX1_make 62 = .ok (.aload_n 0, 1) := by decide +kernel
theorem dX1_make_63 : decode cX1_make 63 = .ok (.getfield 26, 3) := by decide +kernel
theorem dX1_make_66 : decode cX1_make 66 = .ok (.invokevirtual 70, 3) := by decide +kernel
theorem dX1_make_69 : decode cX1_make 69 = .ok (.ireturn, 1) := by decide +kernel
theorem dX1_collectDifferences_0 : decode cX1_collectDifferences 0 = .ok (.iconst 0, 1) := by decide +kernel
theorem dX1_collectDifferences_1 : decode cX1_collectDifferences 1 = .ok (.istore_n 1, 1) := by decide +kernel
theorem dX1_collectDifferences_2 : decode cX1_collectDifferences 2 = .ok (.iconst 0, 1) := by decide +kernel
theorem dX1_collectDifferences_3 : decode cX1_collectDifferences 3 = .ok (.istore_n 2, 1) := by decide +kernel
theorem dX1_collectDifferences_4 : decode cX1_collectDifferences 4 = .ok (.iconst 0, 1) := by decide +kernel
theorem dX1_collectDifferences_5 : decode cX1_collectDifferences 5 = .ok (.istore_n 3, 1) := by decide +kernel
theorem dX1_collectDifferences_6 : decode cX1_collectDifferences 6 = .ok (.iload_n 3, 1) := by decide +kernel
theorem dX1_collectDifferences_7 : decode cX1_collectDifferences 7 = .ok (.aload_n 0, 1) := by decide +kernel
theorem dX1_collectDifferences_8 : decode cX1_collectDifferences 8 = .ok (.getfield 14, 3) := by decide +kernel
theorem dX1_collectDifferences_11 : decode cX1_collectDifferences 11 = .ok (.invokevirtual 74, 3) := by decide +kernel
theorem dX1_collectDifferences_14 : decode cX1_collectDifferences 14 = .ok (.if_icmp .ge 65, 3) := by decide +kernel
theorem dX1_collectDifferences_17 : decode cX1_collectDifferences 17 = .ok (.aload_n 0, 1) := by decide +kernel
theorem dX1_collectDifferences_18 : decode cX1_collectDifferences 18 = .ok (.getfield 26, 3) := by decide +kernel
theorem dX1_collectDifferences_21 : decode cX1_collectDifferences 21 = .ok (.iload_n 3, 1) := by decide +kernel
theorem dX1_collectDifferences_22 : decode cX1_collectDifferences 22 = .ok (.invokevirtual 77, 3) := by decide +kernel
theorem dX1_collectDifferences_25 : decode cX1_collectDifferences 25 = .ok (.ifCond .eq 48, 3) := by decide +kernel
theorem dX1_collectDifferences_28 : decode cX1_collectDifferences 28 = .ok (.aload_n 0, 1) := by decide +kernel
theorem dX1_collectDifferences_29 : decode cX1_collectDifferences 29 = .ok (.getfield 26, 3) := by decide +kernel
theorem dX1_collectDifferences_32 : decode cX1_collectDifferences 32 = .ok (.iload_n 3, 1) := by decide +kernel
theorem dX1_collectDifferences_33 : decode cX1_collectDifferences 33 = .ok (.invokevirtual 81, 3) := by decide +kernel
theorem dX1_collectDifferences_36 : decode cX1_collectDifferences 36 = .ok (.istore 4, 2) := by decide +kernel
theorem dX1_collectDifferences_38 : decode cX1_collectDifferences 38 = .ok (.aload_n 0, 1) := by decide +kernel
theorem dX1_collectDifferences_39 : decode cX1_collectDifferences 39 = .ok (.iload_n 1, 1) := by decide +kernel
theorem dX1_collectDifferences_40 : decode cX1_collectDifferences 40 = .ok (.iload_n 3, 1) := by decide +kernel
theorem dX1_collectDifferences_41 : decode cX1_collectDifferences 41 = .ok (.iload_n 2, 1) := by decide +kernel
theorem dX1_collectDifferences_42 : decode cX1_collectDifferences 42 = .ok (.iload 4, 2) := by decide +kernel
theorem dX1_collectDifferences_44 : decode cX1_collectDifferences 44 = .ok (.invokevirtual 85, 3) := by decide +kernel
theorem dX1_collectDifferences_47 : decode cX1_collectDifferences 47 = .ok (.aload_n 0, 1) := by decide +kernel
theorem dX1_collectDifferences_48 : decode cX1_collectDifferences 48 = .ok (.getfield 39, 3) := by decide +kernel
theorem dX1_collectDifferences_51 : decode cX1_collectDifferences 51 = .ok (.iconst 0, 1) := by decide +kernel
theorem dX1_collectDifferences_52 : decode cX1_collectDifferences 52 = .ok (.aload_n 0, 1) := by decide +kernel
theorem dX1_collectDifferences_53 : decode cX1_collectDifferences 53 = .ok (.getfield 14, 3) := by decide +kernel
theorem dX1_collectDifferences_56 : decode cX1_collectDifferences 56 = .ok (.iload_n 3, 1) := by decide +kernel
theorem dX1_collectDifferences_57 : decode cX1_collectDifferences 57 = .ok (.invokevirtual 89, 3) := by decide +kernel
theorem dX1_collectDifferences_60 : decode cX1_collectDifferences 60 = .ok (.iadd, 1) := by decide +kernel
theorem dX1_collectDifferences_61 : decode cX1_collectDifferences 61 = .ok (.invokevirtual 92, 3) := by decide +kernel
theorem dX1_collectDifferences_64 : decode cX1_collectDifferences 64 = .ok (.iload_n 3, 1) := by decide +kernel
theorem dX1_collectDifferences_65 : decode cX1_collectDifferences 65 = .ok (.iconst 1, 1) := by decide +kernel
theorem dX1_collectDifferences_66 : decode cX1_collectDifferences 66 = .ok (.iadd, 1) := by decide +kernel
theorem dX1_collectDifferences_67 : decode cX1_collectDifferences 67 = .ok (.istore_n 1, 1) := by decide +kernel
theorem dX1_collectDifferences_68 : decode cX1_collectDifferences 68 = .ok (.iload 4, 2) := by decide +kernel
theorem dX1_collectDifferences_70 : decode cX1_collectDifferences 70 = .ok (.iconst 1, 1) := by decide +kernel
theorem dX1_collectDifferences_71 : decode cX1_collectDifferences 71 = .ok (.iadd, 1) := by decide +kernel
theorem dX1_collectDifferences_72 : decode cX1_collectDifferences 72 = .ok (.istore_n 2, 1) := by decide +kernel
theorem dX1_collectDifferences_73 : decode cX1_collectDifferences 73 = .ok (.iinc 3 1, 3) := by decide +kernel
theorem dX1_collectDifferences_76 : decode cX1_collectDifferences 76 = .ok (.goto (-70), 3) := by decide +kernel
theorem dX1_collectDifferences_79 : decode cX1_collectDifferences 79 = .ok (.aload_n 0, 1) := by decide +kernel
theorem dX1_collectDifferences_80 : decode cX1_collectDifferences 80 = .ok (.iload_n 1, 1) := by decide +kernel
theorem dX1_collectDifferences_81 : decode cX1_collectDifferences 81 = .ok (.aload_n 0, 1) := by decide +kernel
theorem dX1_collectDifferences_82 : decode cX1_collectDifferences 82 = .ok (.getfield 14, 3) := by decide +kernel
theorem dX1_collectDifferences_85 : decode cX1_collectDifferences 85 = .ok (.invokevirtual 74, 3) := by decide +kernel
theorem dX1_collectDifferences_88 : decode cX1_collectDifferences 88 = .ok (.iload_n 2, 1) := by decide +kernel
theorem dX1_collectDifferences_89 : decode cX1_collectDifferences 89 = .ok (.aload_n 0, 1) := by decide +kernel
theorem dX1_collectDifferences_90 : decode cX1_collectDifferences 90 = .ok (.getfield 20, 3) := by decide +kernel
theorem dX1_collectDifferences_93 : decode cX1_collectDifferences 93 = .ok (.invokevirtual 74, 3) := by decide +kernel
theorem dX1_collectDifferences_96 : decode cX1_collectDifferences 96 = .ok (.invokevirtual 85, 3) := by decide +kernel
theorem dX1_collectDifferences_99 : decode cX1_collectDifferences 99 = .ok (.return_, 1) := by decide +kernel
theorem dX1_addDifference_0 : decode cX1_addDifference 0 = .ok (.iload_n 1, 1) := by decide +kernel
theorem dX1_addDifference_1 : decode cX1_addDifference 1 = .ok (.iload_n 2, 1) := by decide +kernel
theorem dX1_addDifference_2 : decode cX1_addDifference 2 = .ok (.if_icmp .ne 10, 3) := by decide +kernel
theorem dX1_addDifference_5 : decode cX1_addDifference 5 = .ok (.iload_n 3, 1) := by decide +kernel
theorem dX1_addDifference_6 : decode cX1_addDifference 6 = .ok (.iload 4, 2) := by decide +kernel
theorem dX1_addDifference_8 : decode cX1_addDifference 8 = .ok (.if_icmp .ne 4, 3) := by decide +kernel
theorem dX1_addDifference_11 : decode cX1_addDifference 11 = .ok (.return_, 1) := by decide +kernel
theorem dX1_addDifference_12 : decode cX1_addDifference 12 = .ok (.aload_n 0, 1) := by decide +kernel
theorem dX1_addDifference_13 : decode cX1_addDifference 13 = .ok (.getfield 35, 3) := by decide +kernel
theorem dX1_addDifference_16 : decode cX1_addDifference 16 = .ok (.invokevirtual 95, 3) := by decide +kernel
theorem dX1_addDifference_19 : decode cX1_addDifference 19 = .ok (.istore 5, 2) := by decide +kernel
theorem dX1_addDifference_21 : decode cX1_addDifference 21 = .ok (.aload_n 0, 1) := by decide +kernel
theorem dX1_addDifference_22 : decode cX1_addDifference 22 = .ok (.getfield 35, 3) := by decide +kernel
theorem dX1_addDifference_25 : decode cX1_addDifference 25 = .ok (.iload 5, 2) := by decide +kernel
theorem dX1_addDifference_27 : decode cX1_addDifference 27 = .ok (.iconst 0, 1) := by decide +kernel
theorem dX1_addDifference_28 : decode cX1_addDifference 28 = .ok (.iload_n 1, 1) := by decide +kernel
theorem dX1_addDifference_29 : decode cX1_addDifference 29 = .ok (.invokevirtual 98, 3) := by decide +kernel
theorem dX1_addDifference_32 : decode cX1_addDifference 32 = .ok (.aload_n 0, 1) := by decide +kernel
theorem dX1_addDifference_33 : decode cX1_addDifference 33 = .ok (.getfield 35, 3) := by decide +kernel
theorem dX1_addDifference_36 : decode cX1_addDifference 36 = .ok (.iload 5, 2) := by decide +kernel
theorem dX1_addDifference_38 : decode cX1_addDifference 38 = .ok (.iconst 1, 1) := by decide +kernel
theorem dX1_addDifference_39 : decode cX1_addDifference 39 = .ok (.iload_n 2, 1) := by decide +kernel
theorem dX1_addDifference_40 : decode cX1_addDifference 40 = .ok (.invokevirtual 98, 3) := by decide +kernel
theorem dX1_addDifference_43 : decode cX1_addDifference 43 = .ok (.aload_n 0, 1) := by decide +kernel
theorem dX1_addDifference_44 : decode cX1_addDifference 44 = .ok (.getfield 35, 3) := by decide +kernel
theorem dX1_addDifference_47 : decode cX1_addDifference 47 = .ok (.iload 5, 2) := by decide +kernel
theorem dX1_addDifference_49 : decode cX1_addDifference 49 = .ok (.iconst 2, 1) := by decide +kernel
theorem dX1_addDifference_50 : decode cX1_addDifference 50 = .ok (.iload_n 3, 1) := by decide +kernel
theorem dX1_addDifference_51 : decode cX1_addDifference 51 = .ok (.invokevirtual 98, 3) := by decide +kernel
theorem dX1_addDifference_54 : decode cX1_addDifference 54 = .ok (.aload_n 0, 1) := by decide +kernel
theorem dX1_addDifference_55 : decode cX1_addDifference 55 = .ok (.getfield 35, 3) := by decide +kernel
theorem dX1_addDifference_58 : decode cX1_addDifference 58 = .ok (.iload 5, 2) := by decide +kernel
theorem dX1_addDifference_60 : decode cX1_addDifference 60 = .ok (.iconst 3, 1) := by decide +kernel
theorem dX1_addDifference_61 : decode cX1_addDifference 61 = .ok (.iload 4, 2) := by decide +kernel
theorem dX1_addDifference_63 : decode cX1_addDifference 63 = .ok (.invokevirtual 98, 3) := by decide +kernel
theorem dX1_addDifference_66 : decode cX1_addDifference 66 = .ok (.iload_n 1, 1) := by decide +kernel
theorem dX1_addDifference_67 : decode cX1_addDifference 67 = .ok (.istore 6, 2) := by decide +kernel
theorem dX1_addDifference_69 : decode cX1_addDifference 69 = .ok (.iload 6, 2) := by decide +kernel
theorem dX1_addDifference_71 : decode cX1_addDifference 71 = .ok (.iload_n 2, 1) := by decide +kernel
theorem dX1_addDifference_72 : decode cX1_addDifference 72 = .ok (.if_icmp .ge 28, 3) := by decide +kernel
theorem dX1_addDifference_75 : decode cX1_addDifference 75 = .ok (.aload_n 0, 1) := by decide +kernel
theorem dX1_addDifference_76 : decode cX1_addDifference 76 = .ok (.getfield 39, 3) := by decide +kernel
theorem dX1_addDifference_79 : decode cX1_addDifference 79 = .ok (.bipush 100, 2) := by decide +kernel
theorem dX1_addDifference_81 : decode cX1_addDifference 81 = .ok (.aload_n 0, 1) := by decide +kernel
theorem dX1_addDifference_82 : decode cX1_addDifference 82 = .ok (.getfield 14, 3) := by decide +kernel
theorem dX1_addDifference_85 : decode cX1_addDifference 85 = .ok (.iload 6, 2) := by decide +kernel
theorem dX1_addDifference_87 : decode cX1_addDifference 87 = .ok (.invokevirtual 89, 3) := by decide +kernel
theorem dX1_addDifference_90 : decode cX1_addDifference 90 = .ok (.iadd, 1) := by decide +kernel
theorem dX1_addDifference_91 : decode cX1_addDifference 91 = .ok (.invokevirtual 92, 3) := by decide +kernel
theorem dX1_addDifference_94 : decode cX1_addDifference 94 = .ok (.iinc 6 1, 3) := by decide +kernel
theorem dX1_addDifference_97 : decode cX1_addDifference 97 = .ok (.goto (-28), 3) := by decide +kernel
theorem dX1_addDifference_100 : decode cX1_addDifference 100 = .ok (.iload_n 3, 1) := by decide +kernel
theorem dX1_addDifference_101 : decode cX1_addDifference 101 = .ok (.istore 6, 2) := by decide +kernel
theorem dX1_addDifference_103 : decode cX1_addDifference 103 = .ok (.iload 6, 2) := by decide +kernel
theorem dX1_addDifference_105 : decode cX1_addDifference 105 = .ok (.iload 4, 2) := by decide +kernel
theorem dX1_addDifference_107 : decode cX1_addDifference 107 = .ok (.if_icmp .ge 29, 3) := by decide +kernel
theorem dX1_addDifference_110 : decode cX1_addDifference 110 = .ok (.aload_n 0, 1) := by decide +kernel
theorem dX1_addDifference_111 : decode cX1_addDifference 111 = .ok (.getfield 39, 3) := by decide +kernel
theorem dX1_addDifference_114 : decode cX1_addDifference 114 = .ok (.sipush 200, 3) := by decide +kernel
theorem dX1_addDifference_117 : decode cX1_addDifference 117 = .ok (.aload_n 0, 1) := by decide +kernel
theorem dX1_addDifference_118 : decode cX1_addDifference 118 = .ok (.getfield 20, 3) := by decide +kernel
theorem dX1_addDifference_121 : decode cX1_addDifference 121 = .ok (.iload 6, 2) := by decide +kernel
theorem dX1_addDifference_123 : decode cX1_addDifference 123 = .ok (.invokevirtual 89, 3) := by decide +kernel
theorem dX1_addDifference_126 : decode cX1_addDifference 126 = .ok (.iadd, 1) := by decide +kernel
theorem dX1_addDifference_127 : decode cX1_addDifference 127 = .ok (.invokevirtual 92, 3) := by decide +kernel
theorem dX1_addDifference_130 : decode cX1_addDifference 130 = .ok (.iinc 6 1, 3) := by decide +kernel
theorem dX1_addDifference_133 : decode cX1_addDifference 133 = .ok (.goto (-30), 3) := by decide +kernel
theorem dX1_addDifference_136 : decode cX1_addDifference 136 = .ok (.return_, 1) := by decide +kernel
theorem dX1_searchMoves_0 : decode cX1_searchMoves 0 = .ok (.aload_n 0, 1) := by decide +kernel
theorem dX1_searchMoves_1 : decode cX1_searchMoves 1 = .ok (.getfield 42, 3) := by decide +kernel
theorem dX1_searchMoves_4 : decode cX1_searchMoves 4 = .ok (.invokevirtual 63, 3) := by decide +kernel
theorem dX1_searchMoves_7 : decode cX1_searchMoves 7 = .ok (.aload_n 0, 1) := by decide +kernel
theorem dX1_searchMoves_8 : decode cX1_searchMoves 8 = .ok (.invokevirtual 102, 3) := by decide +kernel
theorem dX1_searchMoves_11 : decode cX1_searchMoves 11 = .ok (.iconst 1, 1) := by decide +kernel
theorem dX1_searchMoves_12 : decode cX1_searchMoves 12 = .ok (.istore_n 2, 1) := by decide +kernel
theorem dX1_searchMoves_13 : decode cX1_searchMoves 13 = .ok (.iconst 0, 1) := by decide +kernel
theorem dX1_searchMoves_14 : decode cX1_searchMoves 14 = .ok (.istore_n 3, 1) := by decide +kernel
theorem dX1_searchMoves_15 : decode cX1_searchMoves 15 = .ok (.iload_n 2, 1) := by decide +kernel
theorem dX1_searchMoves_16 : decode cX1_searchMoves 16 = .ok (.ifCond .eq 21, 3) := by decide +kernel
theorem dX1_searchMoves_19 : decode cX1_searchMoves 19 = .ok (.iload_n 3, 1) := by decide +kernel
theorem dX1_searchMoves_20 : decode cX1_searchMoves 20 = .ok (.bipush 24, 2) := by decide +kernel
theorem dX1_searchMoves_22 : decode cX1_searchMoves 22 = .ok (.if_icmp .ge 15, 3) := by decide +kernel
theorem dX1_searchMoves_25 : decode cX1_searchMoves 25 = .ok (.aload_n 0, 1) := by decide +kernel
theorem dX1_searchMoves_26 : decode cX1_searchMoves 26 = .ok (.iload_n 1, 1) := by decide +kernel
theorem dX1_searchMoves_27 : decode cX1_searchMoves 27 = .ok (.invokevirtual 105, 3) := by decide +kernel
theorem dX1_searchMoves_30 : decode cX1_searchMoves 30 = .ok (.istore_n 2, 1) := by decide +kernel
theorem dX1_searchMoves_31 : decode cX1_searchMoves 31 = .ok (.iinc 3 1, 3) := by decide +kernel
theorem dX1_searchMoves_34 : decode cX1_searchMoves 34 = .ok (.goto (-19), 3) := by decide +kernel
theorem dX1_searchMoves_37 : decode cX1_searchMoves 37 = .ok (.aload_n 0, 1) := by decide +kernel
theorem dX1_searchMoves_38 : decode cX1_searchMoves 38 = .ok (.getfield 42, 3) := by decide +kernel
theorem dX1_searchMoves_41 : decode cX1_searchMoves 41 = .ok (.invokevirtual 108, 3) := by decide +kernel
theorem dX1_searchMoves_44 : decode cX1_searchMoves 44 = .ok (.ireturn, 1) := by decide +kernel
theorem dX1_freeAllButKept_0 : decode cX1_freeAllButKept 0 = .ok (.aload_n 0, 1) := by decide +kernel
theorem dX1_freeAllButKept_1 : decode cX1_freeAllButKept 1 = .ok (.getfield 45, 3) := by decide +kernel
theorem dX1_freeAllButKept_4 : decode cX1_freeAllButKept 4 = .ok (.invokevirtual 66, 3) := by decide +kernel
theorem dX1_freeAllButKept_7 : decode cX1_freeAllButKept 7 = .ok (.iconst 0, 1) := by decide +kernel
theorem dX1_freeAllButKept_8 : decode cX1_freeAllButKept 8 = .ok (.istore_n 1, 1) := by decide +kernel
theorem dX1_freeAllButKept_9 : decode cX1_freeAllButKept 9 = .ok (.iload_n 1, 1) := by decide +kernel
theorem dX1_freeAllButKept_10 : decode cX1_freeAllButKept 10 = .ok (.aload_n 0, 1) := by decide +kernel
theorem dX1_freeAllButKept_11 : decode cX1_freeAllButKept 11 = .ok (.getfield 14, 3) := by decide +kernel
theorem dX1_freeAllButKept_14 : decode cX1_freeAllButKept 14 = .ok (.invokevirtual 74, 3) := by decide +kernel
theorem dX1_freeAllButKept_17 : decode cX1_freeAllButKept 17 = .ok (.if_icmp .ge 32, 3) := by decide +kernel
theorem dX1_freeAllButKept_20 : decode cX1_freeAllButKept 20 = .ok (.aload_n 0, 1) := by decide +kernel
theorem dX1_freeAllButKept_21 : decode cX1_freeAllButKept 21 = .ok (.getfield 45, 3) := by decide +kernel
theorem dX1_freeAllButKept_24 : decode cX1_freeAllButKept 24 = .ok (.aload_n 0, 1) := by decide +kernel
theorem dX1_freeAllButKept_25 : decode cX1_freeAllButKept 25 = .ok (.getfield 26, 3) := by decide +kernel
theorem dX1_freeAllButKept_28 : decode cX1_freeAllButKept 28 = .ok (.iload_n 1, 1) := by decide +kernel
theorem dX1_freeAllButKept_29 : decode cX1_freeAllButKept 29 = .ok (.invokevirtual 77, 3) := by decide +kernel
theorem dX1_freeAllButKept_32 : decode cX1_freeAllButKept 32 = .ok (.ifCond .eq 7, 3) := by decide +kernel
theorem dX1_freeAllButKept_35 : decode cX1_freeAllButKept 35 = .ok (.iconst 0, 1) := by decide +kernel
theorem dX1_freeAllButKept_36 : decode cX1_freeAllButKept 36 = .ok (.goto 4, 3) := by decide +kernel
theorem dX1_freeAllButKept_39 : decode cX1_freeAllButKept 39 = .ok (.iconst 1, 1) := by decide +kernel
theorem dX1_freeAllButKept_40 : decode cX1_freeAllButKept 40 = .ok (.invokevirtual 92, 3) := by decide +kernel
theorem dX1_freeAllButKept_43 : decode cX1_freeAllButKept 43 = .ok (.iinc 1 1, 3) := by decide +kernel
theorem dX1_freeAllButKept_46 : decode cX1_freeAllButKept 46 = .ok (.goto (-37), 3) := by decide +kernel
theorem dX1_freeAllButKept_49 : decode cX1_freeAllButKept 49 = .ok (.aload_n 0, 1) := by decide +kernel
theorem dX1_freeAllButKept_50 : decode cX1_freeAllButKept 50 = .ok (.getfield 48, 3) := by decide +kernel
theorem dX1_freeAllButKept_53 : decode cX1_freeAllButKept 53 = .ok (.invokevirtual 66, 3) := by decide +kernel
theorem dX1_freeAllButKept_56 : decode cX1_freeAllButKept 56 = .ok (.iconst 0, 1) := by decide +kernel
theorem dX1_freeAllButKept_57 : decode cX1_freeAllButKept 57 = .ok (.istore_n 1, 1) := by decide +kernel
theorem dX1_freeAllButKept_58 : decode cX1_freeAllButKept 58 = .ok (.iload_n 1, 1) := by decide +kernel
theorem dX1_freeAllButKept_59 : decode cX1_freeAllButKept 59 = .ok (.aload_n 0, 1) := by decide +kernel
theorem dX1_freeAllButKept_60 : decode cX1_freeAllButKept 60 = .ok (.getfield 20, 3) := by decide +kernel
theorem dX1_freeAllButKept_63 : decode cX1_freeAllButKept 63 = .ok (.invokevirtual 74, 3) := by decide +kernel
theorem dX1_freeAllButKept_66 : decode cX1_freeAllButKept 66 = .ok (.if_icmp .ge 32, 3) := by decide +kernel
theorem dX1_freeAllButKept_69 : decode cX1_freeAllButKept 69 = .ok (.aload_n 0, 1) := by decide +kernel
theorem dX1_freeAllButKept_70 : decode cX1_freeAllButKept 70 = .ok (.getfield 48, 3) := by decide +kernel
theorem dX1_freeAllButKept_73 : decode cX1_freeAllButKept 73 = .ok (.aload_n 0, 1) := by decide +kernel
theorem dX1_freeAllButKept_74 : decode cX1_freeAllButKept 74 = .ok (.getfield 26, 3) := by decide +kernel
theorem dX1_freeAllButKept_77 : decode cX1_freeAllButKept 77 = .ok (.iload_n 1, 1) := by decide +kernel
theorem dX1_freeAllButKept_78 : decode cX1_freeAllButKept 78 = .ok (.invokevirtual 111, 3) := by decide +kernel
theorem dX1_freeAllButKept_81 : decode cX1_freeAllButKept 81 = .ok (.ifCond .eq 7, 3) := by decide +kernel
theorem dX1_freeAllButKept_84 : decode cX1_freeAllButKept 84 = .ok (.iconst 0, 1) := by decide +kernel
theorem dX1_freeAllButKept_85 : decode cX1_freeAllButKept 85 = .ok (.goto 4, 3) := by decide +kernel
theorem dX1_freeAllButKept_88 : decode cX1_freeAllButKept 88 = .ok (.iconst 1, 1) := by decide +kernel
theorem dX1_freeAllButKept_89 : decode cX1_freeAllButKept 89 = .ok (.invokevirtual 92, 3) := by decide +kernel
theorem dX1_freeAllButKept_92 : decode cX1_freeAllButKept 92 = .ok (.iinc 1 1, 3) := by decide +kernel
theorem dX1_freeAllButKept_95 : decode cX1_freeAllButKept 95 = .ok (.goto (-37), 3) := by decide +kernel
theorem dX1_freeAllButKept_98 : decode cX1_freeAllButKept 98 = .ok (.return_, 1) := by decide +kernel
theorem dX1_addLongestMove_0 : decode cX1_addLongestMove 0 = .ok (.iload_n 1, 1) := by decide +kernel
theorem dX1_addLongestMove_1 : decode cX1_addLongestMove 1 = .ok (.iconst 1, 1) := by decide +kernel
theorem dX1_addLongestMove_2 : decode cX1_addLongestMove 2 = .ok (.isub, 1) := by decide +kernel
theorem dX1_addLongestMove_3 : decode cX1_addLongestMove 3 = .ok (.istore_n 2, 1) := by decide +kernel
theorem dX1_addLongestMove_4 : decode cX1_addLongestMove 4 = .ok (.iconst (-1), 1) := by decide +kernel
theorem dX1_addLongestMove_5 : decode cX1_addLongestMove 5 = .ok (.istore_n 3, 1) := by decide +kernel
theorem dX1_addLongestMove_6 : decode cX1_addLongestMove 6 = .ok (.iconst (-1), 1) := by decide +kernel
theorem dX1_addLongestMove_7 : decode cX1_addLongestMove 7 = .ok (.istore 4, 2) := by decide +kernel
theorem dX1_addLongestMove_9 : decode cX1_addLongestMove 9 = .ok (.iconst 0, 1) := by decide +kernel
theorem dX1_addLongestMove_10 : decode cX1_addLongestMove 10 = .ok (.istore 5, 2) := by decide +kernel
theorem dX1_addLongestMove_12 : decode cX1_addLongestMove 12 = .ok (.iload 5, 2) := by decide +kernel
theorem dX1_addLongestMove_14 : decode cX1_addLongestMove 14 = .ok (.aload_n 0, 1) := by decide +kernel
theorem dX1_addLongestMove_15 : decode cX1_addLongestMove 15 = .ok (.getfield 14, 3) := by decide +kernel
theorem dX1_addLongestMove_18 : decode cX1_addLongestMove 18 = .ok (.invokevirtual 74, 3) := by decide +kernel
theorem dX1_addLongestMove_21 : decode cX1_addLongestMove 21 = .ok (.if_icmp .ge 56, 3) := by decide +kernel
theorem dX1_addLongestMove_24 : decode cX1_addLongestMove 24 = .ok (.iconst 0, 1) := by decide +kernel
theorem dX1_addLongestMove_25 : decode cX1_addLongestMove 25 = .ok (.istore 6, 2) := by decide +kernel
theorem dX1_addLongestMove_27 : decode cX1_addLongestMove 27 = .ok (.iload 6, 2) := by decide +kernel
theorem dX1_addLongestMove_29 : decode cX1_addLongestMove 29 = .ok (.aload_n 0, 1) := by decide +kernel
theorem dX1_addLongestMove_30 : decode cX1_addLongestMove 30 = .ok (.getfield 20, 3) := by decide +kernel
theorem dX1_addLongestMove_33 : decode cX1_addLongestMove 33 = .ok (.invokevirtual 74, 3) := by decide +kernel
theorem dX1_addLongestMove_36 : decode cX1_addLongestMove 36 = .ok (.if_icmp .ge 35, 3) := by decide +kernel
theorem dX1_addLongestMove_39 : decode cX1_addLongestMove 39 = .ok (.aload_n 0, 1) := by decide +kernel
theorem dX1_addLongestMove_40 : decode cX1_addLongestMove 40 = .ok (.iload 5, 2) := by decide +kernel
theorem dX1_addLongestMove_42 : decode cX1_addLongestMove 42 = .ok (.iload 6, 2) := by decide +kernel
theorem dX1_addLongestMove_44 : decode cX1_addLongestMove 44 = .ok (.invokevirtual 114, 3) := by decide +kernel
theorem dX1_addLongestMove_47 : decode cX1_addLongestMove 47 = .ok (.istore 7, 2) := by decide +kernel
theorem dX1_addLongestMove_49 : decode cX1_addLongestMove 49 = .ok (.iload 7, 2) := by decide +kernel
theorem dX1_addLongestMove_51 : decode cX1_addLongestMove 51 = .ok (.iload_n 2, 1) := by decide +kernel
theorem dX1_addLongestMove_52 : decode cX1_addLongestMove 52 = .ok (.if_icmp .le 13, 3) := by decide +kernel
theorem dX1_addLongestMove_55 : decode cX1_addLongestMove 55 = .ok (.iload 7, 2) := by decide +kernel
theorem dX1_addLongestMove_57 : decode cX1_addLongestMove 57 = .ok (.istore_n 2, 1) := by decide +kernel
theorem dX1_addLongestMove_58 : decode cX1_addLongestMove 58 = .ok (.iload 5, 2) := by decide +kernel
theorem dX1_addLongestMove_60 : decode cX1_addLongestMove 60 = .ok (.istore_n 3, 1) := by decide +kernel
theorem dX1_addLongestMove_61 : decode cX1_addLongestMove 61 = .ok (.iload 6, 2) := by decide +kernel
theorem dX1_addLongestMove_63 : decode cX1_addLongestMove 63 = .ok (.istore 4, 2) := by decide +kernel
theorem dX1_addLongestMove_65 : decode cX1_addLongestMove 65 = .ok (.iinc 6 1, 3) := by decide +kernel
theorem dX1_addLongestMove_68 : decode cX1_addLongestMove 68 = .ok (.goto (-41), 3) := by decide +kernel
theorem dX1_addLongestMove_71 : decode cX1_addLongestMove 71 = .ok (.iinc 5 1, 3) := by decide +kernel
theorem dX1_addLongestMove_74 : decode cX1_addLongestMove 74 = .ok (.goto (-62), 3) := by decide +kernel
theorem dX1_addLongestMove_77 : decode cX1_addLongestMove 77 = .ok (.iload_n 3, 1) := by decide +kernel
theorem dX1_addLongestMove_78 : decode cX1_addLongestMove 78 = .ok (.iconst (-1), 1) := by decide +kernel
theorem dX1_addLongestMove_79 : decode cX1_addLongestMove 79 = .ok (.if_icmp .ne 5, 3) := by decide +kernel
theorem dX1_addLongestMove_82 : decode cX1_addLongestMove 82 = .ok (.iconst 0, 1) := by decide +kernel
theorem dX1_addLongestMove_83 : decode cX1_addLongestMove 83 = .ok (.ireturn, 1) := by decide +kernel
theorem dX1_addLongestMove_84 : decode cX1_addLongestMove 84 = .ok (.aload_n 0, 1) := by decide +kernel
theorem dX1_addLongestMove_85 : decode cX1_addLongestMove 85 = .ok (.iload_n 3, 1) := by decide +kernel
theorem dX1_addLongestMove_86 : decode cX1_addLongestMove 86 = .ok (.iload 4, 2) := by decide +kernel
theorem dX1_addLongestMove_88 : decode cX1_addLongestMove 88 = .ok (.iload_n 2, 1) := by decide +kernel
theorem dX1_addLongestMove_89 : decode cX1_addLongestMove 89 = .ok (.invokevirtual 118, 3) := by decide +kernel
theorem dX1_addLongestMove_92 : decode cX1_addLongestMove 92 = .ok (.iconst 1, 1) := by decide +kernel
theorem dX1_addLongestMove_93 : decode cX1_addLongestMove 93 = .ok (.ireturn, 1) := by decide +kernel
theorem dX1_runLength_0 : decode cX1_runLength 0 = .ok (.iconst 0, 1) := by decide +kernel
theorem dX1_runLength_1 : decode cX1_runLength 1 = .ok (.istore_n 3, 1) := by decide +kernel
theorem dX1_runLength_2 : decode cX1_runLength 2 = .ok (.iload_n 3, 1) := by decide +kernel
theorem dX1_runLength_3 : decode cX1_runLength 3 = .ok (.bipush 24, 2) := by decide +kernel
theorem dX1_runLength_5 : decode cX1_runLength 5 = .ok (.if_icmp .ge 22, 3) := by decide +kernel
theorem dX1_runLength_8 : decode cX1_runLength 8 = .ok (.aload_n 0, 1) := by decide +kernel
theorem dX1_runLength_9 : decode cX1_runLength 9 = .ok (.iload_n 1, 1) := by decide +kernel
theorem dX1_runLength_10 : decode cX1_runLength 10 = .ok (.iload_n 3, 1) := by decide +kernel
theorem dX1_runLength_11 : decode cX1_runLength 11 = .ok (.iadd, 1) := by decide +kernel
theorem dX1_runLength_12 : decode cX1_runLength 12 = .ok (.iload_n 2, 1) := by decide +kernel
theorem dX1_runLength_13 : decode cX1_runLength 13 = .ok (.iload_n 3, 1) := by decide +kernel
theorem dX1_runLength_14 : decode cX1_runLength 14 = .ok (.iadd, 1) := by decide +kernel
theorem dX1_runLength_15 : decode cX1_runLength 15 = .ok (.invokevirtual 121, 3) := by decide +kernel
theorem dX1_runLength_18 : decode cX1_runLength 18 = .ok (.ifCond .eq 9, 3) := by decide +kernel
theorem dX1_runLength_21 : decode cX1_runLength 21 = .ok (.iinc 3 1, 3) := by decide +kernel
theorem dX1_runLength_24 : decode cX1_runLength 24 = .ok (.goto (-22), 3) := by decide +kernel
theorem dX1_runLength_27 : decode cX1_runLength 27 = .ok (.iload_n 3, 1) := by decide +kernel
theorem dX1_runLength_28 : decode cX1_runLength 28 = .ok (.ireturn, 1) := by decide +kernel
theorem dX1_isMovable_0 : decode cX1_isMovable 0 = .ok (.aload_n 0, 1) := by decide +kernel
theorem dX1_isMovable_1 : decode cX1_isMovable 1 = .ok (.getfield 45, 3) := by decide +kernel
theorem dX1_isMovable_4 : decode cX1_isMovable 4 = .ok (.iload_n 1, 1) := by decide +kernel
theorem dX1_isMovable_5 : decode cX1_isMovable 5 = .ok (.invokevirtual 89, 3) := by decide +kernel
theorem dX1_isMovable_8 : decode cX1_isMovable 8 = .ok (.iconst 1, 1) := by decide +kernel
theorem dX1_isMovable_9 : decode cX1_isMovable 9 = .ok (.if_icmp .ne 38, 3) := by decide +kernel
theorem dX1_isMovable_12 : decode cX1_isMovable 12 = .ok (.aload_n 0, 1) := by decide +kernel
theorem dX1_isMovable_13 : decode cX1_isMovable 13 = .ok (.getfield 48, 3) := by decide +kernel
theorem dX1_isMovable_16 : decode cX1_isMovable 16 = .ok (.iload_n 2, 1) := by decide +kernel
theorem dX1_isMovable_17 : decode cX1_isMovable 17 = .ok (.invokevirtual 89, 3) := by decide +kernel
theorem dX1_isMovable_20 : decode cX1_isMovable 20 = .ok (.iconst 1, 1) := by decide +kernel
theorem dX1_isMovable_21 : decode cX1_isMovable 21 = .ok (.if_icmp .ne 26, 3) := by decide +kernel
theorem dX1_isMovable_24 : decode cX1_isMovable 24 = .ok (.aload_n 0, 1) := by decide +kernel
theorem dX1_isMovable_25 : decode cX1_isMovable 25 = .ok (.getfield 14, 3) := by decide +kernel
theorem dX1_isMovable_28 : decode cX1_isMovable 28 = .ok (.iload_n 1, 1) := by decide +kernel
theorem dX1_isMovable_29 : decode cX1_isMovable 29 = .ok (.invokevirtual 89, 3) := by decide +kernel
theorem dX1_isMovable_32 : decode cX1_isMovable 32 = .ok (.aload_n 0, 1) := by decide +kernel
theorem dX1_isMovable_33 : decode cX1_isMovable 33 = .ok (.getfield 20, 3) := by decide +kernel
theorem dX1_isMovable_36 : decode cX1_isMovable 36 = .ok (.iload_n 2, 1) := by decide +kernel
theorem dX1_isMovable_37 : decode cX1_isMovable 37 = .ok (.invokevirtual 89, 3) := by decide +kernel
theorem dX1_isMovable_40 : decode cX1_isMovable 40 = .ok (.if_icmp .ne 7, 3) := by decide +kernel
theorem dX1_isMovable_43 : decode cX1_isMovable 43 = .ok (.iconst 1, 1) := by decide +kernel
theorem dX1_isMovable_44 : decode cX1_isMovable 44 = .ok (.goto 4, 3) := by decide +kernel
theorem dX1_isMovable_47 : decode cX1_isMovable 47 = .ok (.iconst 0, 1) := by decide +kernel
theorem dX1_isMovable_48 : decode cX1_isMovable 48 = .ok (.ireturn, 1) := by decide +kernel
theorem dX1_addMove_0 : decode cX1_addMove 0 = .ok (.aload_n 0, 1) := by decide +kernel
theorem dX1_addMove_1 : decode cX1_addMove 1 = .ok (.getfield 42, 3) := by decide +kernel
theorem dX1_addMove_4 : decode cX1_addMove 4 = .ok (.invokevirtual 95, 3) := by decide +kernel
theorem dX1_addMove_7 : decode cX1_addMove 7 = .ok (.istore 4, 2) := by decide +kernel
theorem dX1_addMove_9 : decode cX1_addMove 9 = .ok (.aload_n 0, 1) := by decide +kernel
theorem dX1_addMove_10 : decode cX1_addMove 10 = .ok (.getfield 42, 3) := by decide +kernel
theorem dX1_addMove_13 : decode cX1_addMove 13 = .ok (.iload 4, 2) := by decide +kernel
theorem dX1_addMove_15 : decode cX1_addMove 15 = .ok (.iconst 0, 1) := by decide +kernel
theorem dX1_addMove_16 : decode cX1_addMove 16 = .ok (.iload_n 1, 1) := by decide +kernel
theorem dX1_addMove_17 : decode cX1_addMove 17 = .ok (.invokevirtual 98, 3) := by decide +kernel
theorem dX1_addMove_20 : decode cX1_addMove 20 = .ok (.aload_n 0, 1) := by decide +kernel
theorem dX1_addMove_21 : decode cX1_addMove 21 = .ok (.getfield 42, 3) := by decide +kernel
theorem dX1_addMove_24 : decode cX1_addMove 24 = .ok (.iload 4, 2) := by decide +kernel
theorem dX1_addMove_26 : decode cX1_addMove 26 = .ok (.iconst 1, 1) := by decide +kernel
theorem dX1_addMove_27 : decode cX1_addMove 27 = .ok (.iload_n 2, 1) := by decide +kernel
theorem dX1_addMove_28 : decode cX1_addMove 28 = .ok (.invokevirtual 98, 3) := by decide +kernel
theorem dX1_addMove_31 : decode cX1_addMove 31 = .ok (.aload_n 0, 1) := by decide +kernel
theorem dX1_addMove_32 : decode cX1_addMove 32 = .ok (.getfield 42, 3) := by decide +kernel
theorem dX1_addMove_35 : decode cX1_addMove 35 = .ok (.iload 4, 2) := by decide +kernel
theorem dX1_addMove_37 : decode cX1_addMove 37 = .ok (.iconst 2, 1) := by decide +kernel
theorem dX1_addMove_38 : decode cX1_addMove 38 = .ok (.iload_n 3, 1) := by decide +kernel
theorem dX1_addMove_39 : decode cX1_addMove 39 = .ok (.invokevirtual 98, 3) := by decide +kernel
theorem dX1_addMove_42 : decode cX1_addMove 42 = .ok (.iconst 0, 1) := by decide +kernel
theorem dX1_addMove_43 : decode cX1_addMove 43 = .ok (.istore 5, 2) := by decide +kernel
theorem dX1_addMove_45 : decode cX1_addMove 45 = .ok (.iload 5, 2) := by decide +kernel
theorem dX1_addMove_47 : decode cX1_addMove 47 = .ok (.iload_n 3, 1) := by decide +kernel
theorem dX1_addMove_48 : decode cX1_addMove 48 = .ok (.if_icmp .ge 33, 3) := by decide +kernel
theorem dX1_addMove_51 : decode cX1_addMove 51 = .ok (.aload_n 0, 1) := by decide +kernel
theorem dX1_addMove_52 : decode cX1_addMove 52 = .ok (.getfield 45, 3) := by decide +kernel
theorem dX1_addMove_55 : decode cX1_addMove 55 = .ok (.iload_n 1, 1) := by decide +kernel
theorem dX1_addMove_56 : decode cX1_addMove 56 = .ok (.iload 5, 2) := by decide +kernel
theorem dX1_addMove_58 : decode cX1_addMove 58 = .ok (.iadd, 1) := by decide +kernel
theorem dX1_addMove_59 : decode cX1_addMove 59 = .ok (.iconst 0, 1) := by decide +kernel
theorem dX1_addMove_60 : decode cX1_addMove 60 = .ok (.invokevirtual 125, 3) := by decide +kernel
theorem dX1_addMove_63 : decode cX1_addMove 63 = .ok (.aload_n 0, 1) := by decide +kernel
theorem dX1_addMove_64 : decode cX1_addMove 64 = .ok (.getfield 48, 3) := by decide +kernel
theorem dX1_addMove_67 : decode cX1_addMove 67 = .ok (.iload_n 2, 1) := by decide +kernel
theorem dX1_addMove_68 : decode cX1_addMove 68 = .ok (.iload 5, 2) := by decide +kernel
theorem dX1_addMove_70 : decode cX1_addMove 70 = .ok (.iadd, 1) := by decide +kernel
theorem dX1_addMove_71 : decode cX1_addMove 71 = .ok (.iconst 0, 1) := by decide +kernel
theorem dX1_addMove_72 : decode cX1_addMove 72 = .ok (.invokevirtual 125, 3) := by decide +kernel
theorem dX1_addMove_75 : decode cX1_addMove 75 = .ok (.iinc 5 1, 3) := by decide +kernel
theorem dX1_addMove_78 : decode cX1_addMove 78 = .ok (.goto (-33), 3) := by decide +kernel
theorem dX1_addMove_81 : decode cX1_addMove 81 = .ok (.return_, 1) := by decide +kernel
theorem dX2_init_0 : decode cX2_init 0 = .ok (.aload_n 0, 1) := by decide +kernel
theorem dX2_init_1 : decode cX2_init 1 = .ok (.invokespecial 3, 3) := by decide +kernel
theorem dX2_init_4 : decode cX2_init 4 = .ok (.aload_n 0, 1) := by decide +kernel
theorem dX2_init_5 : decode cX2_init 5 = .ok (.new 9, 3) := by decide +kernel
theorem dX2_init_8 : decode cX2_init 8 = .ok (.dup, 1) := by decide +kernel
theorem dX2_init_9 : decode cX2_init 9 = .ok (.bipush 8, 2) := by decide +kernel
theorem dX2_init_11 : decode cX2_init 11 = .ok (.invokespecial 11, 3) := by decide +kernel
theorem dX2_init_14 : decode cX2_init 14 = .ok (.putfield 14, 3) := by decide +kernel
theorem dX2_init_17 : decode cX2_init 17 = .ok (.aload_n 0, 1) := by decide +kernel
theorem dX2_init_18 : decode cX2_init 18 = .ok (.new 20, 3) := by decide +kernel
theorem dX2_init_21 : decode cX2_init 21 = .ok (.dup, 1) := by decide +kernel
theorem dX2_init_22 : decode cX2_init 22 = .ok (.bipush 8, 2) := by decide +kernel
theorem dX2_init_24 : decode cX2_init 24 = .ok (.invokespecial 22, 3) := by decide +kernel
theorem dX2_init_27 : decode cX2_init 27 = .ok (.putfield 23, 3) := by decide +kernel
theorem dX2_init_30 : decode cX2_init 30 = .ok (.aload_n 0, 1) := by decide +kernel
theorem dX2_init_31 : decode cX2_init 31 = .ok (.getfield 23, 3) := by decide +kernel
theorem dX2_init_34 : decode cX2_init 34 = .ok (.iconst 0, 1) := by decide +kernel
theorem dX2_init_35 : decode cX2_init 35 = .ok (.bipush 8, 2) := by decide +kernel
theorem dX2_init_37 : decode cX2_init 37 = .ok (.invokevirtual 27, 3) := by decide +kernel
theorem dX2_init_40 : decode cX2_init 40 = .ok (.return_, 1) := by decide +kernel
theorem dX2_isEmpty_0 : decode cX2_isEmpty 0 = .ok (.aload_n 0, 1) := by decide +kernel
theorem dX2_isEmpty_1 : decode cX2_isEmpty 1 = .ok (.getfield 31, 3) := by decide +kernel
theorem dX2_isEmpty_4 : decode cX2_isEmpty 4 = .ok (.ifCond .ne 7, 3) := by decide +kernel
theorem dX2_isEmpty_7 : decode cX2_isEmpty 7 = .ok (.iconst 1, 1) := by decide +kernel
theorem dX2_isEmpty_8 : decode cX2_isEmpty 8 = .ok (.goto 4, 3) := by decide +kernel
theorem dX2_isEmpty_11 : decode cX2_isEmpty 11 = .ok (.iconst 0, 1) := by decide +kernel
theorem dX2_isEmpty_12 : decode cX2_isEmpty 12 = .ok (.ireturn, 1) := by decide +kernel
theorem dX2_forget_0 : decode cX2_forget 0 = .ok (.aload_n 0, 1) := by decide +kernel
theorem dX2_forget_1 : decode cX2_forget 1 = .ok (.iconst 0, 1) := by decide +kernel
theorem dX2_forget_2 : decode cX2_forget 2 = .ok (.putfield 31, 3) := by decide +kernel
theorem dX2_forget_5 : decode cX2_forget 5 = .ok (.return_, 1) := by decide +kernel
theorem dX2_remember_0 : decode cX2_remember 0 = .ok (.aload_n 0, 1) := by decide +kernel
theorem dX2_remember_1 : decode cX2_remember 1 = .ok (.getfield 23, 3) := by decide +kernel
theorem dX2_remember_4 : decode cX2_remember 4 = .ok (.aload_n 0, 1) := by decide +kernel
theorem dX2_remember_5 : decode cX2_remember 5 = .ok (.getfield 35, 3) := by decide +kernel
theorem dX2_remember_8 : decode cX2_remember 8 = .ok (.iload_n 1, 1) := by decide +kernel
theorem dX2_remember_9 : decode cX2_remember 9 = .ok (.invokevirtual 38, 3) := by decide +kernel
theorem dX2_remember_12 : decode cX2_remember 12 = .ok (.aload_n 0, 1) := by decide +kernel
theorem dX2_remember_13 : decode cX2_remember 13 = .ok (.getfield 14, 3) := by decide +kernel
theorem dX2_remember_16 : decode cX2_remember 16 = .ok (.aload_n 0, 1) := by decide +kernel
theorem dX2_remember_17 : decode cX2_remember 17 = .ok (.getfield 35, 3) := by decide +kernel
theorem dX2_remember_20 : decode cX2_remember 20 = .ok (.invokevirtual 41, 3) := by decide +kernel
theorem dX2_remember_23 : decode cX2_remember 23 = .ok (.aload_n 2, 1) := by decide +kernel
theorem dX2_remember_24 : decode cX2_remember 24 = .ok (.invokevirtual 45, 3) := by decide +kernel
theorem dX2_remember_27 : decode cX2_remember 27 = .ok (.aload_n 0, 1) := by decide +kernel
theorem dX2_remember_28 : decode cX2_remember 28 = .ok (.aload_n 0, 1) := by decide +kernel
theorem dX2_remember_29 : decode cX2_remember 29 = .ok (.getfield 35, 3) := by decide +kernel
theorem dX2_remember_32 : decode cX2_remember 32 = .ok (.bipush 7, 2) := by decide +kernel
theorem dX2_remember_34 : decode cX2_remember 34 = .ok (.if_icmp .ge 12, 3) := by decide +kernel
theorem dX2_remember_37 : decode cX2_remember 37 = .ok (.aload_n 0, 1) := by decide +kernel
theorem dX2_remember_38 : decode cX2_remember 38 = .ok (.getfield 35, 3) := by decide +kernel
theorem dX2_remember_41 : decode cX2_remember 41 = .ok (.iconst 1, 1) := by decide +kernel
theorem dX2_remember_42 : decode cX2_remember 42 = .ok (.iadd, 1) := by decide +kernel
theorem dX2_remember_43 : decode cX2_remember 43 = .ok (.goto 4, 3) := by decide +kernel
theorem dX2_remember_46 : decode cX2_remember 46 = .ok (.iconst 0, 1) := by decide +kernel
theorem dX2_remember_47 : decode cX2_remember 47 = .ok (.putfield 35, 3) := by decide +kernel
theorem dX2_remember_50 : decode cX2_remember 50 = .ok (.aload_n 0, 1) := by decide +kernel
theorem dX2_remember_51 : decode cX2_remember 51 = .ok (.aload_n 0, 1) := by decide +kernel
theorem dX2_remember_52 : decode cX2_remember 52 = .ok (.getfield 31, 3) := by decide +kernel
theorem dX2_remember_55 : decode cX2_remember 55 = .ok (.bipush 8, 2) := by decide +kernel
theorem dX2_remember_57 : decode cX2_remember 57 = .ok (.if_icmp .ge 12, 3) := by decide +kernel
theorem dX2_remember_60 : decode cX2_remember 60 = .ok (.aload_n 0, 1) := by decide +kernel
theorem dX2_remember_61 : decode cX2_remember 61 = .ok (.getfield 31, 3) := by decide +kernel
theorem dX2_remember_64 : decode cX2_remember 64 = .ok (.iconst 1, 1) := by decide +kernel
theorem dX2_remember_65 : decode cX2_remember 65 = .ok (.iadd, 1) := by decide +kernel
theorem dX2_remember_66 : decode cX2_remember 66 = .ok (.goto 5, 3) := by decide +kernel
theorem dX2_remember_69 : decode cX2_remember 69 = .ok (.bipush 8, 2) := by decide +kernel
theorem dX2_remember_71 : decode cX2_remember 71 = .ok (.putfield 31, 3) := by decide +kernel
theorem dX2_remember_74 : decode cX2_remember 74 = .ok (.return_, 1) := by decide +kernel
theorem dX2_takeBack_0 : decode cX2_takeBack 0 = .ok (.aload_n 0, 1) := by decide +kernel
theorem dX2_takeBack_1 : decode cX2_takeBack 1 = .ok (.aload_n 0, 1) := by decide +kernel
theorem dX2_takeBack_2 : decode cX2_takeBack 2 = .ok (.getfield 35, 3) := by decide +kernel
theorem dX2_takeBack_5 : decode cX2_takeBack 5 = .ok (.ifCond .le 12, 3) := by decide +kernel
theorem dX2_takeBack_8 : decode cX2_takeBack 8 = .ok (.aload_n 0, 1) := by decide +kernel
theorem dX2_takeBack_9 : decode cX2_takeBack 9 = .ok (.getfield 35, 3) := by decide +kernel
theorem dX2_takeBack_12 : decode cX2_takeBack 12 = .ok (.iconst 1, 1) := by decide +kernel
theorem dX2_takeBack_13 : decode cX2_takeBack 13 = .ok (.isub, 1) := by decide +kernel
theorem dX2_takeBack_14 : decode cX2_takeBack 14 = .ok (.goto 5, 3) := by decide +kernel
theorem dX2_takeBack_17 : decode cX2_takeBack 17 = .ok (.bipush 7, 2) := by decide +kernel
theorem dX2_takeBack_19 : decode cX2_takeBack 19 = .ok (.putfield 35, 3) := by decide +kernel
theorem dX2_takeBack_22 : decode cX2_takeBack 22 = .ok (.aload_n 0, 1) := by decide +kernel
theorem dX2_takeBack_23 : decode cX2_takeBack 23 = .ok (.dup, 1) := by decide +kernel
theorem dX2_takeBack_24 : decode cX2_takeBack 24 = .ok (.getfield 31, 3) := by decide +kernel
theorem dX2_takeBack_27 : decode cX2_takeBack 27 = .ok (.iconst 1, 1) := by decide +kernel
theorem dX2_takeBack_28 : decode cX2_takeBack 28 = .ok (.isub, 1) := by decide +kernel
theorem dX2_takeBack_29 : decode cX2_takeBack 29 = .ok (.putfield 31, 3) := by decide +kernel
theorem dX2_takeBack_32 : decode cX2_takeBack 32 = .ok (.aload_n 0, 1) := by decide +kernel
theorem dX2_takeBack_33 : decode cX2_takeBack 33 = .ok (.getfield 23, 3) := by decide +kernel
theorem dX2_takeBack_36 : decode cX2_takeBack 36 = .ok (.aload_n 0, 1) := by decide +kernel
theorem dX2_takeBack_37 : decode cX2_takeBack 37 = .ok (.getfield 35, 3) := by decide +kernel
theorem dX2_takeBack_40 : decode cX2_takeBack 40 = .ok (.invokevirtual 49, 3) := by decide +kernel
theorem dX2_takeBack_43 : decode cX2_takeBack 43 = .ok (.istore_n 2, 1) := by decide +kernel
theorem dX2_takeBack_44 : decode cX2_takeBack 44 = .ok (.aload_n 1, 1) := by decide +kernel
theorem dX2_takeBack_45 : decode cX2_takeBack 45 = .ok (.iload_n 2, 1) := by decide +kernel
theorem dX2_takeBack_46 : decode cX2_takeBack 46 = .ok (.invokevirtual 41, 3) := by decide +kernel
theorem dX2_takeBack_49 : decode cX2_takeBack 49 = .ok (.aload_n 0, 1) := by decide +kernel
theorem dX2_takeBack_50 : decode cX2_takeBack 50 = .ok (.getfield 14, 3) := by decide +kernel
theorem dX2_takeBack_53 : decode cX2_takeBack 53 = .ok (.aload_n 0, 1) := by decide +kernel
theorem dX2_takeBack_54 : decode cX2_takeBack 54 = .ok (.getfield 35, 3) := by decide +kernel
theorem dX2_takeBack_57 : decode cX2_takeBack 57 = .ok (.invokevirtual 41, 3) := by decide +kernel
theorem dX2_takeBack_60 : decode cX2_takeBack 60 = .ok (.invokevirtual 45, 3) := by decide +kernel
theorem dX2_takeBack_63 : decode cX2_takeBack 63 = .ok (.iload_n 2, 1) := by decide +kernel
theorem dX2_takeBack_64 : decode cX2_takeBack 64 = .ok (.ireturn, 1) := by decide +kernel
theorem dX3_init_0 : decode cX3_init 0 = .ok (.aload_n 0, 1) := by decide +kernel
theorem dX3_init_1 : decode cX3_init 1 = .ok (.invokespecial 3, 3) := by decide +kernel
theorem dX3_init_4 : decode cX3_init 4 = .ok (.aload_n 0, 1) := by decide +kernel
theorem dX3_init_5 : decode cX3_init 5 = .ok (.new 9, 3) := by decide +kernel
theorem dX3_init_8 : decode cX3_init 8 = .ok (.dup, 1) := by decide +kernel
theorem dX3_init_9 : decode cX3_init 9 = .ok (.bipush 50, 2) := by decide +kernel
theorem dX3_init_11 : decode cX3_init 11 = .ok (.invokespecial 11, 3) := by decide +kernel
theorem dX3_init_14 : decode cX3_init 14 = .ok (.putfield 14, 3) := by decide +kernel
theorem dX3_init_17 : decode cX3_init 17 = .ok (.aload_n 0, 1) := by decide +kernel
theorem dX3_init_18 : decode cX3_init 18 = .ok (.new 9, 3) := by decide +kernel
theorem dX3_init_21 : decode cX3_init 21 = .ok (.dup, 1) := by decide +kernel
theorem dX3_init_22 : decode cX3_init 22 = .ok (.iconst 4, 1) := by decide +kernel
theorem dX3_init_23 : decode cX3_init 23 = .ok (.invokespecial 11, 3) := by decide +kernel
theorem dX3_init_26 : decode cX3_init 26 = .ok (.putfield 20, 3) := by decide +kernel
theorem dX3_init_29 : decode cX3_init 29 = .ok (.return_, 1) := by decide +kernel
theorem dX3_isFull_0 : decode cX3_isFull 0 = .ok (.aload_n 0, 1) := by decide +kernel
theorem dX3_isFull_1 : decode cX3_isFull 1 = .ok (.getfield 14, 3) := by decide +kernel
theorem dX3_isFull_4 : decode cX3_isFull 4 = .ok (.invokevirtual 23, 3) := by decide +kernel
theorem dX3_isFull_7 : decode cX3_isFull 7 = .ok (.ireturn, 1) := by decide +kernel
theorem dX3_take_0 : decode cX3_take 0 = .ok (.aload_n 0, 1) := by decide +kernel
theorem dX3_take_1 : decode cX3_take 1 = .ok (.getfield 14, 3) := by decide +kernel
theorem dX3_take_4 : decode cX3_take 4 = .ok (.iload_n 1, 1) := by decide +kernel
theorem dX3_take_5 : decode cX3_take 5 = .ok (.invokevirtual 27, 3) := by decide +kernel
theorem dX3_take_8 : decode cX3_take 8 = .ok (.aload_n 0, 1) := by decide +kernel
theorem dX3_take_9 : decode cX3_take 9 = .ok (.getfield 14, 3) := by decide +kernel
theorem dX3_take_12 : decode cX3_take 12 = .ok (.invokevirtual 30, 3) := by decide +kernel
theorem dX3_take_15 : decode cX3_take 15 = .ok (.ireturn, 1) := by decide +kernel
theorem dX3_discard_0 : decode cX3_discard 0 = .ok (.aload_n 0, 1) := by decide +kernel
theorem dX3_discard_1 : decode cX3_discard 1 = .ok (.getfield 14, 3) := by decide +kernel
theorem dX3_discard_4 : decode cX3_discard 4 = .ok (.invokevirtual 34, 3) := by decide +kernel
theorem dX3_discard_7 : decode cX3_discard 7 = .ok (.return_, 1) := by decide +kernel
theorem dX3_errorPosition_0 : decode cX3_errorPosition 0 = .ok (.iconst 0, 1) := by decide +kernel
theorem dX3_errorPosition_1 : decode cX3_errorPosition 1 = .ok (.istore_n 1, 1) := by decide +kernel
theorem dX3_errorPosition_2 : decode cX3_errorPosition 2 = .ok (.iconst (-1), 1) := by decide +kernel
theorem dX3_errorPosition_3 : decode cX3_errorPosition 3 = .ok (.istore_n 2, 1) := by decide +kernel
theorem dX3_errorPosition_4 : decode cX3_errorPosition 4 = .ok (.iconst 0, 1) := by decide +kernel
theorem dX3_errorPosition_5 : decode cX3_errorPosition 5 = .ok (.istore_n 3, 1) := by decide +kernel
theorem dX3_errorPosition_6 : decode cX3_errorPosition 6 = .ok (.iload_n 3, 1) := by decide +kernel
theorem dX3_errorPosition_7 : decode cX3_errorPosition 7 = .ok (.aload_n 0, 1) := by decide +kernel
theorem dX3_errorPosition_8 : decode cX3_errorPosition 8 = .ok (.getfield 14, 3) := by decide +kernel
theorem dX3_errorPosition_11 : decode cX3_errorPosition 11 = .ok (.invokevirtual 30, 3) := by decide +kernel
theorem dX3_errorPosition_14 : decode cX3_errorPosition 14 = .ok (.if_icmp .ge 57, 3) := by decide +kernel
theorem dX3_errorPosition_17 : decode cX3_errorPosition 17 = .ok (.aload_n 0, 1) := by decide +kernel
theorem dX3_errorPosition_18 : decode cX3_errorPosition 18 = .ok (.getfield 14, 3) := by decide +kernel
theorem dX3_errorPosition_21 : decode cX3_errorPosition 21 = .ok (.iload_n 3, 1) := by decide +kernel
theorem dX3_errorPosition_22 : decode cX3_errorPosition 22 = .ok (.invokevirtual 37, 3) := by decide +kernel
theorem dX3_errorPosition_25 : decode cX3_errorPosition 25 = .ok (.istore 4, 2) := by decide +kernel
theorem dX3_errorPosition_27 : decode cX3_errorPosition 27 = .ok (.iload_n 2, 1) := by decide +kernel
theorem dX3_errorPosition_28 : decode cX3_errorPosition 28 = .ok (.iload 4, 2) := by decide +kernel
theorem dX3_errorPosition_30 : decode cX3_errorPosition 30 = .ok (.iload_n 1, 1) := by decide +kernel
theorem dX3_errorPosition_31 : decode cX3_errorPosition 31 = .ok (.invokestatic 41, 3) := by decide +kernel
theorem dX3_errorPosition_34 : decode cX3_errorPosition 34 = .ok (.ifCond .ne 5, 3) := by decide +kernel
theorem dX3_errorPosition_37 : decode cX3_errorPosition 37 = .ok (.iload_n 3, 1) := by decide +kernel
theorem dX3_errorPosition_38 : decode cX3_errorPosition 38 = .ok (.ireturn, 1) := by decide +kernel
theorem dX3_errorPosition_39 : decode cX3_errorPosition 39 = .ok (.iload 4, 2) := by decide +kernel
theorem dX3_errorPosition_41 : decode cX3_errorPosition 41 = .ok (.bipush 40, 2) := by decide +kernel
theorem dX3_errorPosition_43 : decode cX3_errorPosition 43 = .ok (.if_icmp .ne 9, 3) := by decide +kernel
theorem dX3_errorPosition_46 : decode cX3_errorPosition 46 = .ok (.iinc 1 1, 3) := by decide +kernel
theorem dX3_errorPosition_49 : decode cX3_errorPosition 49 = .ok (.goto 13, 3) := by decide +kernel
theorem dX3_errorPosition_52 : decode cX3_errorPosition 52 = .ok (.iload 4, 2) := by decide +kernel
theorem dX3_errorPosition_54 : decode cX3_errorPosition 54 = .ok (.bipush 41, 2) := by decide +kernel
theorem dX3_errorPosition_56 : decode cX3_errorPosition 56 = .ok (.if_icmp .ne 6, 3) := by decide +kernel
theorem dX3_errorPosition_59 : decode cX3_errorPosition 59 = .ok (.iinc 1 (-1), 3) := by decide +kernel
theorem dX3_errorPosition_62 : decode cX3_errorPosition 62 = .ok (.iload 4, 2) := by decide +kernel
theorem dX3_errorPosition_64 : decode cX3_errorPosition 64 = .ok (.istore_n 2, 1) := by decide +kernel
theorem dX3_errorPosition_65 : decode cX3_errorPosition 65 = .ok (.iinc 3 1, 3) := by decide +kernel
theorem dX3_errorPosition_68 : decode cX3_errorPosition 68 = .ok (.goto (-62), 3) := by decide +kernel
theorem dX3_errorPosition_71 : decode cX3_errorPosition 71 = .ok (.iload_n 1, 1) := by decide +kernel
theorem dX3_errorPosition_72 : decode cX3_errorPosition 72 = .ok (.ifCond .le 13, 3) := by decide +kernel
theorem dX3_errorPosition_75 : decode cX3_errorPosition 75 = .ok (.aload_n 0, 1) := by decide +kernel
theorem dX3_errorPosition_76 : decode cX3_errorPosition 76 = .ok (.getfield 14, 3) := by decide +kernel
theorem dX3_errorPosition_79 : decode cX3_errorPosition 79 = .ok (.invokevirtual 30, 3) := by decide +kernel
theorem dX3_errorPosition_82 : decode cX3_errorPosition 82 = .ok (.goto 4, 3) := by decide +kernel
theorem dX3_errorPosition_85 : decode cX3_errorPosition 85 = .ok (.iconst (-1), 1) := by decide +kernel
theorem dX3_errorPosition_86 : decode cX3_errorPosition 86 = .ok (.ireturn, 1) := by decide +kernel
theorem dX3_mayFollow_0 : decode cX3_mayFollow 0 = .ok (.iload_n 1, 1) := by decide +kernel
theorem dX3_mayFollow_1 : decode cX3_mayFollow 1 = .ok (.bipush 40, 2) := by decide +kernel
theorem dX3_mayFollow_3 : decode cX3_mayFollow 3 = .ok (.if_icmp .ne 14, 3) := by decide +kernel
theorem dX3_mayFollow_6 : decode cX3_mayFollow 6 = .ok (.iload_n 2, 1) := by decide +kernel
theorem dX3_mayFollow_7 : decode cX3_mayFollow 7 = .ok (.iconst 4, 1) := by decide +kernel
theorem dX3_mayFollow_8 : decode cX3_mayFollow 8 = .ok (.if_icmp .ge 7, 3) := by decide +kernel
theorem dX3_mayFollow_11 : decode cX3_mayFollow 11 = .ok (.iconst 1, 1) := by decide +kernel
theorem dX3_mayFollow_12 : decode cX3_mayFollow 12 = .ok (.goto 4, 3) := by decide +kernel
theorem dX3_mayFollow_15 : decode cX3_mayFollow 15 = .ok (.iconst 0, 1) := by decide +kernel
theorem dX3_mayFollow_16 : decode cX3_mayFollow 16 = .ok (.ireturn, 1) := by decide +kernel
theorem dX3_mayFollow_17 : decode cX3_mayFollow 17 = .ok (.iload_n 1, 1) := by decide +kernel
theorem dX3_mayFollow_18 : decode cX3_mayFollow 18 = .ok (.bipush 41, 2) := by decide +kernel
theorem dX3_mayFollow_20 : decode cX3_mayFollow 20 = .ok (.if_icmp .ne 19, 3) := by decide +kernel
theorem dX3_mayFollow_23 : decode cX3_mayFollow 23 = .ok (.iload_n 2, 1) := by decide +kernel
theorem dX3_mayFollow_24 : decode cX3_mayFollow 24 = .ok (.ifCond .le 13, 3) := by decide +kernel
theorem dX3_mayFollow_27 : decode cX3_mayFollow 27 = .ok (.iload_n 0, 1) := by decide +kernel
theorem dX3_mayFollow_28 : decode cX3_mayFollow 28 = .ok (.bipush 40, 2) := by decide +kernel
theorem dX3_mayFollow_30 : decode cX3_mayFollow 30 = .ok (.if_icmp .eq 7, 3) := by decide +kernel
theorem dX3_mayFollow_33 : decode cX3_mayFollow 33 = .ok (.iconst 1, 1) := by decide +kernel
theorem dX3_mayFollow_34 : decode cX3_mayFollow 34 = .ok (.goto 4, 3) := by decide +kernel
theorem dX3_mayFollow_37 : decode cX3_mayFollow 37 = .ok (.iconst 0, 1) := by decide +kernel
theorem dX3_mayFollow_38 : decode cX3_mayFollow 38 = .ok (.ireturn, 1) := by decide +kernel
theorem dX3_mayFollow_39 : decode cX3_mayFollow 39 = .ok (.iload_n 1, 1) := by decide +kernel
theorem dX3_mayFollow_40 : decode cX3_mayFollow 40 = .ok (.invokestatic 45, 3) := by decide +kernel
theorem dX3_mayFollow_43 : decode cX3_mayFollow 43 = .ok (.ifCond .eq 22, 3) := by decide +kernel
theorem dX3_mayFollow_46 : decode cX3_mayFollow 46 = .ok (.iload_n 0, 1) := by decide +kernel
theorem dX3_mayFollow_47 : decode cX3_mayFollow 47 = .ok (.invokestatic 49, 3) := by decide +kernel
theorem dX3_mayFollow_50 : decode cX3_mayFollow 50 = .ok (.ifCond .ne 9, 3) := by decide +kernel
theorem dX3_mayFollow_53 : decode cX3_mayFollow 53 = .ok (.iload_n 0, 1) := by decide +kernel
theorem dX3_mayFollow_54 : decode cX3_mayFollow 54 = .ok (.bipush 41, 2) := by decide +kernel
theorem dX3_mayFollow_56 : decode cX3_mayFollow 56 = .ok (.if_icmp .ne 7, 3) := by decide +kernel
theorem dX3_mayFollow_59 : decode cX3_mayFollow 59 = .ok (.iconst 1, 1) := by decide +kernel
theorem dX3_mayFollow_60 : decode cX3_mayFollow 60 = .ok (.goto 4, 3) := by decide +kernel
theorem dX3_mayFollow_63 : decode cX3_mayFollow 63 = .ok (.iconst 0, 1) := by decide +kernel
theorem dX3_mayFollow_64 : decode cX3_mayFollow 64 = .ok (.ireturn, 1) := by decide +kernel
theorem dX3_mayFollow_65 : decode cX3_mayFollow 65 = .ok (.iload_n 1, 1) := by decide +kernel
theorem dX3_mayFollow_66 : decode cX3_mayFollow 66 = .ok (.invokestatic 49, 3) := by decide +kernel
theorem dX3_mayFollow_69 : decode cX3_mayFollow 69 = .ok (.ireturn, 1) := by decide +kernel
theorem dX3_isLetter_0 : decode cX3_isLetter 0 = .ok (.iload_n 0, 1) := by decide +kernel
theorem dX3_isLetter_1 : decode cX3_isLetter 1 = .ok (.bipush 97, 2) := by decide +kernel
theorem dX3_isLetter_3 : decode cX3_isLetter 3 = .ok (.if_icmp .lt 13, 3) := by decide +kernel
theorem dX3_isLetter_6 : decode cX3_isLetter 6 = .ok (.iload_n 0, 1) := by decide +kernel
theorem dX3_isLetter_7 : decode cX3_isLetter 7 = .ok (.bipush 122, 2) := by decide +kernel
theorem dX3_isLetter_9 : decode cX3_isLetter 9 = .ok (.if_icmp .gt 7, 3) := by decide +kernel
theorem dX3_isLetter_12 : decode cX3_isLetter 12 = .ok (.iconst 1, 1) := by decide +kernel
theorem dX3_isLetter_13 : decode cX3_isLetter 13 = .ok (.goto 4, 3) := by decide +kernel
theorem dX3_isLetter_16 : decode cX3_isLetter 16 = .ok (.iconst 0, 1) := by decide +kernel
theorem dX3_isLetter_17 : decode cX3_isLetter 17 = .ok (.ireturn, 1) := by decide +kernel
theorem dX3_isDigit_0 : decode cX3_isDigit 0 = .ok (.iload_n 0, 1) := by decide +kernel
theorem dX3_isDigit_1 : decode cX3_isDigit 1 = .ok (.bipush 50, 2) := by decide +kernel
theorem dX3_isDigit_3 : decode cX3_isDigit 3 = .ok (.if_icmp .lt 13, 3) := by decide +kernel
theorem dX3_isDigit_6 : decode cX3_isDigit 6 = .ok (.iload_n 0, 1) := by decide +kernel
theorem dX3_isDigit_7 : decode cX3_isDigit 7 = .ok (.bipush 57, 2) := by decide +kernel
theorem dX3_isDigit_9 : decode cX3_isDigit 9 = .ok (.if_icmp .gt 7, 3) := by decide +kernel
theorem dX3_isDigit_12 : decode cX3_isDigit 12 = .ok (.iconst 1, 1) := by decide +kernel
theorem dX3_isDigit_13 : decode cX3_isDigit 13 = .ok (.goto 4, 3) := by decide +kernel
theorem dX3_isDigit_16 : decode cX3_isDigit 16 = .ok (.iconst 0, 1) := by decide +kernel
theorem dX3_isDigit_17 : decode cX3_isDigit 17 = .ok (.ireturn, 1) := by decide +kernel
theorem dX3_expandInto_0 : decode cX3_expandInto 0 = .ok (.aload_n 1, 1) := by decide +kernel
theorem dX3_expandInto_1 : decode cX3_expandInto 1 = .ok (.invokevirtual 34, 3) := by decide +kernel
theorem dX3_expandInto_4 : decode cX3_expandInto 4 = .ok (.aload_n 0, 1) := by decide +kernel
theorem dX3_expandInto_5 : decode cX3_expandInto 5 = .ok (.getfield 20, 3) := by decide +kernel
theorem dX3_expandInto_8 : decode cX3_expandInto 8 = .ok (.invokevirtual 34, 3) := by decide +kernel
theorem dX3_expandInto_11 : decode cX3_expandInto 11 = .ok (.iconst 0, 1) := by decide +kernel
theorem dX3_expandInto_12 : decode cX3_expandInto 12 = .ok (.istore_n 2, 1) := by decide +kernel
theorem dX3_expandInto_13 : decode cX3_expandInto 13 = .ok (.iconst 0, 1) := by decide +kernel
theorem dX3_expandInto_14 : decode cX3_expandInto 14 = .ok (.istore_n 3, 1) := by decide +kernel
theorem dX3_expandInto_15 : decode cX3_expandInto 15 = .ok (.iload_n 3, 1) := by decide +kernel
theorem dX3_expandInto_16 : decode cX3_expandInto 16 = .ok (.aload_n 0, 1) := by decide +kernel
theorem dX3_expandInto_17 : decode cX3_expandInto 17 = .ok (.getfield 14, 3) := by decide +kernel
theorem dX3_expandInto_20 : decode cX3_expandInto 20 = .ok (.invokevirtual 30, 3) := by decide +kernel
theorem dX3_expandInto_23 : decode cX3_expandInto 23 = .ok (.if_icmp .ge 123, 3) := by decide +kernel
theorem dX3_expandInto_26 : decode cX3_expandInto 26 = .ok (.aload_n 0, 1) := by decide +kernel
theorem dX3_expandInto_27 : decode cX3_expandInto 27 = .ok (.getfield 14, 3) := by decide +kernel
theorem dX3_expandInto_30 : decode cX3_expandInto 30 = .ok (.iload_n 3, 1) := by decide +kernel
theorem dX3_expandInto_31 : decode cX3_expandInto 31 = .ok (.invokevirtual 37, 3) := by decide +kernel
theorem dX3_expandInto_34 : decode cX3_expandInto 34 = .ok (.istore 4, 2) := by decide +kernel
theorem dX3_expandInto_36 : decode cX3_expandInto 36 = .ok (.iconst 1, 1) := by decide +kernel
theorem dX3_expandInto_37 : decode cX3_expandInto 37 = .ok (.istore 5, 2) := by decide +kernel
theorem dX3_expandInto_39 : decode cX3_expandInto 39 = .ok (.iload 4, 2) := by decide +kernel
theorem dX3_expandInto_41 : decode cX3_expandInto 41 = .ok (.bipush 40, 2) := by decide +kernel
theorem dX3_expandInto_43 : decode cX3_expandInto 43 = .ok (.if_icmp .ne 17, 3) := by decide +kernel
theorem dX3_expandInto_46 : decode cX3_expandInto 46 = .ok (.aload_n 0, 1) := by decide +kernel
theorem dX3_expandInto_47 : decode cX3_expandInto 47 = .ok (.getfield 20, 3) := by decide +kernel
theorem dX3_expandInto_50 : decode cX3_expandInto 50 = .ok (.aload_n 1, 1) := by decide +kernel
theorem dX3_expandInto_51 : decode cX3_expandInto 51 = .ok (.invokevirtual 30, 3) := by decide +kernel
theorem dX3_expandInto_54 : decode cX3_expandInto 54 = .ok (.invokevirtual 27, 3) := by decide +kernel
theorem dX3_expandInto_57 : decode cX3_expandInto 57 = .ok (.goto 71, 3) := by decide +kernel
theorem dX3_expandInto_60 : decode cX3_expandInto 60 = .ok (.iload 4, 2) := by decide +kernel
theorem dX3_expandInto_62 : decode cX3_expandInto 62 = .ok (.bipush 41, 2) := by decide +kernel
theorem dX3_expandInto_64 : decode cX3_expandInto 64 = .ok (.if_icmp .ne 23, 3) := by decide +kernel
theorem dX3_expandInto_67 : decode cX3_expandInto 67 = .ok (.aload_n 0, 1) := by decide +kernel
theorem dX3_expandInto_68 : decode cX3_expandInto 68 = .ok (.getfield 20, 3) := by decide +kernel
theorem dX3_expandInto_71 : decode cX3_expandInto 71 = .ok (.aload_n 0, 1) := by decide +kernel
theorem dX3_expandInto_72 : decode cX3_expandInto 72 = .ok (.getfield 20, 3) := by decide +kernel
theorem dX3_expandInto_75 : decode cX3_expandInto 75 = .ok (.invokevirtual 30, 3) := by decide +kernel
theorem dX3_expandInto_78 : decode cX3_expandInto 78 = .ok (.iconst 1, 1) := by decide +kernel
theorem dX3_expandInto_79 : decode cX3_expandInto 79 = .ok (.isub, 1) := by decide +kernel
theorem dX3_expandInto_80 : decode cX3_expandInto 80 = .ok (.invokevirtual 52, 3) := by decide +kernel
theorem dX3_expandInto_83 : decode cX3_expandInto 83 = .ok (.istore_n 2, 1) := by decide +kernel
theorem dX3_expandInto_84 : decode cX3_expandInto 84 = .ok (.goto 44, 3) := by decide +kernel
theorem dX3_expandInto_87 : decode cX3_expandInto 87 = .ok (.iload 4, 2) := by decide +kernel
theorem dX3_expandInto_89 : decode cX3_expandInto 89 = .ok (.invokestatic 49, 3) := by decide +kernel
theorem dX3_expandInto_92 : decode cX3_expandInto 92 = .ok (.ifCond .eq 29, 3) := by decide +kernel
theorem dX3_expandInto_95 : decode cX3_expandInto 95 = .ok (.aload_n 1, 1) := by decide +kernel
theorem dX3_expandInto_96 : decode cX3_expandInto 96 = .ok (.invokevirtual 30, 3) := by decide +kernel
theorem dX3_expandInto_99 : decode cX3_expandInto 99 = .ok (.istore_n 2, 1) := by decide +kernel
theorem dX3_expandInto_100 : decode cX3_expandInto 100 = .ok (.aload_n 1, 1) := by decide +kernel
theorem dX3_expandInto_101 : decode cX3_expandInto 101 = .ok (.invokevirtual 23, 3) := by decide +kernel
theorem dX3_expandInto_104 : decode cX3_expandInto 104 = .ok (.ifCond .eq 5, 3) := by decide +kernel
theorem dX3_expandInto_107 : decode cX3_expandInto 107 = .ok (.iconst 0, 1) := by decide +kernel
theorem dX3_expandInto_108 : decode cX3_expandInto 108 = .ok (.ireturn, 1) := by decide +kernel
theorem dX3_expandInto_109 : decode cX3_expandInto 109 = .ok (.aload_n 1, 1) := by decide +kernel
theorem dX3_expandInto_110 : decode cX3_expandInto 110 = .ok (.iload 4, 2) := by decide +kernel
theorem dX3_expandInto_112 : decode cX3_expandInto 112 = .ok (.bipush 97, 2) := by decide +kernel
theorem dX3_expandInto_114 : decode cX3_expandInto 114 = .ok (.isub, 1) := by decide +kernel
theorem dX3_expandInto_115 : decode cX3_expandInto 115 = .ok (.invokevirtual 27, 3) := by decide +kernel
theorem dX3_expandInto_118 : decode cX3_expandInto 118 = .ok (.goto 10, 3) := by decide +kernel
theorem dX3_expandInto_121 : decode cX3_expandInto 121 = .ok (.iload 4, 2) := by decide +kernel
theorem dX3_expandInto_123 : decode cX3_expandInto 123 = .ok (.bipush 48, 2) := by decide +kernel
theorem dX3_expandInto_125 : decode cX3_expandInto 125 = .ok (.isub, 1) := by decide +kernel
theorem dX3_expandInto_126 : decode cX3_expandInto 126 = .ok (.istore 5, 2) := by decide +kernel
theorem dX3_expandInto_128 : decode cX3_expandInto 128 = .ok (.aload_n 1, 1) := by decide +kernel
theorem dX3_expandInto_129 : decode cX3_expandInto 129 = .ok (.iload_n 2, 1) := by decide +kernel
theorem dX3_expandInto_130 : decode cX3_expandInto 130 = .ok (.iload 5, 2) := by decide +kernel
theorem dX3_expandInto_132 : decode cX3_expandInto 132 = .ok (.invokestatic 55, 3) := by decide +kernel
theorem dX3_expandInto_135 : decode cX3_expandInto 135 = .ok (.ifCond .ne 5, 3) := by decide +kernel
theorem dX3_expandInto_138 : decode cX3_expandInto 138 = .ok (.iconst 0, 1) := by decide +kernel
theorem dX3_expandInto_139 : decode cX3_expandInto 139 = .ok (.ireturn, 1) := by decide +kernel
theorem dX3_expandInto_140 : decode cX3_expandInto 140 = .ok (.iinc 3 1, 3) := by decide +kernel
theorem dX3_expandInto_143 : decode cX3_expandInto 143 = .ok (.goto (-128), 3) := by decide +kernel
theorem dX3_expandInto_146 : decode cX3_expandInto 146 = .ok (.iconst 1, 1) := by decide +kernel
theorem dX3_expandInto_147 : decode cX3_expandInto 147 = .ok (.ireturn, 1) := by decide +kernel
theorem dX3_repeatEnd_0 : decode cX3_repeatEnd 0 = .ok (.aload_n 0, 1) := by decide +kernel
theorem dX3_repeatEnd_1 : decode cX3_repeatEnd 1 = .ok (.invokevirtual 30, 3) := by decide +kernel
theorem dX3_repeatEnd_4 : decode cX3_repeatEnd 4 = .ok (.istore_n 3, 1) := by decide +kernel
theorem dX3_repeatEnd_5 : decode cX3_repeatEnd 5 = .ok (.iload_n 1, 1) := by decide +kernel
theorem dX3_repeatEnd_6 : decode cX3_repeatEnd 6 = .ok (.iload_n 3, 1) := by decide +kernel
theorem dX3_repeatEnd_7 : decode cX3_repeatEnd 7 = .ok (.iload_n 1, 1) := by decide +kernel
theorem dX3_repeatEnd_8 : decode cX3_repeatEnd 8 = .ok (.isub, 1) := by decide +kernel
theorem dX3_repeatEnd_9 : decode cX3_repeatEnd 9 = .ok (.iload_n 2, 1) := by decide +kernel
theorem dX3_repeatEnd_10 : decode cX3_repeatEnd 10 = .ok (.imul, 1) := by decide +kernel
theorem dX3_repeatEnd_11 : decode cX3_repeatEnd 11 = .ok (.iadd, 1) := by decide +kernel
theorem dX3_repeatEnd_12 : decode cX3_repeatEnd 12 = .ok (.bipush 24, 2) := by decide +kernel
theorem dX3_repeatEnd_14 : decode cX3_repeatEnd 14 = .ok (.if_icmp .le 5, 3) := by decide +kernel
theorem dX3_repeatEnd_17 : decode cX3_repeatEnd 17 = .ok (.iconst 0, 1) := by decide +kernel
theorem dX3_repeatEnd_18 : decode cX3_repeatEnd 18 = .ok (.ireturn, 1) := by decide +kernel
theorem dX3_repeatEnd_19 : decode cX3_repeatEnd 19 = .ok (.iconst 1, 1) := by decide +kernel
theorem dX3_repeatEnd_20 : decode cX3_repeatEnd 20 = .ok (.istore 4, 2) := by decide +kernel
theorem dX3_repeatEnd_22 : decode cX3_repeatEnd 22 = .ok (.iload 4, 2) := by decide +kernel
theorem dX3_repeatEnd_24 : decode cX3_repeatEnd 24 = .ok (.iload_n 2, 1) := by decide +kernel
theorem dX3_repeatEnd_25 : decode cX3_repeatEnd 25 = .ok (.if_icmp .ge 16, 3) := by decide +kernel
theorem dX3_repeatEnd_28 : decode cX3_repeatEnd 28 = .ok (.aload_n 0, 1) := by decide +kernel
theorem dX3_repeatEnd_29 : decode cX3_repeatEnd 29 = .ok (.aload_n 0, 1) := by decide +kernel
theorem dX3_repeatEnd_30 : decode cX3_repeatEnd 30 = .ok (.iload_n 1, 1) := by decide +kernel
theorem dX3_repeatEnd_31 : decode cX3_repeatEnd 31 = .ok (.iload_n 3, 1) := by decide +kernel
theorem dX3_repeatEnd_32 : decode cX3_repeatEnd 32 = .ok (.invokevirtual 59, 3) := by decide +kernel
theorem dX3_repeatEnd_35 : decode cX3_repeatEnd 35 = .ok (.iinc 4 1, 3) := by decide +kernel
theorem dX3_repeatEnd_38 : decode cX3_repeatEnd 38 = .ok (.goto (-16), 3) := by decide +kernel
theorem dX3_repeatEnd_41 : decode cX3_repeatEnd 41 = .ok (.iconst 1, 1) := by decide +kernel
theorem dX3_repeatEnd_42 : decode cX3_repeatEnd 42 = .ok (.ireturn, 1) := by decide +kernel
theorem dX4_init_0 : decode cX4_init 0 = .ok (.aload_n 0, 1) := by decide +kernel
theorem dX4_init_1 : decode cX4_init 1 = .ok (.invokespecial 3, 3) := by decide +kernel
theorem dX4_init_4 : decode cX4_init 4 = .ok (.aload_n 0, 1) := by decide +kernel
theorem dX4_init_5 : decode cX4_init 5 = .ok (.iload_n 1, 1) := by decide +kernel
theorem dX4_init_6 : decode cX4_init 6 = .ok (.ifCond .le 7, 3) := by decide +kernel
theorem dX4_init_9 : decode cX4_init 9 = .ok (.iload_n 1, 1) := by decide +kernel
theorem dX4_init_10 : decode cX4_init 10 = .ok (.goto 4, 3) := by decide +kernel
theorem dX4_init_13 : decode cX4_init 13 = .ok (.iconst 0, 1) := by decide +kernel
theorem dX4_init_14 : decode cX4_init 14 = .ok (.newarray .int, 2) := by decide +kernel
theorem dX4_init_16 : decode cX4_init 16 = .ok (.putfield 9, 3) := by decide +kernel
theorem dX4_init_19 : decode cX4_init 19 = .ok (.return_, 1) := by decide +kernel
theorem dX4_size_0 : decode cX4_size 0 = .ok (.aload_n 0, 1) := by decide +kernel
theorem dX4_size_1 : decode cX4_size 1 = .ok (.getfield 15, 3) := by decide +kernel
theorem dX4_size_4 : decode cX4_size 4 = .ok (.ireturn, 1) := by decide +kernel
theorem dX4_isFull_0 : decode cX4_isFull 0 = .ok (.aload_n 0, 1) := by decide +kernel
theorem dX4_isFull_1 : decode cX4_isFull 1 = .ok (.getfield 15, 3) := by decide +kernel
theorem dX4_isFull_4 : decode cX4_isFull 4 = .ok (.aload_n 0, 1) := by decide +kernel
theorem dX4_isFull_5 : decode cX4_isFull 5 = .ok (.getfield 9, 3) := by decide +kernel
theorem dX4_isFull_8 : decode cX4_isFull 8 = .ok (.arraylength, 1) := by decide +kernel
theorem dX4_isFull_9 : decode cX4_isFull 9 = .ok (.if_icmp .lt 7, 3) := by decide +kernel
theorem dX4_isFull_12 : decode cX4_isFull 12 = .ok (.iconst 1, 1) := by decide +kernel
theorem dX4_isFull_13 : decode cX4_isFull 13 = .ok (.goto 4, 3) := by decide +kernel
theorem dX4_isFull_16 : decode cX4_isFull 16 = .ok (.iconst 0, 1) := by decide +kernel
theorem dX4_isFull_17 : decode cX4_isFull 17 = .ok (.ireturn, 1) := by decide +kernel
theorem dX4_has_0 : decode cX4_has 0 = .ok (.iload_n 1, 1) := by decide +kernel
theorem dX4_has_1 : decode cX4_has 1 = .ok (.ifCond .lt 15, 3) := by decide +kernel
theorem dX4_has_4 : decode cX4_has 4 = .ok (.iload_n 1, 1) := by decide +kernel
theorem dX4_has_5 : decode cX4_has 5 = .ok (.aload_n 0, 1) := by decide +kernel
theorem dX4_has_6 : decode cX4_has 6 = .ok (.getfield 15, 3) := by decide +kernel
theorem dX4_has_9 : decode cX4_has 9 = .ok (.if_icmp .ge 7, 3) := by decide +kernel
theorem dX4_has_12 : decode cX4_has 12 = .ok (.iconst 1, 1) := by decide +kernel
theorem dX4_has_13 : decode cX4_has 13 = .ok (.goto 4, 3) := by decide +kernel
theorem dX4_has_16 : decode cX4_has 16 = .ok (.iconst 0, 1) := by decide +kernel
theorem dX4_has_17 : decode cX4_has 17 = .ok (.ireturn, 1) := by decide +kernel
theorem dX4_at_0 : decode cX4_at 0 = .ok (.iload_n 1, 1) := by decide +kernel
theorem dX4_at_1 : decode cX4_at 1 = .ok (.ifCond .lt 29, 3) := by decide +kernel
theorem dX4_at_4 : decode cX4_at 4 = .ok (.iload_n 1, 1) := by decide +kernel
theorem dX4_at_5 : decode cX4_at 5 = .ok (.aload_n 0, 1) := by decide +kernel
theorem dX4_at_6 : decode cX4_at 6 = .ok (.getfield 15, 3) := by decide +kernel
theorem dX4_at_9 : decode cX4_at 9 = .ok (.if_icmp .ge 21, 3) := by decide +kernel
theorem dX4_at_12 : decode cX4_at 12 = .ok (.iload_n 1, 1) := by decide +kernel
theorem dX4_at_13 : decode cX4_at 13 = .ok (.aload_n 0, 1) := by decide +kernel
theorem dX4_at_14 : decode cX4_at 14 = .ok (.getfield 9, 3) := by decide +kernel
theorem dX4_at_17 : decode cX4_at 17 = .ok (.arraylength, 1) := by decide +kernel
theorem dX4_at_18 : decode cX4_at 18 = .ok (.if_icmp .ge 12, 3) := by decide +kernel
theorem dX4_at_21 : decode cX4_at 21 = .ok (.aload_n 0, 1) := by decide +kernel
theorem dX4_at_22 : decode cX4_at 22 = .ok (.getfield 9, 3) := by decide +kernel
theorem dX4_at_25 : decode cX4_at 25 = .ok (.iload_n 1, 1) := by decide +kernel
theorem dX4_at_26 : decode cX4_at 26 = .ok (.iaload, 1) := by decide +kernel
theorem dX4_at_27 : decode cX4_at 27 = .ok (.goto 4, 3) := by decide +kernel
theorem dX4_at_30 : decode cX4_at 30 = .ok (.iconst (-1), 1) := by decide +kernel
theorem dX4_at_31 : decode cX4_at 31 = .ok (.ireturn, 1) := by decide +kernel
theorem dX4_put_0 : decode cX4_put 0 = .ok (.iload_n 1, 1) := by decide +kernel
theorem dX4_put_1 : decode cX4_put 1 = .ok (.ifCond .lt 27, 3) := by decide +kernel
theorem dX4_put_4 : decode cX4_put 4 = .ok (.iload_n 1, 1) := by decide +kernel
theorem dX4_put_5 : decode cX4_put 5 = .ok (.aload_n 0, 1) := by decide +kernel
theorem dX4_put_6 : decode cX4_put 6 = .ok (.getfield 15, 3) := by decide +kernel
theorem dX4_put_9 : decode cX4_put 9 = .ok (.if_icmp .ge 19, 3) := by decide +kernel
theorem dX4_put_12 : decode cX4_put 12 = .ok (.iload_n 1, 1) := by decide +kernel
theorem dX4_put_13 : decode cX4_put 13 = .ok (.aload_n 0, 1) := by decide +kernel
theorem dX4_put_14 : decode cX4_put 14 = .ok (.getfield 9, 3) := by decide +kernel
theorem dX4_put_17 : decode cX4_put 17 = .ok (.arraylength, 1) := by decide +kernel
theorem dX4_put_18 : decode cX4_put 18 = .ok (.if_icmp .ge 10, 3) := by decide +kernel
theorem dX4_put_21 : decode cX4_put 21 = .ok (.aload_n 0, 1) := by decide +kernel
theorem dX4_put_22 : decode cX4_put 22 = .ok (.getfield 9, 3) := by decide +kernel
theorem dX4_put_25 : decode cX4_put 25 = .ok (.iload_n 1, 1) := by decide +kernel
theorem dX4_put_26 : decode cX4_put 26 = .ok (.iload_n 2, 1) := by decide +kernel
theorem dX4_put_27 : decode cX4_put 27 = .ok (.iastore, 1) := by decide +kernel
theorem dX4_put_28 : decode cX4_put 28 = .ok (.return_, 1) := by decide +kernel
theorem dX4_clear_0 : decode cX4_clear 0 = .ok (.aload_n 0, 1) := by decide +kernel
theorem dX4_clear_1 : decode cX4_clear 1 = .ok (.iconst 0, 1) := by decide +kernel
theorem dX4_clear_2 : decode cX4_clear 2 = .ok (.putfield 15, 3) := by decide +kernel
theorem dX4_clear_5 : decode cX4_clear 5 = .ok (.return_, 1) := by decide +kernel
theorem dX4_push_0 : decode cX4_push 0 = .ok (.aload_n 0, 1) := by decide +kernel
theorem dX4_push_1 : decode cX4_push 1 = .ok (.getfield 15, 3) := by decide +kernel
theorem dX4_push_4 : decode cX4_push 4 = .ok (.ifCond .lt 35, 3) := by decide +kernel
theorem dX4_push_7 : decode cX4_push 7 = .ok (.aload_n 0, 1) := by decide +kernel
theorem dX4_push_8 : decode cX4_push 8 = .ok (.getfield 15, 3) := by decide +kernel
theorem dX4_push_11 : decode cX4_push 11 = .ok (.aload_n 0, 1) := by decide +kernel
theorem dX4_push_12 : decode cX4_push 12 = .ok (.getfield 9, 3) := by decide +kernel
theorem dX4_push_15 : decode cX4_push 15 = .ok (.arraylength, 1) := by decide +kernel
theorem dX4_push_16 : decode cX4_push 16 = .ok (.if_icmp .ge 23, 3) := by decide +kernel
theorem dX4_push_19 : decode cX4_push 19 = .ok (.aload_n 0, 1) := by decide +kernel
theorem dX4_push_20 : decode cX4_push 20 = .ok (.getfield 9, 3) := by decide +kernel
theorem dX4_push_23 : decode cX4_push 23 = .ok (.aload_n 0, 1) := by decide +kernel
theorem dX4_push_24 : decode cX4_push 24 = .ok (.getfield 15, 3) := by decide +kernel
theorem dX4_push_27 : decode cX4_push 27 = .ok (.iload_n 1, 1) := by decide +kernel
theorem dX4_push_28 : decode cX4_push 28 = .ok (.iastore, 1) := by decide +kernel
theorem dX4_push_29 : decode cX4_push 29 = .ok (.aload_n 0, 1) := by decide +kernel
theorem dX4_push_30 : decode cX4_push 30 = .ok (.dup, 1) := by decide +kernel
theorem dX4_push_31 : decode cX4_push 31 = .ok (.getfield 15, 3) := by decide +kernel
theorem dX4_push_34 : decode cX4_push 34 = .ok (.iconst 1, 1) := by decide +kernel
theorem dX4_push_35 : decode cX4_push 35 = .ok (.iadd, 1) := by decide +kernel
theorem dX4_push_36 : decode cX4_push 36 = .ok (.putfield 15, 3) := by decide +kernel
theorem dX4_push_39 : decode cX4_push 39 = .ok (.return_, 1) := by decide +kernel
theorem dX4_pushPart_0 : decode cX4_pushPart 0 = .ok (.iload_n 2, 1) := by decide +kernel
theorem dX4_pushPart_1 : decode cX4_pushPart 1 = .ok (.istore 4, 2) := by decide +kernel
theorem dX4_pushPart_3 : decode cX4_pushPart 3 = .ok (.iload 4, 2) := by decide +kernel
theorem dX4_pushPart_5 : decode cX4_pushPart 5 = .ok (.iload_n 3, 1) := by decide +kernel
theorem dX4_pushPart_6 : decode cX4_pushPart 6 = .ok (.if_icmp .ge 19, 3) := by decide +kernel
theorem dX4_pushPart_9 : decode cX4_pushPart 9 = .ok (.aload_n 0, 1) := by decide +kernel
theorem dX4_pushPart_10 : decode cX4_pushPart 10 = .ok (.aload_n 1, 1) := by decide +kernel
theorem dX4_pushPart_11 : decode cX4_pushPart 11 = .ok (.iload 4, 2) := by decide +kernel
theorem dX4_pushPart_13 : decode cX4_pushPart 13 = .ok (.invokevirtual 19, 3) := by decide +kernel
theorem dX4_pushPart_16 : decode cX4_pushPart 16 = .ok (.invokevirtual 23, 3) := by decide +kernel
theorem dX4_pushPart_19 : decode cX4_pushPart 19 = .ok (.iinc 4 1, 3) := by decide +kernel
theorem dX4_pushPart_22 : decode cX4_pushPart 22 = .ok (.goto (-19), 3) := by decide +kernel
theorem dX4_pushPart_25 : decode cX4_pushPart 25 = .ok (.return_, 1) := by decide +kernel
theorem dX4_pushAt_0 : decode cX4_pushAt 0 = .ok (.aload_n 0, 1) := by decide +kernel
theorem dX4_pushAt_1 : decode cX4_pushAt 1 = .ok (.iload_n 2, 1) := by decide +kernel
theorem dX4_pushAt_2 : decode cX4_pushAt 2 = .ok (.invokevirtual 23, 3) := by decide +kernel
theorem dX4_pushAt_5 : decode cX4_pushAt 5 = .ok (.aload_n 0, 1) := by decide +kernel
theorem dX4_pushAt_6 : decode cX4_pushAt 6 = .ok (.getfield 15, 3) := by decide +kernel
theorem dX4_pushAt_9 : decode cX4_pushAt 9 = .ok (.iconst 1, 1) := by decide +kernel
theorem dX4_pushAt_10 : decode cX4_pushAt 10 = .ok (.isub, 1) := by decide +kernel
theorem dX4_pushAt_11 : decode cX4_pushAt 11 = .ok (.istore_n 3, 1) := by decide +kernel
theorem dX4_pushAt_12 : decode cX4_pushAt 12 = .ok (.iload_n 3, 1) := by decide +kernel
theorem dX4_pushAt_13 : decode cX4_pushAt 13 = .ok (.iload_n 1, 1) := by decide +kernel
theorem dX4_pushAt_14 : decode cX4_pushAt 14 = .ok (.if_icmp .le 21, 3) := by decide +kernel
theorem dX4_pushAt_17 : decode cX4_pushAt 17 = .ok (.aload_n 0, 1) := by decide +kernel
theorem dX4_pushAt_18 : decode cX4_pushAt 18 = .ok (.iload_n 3, 1) := by decide +kernel
theorem dX4_pushAt_19 : decode cX4_pushAt 19 = .ok (.aload_n 0, 1) := by decide +kernel
theorem dX4_pushAt_20 : decode cX4_pushAt 20 = .ok (.iload_n 3, 1) := by decide +kernel
theorem dX4_pushAt_21 : decode cX4_pushAt 21 = .ok (.iconst 1, 1) := by decide +kernel
theorem dX4_pushAt_22 : decode cX4_pushAt 22 = .ok (.isub, 1) := by decide +kernel
theorem dX4_pushAt_23 : decode cX4_pushAt 23 = .ok (.invokevirtual 19, 3) := by decide +kernel
theorem dX4_pushAt_26 : decode cX4_pushAt 26 = .ok (.invokevirtual 27, 3) := by decide +kernel
theorem dX4_pushAt_29 : decode cX4_pushAt 29 = .ok (.iinc 3 (-1), 3) := by decide +kernel
theorem dX4_pushAt_32 : decode cX4_pushAt 32 = .ok (.goto (-20), 3) := by decide +kernel
theorem dX4_pushAt_35 : decode cX4_pushAt 35 = .ok (.aload_n 0, 1) := by decide +kernel
theorem dX4_pushAt_36 : decode cX4_pushAt 36 = .ok (.iload_n 1, 1) := by decide +kernel
theorem dX4_pushAt_37 : decode cX4_pushAt 37 = .ok (.iload_n 2, 1) := by decide +kernel
theorem dX4_pushAt_38 : decode cX4_pushAt 38 = .ok (.invokevirtual 27, 3) := by decide +kernel
theorem dX4_pushAt_41 : decode cX4_pushAt 41 = .ok (.return_, 1) := by decide +kernel
theorem dX4_removeAt_0 : decode cX4_removeAt 0 = .ok (.aload_n 0, 1) := by decide +kernel
theorem dX4_removeAt_1 : decode cX4_removeAt 1 = .ok (.iload_n 1, 1) := by decide +kernel
theorem dX4_removeAt_2 : decode cX4_removeAt 2 = .ok (.invokevirtual 19, 3) := by decide +kernel
theorem dX4_removeAt_5 : decode cX4_removeAt 5 = .ok (.istore_n 2, 1) := by decide +kernel
theorem dX4_removeAt_6 : decode cX4_removeAt 6 = .ok (.aload_n 0, 1) := by decide +kernel
theorem dX4_removeAt_7 : decode cX4_removeAt 7 = .ok (.iload_n 1, 1) := by decide +kernel
theorem dX4_removeAt_8 : decode cX4_removeAt 8 = .ok (.invokevirtual 31, 3) := by decide +kernel
theorem dX4_removeAt_11 : decode cX4_removeAt 11 = .ok (.ifCond .eq 43, 3) := by decide +kernel
theorem dX4_removeAt_14 : decode cX4_removeAt 14 = .ok (.iload_n 1, 1) := by decide +kernel
theorem dX4_removeAt_15 : decode cX4_removeAt 15 = .ok (.istore_n 3, 1) := by decide +kernel
theorem dX4_removeAt_16 : decode cX4_removeAt 16 = .ok (.iload_n 3, 1) := by decide +kernel
theorem dX4_removeAt_17 : decode cX4_removeAt 17 = .ok (.aload_n 0, 1) := by decide +kernel
theorem dX4_removeAt_18 : decode cX4_removeAt 18 = .ok (.getfield 15, 3) := by decide +kernel
theorem dX4_removeAt_21 : decode cX4_removeAt 21 = .ok (.iconst 1, 1) := by decide +kernel
theorem dX4_removeAt_22 : decode cX4_removeAt 22 = .ok (.isub, 1) := by decide +kernel
theorem dX4_removeAt_23 : decode cX4_removeAt 23 = .ok (.if_icmp .ge 21, 3) := by decide +kernel
theorem dX4_removeAt_26 : decode cX4_removeAt 26 = .ok (.aload_n 0, 1) := by decide +kernel
theorem dX4_removeAt_27 : decode cX4_removeAt 27 = .ok (.iload_n 3, 1) := by decide +kernel
theorem dX4_removeAt_28 : decode cX4_removeAt 28 = .ok (.aload_n 0, 1) := by decide +kernel
theorem dX4_removeAt_29 : decode cX4_removeAt 29 = .ok (.iload_n 3, 1) := by decide +kernel
theorem dX4_removeAt_30 : decode cX4_removeAt 30 = .ok (.iconst 1, 1) := by decide +kernel
theorem dX4_removeAt_31 : decode cX4_removeAt 31 = .ok (.iadd, 1) := by decide +kernel
theorem dX4_removeAt_32 : decode cX4_removeAt 32 = .ok (.invokevirtual 19, 3) := by decide +kernel
theorem dX4_removeAt_35 : decode cX4_removeAt 35 = .ok (.invokevirtual 27, 3) := by decide +kernel
theorem dX4_removeAt_38 : decode cX4_removeAt 38 = .ok (.iinc 3 1, 3) := by decide +kernel
theorem dX4_removeAt_41 : decode cX4_removeAt 41 = .ok (.goto (-25), 3) := by decide +kernel
theorem dX4_removeAt_44 : decode cX4_removeAt 44 = .ok (.aload_n 0, 1) := by decide +kernel
theorem dX4_removeAt_45 : decode cX4_removeAt 45 = .ok (.dup, 1) := by decide +kernel
theorem dX4_removeAt_46 : decode cX4_removeAt 46 = .ok (.getfield 15, 3) := by decide +kernel
theorem dX4_removeAt_49 : decode cX4_removeAt 49 = .ok (.iconst 1, 1) := by decide +kernel
theorem dX4_removeAt_50 : decode cX4_removeAt 50 = .ok (.isub, 1) := by decide +kernel
theorem dX4_removeAt_51 : decode cX4_removeAt 51 = .ok (.putfield 15, 3) := by decide +kernel
theorem dX4_removeAt_54 : decode cX4_removeAt 54 = .ok (.iload_n 2, 1) := by decide +kernel
theorem dX4_removeAt_55 : decode cX4_removeAt 55 = .ok (.ireturn, 1) := by decide +kernel
theorem dX4_become_0 : decode cX4_become 0 = .ok (.aload_n 1, 1) := by decide +kernel
theorem dX4_become_1 : decode cX4_become 1 = .ok (.aload_n 0, 1) := by decide +kernel
theorem dX4_become_2 : decode cX4_become 2 = .ok (.if_acmp .ne 4, 3) := by decide +kernel
theorem dX4_become_5 : decode cX4_become 5 = .ok (.return_, 1) := by decide +kernel
theorem dX4_become_6 : decode cX4_become 6 = .ok (.aload_n 0, 1) := by decide +kernel
theorem dX4_become_7 : decode cX4_become 7 = .ok (.invokevirtual 35, 3) := by decide +kernel
theorem dX4_become_10 : decode cX4_become 10 = .ok (.aload_n 0, 1) := by decide +kernel
theorem dX4_become_11 : decode cX4_become 11 = .ok (.aload_n 1, 1) := by decide +kernel
theorem dX4_become_12 : decode cX4_become 12 = .ok (.iconst 0, 1) := by decide +kernel
theorem dX4_become_13 : decode cX4_become 13 = .ok (.aload_n 1, 1) := by decide +kernel
theorem dX4_become_14 : decode cX4_become 14 = .ok (.invokevirtual 38, 3) := by decide +kernel
theorem dX4_become_17 : decode cX4_become 17 = .ok (.invokevirtual 42, 3) := by decide +kernel
theorem dX4_become_20 : decode cX4_become 20 = .ok (.return_, 1) := by decide +kernel
theorem dX4_fillWith_0 : decode cX4_fillWith 0 = .ok (.aload_n 0, 1) := by decide +kernel
theorem dX4_fillWith_1 : decode cX4_fillWith 1 = .ok (.invokevirtual 35, 3) := by decide +kernel
theorem dX4_fillWith_4 : decode cX4_fillWith 4 = .ok (.iconst 0, 1) := by decide +kernel
theorem dX4_fillWith_5 : decode cX4_fillWith 5 = .ok (.istore_n 3, 1) := by decide +kernel
theorem dX4_fillWith_6 : decode cX4_fillWith 6 = .ok (.iload_n 3, 1) := by decide +kernel
theorem dX4_fillWith_7 : decode cX4_fillWith 7 = .ok (.iload_n 2, 1) := by decide +kernel
theorem dX4_fillWith_8 : decode cX4_fillWith 8 = .ok (.if_icmp .ge 14, 3) := by decide +kernel
theorem dX4_fillWith_11 : decode cX4_fillWith 11 = .ok (.aload_n 0, 1) := by decide +kernel
theorem dX4_fillWith_12 : decode cX4_fillWith 12 = .ok (.iload_n 1, 1) := by decide +kernel
theorem dX4_fillWith_13 : decode cX4_fillWith 13 = .ok (.invokevirtual 23, 3) := by decide +kernel
theorem dX4_fillWith_16 : decode cX4_fillWith 16 = .ok (.iinc 3 1, 3) := by decide +kernel
theorem dX4_fillWith_19 : decode cX4_fillWith 19 = .ok (.goto (-13), 3) := by decide +kernel
theorem dX4_fillWith_22 : decode cX4_fillWith 22 = .ok (.return_, 1) := by decide +kernel
theorem dX4_find_0 : decode cX4_find 0 = .ok (.iload_n 2, 1) := by decide +kernel
theorem dX4_find_1 : decode cX4_find 1 = .ok (.istore 4, 2) := by decide +kernel
theorem dX4_find_3 : decode cX4_find 3 = .ok (.iload 4, 2) := by decide +kernel
theorem dX4_find_5 : decode cX4_find 5 = .ok (.iload_n 3, 1) := by decide +kernel
theorem dX4_find_6 : decode cX4_find 6 = .ok (.if_icmp .ge 22, 3) := by decide +kernel
theorem dX4_find_9 : decode cX4_find 9 = .ok (.aload_n 0, 1) := by decide +kernel
theorem dX4_find_10 : decode cX4_find 10 = .ok (.iload 4, 2) := by decide +kernel
theorem dX4_find_12 : decode cX4_find 12 = .ok (.invokevirtual 19, 3) := by decide +kernel
theorem dX4_find_15 : decode cX4_find 15 = .ok (.iload_n 1, 1) := by decide +kernel
theorem dX4_find_16 : decode cX4_find 16 = .ok (.if_icmp .ne 6, 3) := by decide +kernel
theorem dX4_find_19 : decode cX4_find 19 = .ok (.iload 4, 2) := by decide +kernel
theorem dX4_find_21 : decode cX4_find 21 = .ok (.ireturn, 1) := by decide +kernel
theorem dX4_find_22 : decode cX4_find 22 = .ok (.iinc 4 1, 3) := by decide +kernel
theorem dX4_find_25 : decode cX4_find 25 = .ok (.goto (-22), 3) := by decide +kernel
theorem dX4_find_28 : decode cX4_find 28 = .ok (.iconst (-1), 1) := by decide +kernel
theorem dX4_find_29 : decode cX4_find 29 = .ok (.ireturn, 1) := by decide +kernel
theorem dX4_isOnce_0 : decode cX4_isOnce 0 = .ok (.iconst 0, 1) := by decide +kernel
theorem dX4_isOnce_1 : decode cX4_isOnce 1 = .ok (.istore_n 2, 1) := by decide +kernel
theorem dX4_isOnce_2 : decode cX4_isOnce 2 = .ok (.iconst 0, 1) := by decide +kernel
theorem dX4_isOnce_3 : decode cX4_isOnce 3 = .ok (.istore_n 3, 1) := by decide +kernel
theorem dX4_isOnce_4 : decode cX4_isOnce 4 = .ok (.iload_n 3, 1) := by decide +kernel
theorem dX4_isOnce_5 : decode cX4_isOnce 5 = .ok (.aload_n 0, 1) := by decide +kernel
theorem dX4_isOnce_6 : decode cX4_isOnce 6 = .ok (.getfield 15, 3) := by decide +kernel
theorem dX4_isOnce_9 : decode cX4_isOnce 9 = .ok (.if_icmp .ge 21, 3) := by decide +kernel
theorem dX4_isOnce_12 : decode cX4_isOnce 12 = .ok (.aload_n 0, 1) := by decide +kernel
theorem dX4_isOnce_13 : decode cX4_isOnce 13 = .ok (.iload_n 3, 1) := by decide +kernel
theorem dX4_isOnce_14 : decode cX4_isOnce 14 = .ok (.invokevirtual 19, 3) := by decide +kernel
theorem dX4_isOnce_17 : decode cX4_isOnce 17 = .ok (.iload_n 1, 1) := by decide +kernel
theorem dX4_isOnce_18 : decode cX4_isOnce 18 = .ok (.if_icmp .ne 6, 3) := by decide +kernel
theorem dX4_isOnce_21 : decode cX4_isOnce 21 = .ok (.iinc 2 1, 3) := by decide +kernel
theorem dX4_isOnce_24 : decode cX4_isOnce 24 = .ok (.iinc 3 1, 3) := by decide +kernel
theorem dX4_isOnce_27 : decode cX4_isOnce 27 = .ok (.goto (-23), 3) := by decide +kernel
theorem dX4_isOnce_30 : decode cX4_isOnce 30 = .ok (.iload_n 2, 1) := by decide +kernel
theorem dX4_isOnce_31 : decode cX4_isOnce 31 = .ok (.iconst 1, 1) := by decide +kernel
theorem dX4_isOnce_32 : decode cX4_isOnce 32 = .ok (.if_icmp .ne 7, 3) := by decide +kernel
theorem dX4_isOnce_35 : decode cX4_isOnce 35 = .ok (.iconst 1, 1) := by decide +kernel
theorem dX4_isOnce_36 : decode cX4_isOnce 36 = .ok (.goto 4, 3) := by decide +kernel
theorem dX4_isOnce_39 : decode cX4_isOnce 39 = .ok (.iconst 0, 1) := by decide +kernel
theorem dX4_isOnce_40 : decode cX4_isOnce 40 = .ok (.ireturn, 1) := by decide +kernel
theorem dX4_samePart_0 : decode cX4_samePart 0 = .ok (.iload_n 2, 1) := by decide +kernel
theorem dX4_samePart_1 : decode cX4_samePart 1 = .ok (.iload_n 1, 1) := by decide +kernel
theorem dX4_samePart_2 : decode cX4_samePart 2 = .ok (.isub, 1) := by decide +kernel
theorem dX4_samePart_3 : decode cX4_samePart 3 = .ok (.iload 5, 2) := by decide +kernel
theorem dX4_samePart_5 : decode cX4_samePart 5 = .ok (.iload 4, 2) := by decide +kernel
theorem dX4_samePart_7 : decode cX4_samePart 7 = .ok (.isub, 1) := by decide +kernel
theorem dX4_samePart_8 : decode cX4_samePart 8 = .ok (.if_icmp .eq 5, 3) := by decide +kernel
theorem dX4_samePart_11 : decode cX4_samePart 11 = .ok (.iconst 0, 1) := by decide +kernel
theorem dX4_samePart_12 : decode cX4_samePart 12 = .ok (.ireturn, 1) := by decide +kernel
theorem dX4_samePart_13 : decode cX4_samePart 13 = .ok (.iload_n 1, 1) := by decide +kernel
theorem dX4_samePart_14 : decode cX4_samePart 14 = .ok (.istore 6, 2) := by decide +kernel
theorem dX4_samePart_16 : decode cX4_samePart 16 = .ok (.iload 6, 2) := by decide +kernel
theorem dX4_samePart_18 : decode cX4_samePart 18 = .ok (.iload_n 2, 1) := by decide +kernel
theorem dX4_samePart_19 : decode cX4_samePart 19 = .ok (.if_icmp .ge 31, 3) := by decide +kernel
theorem dX4_samePart_22 : decode cX4_samePart 22 = .ok (.aload_n 0, 1) := by decide +kernel
theorem dX4_samePart_23 : decode cX4_samePart 23 = .ok (.iload 6, 2) := by decide +kernel
theorem dX4_samePart_25 : decode cX4_samePart 25 = .ok (.invokevirtual 19, 3) := by decide +kernel
theorem dX4_samePart_28 : decode cX4_samePart 28 = .ok (.aload_n 3, 1) := by decide +kernel
theorem dX4_samePart_29 : decode cX4_samePart 29 = .ok (.iload 4, 2) := by decide +kernel
theorem dX4_samePart_31 : decode cX4_samePart 31 = .ok (.iload 6, 2) := by decide +kernel
theorem dX4_samePart_33 : decode cX4_samePart 33 = .ok (.iadd, 1) := by decide +kernel
theorem dX4_samePart_34 : decode cX4_samePart 34 = .ok (.iload_n 1, 1) := by decide +kernel
theorem dX4_samePart_35 : decode cX4_samePart 35 = .ok (.isub, 1) := by decide +kernel
theorem dX4_samePart_36 : decode cX4_samePart 36 = .ok (.invokevirtual 19, 3) := by decide +kernel
theorem dX4_samePart_39 : decode cX4_samePart 39 = .ok (.if_icmp .eq 5, 3) := by decide +kernel
theorem dX4_samePart_42 : decode cX4_samePart 42 = .ok (.iconst 0, 1) := by decide +kernel
theorem dX4_samePart_43 : decode cX4_samePart 43 = .ok (.ireturn, 1) := by decide +kernel
theorem dX4_samePart_44 : decode cX4_samePart 44 = .ok (.iinc 6 1, 3) := by decide +kernel
theorem dX4_samePart_47 : decode cX4_samePart 47 = .ok (.goto (-31), 3) := by decide +kernel
theorem dX4_samePart_50 : decode cX4_samePart 50 = .ok (.iconst 1, 1) := by decide +kernel
theorem dX4_samePart_51 : decode cX4_samePart 51 = .ok (.ireturn, 1) := by decide +kernel
theorem dX5_init_0 : decode cX5_init 0 = .ok (.aload_n 0, 1) := by decide +kernel
theorem dX5_init_1 : decode cX5_init 1 = .ok (.invokespecial 3, 3) := by decide +kernel
theorem dX5_init_4 : decode cX5_init 4 = .ok (.aload_n 0, 1) := by decide +kernel
theorem dX5_init_5 : decode cX5_init 5 = .ok (.new 9, 3) := by decide +kernel
theorem dX5_init_8 : decode cX5_init 8 = .ok (.dup, 1) := by decide +kernel
theorem dX5_init_9 : decode cX5_init 9 = .ok (.bipush 24, 2) := by decide +kernel
theorem dX5_init_11 : decode cX5_init 11 = .ok (.invokespecial 11, 3) := by decide +kernel
theorem dX5_init_14 : decode cX5_init 14 = .ok (.putfield 14, 3) := by decide +kernel
theorem dX5_init_17 : decode cX5_init 17 = .ok (.aload_n 0, 1) := by decide +kernel
theorem dX5_init_18 : decode cX5_init 18 = .ok (.new 9, 3) := by decide +kernel
theorem dX5_init_21 : decode cX5_init 21 = .ok (.dup, 1) := by decide +kernel
theorem dX5_init_22 : decode cX5_init 22 = .ok (.bipush 24, 2) := by decide +kernel
theorem dX5_init_24 : decode cX5_init 24 = .ok (.invokespecial 11, 3) := by decide +kernel
theorem dX5_init_27 : decode cX5_init 27 = .ok (.putfield 20, 3) := by decide +kernel
theorem dX5_init_30 : decode cX5_init 30 = .ok (.aload_n 0, 1) := by decide +kernel
theorem dX5_init_31 : decode cX5_init 31 = .ok (.new 9, 3) := by decide +kernel
theorem dX5_init_34 : decode cX5_init 34 = .ok (.dup, 1) := by decide +kernel
theorem dX5_init_35 : decode cX5_init 35 = .ok (.bipush 24, 2) := by decide +kernel
theorem dX5_init_37 : decode cX5_init 37 = .ok (.invokespecial 11, 3) := by decide +kernel
theorem dX5_init_40 : decode cX5_init 40 = .ok (.putfield 23, 3) := by decide +kernel
theorem dX5_init_43 : decode cX5_init 43 = .ok (.aload_n 0, 1) := by decide +kernel
theorem dX5_init_44 : decode cX5_init 44 = .ok (.new 26, 3) := by decide +kernel
theorem dX5_init_47 : decode cX5_init 47 = .ok (.dup, 1) := by decide +kernel
theorem dX5_init_48 : decode cX5_init 48 = .ok (.invokespecial 28, 3) := by decide +kernel
theorem dX5_init_51 : decode cX5_init 51 = .ok (.putfield 29, 3) := by decide +kernel
theorem dX5_init_54 : decode cX5_init 54 = .ok (.aload_n 0, 1) := by decide +kernel
theorem dX5_init_55 : decode cX5_init 55 = .ok (.new 26, 3) := by decide +kernel
theorem dX5_init_58 : decode cX5_init 58 = .ok (.dup, 1) := by decide +kernel
theorem dX5_init_59 : decode cX5_init 59 = .ok (.invokespecial 28, 3) := by decide +kernel
theorem dX5_init_62 : decode cX5_init 62 = .ok (.putfield 33, 3) := by decide +kernel
theorem dX5_init_65 : decode cX5_init 65 = .ok (.aload_n 0, 1) := by decide +kernel
theorem dX5_init_66 : decode cX5_init 66 = .ok (.new 36, 3) := by decide +kernel
theorem dX5_init_69 : decode cX5_init 69 = .ok (.dup, 1) := by decide +kernel
theorem dX5_init_70 : decode cX5_init 70 = .ok (.bipush 100, 2) := by decide +kernel
theorem dX5_init_72 : decode cX5_init 72 = .ok (.bipush 8, 2) := by decide +kernel
theorem dX5_init_74 : decode cX5_init 74 = .ok (.invokespecial 38, 3) := by decide +kernel
theorem dX5_init_77 : decode cX5_init 77 = .ok (.putfield 41, 3) := by decide +kernel
theorem dX5_init_80 : decode cX5_init 80 = .ok (.aload_n 0, 1) := by decide +kernel
theorem dX5_init_81 : decode cX5_init 81 = .ok (.new 9, 3) := by decide +kernel
theorem dX5_init_84 : decode cX5_init 84 = .ok (.dup, 1) := by decide +kernel
theorem dX5_init_85 : decode cX5_init 85 = .ok (.bipush 100, 2) := by decide +kernel
theorem dX5_init_87 : decode cX5_init 87 = .ok (.invokespecial 11, 3) := by decide +kernel
theorem dX5_init_90 : decode cX5_init 90 = .ok (.putfield 45, 3) := by decide +kernel
theorem dX5_init_93 : decode cX5_init 93 = .ok (.aload_n 0, 1) := by decide +kernel
theorem dX5_init_94 : decode cX5_init 94 = .ok (.new 9, 3) := by decide +kernel
theorem dX5_init_97 : decode cX5_init 97 = .ok (.dup, 1) := by decide +kernel
theorem dX5_init_98 : decode cX5_init 98 = .ok (.sipush 192, 3) := by decide +kernel
theorem dX5_init_101 : decode cX5_init 101 = .ok (.invokespecial 11, 3) := by decide +kernel
theorem dX5_init_104 : decode cX5_init 104 = .ok (.putfield 48, 3) := by decide +kernel
theorem dX5_init_107 : decode cX5_init 107 = .ok (.return_, 1) := by decide +kernel
theorem dX5_exists_0 : decode cX5_exists 0 = .ok (.aload_n 0, 1) := by decide +kernel
theorem dX5_exists_1 : decode cX5_exists 1 = .ok (.getfield 51, 3) := by decide +kernel
theorem dX5_exists_4 : decode cX5_exists 4 = .ok (.ireturn, 1) := by decide +kernel
theorem dX5_outcomeLines_0 : decode cX5_outcomeLines 0 = .ok (.aload_n 0, 1) := by decide +kernel
theorem dX5_outcomeLines_1 : decode cX5_outcomeLines 1 = .ok (.getfield 48, 3) := by decide +kernel
theorem dX5_outcomeLines_4 : decode cX5_outcomeLines 4 = .ok (.areturn, 1) := by decide +kernel
theorem dX5_hold_0 : decode cX5_hold 0 = .ok (.aload_n 0, 1) := by decide +kernel
theorem dX5_hold_1 : decode cX5_hold 1 = .ok (.getfield 14, 3) := by decide +kernel
theorem dX5_hold_4 : decode cX5_hold 4 = .ok (.aload_n 1, 1) := by decide +kernel
theorem dX5_hold_5 : decode cX5_hold 5 = .ok (.invokevirtual 59, 3) := by decide +kernel
theorem dX5_hold_8 : decode cX5_hold 8 = .ok (.aload_n 0, 1) := by decide +kernel
theorem dX5_hold_9 : decode cX5_hold 9 = .ok (.getfield 20, 3) := by decide +kernel
theorem dX5_hold_12 : decode cX5_hold 12 = .ok (.aload_n 2, 1) := by decide +kernel
theorem dX5_hold_13 : decode cX5_hold 13 = .ok (.invokevirtual 59, 3) := by decide +kernel
theorem dX5_hold_16 : decode cX5_hold 16 = .ok (.aload_n 0, 1) := by decide +kernel
theorem dX5_hold_17 : decode cX5_hold 17 = .ok (.getfield 23, 3) := by decide +kernel
theorem dX5_hold_20 : decode cX5_hold 20 = .ok (.aload_n 3, 1) := by decide +kernel
theorem dX5_hold_21 : decode cX5_hold 21 = .ok (.invokevirtual 59, 3) := by decide +kernel
theorem dX5_hold_24 : decode cX5_hold 24 = .ok (.return_, 1) := by decide +kernel
theorem dX5_make_0 : decode cX5_make 0 = .ok (.aload_n 0, 1) := by decide +kernel
theorem dX5_make_1 : decode cX5_make 1 = .ok (.getfield 29, 3) := by decide +kernel
theorem dX5_make_4 : decode cX5_make 4 = .ok (.aload_n 0, 1) := by decide +kernel
theorem dX5_make_5 : decode cX5_make 5 = .ok (.getfield 14, 3) := by decide +kernel
theorem dX5_make_8 : decode cX5_make 8 = .ok (.aload_n 0, 1) := by decide +kernel
theorem dX5_make_9 : decode cX5_make 9 = .ok (.getfield 20, 3) := by decide +kernel
theorem dX5_make_12 : decode cX5_make 12 = .ok (.iload_n 1, 1) := by decide +kernel
theorem dX5_make_13 : decode cX5_make 13 = .ok (.invokevirtual 63, 3) := by decide +kernel
theorem dX5_make_16 : decode cX5_make 16 = .ok (.aload_n 0, 1) := by decide +kernel
theorem dX5_make_17 : decode cX5_make 17 = .ok (.getfield 33, 3) := by decide +kernel
theorem dX5_make_20 : decode cX5_make 20 = .ok (.aload_n 0, 1) := by decide +kernel
theorem dX5_make_21 : decode cX5_make 21 = .ok (.getfield 14, 3) := by decide +kernel
theorem dX5_make_24 : decode cX5_make 24 = .ok (.aload_n 0, 1) := by decide +kernel
theorem dX5_make_25 : decode cX5_make 25 = .ok (.getfield 23, 3) := by decide +kernel
theorem dX5_make_28 : decode cX5_make 28 = .ok (.iload_n 1, 1) := by decide +kernel
theorem dX5_make_29 : decode cX5_make 29 = .ok (.invokevirtual 63, 3) := by decide +kernel
theorem dX5_make_32 : decode cX5_make 32 = .ok (.aload_n 0, 1) := by decide +kernel
theorem dX5_make_33 : decode cX5_make 33 = .ok (.getfield 41, 3) := by decide +kernel
theorem dX5_make_36 : decode cX5_make 36 = .ok (.invokevirtual 67, 3) := by decide +kernel
theorem dX5_make_39 : decode cX5_make 39 = .ok (.aload_n 0, 1) := by decide +kernel
theorem dX5_make_40 : decode cX5_make 40 = .ok (.getfield 45, 3) := by decide +kernel
theorem dX5_make_43 : decode cX5_make 43 = .ok (.invokevirtual 70, 3) := by decide +kernel
theorem dX5_make_46 : decode cX5_make 46 = .ok (.iconst 0, 1) := by decide +kernel
theorem dX5_make_47 : decode cX5_make 47 = .ok (.istore_n 3, 1) := by decide +kernel
theorem dX5_make_48 : decode cX5_make 48 = .ok (.iconst 0, 1) := by decide +kernel
theorem dX5_make_49 : decode cX5_make 49 = .ok (.istore 4, 2) := by decide +kernel
theorem dX5_make_51 : decode cX5_make 51 = .ok (.iconst 0, 1) := by decide +kernel
theorem dX5_make_52 : decode cX5_make 52 = .ok (.istore 5, 2) := by decide +kernel
theorem dX5_make_54 : decode cX5_make 54 = .ok (.iconst 0, 1) := by decide +kernel
theorem dX5_make_55 : decode cX5_make 55 = .ok (.istore 6, 2) := by decide +kernel
theorem dX5_make_57 : decode cX5_make 57 = .ok (.iload 6, 2) := by decide +kernel
theorem dX5_make_59 : decode cX5_make 59 = .ok (.aload_n 0, 1) := by decide +kernel
theorem dX5_make_60 : decode cX5_make 60 = .ok (.getfield 14, 3) := by decide +kernel
theorem dX5_make_63 : decode cX5_make 63 = .ok (.invokevirtual 71, 3) := by decide +kernel
theorem dX5_make_66 : decode cX5_make 66 = .ok (.if_icmp .ge 102, 3) := by decide +kernel
theorem dX5_make_69 : decode cX5_make 69 = .ok (.aload_n 0, 1) := by decide +kernel
theorem dX5_make_70 : decode cX5_make 70 = .ok (.getfield 29, 3) := by decide +kernel
theorem dX5_make_73 : decode cX5_make 73 = .ok (.iload 6, 2) := by decide +kernel
theorem dX5_make_75 : decode cX5_make 75 = .ok (.invokevirtual 75, 3) := by decide +kernel
theorem dX5_make_78 : decode cX5_make 78 = .ok (.ifCond .eq 84, 3) := by decide +kernel
theorem dX5_make_81 : decode cX5_make 81 = .ok (.aload_n 0, 1) := by decide +kernel
theorem dX5_make_82 : decode cX5_make 82 = .ok (.getfield 33, 3) := by decide +kernel
theorem dX5_make_85 : decode cX5_make 85 = .ok (.iload 6, 2) := by decide +kernel
theorem dX5_make_87 : decode cX5_make 87 = .ok (.invokevirtual 75, 3) := by decide +kernel
theorem dX5_make_90 : decode cX5_make 90 = .ok (.ifCond .eq 72, 3) := by decide +kernel
theorem dX5_make_93 : decode cX5_make 93 = .ok (.aload_n 0, 1) := by decide +kernel
theorem dX5_make_94 : decode cX5_make 94 = .ok (.getfield 29, 3) := by decide +kernel
theorem dX5_make_97 : decode cX5_make 97 = .ok (.iload 6, 2) := by decide +kernel
theorem dX5_make_99 : decode cX5_make 99 = .ok (.invokevirtual 78, 3) := by decide +kernel
theorem dX5_make_102 : decode cX5_make 102 = .ok (.istore 7, 2) := by decide +kernel
theorem dX5_make_104 : decode cX5_make 104 = .ok (.aload_n 0, 1) := by decide +kernel
theorem dX5_make_105 : decode cX5_make 105 = .ok (.getfield 33, 3) := by decide +kernel
theorem dX5_make_108 : decode cX5_make 108 = .ok (.iload 6, 2) := by decide +kernel
theorem dX5_make_110 : decode cX5_make 110 = .ok (.invokevirtual 78, 3) := by decide +kernel
theorem dX5_make_113 : decode cX5_make 113 = .ok (.istore 8, 2) := by decide +kernel
theorem dX5_make_115 : decode cX5_make 115 = .ok (.aload_n 0, 1) := by decide +kernel
theorem dX5_make_116 : decode cX5_make 116 = .ok (.aload_n 0, 1) := by decide +kernel
theorem dX5_make_117 : decode cX5_make 117 = .ok (.iload_n 3, 1) := by decide +kernel
theorem dX5_make_118 : decode cX5_make 118 = .ok (.iload 6, 2) := by decide +kernel
theorem dX5_make_120 : decode cX5_make 120 = .ok (.iload 4, 2) := by decide +kernel
theorem dX5_make_122 : decode cX5_make 122 = .ok (.iload 7, 2) := by decide +kernel
theorem dX5_make_124 : decode cX5_make 124 = .ok (.iload 5, 2) := by decide +kernel
theorem dX5_make_126 : decode cX5_make 126 = .ok (.iload 8, 2) := by decide +kernel
theorem dX5_make_128 : decode cX5_make 128 = .ok (.invokevirtual 82, 3) := by decide +kernel
theorem dX5_make_131 : decode cX5_make 131 = .ok (.iload_n 2, 1) := by decide +kernel
theorem dX5_make_132 : decode cX5_make 132 = .ok (.invokevirtual 86, 3) := by decide +kernel
theorem dX5_make_135 : decode cX5_make 135 = .ok (.aload_n 0, 1) := by decide +kernel
theorem dX5_make_136 : decode cX5_make 136 = .ok (.iload 6, 2) := by decide +kernel
theorem dX5_make_138 : decode cX5_make 138 = .ok (.iload 7, 2) := by decide +kernel
theorem dX5_make_140 : decode cX5_make 140 = .ok (.iload 8, 2) := by decide +kernel
theorem dX5_make_142 : decode cX5_make 142 = .ok (.invokevirtual 90, 3) := by decide +kernel
theorem dX5_make_145 : decode cX5_make 145 = .ok (.iload 6, 2) := by decide +kernel
theorem dX5_make_147 : decode cX5_make 147 = .ok (.iconst 1, 1) := by decide +kernel
theorem dX5_make_148 : decode cX5_make 148 = .ok (.iadd, 1) := by decide +kernel
theorem dX5_make_149 : decode cX5_make 149 = .ok (.istore_n 3, 1) := by decide +kernel
theorem dX5_make_150 : decode cX5_make 150 = .ok (.iload 7, 2) := by decide +kernel
theorem dX5_make_152 : decode cX5_make 152 = .ok (.iconst 1, 1) := by decide +kernel
theorem dX5_make_153 : decode cX5_make 153 = .ok (.iadd, 1) := by decide +kernel
theorem dX5_make_154 : decode cX5_make 154 = .ok (.istore 4, 2) := by decide +kernel
theorem dX5_make_156 : decode cX5_make 156 = .ok (.iload 8, 2) := by decide +kernel
theorem dX5_make_158 : decode cX5_make 158 = .ok (.iconst 1, 1) := by decide +kernel
theorem dX5_make_159 : decode cX5_make 159 = .ok (.iadd, 1) := by decide +kernel
theorem dX5_make_160 : decode cX5_make 160 = .ok (.istore 5, 2) := by decide +kernel
theorem dX5_make_162 : decode cX5_make 162 = .ok (.iinc 6 1, 3) := by decide +kernel
theorem dX5_make_165 : decode cX5_make 165 = .ok (.goto (-108), 3) := by decide +kernel
theorem dX5_make_168 : decode cX5_make 168 = .ok (.aload_n 0, 1) := by decide +kernel
theorem dX5_make_169 : decode cX5_make 169 = .ok (.aload_n 0, 1) := by decide +kernel
theorem dX5_make_170 : decode cX5_make 170 = .ok (.iload_n 3, 1) := by decide +kernel
theorem dX5_make_171 : decode cX5_make 171 = .ok (.aload_n 0, 1) := by decide +kernel
theorem dX5_make_172 : decode cX5_make 172 = .ok (.getfield 14, 3) := by decide +kernel
theorem dX5_make_175 : decode cX5_make 175 = .ok (.invokevirtual 71, 3) := by decide +kernel
theorem dX5_make_178 : decode cX5_make 178 = .ok (.iload 4, 2) := by decide +kernel
theorem dX5_make_180 : decode cX5_make 180 = .ok (.aload_n 0, 1) := by decide +kernel
theorem dX5_make_181 : decode cX5_make 181 = .ok (.getfield 20, 3) := by decide +kernel
theorem dX5_make_184 : decode cX5_make 184 = .ok (.invokevirtual 71, 3) := by decide +kernel
theorem dX5_make_187 : decode cX5_make 187 = .ok (.iload 5, 2) := by decide +kernel
theorem dX5_make_189 : decode cX5_make 189 = .ok (.aload_n 0, 1) := by decide +kernel
theorem dX5_make_190 : decode cX5_make 190 = .ok (.getfield 23, 3) := by decide +kernel
theorem dX5_make_193 : decode cX5_make 193 = .ok (.invokevirtual 71, 3) := by decide +kernel
theorem dX5_make_196 : decode cX5_make 196 = .ok (.invokevirtual 82, 3) := by decide +kernel
theorem dX5_make_199 : decode cX5_make 199 = .ok (.iload_n 2, 1) := by decide +kernel
theorem dX5_make_200 : decode cX5_make 200 = .ok (.invokevirtual 86, 3) := by decide +kernel
theorem dX5_make_203 : decode cX5_make 203 = .ok (.aload_n 0, 1) := by decide +kernel
theorem dX5_make_204 : decode cX5_make 204 = .ok (.iconst 1, 1) := by decide +kernel
theorem dX5_make_205 : decode cX5_make 205 = .ok (.putfield 51, 3) := by decide +kernel
theorem dX5_make_208 : decode cX5_make 208 = .ok (.aload_n 0, 1) := by decide +kernel
theorem dX5_make_209 : decode cX5_make 209 = .ok (.invokevirtual 94, 3) := by decide +kernel
theorem dX5_make_212 : decode cX5_make 212 = .ok (.aload_n 0, 1) := by decide +kernel
theorem dX5_make_213 : decode cX5_make 213 = .ok (.getfield 45, 3) := by decide +kernel
theorem dX5_make_216 : decode cX5_make 216 = .ok (.invokevirtual 71, 3) := by decide +kernel
theorem dX5_make_219 : decode cX5_make 219 = .ok (.ireturn, 1) := by decide +kernel
theorem dX5_addPart_0 : decode cX5_addPart 0 = .ok (.iload_n 1, 1) := by decide +kernel
theorem dX5_addPart_1 : decode cX5_addPart 1 = .ok (.iload_n 2, 1) := by decide +kernel
theorem dX5_addPart_2 : decode cX5_addPart 2 = .ok (.if_icmp .ne 18, 3) := by decide +kernel
theorem dX5_addPart_5 : decode cX5_addPart 5 = .ok (.iload_n 3, 1) := by decide +kernel
theorem dX5_addPart_6 : decode cX5_addPart 6 = .ok (.iload 4, 2) := by decide +kernel
theorem dX5_addPart_8 : decode cX5_addPart 8 = .ok (.if_icmp .ne 12, 3) := by decide +kernel
theorem dX5_addPart_11 : decode cX5_addPart 11 = .ok (.iload 5, 2) := by decide +kernel
theorem dX5_addPart_13 : decode cX5_addPart 13 = .ok (.iload 6, 2) := by decide +kernel
theorem dX5_addPart_15 : decode cX5_addPart 15 = .ok (.if_icmp .ne 5, 3) := by decide +kernel
theorem dX5_addPart_18 : decode cX5_addPart 18 = .ok (.iconst (-1), 1) := by decide +kernel
theorem dX5_addPart_19 : decode cX5_addPart 19 = .ok (.ireturn, 1) := by decide +kernel
theorem dX5_addPart_20 : decode cX5_addPart 20 = .ok (.aload_n 0, 1) := by decide +kernel
theorem dX5_addPart_21 : decode cX5_addPart 21 = .ok (.getfield 41, 3) := by decide +kernel
theorem dX5_addPart_24 : decode cX5_addPart 24 = .ok (.invokevirtual 97, 3) := by decide +kernel
theorem dX5_addPart_27 : decode cX5_addPart 27 = .ok (.istore 7, 2) := by decide +kernel
theorem dX5_addPart_29 : decode cX5_addPart 29 = .ok (.aload_n 0, 1) := by decide +kernel
theorem dX5_addPart_30 : decode cX5_addPart 30 = .ok (.getfield 41, 3) := by decide +kernel
theorem dX5_addPart_33 : decode cX5_addPart 33 = .ok (.iload 7, 2) := by decide +kernel
theorem dX5_addPart_35 : decode cX5_addPart 35 = .ok (.iconst 1, 1) := by decide +kernel
theorem dX5_addPart_36 : decode cX5_addPart 36 = .ok (.iload_n 1, 1) := by decide +kernel
theorem dX5_addPart_37 : decode cX5_addPart 37 = .ok (.invokevirtual 100, 3) := by decide +kernel
theorem dX5_addPart_40 : decode cX5_addPart 40 = .ok (.aload_n 0, 1) := by decide +kernel
theorem dX5_addPart_41 : decode cX5_addPart 41 = .ok (.getfield 41, 3) := by decide +kernel
theorem dX5_addPart_44 : decode cX5_addPart 44 = .ok (.iload 7, 2) := by decide +kernel
theorem dX5_addPart_46 : decode cX5_addPart 46 = .ok (.iconst 2, 1) := by decide +kernel
theorem dX5_addPart_47 : decode cX5_addPart 47 = .ok (.iload_n 2, 1) := by decide +kernel
theorem dX5_addPart_48 : decode cX5_addPart 48 = .ok (.invokevirtual 100, 3) := by decide +kernel
theorem dX5_addPart_51 : decode cX5_addPart 51 = .ok (.aload_n 0, 1) := by decide +kernel
theorem dX5_addPart_52 : decode cX5_addPart 52 = .ok (.getfield 41, 3) := by decide +kernel
theorem dX5_addPart_55 : decode cX5_addPart 55 = .ok (.iload 7, 2) := by decide +kernel
theorem dX5_addPart_57 : decode cX5_addPart 57 = .ok (.iconst 3, 1) := by decide +kernel
theorem dX5_addPart_58 : decode cX5_addPart 58 = .ok (.iload_n 3, 1) := by decide +kernel
theorem dX5_addPart_59 : decode cX5_addPart 59 = .ok (.invokevirtual 100, 3) := by decide +kernel
theorem dX5_addPart_62 : decode cX5_addPart 62 = .ok (.aload_n 0, 1) := by decide +kernel
theorem dX5_addPart_63 : decode cX5_addPart 63 = .ok (.getfield 41, 3) := by decide +kernel
theorem dX5_addPart_66 : decode cX5_addPart 66 = .ok (.iload 7, 2) := by decide +kernel
theorem dX5_addPart_68 : decode cX5_addPart 68 = .ok (.iconst 4, 1) := by decide +kernel
theorem dX5_addPart_69 : decode cX5_addPart 69 = .ok (.iload 4, 2) := by decide +kernel
theorem dX5_addPart_71 : decode cX5_addPart 71 = .ok (.invokevirtual 100, 3) := by decide +kernel
theorem dX5_addPart_74 : decode cX5_addPart 74 = .ok (.aload_n 0, 1) := by decide +kernel
theorem dX5_addPart_75 : decode cX5_addPart 75 = .ok (.getfield 41, 3) := by decide +kernel
theorem dX5_addPart_78 : decode cX5_addPart 78 = .ok (.iload 7, 2) := by decide +kernel
theorem dX5_addPart_80 : decode cX5_addPart 80 = .ok (.iconst 5, 1) := by decide +kernel
theorem dX5_addPart_81 : decode cX5_addPart 81 = .ok (.iload 5, 2) := by decide +kernel
theorem dX5_addPart_83 : decode cX5_addPart 83 = .ok (.invokevirtual 100, 3) := by decide +kernel
theorem dX5_addPart_86 : decode cX5_addPart 86 = .ok (.aload_n 0, 1) := by decide +kernel
theorem dX5_addPart_87 : decode cX5_addPart 87 = .ok (.getfield 41, 3) := by decide +kernel
theorem dX5_addPart_90 : decode cX5_addPart 90 = .ok (.iload 7, 2) := by decide +kernel
theorem dX5_addPart_92 : decode cX5_addPart 92 = .ok (.bipush 6, 2) := by decide +kernel
theorem dX5_addPart_94 : decode cX5_addPart 94 = .ok (.iload 6, 2) := by decide +kernel
theorem dX5_addPart_96 : decode cX5_addPart 96 = .ok (.invokevirtual 100, 3) := by decide +kernel
theorem dX5_addPart_99 : decode cX5_addPart 99 = .ok (.iload 7, 2) := by decide +kernel
theorem dX5_addPart_101 : decode cX5_addPart 101 = .ok (.ireturn, 1) := by decide +kernel
theorem dX5_setKind_0 : decode cX5_setKind 0 = .ok (.aload_n 0, 1) := by decide +kernel
theorem dX5_setKind_1 : decode cX5_setKind 1 = .ok (.getfield 41, 3) := by decide +kernel
theorem dX5_setKind_4 : decode cX5_setKind 4 = .ok (.iload_n 1, 1) := by decide +kernel
theorem dX5_setKind_5 : decode cX5_setKind 5 = .ok (.iconst 0, 1) := by decide +kernel
theorem dX5_setKind_6 : decode cX5_setKind 6 = .ok (.iload_n 2, 1) := by decide +kernel
theorem dX5_setKind_7 : decode cX5_setKind 7 = .ok (.invokevirtual 100, 3) := by decide +kernel
theorem dX5_setKind_10 : decode cX5_setKind 10 = .ok (.return_, 1) := by decide +kernel
theorem dX5_addStable_0 : decode cX5_addStable 0 = .ok (.aload_n 0, 1) := by decide +kernel
theorem dX5_addStable_1 : decode cX5_addStable 1 = .ok (.getfield 41, 3) := by decide +kernel
theorem dX5_addStable_4 : decode cX5_addStable 4 = .ok (.invokevirtual 103, 3) := by decide +kernel
theorem dX5_addStable_7 : decode cX5_addStable 7 = .ok (.iconst 1, 1) := by decide +kernel
theorem dX5_addStable_8 : decode cX5_addStable 8 = .ok (.isub, 1) := by decide +kernel
theorem dX5_addStable_9 : decode cX5_addStable 9 = .ok (.istore 4, 2) := by decide +kernel
theorem dX5_addStable_11 : decode cX5_addStable 11 = .ok (.aload_n 0, 1) := by decide +kernel
theorem dX5_addStable_12 : decode cX5_addStable 12 = .ok (.getfield 41, 3) := by decide +kernel
theorem dX5_addStable_15 : decode cX5_addStable 15 = .ok (.iload 4, 2) := by decide +kernel
theorem dX5_addStable_17 : decode cX5_addStable 17 = .ok (.iconst 0, 1) := by decide +kernel
theorem dX5_addStable_18 : decode cX5_addStable 18 = .ok (.invokevirtual 106, 3) := by decide +kernel
theorem dX5_addStable_21 : decode cX5_addStable 21 = .ok (.ifCond .ne 46, 3) := by decide +kernel
theorem dX5_addStable_24 : decode cX5_addStable 24 = .ok (.aload_n 0, 1) := by decide +kernel
theorem dX5_addStable_25 : decode cX5_addStable 25 = .ok (.getfield 41, 3) := by decide +kernel
theorem dX5_addStable_28 : decode cX5_addStable 28 = .ok (.iload 4, 2) := by decide +kernel
theorem dX5_addStable_30 : decode cX5_addStable 30 = .ok (.iconst 2, 1) := by decide +kernel
theorem dX5_addStable_31 : decode cX5_addStable 31 = .ok (.iload_n 1, 1) := by decide +kernel
theorem dX5_addStable_32 : decode cX5_addStable 32 = .ok (.iconst 1, 1) := by decide +kernel
theorem dX5_addStable_33 : decode cX5_addStable 33 = .ok (.iadd, 1) := by decide +kernel
theorem dX5_addStable_34 : decode cX5_addStable 34 = .ok (.invokevirtual 100, 3) := by decide +kernel
theorem dX5_addStable_37 : decode cX5_addStable 37 = .ok (.aload_n 0, 1) := by decide +kernel
theorem dX5_addStable_38 : decode cX5_addStable 38 = .ok (.getfield 41, 3) := by decide +kernel
theorem dX5_addStable_41 : decode cX5_addStable 41 = .ok (.iload 4, 2) := by decide +kernel
theorem dX5_addStable_43 : decode cX5_addStable 43 = .ok (.iconst 4, 1) := by decide +kernel
theorem dX5_addStable_44 : decode cX5_addStable 44 = .ok (.iload_n 2, 1) := by decide +kernel
theorem dX5_addStable_45 : decode cX5_addStable 45 = .ok (.iconst 1, 1) := by decide +kernel
theorem dX5_addStable_46 : decode cX5_addStable 46 = .ok (.iadd, 1) := by decide +kernel
theorem dX5_addStable_47 : decode cX5_addStable 47 = .ok (.invokevirtual 100, 3) := by decide +kernel
theorem dX5_addStable_50 : decode cX5_addStable 50 = .ok (.aload_n 0, 1) := by decide +kernel
theorem dX5_addStable_51 : decode cX5_addStable 51 = .ok (.getfield 41, 3) := by decide +kernel
theorem dX5_addStable_54 : decode cX5_addStable 54 = .ok (.iload 4, 2) := by decide +kernel
theorem dX5_addStable_56 : decode cX5_addStable 56 = .ok (.bipush 6, 2) := by decide +kernel
theorem dX5_addStable_58 : decode cX5_addStable 58 = .ok (.iload_n 3, 1) := by decide +kernel
theorem dX5_addStable_59 : decode cX5_addStable 59 = .ok (.iconst 1, 1) := by decide +kernel
theorem dX5_addStable_60 : decode cX5_addStable 60 = .ok (.iadd, 1) := by decide +kernel
theorem dX5_addStable_61 : decode cX5_addStable 61 = .ok (.invokevirtual 100, 3) := by decide +kernel
theorem dX5_addStable_64 : decode cX5_addStable 64 = .ok (.goto 24, 3) := by decide +kernel
theorem dX5_addStable_67 : decode cX5_addStable 67 = .ok (.aload_n 0, 1) := by decide +kernel
theorem dX5_addStable_68 : decode cX5_addStable 68 = .ok (.aload_n 0, 1) := by decide +kernel
theorem dX5_addStable_69 : decode cX5_addStable 69 = .ok (.iload_n 1, 1) := by decide +kernel
theorem dX5_addStable_70 : decode cX5_addStable 70 = .ok (.iload_n 1, 1) := by decide +kernel
theorem dX5_addStable_71 : decode cX5_addStable 71 = .ok (.iconst 1, 1) := by decide +kernel
theorem dX5_addStable_72 : decode cX5_addStable 72 = .ok (.iadd, 1) := by decide +kernel
theorem dX5_addStable_73 : decode cX5_addStable 73 = .ok (.iload_n 2, 1) := by decide +kernel
theorem dX5_addStable_74 : decode cX5_addStable 74 = .ok (.iload_n 2, 1) := by decide +kernel
theorem dX5_addStable_75 : decode cX5_addStable 75 = .ok (.iconst 1, 1) := by decide +kernel
theorem dX5_addStable_76 : decode cX5_addStable 76 = .ok (.iadd, 1) := by decide +kernel
theorem dX5_addStable_77 : decode cX5_addStable 77 = .ok (.iload_n 3, 1) := by decide +kernel
theorem dX5_addStable_78 : decode cX5_addStable 78 = .ok (.iload_n 3, 1) := by decide +kernel
theorem dX5_addStable_79 : decode cX5_addStable 79 = .ok (.iconst 1, 1) := by decide +kernel
theorem dX5_addStable_80 : decode cX5_addStable 80 = .ok (.iadd, 1) := by decide +kernel
theorem dX5_addStable_81 : decode cX5_addStable 81 = .ok (.invokevirtual 82, 3) := by decide +kernel
theorem dX5_addStable_84 : decode cX5_addStable 84 = .ok (.iconst 0, 1) := by decide +kernel
theorem dX5_addStable_85 : decode cX5_addStable 85 = .ok (.invokevirtual 110, 3) := by decide +kernel
theorem dX5_addStable_88 : decode cX5_addStable 88 = .ok (.return_, 1) := by decide +kernel
theorem dX5_addRegion_0 : decode cX5_addRegion 0 = .ok (.iload_n 1, 1) := by decide +kernel
theorem dX5_addRegion_1 : decode cX5_addRegion 1 = .ok (.iconst (-1), 1) := by decide +kernel
theorem dX5_addRegion_2 : decode cX5_addRegion 2 = .ok (.if_icmp .ne 4, 3) := by decide +kernel
theorem dX5_addRegion_5 : decode cX5_addRegion 5 = .ok (.return_, 1) := by decide +kernel
theorem dX5_addRegion_6 : decode cX5_addRegion 6 = .ok (.aload_n 0, 1) := by decide +kernel
theorem dX5_addRegion_7 : decode cX5_addRegion 7 = .ok (.iload_n 1, 1) := by decide +kernel
theorem dX5_addRegion_8 : decode cX5_addRegion 8 = .ok (.invokevirtual 113, 3) := by decide +kernel
theorem dX5_addRegion_11 : decode cX5_addRegion 11 = .ok (.istore_n 3, 1) := by decide +kernel
theorem dX5_addRegion_12 : decode cX5_addRegion 12 = .ok (.aload_n 0, 1) := by decide +kernel
theorem dX5_addRegion_13 : decode cX5_addRegion 13 = .ok (.iload_n 1, 1) := by decide +kernel
theorem dX5_addRegion_14 : decode cX5_addRegion 14 = .ok (.iload_n 3, 1) := by decide +kernel
theorem dX5_addRegion_15 : decode cX5_addRegion 15 = .ok (.invokevirtual 110, 3) := by decide +kernel
theorem dX5_addRegion_18 : decode cX5_addRegion 18 = .ok (.iload_n 3, 1) := by decide +kernel
theorem dX5_addRegion_19 : decode cX5_addRegion 19 = .ok (.iconst 4, 1) := by decide +kernel
theorem dX5_addRegion_20 : decode cX5_addRegion 20 = .ok (.if_icmp .ne 23, 3) := by decide +kernel
theorem dX5_addRegion_23 : decode cX5_addRegion 23 = .ok (.iload_n 2, 1) := by decide +kernel
theorem dX5_addRegion_24 : decode cX5_addRegion 24 = .ok (.ifCond .eq 11, 3) := by decide +kernel
theorem dX5_addRegion_27 : decode cX5_addRegion 27 = .ok (.aload_n 0, 1) := by decide +kernel
theorem dX5_addRegion_28 : decode cX5_addRegion 28 = .ok (.iload_n 1, 1) := by decide +kernel
theorem dX5_addRegion_29 : decode cX5_addRegion 29 = .ok (.invokevirtual 116, 3) := by decide +kernel
theorem dX5_addRegion_32 : decode cX5_addRegion 32 = .ok (.goto 11, 3) := by decide +kernel
theorem dX5_addRegion_35 : decode cX5_addRegion 35 = .ok (.aload_n 0, 1) := by decide +kernel
theorem dX5_addRegion_36 : decode cX5_addRegion 36 = .ok (.getfield 45, 3) := by decide +kernel
theorem dX5_addRegion_39 : decode cX5_addRegion 39 = .ok (.iload_n 1, 1) := by decide +kernel
theorem dX5_addRegion_40 : decode cX5_addRegion 40 = .ok (.invokevirtual 119, 3) := by decide +kernel
theorem dX5_addRegion_43 : decode cX5_addRegion 43 = .ok (.return_, 1) := by decide +kernel
theorem dX5_kindOf_0 : decode cX5_kindOf 0 = .ok (.aload_n 0, 1) := by decide +kernel
theorem dX5_kindOf_1 : decode cX5_kindOf 1 = .ok (.aload_n 0, 1) := by decide +kernel
theorem dX5_kindOf_2 : decode cX5_kindOf 2 = .ok (.getfield 20, 3) := by decide +kernel
theorem dX5_kindOf_5 : decode cX5_kindOf 5 = .ok (.iload_n 1, 1) := by decide +kernel
theorem dX5_kindOf_6 : decode cX5_kindOf 6 = .ok (.iconst 3, 1) := by decide +kernel
theorem dX5_kindOf_7 : decode cX5_kindOf 7 = .ok (.aload_n 0, 1) := by decide +kernel
theorem dX5_kindOf_8 : decode cX5_kindOf 8 = .ok (.getfield 14, 3) := by decide +kernel
theorem dX5_kindOf_11 : decode cX5_kindOf 11 = .ok (.iconst 1, 1) := by decide +kernel
theorem dX5_kindOf_12 : decode cX5_kindOf 12 = .ok (.invokevirtual 122, 3) := by decide +kernel
theorem dX5_kindOf_15 : decode cX5_kindOf 15 = .ok (.ifCond .eq 5, 3) := by decide +kernel
theorem dX5_kindOf_18 : decode cX5_kindOf 18 = .ok (.iconst 2, 1) := by decide +kernel
theorem dX5_kindOf_19 : decode cX5_kindOf 19 = .ok (.ireturn, 1) := by decide +kernel
theorem dX5_kindOf_20 : decode cX5_kindOf 20 = .ok (.aload_n 0, 1) := by decide +kernel
theorem dX5_kindOf_21 : decode cX5_kindOf 21 = .ok (.aload_n 0, 1) := by decide +kernel
theorem dX5_kindOf_22 : decode cX5_kindOf 22 = .ok (.getfield 23, 3) := by decide +kernel
theorem dX5_kindOf_25 : decode cX5_kindOf 25 = .ok (.iload_n 1, 1) := by decide +kernel
theorem dX5_kindOf_26 : decode cX5_kindOf 26 = .ok (.iconst 5, 1) := by decide +kernel
theorem dX5_kindOf_27 : decode cX5_kindOf 27 = .ok (.aload_n 0, 1) := by decide +kernel
theorem dX5_kindOf_28 : decode cX5_kindOf 28 = .ok (.getfield 14, 3) := by decide +kernel
theorem dX5_kindOf_31 : decode cX5_kindOf 31 = .ok (.iconst 1, 1) := by decide +kernel
theorem dX5_kindOf_32 : decode cX5_kindOf 32 = .ok (.invokevirtual 122, 3) := by decide +kernel
theorem dX5_kindOf_35 : decode cX5_kindOf 35 = .ok (.ifCond .eq 5, 3) := by decide +kernel
theorem dX5_kindOf_38 : decode cX5_kindOf 38 = .ok (.iconst 1, 1) := by decide +kernel
theorem dX5_kindOf_39 : decode cX5_kindOf 39 = .ok (.ireturn, 1) := by decide +kernel
theorem dX5_kindOf_40 : decode cX5_kindOf 40 = .ok (.aload_n 0, 1) := by decide +kernel
theorem dX5_kindOf_41 : decode cX5_kindOf 41 = .ok (.aload_n 0, 1) := by decide +kernel
theorem dX5_kindOf_42 : decode cX5_kindOf 42 = .ok (.getfield 20, 3) := by decide +kernel
theorem dX5_kindOf_45 : decode cX5_kindOf 45 = .ok (.iload_n 1, 1) := by decide +kernel
theorem dX5_kindOf_46 : decode cX5_kindOf 46 = .ok (.iconst 3, 1) := by decide +kernel
theorem dX5_kindOf_47 : decode cX5_kindOf 47 = .ok (.aload_n 0, 1) := by decide +kernel
theorem dX5_kindOf_48 : decode cX5_kindOf 48 = .ok (.getfield 23, 3) := by decide +kernel
theorem dX5_kindOf_51 : decode cX5_kindOf 51 = .ok (.iconst 5, 1) := by decide +kernel
theorem dX5_kindOf_52 : decode cX5_kindOf 52 = .ok (.invokevirtual 122, 3) := by decide +kernel
theorem dX5_kindOf_55 : decode cX5_kindOf 55 = .ok (.ifCond .eq 7, 3) := by decide +kernel
theorem dX5_kindOf_58 : decode cX5_kindOf 58 = .ok (.iconst 3, 1) := by decide +kernel
theorem dX5_kindOf_59 : decode cX5_kindOf 59 = .ok (.goto 4, 3) := by decide +kernel
theorem dX5_kindOf_62 : decode cX5_kindOf 62 = .ok (.iconst 4, 1) := by decide +kernel
theorem dX5_kindOf_63 : decode cX5_kindOf 63 = .ok (.ireturn, 1) := by decide +kernel
theorem dX5_samePart_0 : decode cX5_samePart 0 = .ok (.aload_n 1, 1) := by decide +kernel
theorem dX5_samePart_1 : decode cX5_samePart 1 = .ok (.aload_n 0, 1) := by decide +kernel
theorem dX5_samePart_2 : decode cX5_samePart 2 = .ok (.getfield 41, 3) := by decide +kernel
theorem dX5_samePart_5 : decode cX5_samePart 5 = .ok (.iload_n 2, 1) := by decide +kernel
theorem dX5_samePart_6 : decode cX5_samePart 6 = .ok (.iload_n 3, 1) := by decide +kernel
theorem dX5_samePart_7 : decode cX5_samePart 7 = .ok (.invokevirtual 106, 3) := by decide +kernel
theorem dX5_samePart_10 : decode cX5_samePart 10 = .ok (.aload_n 0, 1) := by decide +kernel
theorem dX5_samePart_11 : decode cX5_samePart 11 = .ok (.getfield 41, 3) := by decide +kernel
theorem dX5_samePart_14 : decode cX5_samePart 14 = .ok (.iload_n 2, 1) := by decide +kernel
theorem dX5_samePart_15 : decode cX5_samePart 15 = .ok (.iload_n 3, 1) := by decide +kernel
theorem dX5_samePart_16 : decode cX5_samePart 16 = .ok (.iconst 1, 1) := by decide +kernel
theorem dX5_samePart_17 : decode cX5_samePart 17 = .ok (.iadd, 1) := by decide +kernel
theorem dX5_samePart_18 : decode cX5_samePart 18 = .ok (.invokevirtual 106, 3) := by decide +kernel
theorem dX5_samePart_21 : decode cX5_samePart 21 = .ok (.aload 4, 2) := by decide +kernel
theorem dX5_samePart_23 : decode cX5_samePart 23 = .ok (.aload_n 0, 1) := by decide +kernel
theorem dX5_samePart_24 : decode cX5_samePart 24 = .ok (.getfield 41, 3) := by decide +kernel
theorem dX5_samePart_27 : decode cX5_samePart 27 = .ok (.iload_n 2, 1) := by decide +kernel
theorem dX5_samePart_28 : decode cX5_samePart 28 = .ok (.iload 5, 2) := by decide +kernel
theorem dX5_samePart_30 : decode cX5_samePart 30 = .ok (.invokevirtual 106, 3) := by decide +kernel
theorem dX5_samePart_33 : decode cX5_samePart 33 = .ok (.aload_n 0, 1) := by decide +kernel
theorem dX5_samePart_34 : decode cX5_samePart 34 = .ok (.getfield 41, 3) := by decide +kernel
theorem dX5_samePart_37 : decode cX5_samePart 37 = .ok (.iload_n 2, 1) := by decide +kernel
theorem dX5_samePart_38 : decode cX5_samePart 38 = .ok (.iload 5, 2) := by decide +kernel
theorem dX5_samePart_40 : decode cX5_samePart 40 = .ok (.iconst 1, 1) := by decide +kernel
theorem dX5_samePart_41 : decode cX5_samePart 41 = .ok (.iadd, 1) := by decide +kernel
theorem dX5_samePart_42 : decode cX5_samePart 42 = .ok (.invokevirtual 106, 3) := by decide +kernel
theorem dX5_samePart_45 : decode cX5_samePart 45 = .ok (.invokevirtual 126, 3) := by decide +kernel
theorem dX5_samePart_48 : decode cX5_samePart 48 = .ok (.ireturn, 1) := by decide +kernel
theorem dX5_shrink_0 : decode cX5_shrink 0 = .ok (.aload_n 0, 1) := by decide +kernel
theorem dX5_shrink_1 : decode cX5_shrink 1 = .ok (.getfield 41, 3) := by decide +kernel
theorem dX5_shrink_4 : decode cX5_shrink 4 = .ok (.iload_n 1, 1) := by decide +kernel
theorem dX5_shrink_5 : decode cX5_shrink 5 = .ok (.iconst 1, 1) := by decide +kernel
theorem dX5_shrink_6 : decode cX5_shrink 6 = .ok (.invokevirtual 106, 3) := by decide +kernel
theorem dX5_shrink_9 : decode cX5_shrink 9 = .ok (.istore_n 2, 1) := by decide +kernel
theorem dX5_shrink_10 : decode cX5_shrink 10 = .ok (.aload_n 0, 1) := by decide +kernel
theorem dX5_shrink_11 : decode cX5_shrink 11 = .ok (.getfield 41, 3) := by decide +kernel
theorem dX5_shrink_14 : decode cX5_shrink 14 = .ok (.iload_n 1, 1) := by decide +kernel
theorem dX5_shrink_15 : decode cX5_shrink 15 = .ok (.iconst 2, 1) := by decide +kernel
theorem dX5_shrink_16 : decode cX5_shrink 16 = .ok (.invokevirtual 106, 3) := by decide +kernel
theorem dX5_shrink_19 : decode cX5_shrink 19 = .ok (.istore_n 3, 1) := by decide +kernel
theorem dX5_shrink_20 : decode cX5_shrink 20 = .ok (.aload_n 0, 1) := by decide +kernel
theorem dX5_shrink_21 : decode cX5_shrink 21 = .ok (.getfield 41, 3) := by decide +kernel
theorem dX5_shrink_24 : decode cX5_shrink 24 = .ok (.iload_n 1, 1) := by decide +kernel
theorem dX5_shrink_25 : decode cX5_shrink 25 = .ok (.iconst 3, 1) := by decide +kernel
theorem dX5_shrink_26 : decode cX5_shrink 26 = .ok (.invokevirtual 106, 3) := by decide +kernel
theorem dX5_shrink_29 : decode cX5_shrink 29 = .ok (.istore 4, 2) := by decide +kernel
theorem dX5_shrink_31 : decode cX5_shrink 31 = .ok (.aload_n 0, 1) := by decide +kernel
theorem dX5_shrink_32 : decode cX5_shrink 32 = .ok (.getfield 41, 3) := by decide +kernel
theorem dX5_shrink_35 : decode cX5_shrink 35 = .ok (.iload_n 1, 1) := by decide +kernel
theorem dX5_shrink_36 : decode cX5_shrink 36 = .ok (.iconst 4, 1) := by decide +kernel
theorem dX5_shrink_37 : decode cX5_shrink 37 = .ok (.invokevirtual 106, 3) := by decide +kernel
theorem dX5_shrink_40 : decode cX5_shrink 40 = .ok (.istore 5, 2) := by decide +kernel
theorem dX5_shrink_42 : decode cX5_shrink 42 = .ok (.aload_n 0, 1) := by decide +kernel
theorem dX5_shrink_43 : decode cX5_shrink 43 = .ok (.getfield 41, 3) := by decide +kernel
theorem dX5_shrink_46 : decode cX5_shrink 46 = .ok (.iload_n 1, 1) := by decide +kernel
theorem dX5_shrink_47 : decode cX5_shrink 47 = .ok (.iconst 5, 1) := by decide +kernel
theorem dX5_shrink_48 : decode cX5_shrink 48 = .ok (.invokevirtual 106, 3) := by decide +kernel
theorem dX5_shrink_51 : decode cX5_shrink 51 = .ok (.istore 6, 2) := by decide +kernel
theorem dX5_shrink_53 : decode cX5_shrink 53 = .ok (.aload_n 0, 1) := by decide +kernel
theorem dX5_shrink_54 : decode cX5_shrink 54 = .ok (.getfield 41, 3) := by decide +kernel
theorem dX5_shrink_57 : decode cX5_shrink 57 = .ok (.iload_n 1, 1) := by decide +kernel
theorem dX5_shrink_58 : decode cX5_shrink 58 = .ok (.bipush 6, 2) := by decide +kernel
theorem dX5_shrink_60 : decode cX5_shrink 60 = .ok (.invokevirtual 106, 3) := by decide +kernel
theorem dX5_shrink_63 : decode cX5_shrink 63 = .ok (.istore 7, 2) := by decide +kernel
theorem dX5_shrink_65 : decode cX5_shrink 65 = .ok (.aload_n 0, 1) := by decide +kernel
theorem dX5_shrink_66 : decode cX5_shrink 66 = .ok (.iload 4, 2) := by decide +kernel
theorem dX5_shrink_68 : decode cX5_shrink 68 = .ok (.iload 5, 2) := by decide +kernel
theorem dX5_shrink_70 : decode cX5_shrink 70 = .ok (.iload 6, 2) := by decide +kernel
theorem dX5_shrink_72 : decode cX5_shrink 72 = .ok (.iload 7, 2) := by decide +kernel
theorem dX5_shrink_74 : decode cX5_shrink 74 = .ok (.invokevirtual 129, 3) := by decide +kernel
theorem dX5_shrink_77 : decode cX5_shrink 77 = .ok (.istore 8, 2) := by decide +kernel
theorem dX5_shrink_79 : decode cX5_shrink 79 = .ok (.aload_n 0, 1) := by decide +kernel
theorem dX5_shrink_80 : decode cX5_shrink 80 = .ok (.iload 4, 2) := by decide +kernel
theorem dX5_shrink_82 : decode cX5_shrink 82 = .ok (.iload 8, 2) := by decide +kernel
theorem dX5_shrink_84 : decode cX5_shrink 84 = .ok (.iadd, 1) := by decide +kernel
theorem dX5_shrink_85 : decode cX5_shrink 85 = .ok (.iload 5, 2) := by decide +kernel
theorem dX5_shrink_87 : decode cX5_shrink 87 = .ok (.iload 6, 2) := by decide +kernel
theorem dX5_shrink_89 : decode cX5_shrink 89 = .ok (.iload 8, 2) := by decide +kernel
theorem dX5_shrink_91 : decode cX5_shrink 91 = .ok (.iadd, 1) := by decide +kernel
theorem dX5_shrink_92 : decode cX5_shrink 92 = .ok (.iload 7, 2) := by decide +kernel
theorem dX5_shrink_94 : decode cX5_shrink 94 = .ok (.invokevirtual 133, 3) := by decide +kernel
theorem dX5_shrink_97 : decode cX5_shrink 97 = .ok (.istore 9, 2) := by decide +kernel
theorem dX5_shrink_99 : decode cX5_shrink 99 = .ok (.iload_n 1, 1) := by decide +kernel
theorem dX5_shrink_100 : decode cX5_shrink 100 = .ok (.istore 10, 2) := by decide +kernel
theorem dX5_shrink_102 : decode cX5_shrink 102 = .ok (.iload 8, 2) := by decide +kernel
theorem dX5_shrink_104 : decode cX5_shrink 104 = .ok (.ifCond .le 77, 3) := by decide +kernel
theorem dX5_shrink_107 : decode cX5_shrink 107 = .ok (.aload_n 0, 1) := by decide +kernel
theorem dX5_shrink_108 : decode cX5_shrink 108 = .ok (.iload_n 1, 1) := by decide +kernel
theorem dX5_shrink_109 : decode cX5_shrink 109 = .ok (.iconst 3, 1) := by decide +kernel
theorem dX5_shrink_110 : decode cX5_shrink 110 = .ok (.invokevirtual 110, 3) := by decide +kernel
theorem dX5_shrink_113 : decode cX5_shrink 113 = .ok (.aload_n 0, 1) := by decide +kernel
theorem dX5_shrink_114 : decode cX5_shrink 114 = .ok (.getfield 41, 3) := by decide +kernel
theorem dX5_shrink_117 : decode cX5_shrink 117 = .ok (.iload_n 1, 1) := by decide +kernel
theorem dX5_shrink_118 : decode cX5_shrink 118 = .ok (.iconst 2, 1) := by decide +kernel
theorem dX5_shrink_119 : decode cX5_shrink 119 = .ok (.iload_n 2, 1) := by decide +kernel
theorem dX5_shrink_120 : decode cX5_shrink 120 = .ok (.invokevirtual 100, 3) := by decide +kernel
theorem dX5_shrink_123 : decode cX5_shrink 123 = .ok (.aload_n 0, 1) := by decide +kernel
theorem dX5_shrink_124 : decode cX5_shrink 124 = .ok (.getfield 41, 3) := by decide +kernel
theorem dX5_shrink_127 : decode cX5_shrink 127 = .ok (.iload_n 1, 1) := by decide +kernel
theorem dX5_shrink_128 : decode cX5_shrink 128 = .ok (.iconst 4, 1) := by decide +kernel
theorem dX5_shrink_129 : decode cX5_shrink 129 = .ok (.iload 4, 2) := by decide +kernel
theorem dX5_shrink_131 : decode cX5_shrink 131 = .ok (.iload 8, 2) := by decide +kernel
theorem dX5_shrink_133 : decode cX5_shrink 133 = .ok (.iadd, 1) := by decide +kernel
theorem dX5_shrink_134 : decode cX5_shrink 134 = .ok (.invokevirtual 100, 3) := by decide +kernel
theorem dX5_shrink_137 : decode cX5_shrink 137 = .ok (.aload_n 0, 1) := by decide +kernel
theorem dX5_shrink_138 : decode cX5_shrink 138 = .ok (.getfield 41, 3) := by decide +kernel
theorem dX5_shrink_141 : decode cX5_shrink 141 = .ok (.iload_n 1, 1) := by decide +kernel
theorem dX5_shrink_142 : decode cX5_shrink 142 = .ok (.bipush 6, 2) := by decide +kernel
theorem dX5_shrink_144 : decode cX5_shrink 144 = .ok (.iload 6, 2) := by decide +kernel
theorem dX5_shrink_146 : decode cX5_shrink 146 = .ok (.iload 8, 2) := by decide +kernel
theorem dX5_shrink_148 : decode cX5_shrink 148 = .ok (.iadd, 1) := by decide +kernel
theorem dX5_shrink_149 : decode cX5_shrink 149 = .ok (.invokevirtual 100, 3) := by decide +kernel
theorem dX5_shrink_152 : decode cX5_shrink 152 = .ok (.aload_n 0, 1) := by decide +kernel
theorem dX5_shrink_153 : decode cX5_shrink 153 = .ok (.iload_n 2, 1) := by decide +kernel
theorem dX5_shrink_154 : decode cX5_shrink 154 = .ok (.iload_n 3, 1) := by decide +kernel
theorem dX5_shrink_155 : decode cX5_shrink 155 = .ok (.iload 4, 2) := by decide +kernel
theorem dX5_shrink_157 : decode cX5_shrink 157 = .ok (.iload 8, 2) := by decide +kernel
theorem dX5_shrink_159 : decode cX5_shrink 159 = .ok (.iadd, 1) := by decide +kernel
theorem dX5_shrink_160 : decode cX5_shrink 160 = .ok (.iload 5, 2) := by decide +kernel
theorem dX5_shrink_162 : decode cX5_shrink 162 = .ok (.iload 6, 2) := by decide +kernel
theorem dX5_shrink_164 : decode cX5_shrink 164 = .ok (.iload 8, 2) := by decide +kernel
theorem dX5_shrink_166 : decode cX5_shrink 166 = .ok (.iadd, 1) := by decide +kernel
theorem dX5_shrink_167 : decode cX5_shrink 167 = .ok (.iload 7, 2) := by decide +kernel
theorem dX5_shrink_169 : decode cX5_shrink 169 = .ok (.invokevirtual 82, 3) := by decide +kernel
theorem dX5_shrink_172 : decode cX5_shrink 172 = .ok (.istore 10, 2) := by decide +kernel
theorem dX5_shrink_174 : decode cX5_shrink 174 = .ok (.aload_n 0, 1) := by decide +kernel
theorem dX5_shrink_175 : decode cX5_shrink 175 = .ok (.iload 10, 2) := by decide +kernel
theorem dX5_shrink_177 : decode cX5_shrink 177 = .ok (.iconst 4, 1) := by decide +kernel
theorem dX5_shrink_178 : decode cX5_shrink 178 = .ok (.invokevirtual 110, 3) := by decide +kernel
theorem dX5_shrink_181 : decode cX5_shrink 181 = .ok (.aload_n 0, 1) := by decide +kernel
theorem dX5_shrink_182 : decode cX5_shrink 182 = .ok (.getfield 45, 3) := by decide +kernel
theorem dX5_shrink_185 : decode cX5_shrink 185 = .ok (.iload 10, 2) := by decide +kernel
theorem dX5_shrink_187 : decode cX5_shrink 187 = .ok (.invokevirtual 119, 3) := by decide +kernel
theorem dX5_shrink_190 : decode cX5_shrink 190 = .ok (.iload 9, 2) := by decide +kernel
theorem dX5_shrink_192 : decode cX5_shrink 192 = .ok (.ifCond .le 59, 3) := by decide +kernel
theorem dX5_shrink_195 : decode cX5_shrink 195 = .ok (.aload_n 0, 1) := by decide +kernel
theorem dX5_shrink_196 : decode cX5_shrink 196 = .ok (.getfield 41, 3) := by decide +kernel
theorem dX5_shrink_199 : decode cX5_shrink 199 = .ok (.iload 10, 2) := by decide +kernel
theorem dX5_shrink_201 : decode cX5_shrink 201 = .ok (.iconst 4, 1) := by decide +kernel
theorem dX5_shrink_202 : decode cX5_shrink 202 = .ok (.iload 5, 2) := by decide +kernel
theorem dX5_shrink_204 : decode cX5_shrink 204 = .ok (.iload 9, 2) := by decide +kernel
theorem dX5_shrink_206 : decode cX5_shrink 206 = .ok (.isub, 1) := by decide +kernel
theorem dX5_shrink_207 : decode cX5_shrink 207 = .ok (.invokevirtual 100, 3) := by decide +kernel
theorem dX5_shrink_210 : decode cX5_shrink 210 = .ok (.aload_n 0, 1) := by decide +kernel
theorem dX5_shrink_211 : decode cX5_shrink 211 = .ok (.getfield 41, 3) := by decide +kernel
theorem dX5_shrink_214 : decode cX5_shrink 214 = .ok (.iload 10, 2) := by decide +kernel
theorem dX5_shrink_216 : decode cX5_shrink 216 = .ok (.bipush 6, 2) := by decide +kernel
theorem dX5_shrink_218 : decode cX5_shrink 218 = .ok (.iload 7, 2) := by decide +kernel
theorem dX5_shrink_220 : decode cX5_shrink 220 = .ok (.iload 9, 2) := by decide +kernel
theorem dX5_shrink_222 : decode cX5_shrink 222 = .ok (.isub, 1) := by decide +kernel
theorem dX5_shrink_223 : decode cX5_shrink 223 = .ok (.invokevirtual 100, 3) := by decide +kernel
theorem dX5_shrink_226 : decode cX5_shrink 226 = .ok (.aload_n 0, 1) := by decide +kernel
theorem dX5_shrink_227 : decode cX5_shrink 227 = .ok (.aload_n 0, 1) := by decide +kernel
theorem dX5_shrink_228 : decode cX5_shrink 228 = .ok (.iload_n 3, 1) := by decide +kernel
theorem dX5_shrink_229 : decode cX5_shrink 229 = .ok (.iload_n 3, 1) := by decide +kernel
theorem dX5_shrink_230 : decode cX5_shrink 230 = .ok (.iload 5, 2) := by decide +kernel
theorem dX5_shrink_232 : decode cX5_shrink 232 = .ok (.iload 9, 2) := by decide +kernel
theorem dX5_shrink_234 : decode cX5_shrink 234 = .ok (.isub, 1) := by decide +kernel
theorem dX5_shrink_235 : decode cX5_shrink 235 = .ok (.iload 5, 2) := by decide +kernel
theorem dX5_shrink_237 : decode cX5_shrink 237 = .ok (.iload 7, 2) := by decide +kernel
theorem dX5_shrink_239 : decode cX5_shrink 239 = .ok (.iload 9, 2) := by decide +kernel
theorem dX5_shrink_241 : decode cX5_shrink 241 = .ok (.isub, 1) := by decide +kernel
theorem dX5_shrink_242 : decode cX5_shrink 242 = .ok (.iload 7, 2) := by decide +kernel
theorem dX5_shrink_244 : decode cX5_shrink 244 = .ok (.invokevirtual 82, 3) := by decide +kernel
theorem dX5_shrink_247 : decode cX5_shrink 247 = .ok (.iconst 3, 1) := by decide +kernel
theorem dX5_shrink_248 : decode cX5_shrink 248 = .ok (.invokevirtual 110, 3) := by decide +kernel
theorem dX5_shrink_251 : decode cX5_shrink 251 = .ok (.return_, 1) := by decide +kernel
theorem dX5_commonBegin_0 : decode cX5_commonBegin 0 = .ok (.iload_n 2, 1) := by decide +kernel
theorem dX5_commonBegin_1 : decode cX5_commonBegin 1 = .ok (.iload_n 1, 1) := by decide +kernel
theorem dX5_commonBegin_2 : decode cX5_commonBegin 2 = .ok (.isub, 1) := by decide +kernel
theorem dX5_commonBegin_3 : decode cX5_commonBegin 3 = .ok (.iload 4, 2) := by decide +kernel
theorem dX5_commonBegin_5 : decode cX5_commonBegin 5 = .ok (.iload_n 3, 1) := by decide +kernel
theorem dX5_commonBegin_6 : decode cX5_commonBegin 6 = .ok (.isub, 1) := by decide +kernel
theorem dX5_commonBegin_7 : decode cX5_commonBegin 7 = .ok (.invokestatic 136, 3) := by decide +kernel
theorem dX5_commonBegin_10 : decode cX5_commonBegin 10 = .ok (.istore 5, 2) := by decide +kernel
theorem dX5_commonBegin_12 : decode cX5_commonBegin 12 = .ok (.iconst 0, 1) := by decide +kernel
theorem dX5_commonBegin_13 : decode cX5_commonBegin 13 = .ok (.istore 6, 2) := by decide +kernel
theorem dX5_commonBegin_15 : decode cX5_commonBegin 15 = .ok (.iload 6, 2) := by decide +kernel
theorem dX5_commonBegin_17 : decode cX5_commonBegin 17 = .ok (.iload 5, 2) := by decide +kernel
theorem dX5_commonBegin_19 : decode cX5_commonBegin 19 = .ok (.if_icmp .ge 34, 3) := by decide +kernel
theorem dX5_commonBegin_22 : decode cX5_commonBegin 22 = .ok (.aload_n 0, 1) := by decide +kernel
theorem dX5_commonBegin_23 : decode cX5_commonBegin 23 = .ok (.getfield 20, 3) := by decide +kernel
theorem dX5_commonBegin_26 : decode cX5_commonBegin 26 = .ok (.iload_n 1, 1) := by decide +kernel
theorem dX5_commonBegin_27 : decode cX5_commonBegin 27 = .ok (.iload 6, 2) := by decide +kernel
theorem dX5_commonBegin_29 : decode cX5_commonBegin 29 = .ok (.iadd, 1) := by decide +kernel
theorem dX5_commonBegin_30 : decode cX5_commonBegin 30 = .ok (.invokevirtual 141, 3) := by decide +kernel
theorem dX5_commonBegin_33 : decode cX5_commonBegin 33 = .ok (.aload_n 0, 1) := by decide +kernel
theorem dX5_commonBegin_34 : decode cX5_commonBegin 34 = .ok (.getfield 23, 3) := by decide +kernel
theorem dX5_commonBegin_37 : decode cX5_commonBegin 37 = .ok (.iload_n 3, 1) := by decide +kernel
theorem dX5_commonBegin_38 : decode cX5_commonBegin 38 = .ok (.iload 6, 2) := by decide +kernel
theorem dX5_commonBegin_40 : decode cX5_commonBegin 40 = .ok (.iadd, 1) := by decide +kernel
theorem dX5_commonBegin_41 : decode cX5_commonBegin 41 = .ok (.invokevirtual 141, 3) := by decide +kernel
theorem dX5_commonBegin_44 : decode cX5_commonBegin 44 = .ok (.if_icmp .ne 9, 3) := by decide +kernel
theorem dX5_commonBegin_47 : decode cX5_commonBegin 47 = .ok (.iinc 6 1, 3) := by decide +kernel
theorem dX5_commonBegin_50 : decode cX5_commonBegin 50 = .ok (.goto (-35), 3) := by decide +kernel
theorem dX5_commonBegin_53 : decode cX5_commonBegin 53 = .ok (.iload 6, 2) := by decide +kernel
theorem dX5_commonBegin_55 : decode cX5_commonBegin 55 = .ok (.ireturn, 1) := by decide +kernel
theorem dX5_commonEnd_0 : decode cX5_commonEnd 0 = .ok (.iload_n 2, 1) := by decide +kernel
theorem dX5_commonEnd_1 : decode cX5_commonEnd 1 = .ok (.iload_n 1, 1) := by decide +kernel
theorem dX5_commonEnd_2 : decode cX5_commonEnd 2 = .ok (.isub, 1) := by decide +kernel
theorem dX5_commonEnd_3 : decode cX5_commonEnd 3 = .ok (.iload 4, 2) := by decide +kernel
theorem dX5_commonEnd_5 : decode cX5_commonEnd 5 = .ok (.iload_n 3, 1) := by decide +kernel
theorem dX5_commonEnd_6 : decode cX5_commonEnd 6 = .ok (.isub, 1) := by decide +kernel
theorem dX5_commonEnd_7 : decode cX5_commonEnd 7 = .ok (.invokestatic 136, 3) := by decide +kernel
theorem dX5_commonEnd_10 : decode cX5_commonEnd 10 = .ok (.istore 5, 2) := by decide +kernel
theorem dX5_commonEnd_12 : decode cX5_commonEnd 12 = .ok (.iconst 0, 1) := by decide +kernel
theorem dX5_commonEnd_13 : decode cX5_commonEnd 13 = .ok (.istore 6, 2) := by decide +kernel
theorem dX5_commonEnd_15 : decode cX5_commonEnd 15 = .ok (.iload 6, 2) := by decide +kernel
theorem dX5_commonEnd_17 : decode cX5_commonEnd 17 = .ok (.iload 5, 2) := by decide +kernel
theorem dX5_commonEnd_19 : decode cX5_commonEnd 19 = .ok (.if_icmp .ge 39, 3) := by decide +kernel
theorem dX5_commonEnd_22 : decode cX5_commonEnd 22 = .ok (.aload_n 0, 1) := by decide +kernel
theorem dX5_commonEnd_23 : decode cX5_commonEnd 23 = .ok (.getfield 20, 3) := by decide +kernel
theorem dX5_commonEnd_26 : decode cX5_commonEnd 26 = .ok (.iload_n 2, 1) := by decide +kernel
theorem dX5_commonEnd_27 : decode cX5_commonEnd 27 = .ok (.iconst 1, 1) := by decide +kernel
theorem dX5_commonEnd_28 : decode cX5_commonEnd 28 = .ok (.isub, 1) := by decide +kernel
theorem dX5_commonEnd_29 : decode cX5_commonEnd 29 = .ok (.iload 6, 2) := by decide +kernel
theorem dX5_commonEnd_31 : decode cX5_commonEnd 31 = .ok (.isub, 1) := by decide +kernel
theorem dX5_commonEnd_32 : decode cX5_commonEnd 32 = .ok (.invokevirtual 141, 3) := by decide +kernel
theorem dX5_commonEnd_35 : decode cX5_commonEnd 35 = .ok (.aload_n 0, 1) := by decide +kernel
theorem dX5_commonEnd_36 : decode cX5_commonEnd 36 = .ok (.getfield 23, 3) := by decide +kernel
theorem dX5_commonEnd_39 : decode cX5_commonEnd 39 = .ok (.iload 4, 2) := by decide +kernel
theorem dX5_commonEnd_41 : decode cX5_commonEnd 41 = .ok (.iconst 1, 1) := by decide +kernel
theorem dX5_commonEnd_42 : decode cX5_commonEnd 42 = .ok (.isub, 1) := by decide +kernel
theorem dX5_commonEnd_43 : decode cX5_commonEnd 43 = .ok (.iload 6, 2) := by decide +kernel
theorem dX5_commonEnd_45 : decode cX5_commonEnd 45 = .ok (.isub, 1) := by decide +kernel
theorem dX5_commonEnd_46 : decode cX5_commonEnd 46 = .ok (.invokevirtual 141, 3) := by decide +kernel
theorem dX5_commonEnd_49 : decode cX5_commonEnd 49 = .ok (.if_icmp .ne 9, 3) := by decide +kernel
theorem dX5_commonEnd_52 : decode cX5_commonEnd 52 = .ok (.iinc 6 1, 3) := by decide +kernel
theorem dX5_commonEnd_55 : decode cX5_commonEnd 55 = .ok (.goto (-40), 3) := by decide +kernel
theorem dX5_commonEnd_58 : decode cX5_commonEnd 58 = .ok (.iload 6, 2) := by decide +kernel
theorem dX5_commonEnd_60 : decode cX5_commonEnd 60 = .ok (.ireturn, 1) := by decide +kernel
theorem dX5_writeResult_0 : decode cX5_writeResult 0 = .ok (.aload_n 0, 1) := by decide +kernel
theorem dX5_writeResult_1 : decode cX5_writeResult 1 = .ok (.getfield 48, 3) := by decide +kernel
theorem dX5_writeResult_4 : decode cX5_writeResult 4 = .ok (.invokevirtual 70, 3) := by decide +kernel
theorem dX5_writeResult_7 : decode cX5_writeResult 7 = .ok (.iconst 0, 1) := by decide +kernel
theorem dX5_writeResult_8 : decode cX5_writeResult 8 = .ok (.istore_n 1, 1) := by decide +kernel
theorem dX5_writeResult_9 : decode cX5_writeResult 9 = .ok (.iload_n 1, 1) := by decide +kernel
theorem dX5_writeResult_10 : decode cX5_writeResult 10 = .ok (.aload_n 0, 1) := by decide +kernel
theorem dX5_writeResult_11 : decode cX5_writeResult 11 = .ok (.getfield 41, 3) := by decide +kernel
theorem dX5_writeResult_14 : decode cX5_writeResult 14 = .ok (.invokevirtual 103, 3) := by decide +kernel
theorem dX5_writeResult_17 : decode cX5_writeResult 17 = .ok (.if_icmp .ge 60, 3) := by decide +kernel
theorem dX5_writeResult_20 : decode cX5_writeResult 20 = .ok (.aload_n 0, 1) := by decide +kernel
theorem dX5_writeResult_21 : decode cX5_writeResult 21 = .ok (.getfield 41, 3) := by decide +kernel
theorem dX5_writeResult_24 : decode cX5_writeResult 24 = .ok (.iload_n 1, 1) := by decide +kernel
theorem dX5_writeResult_25 : decode cX5_writeResult 25 = .ok (.iconst 0, 1) := by decide +kernel
theorem dX5_writeResult_26 : decode cX5_writeResult 26 = .ok (.invokevirtual 106, 3) := by decide +kernel
theorem dX5_writeResult_29 : decode cX5_writeResult 29 = .ok (.istore_n 2, 1) := by decide +kernel
theorem dX5_writeResult_30 : decode cX5_writeResult 30 = .ok (.iload_n 2, 1) := by decide +kernel
theorem dX5_writeResult_31 : decode cX5_writeResult 31 = .ok (.iconst 4, 1) := by decide +kernel
theorem dX5_writeResult_32 : decode cX5_writeResult 32 = .ok (.if_icmp .ne 21, 3) := by decide +kernel
theorem dX5_writeResult_35 : decode cX5_writeResult 35 = .ok (.aload_n 0, 1) := by decide +kernel
theorem dX5_writeResult_36 : decode cX5_writeResult 36 = .ok (.iload_n 1, 1) := by decide +kernel
theorem dX5_writeResult_37 : decode cX5_writeResult 37 = .ok (.aload_n 0, 1) := by decide +kernel
theorem dX5_writeResult_38 : decode cX5_writeResult 38 = .ok (.getfield 41, 3) := by decide +kernel
theorem dX5_writeResult_41 : decode cX5_writeResult 41 = .ok (.iload_n 1, 1) := by decide +kernel
theorem dX5_writeResult_42 : decode cX5_writeResult 42 = .ok (.bipush 7, 2) := by decide +kernel
theorem dX5_writeResult_44 : decode cX5_writeResult 44 = .ok (.invokevirtual 106, 3) := by decide +kernel
theorem dX5_writeResult_47 : decode cX5_writeResult 47 = .ok (.invokevirtual 146, 3) := by decide +kernel
theorem dX5_writeResult_50 : decode cX5_writeResult 50 = .ok (.goto 21, 3) := by decide +kernel
theorem dX5_writeResult_53 : decode cX5_writeResult 53 = .ok (.iload_n 2, 1) := by decide +kernel
theorem dX5_writeResult_54 : decode cX5_writeResult 54 = .ok (.iconst 2, 1) := by decide +kernel
theorem dX5_writeResult_55 : decode cX5_writeResult 55 = .ok (.if_icmp .ne 11, 3) := by decide +kernel
theorem dX5_writeResult_58 : decode cX5_writeResult 58 = .ok (.aload_n 0, 1) := by decide +kernel
theorem dX5_writeResult_59 : decode cX5_writeResult 59 = .ok (.iload_n 1, 1) := by decide +kernel
theorem dX5_writeResult_60 : decode cX5_writeResult 60 = .ok (.invokevirtual 149, 3) := by decide +kernel
theorem dX5_writeResult_63 : decode cX5_writeResult 63 = .ok (.goto 8, 3) := by decide +kernel
theorem dX5_writeResult_66 : decode cX5_writeResult 66 = .ok (.aload_n 0, 1) := by decide +kernel
theorem dX5_writeResult_67 : decode cX5_writeResult 67 = .ok (.iload_n 1, 1) := by decide +kernel
theorem dX5_writeResult_68 : decode cX5_writeResult 68 = .ok (.invokevirtual 152, 3) := by decide +kernel
theorem dX5_writeResult_71 : decode cX5_writeResult 71 = .ok (.iinc 1 1, 3) := by decide +kernel
theorem dX5_writeResult_74 : decode cX5_writeResult 74 = .ok (.goto (-65), 3) := by decide +kernel
theorem dX5_writeResult_77 : decode cX5_writeResult 77 = .ok (.return_, 1) := by decide +kernel
theorem dX5_writeConflict_0 : decode cX5_writeConflict 0 = .ok (.iload_n 2, 1) := by decide +kernel
theorem dX5_writeConflict_1 : decode cX5_writeConflict 1 = .ok (.tableswitch 109 0 4 #[35, 43, 51, 64, 77], 35) := by decide +kernel
theorem dX5_writeConflict_36 : decode cX5_writeConflict 36 = .ok (.aload_n 0, 1) := by decide +kernel
theorem dX5_writeConflict_37 : decode cX5_writeConflict 37 = .ok (.iload_n 1, 1) := by decide +kernel
theorem dX5_writeConflict_38 : decode cX5_writeConflict 38 = .ok (.invokevirtual 152, 3) := by decide +kernel
theorem dX5_writeConflict_41 : decode cX5_writeConflict 41 = .ok (.goto 105, 3) := by decide +kernel
theorem dX5_writeConflict_44 : decode cX5_writeConflict 44 = .ok (.aload_n 0, 1) := by decide +kernel
theorem dX5_writeConflict_45 : decode cX5_writeConflict 45 = .ok (.iload_n 1, 1) := by decide +kernel
theorem dX5_writeConflict_46 : decode cX5_writeConflict 46 = .ok (.invokevirtual 149, 3) := by decide +kernel
theorem dX5_writeConflict_49 : decode cX5_writeConflict 49 = .ok (.goto 97, 3) := by decide +kernel
theorem dX5_writeConflict_52 : decode cX5_writeConflict 52 = .ok (.aload_n 0, 1) := by decide +kernel
theorem dX5_writeConflict_53 : decode cX5_writeConflict 53 = .ok (.iload_n 1, 1) := by decide +kernel
theorem dX5_writeConflict_54 : decode cX5_writeConflict 54 = .ok (.invokevirtual 152, 3) := by decide +kernel
theorem dX5_writeConflict_57 : decode cX5_writeConflict 57 = .ok (.aload_n 0, 1) := by decide +kernel
theorem dX5_writeConflict_58 : decode cX5_writeConflict 58 = .ok (.iload_n 1, 1) := by decide +kernel
theorem dX5_writeConflict_59 : decode cX5_writeConflict 59 = .ok (.invokevirtual 149, 3) := by decide +kernel
theorem dX5_writeConflict_62 : decode cX5_writeConflict 62 = .ok (.goto 84, 3) := by decide +kernel
theorem dX5_writeConflict_65 : decode cX5_writeConflict 65 = .ok (.aload_n 0, 1) := by decide +kernel
theorem dX5_writeConflict_66 : decode cX5_writeConflict 66 = .ok (.iload_n 1, 1) := by decide +kernel
theorem dX5_writeConflict_67 : decode cX5_writeConflict 67 = .ok (.invokevirtual 149, 3) := by decide +kernel
theorem dX5_writeConflict_70 : decode cX5_writeConflict 70 = .ok (.aload_n 0, 1) := by decide +kernel
theorem dX5_writeConflict_71 : decode cX5_writeConflict 71 = .ok (.iload_n 1, 1) := by decide +kernel
theorem dX5_writeConflict_72 : decode cX5_writeConflict 72 = .ok (.invokevirtual 152, 3) := by decide +kernel
theorem dX5_writeConflict_75 : decode cX5_writeConflict 75 = .ok (.goto 71, 3) := by decide +kernel
theorem dX5_writeConflict_78 : decode cX5_writeConflict 78 = .ok (.aload_n 0, 1) := by decide +kernel
theorem dX5_writeConflict_79 : decode cX5_writeConflict 79 = .ok (.getfield 48, 3) := by decide +kernel
theorem dX5_writeConflict_82 : decode cX5_writeConflict 82 = .ok (.aload_n 0, 1) := by decide +kernel
theorem dX5_writeConflict_83 : decode cX5_writeConflict 83 = .ok (.getfield 14, 3) := by decide +kernel
theorem dX5_writeConflict_86 : decode cX5_writeConflict 86 = .ok (.aload_n 0, 1) := by decide +kernel
theorem dX5_writeConflict_87 : decode cX5_writeConflict 87 = .ok (.getfield 41, 3) := by decide +kernel
theorem dX5_writeConflict_90 : decode cX5_writeConflict 90 = .ok (.iload_n 1, 1) := by decide +kernel
theorem dX5_writeConflict_91 : decode cX5_writeConflict 91 = .ok (.iconst 1, 1) := by decide +kernel
theorem dX5_writeConflict_92 : decode cX5_writeConflict 92 = .ok (.invokevirtual 106, 3) := by decide +kernel
theorem dX5_writeConflict_95 : decode cX5_writeConflict 95 = .ok (.aload_n 0, 1) := by decide +kernel
theorem dX5_writeConflict_96 : decode cX5_writeConflict 96 = .ok (.getfield 41, 3) := by decide +kernel
theorem dX5_writeConflict_99 : decode cX5_writeConflict 99 = .ok (.iload_n 1, 1) := by decide +kernel
theorem dX5_writeConflict_100 : decode cX5_writeConflict 100 = .ok (.iconst 2, 1) := by decide +kernel
theorem dX5_writeConflict_101 : decode cX5_writeConflict 101 = .ok (.invokevirtual 106, 3) := by decide +kernel
theorem dX5_writeConflict_104 : decode cX5_writeConflict 104 = .ok (.invokevirtual 155, 3) := by decide +kernel
theorem dX5_writeConflict_107 : decode cX5_writeConflict 107 = .ok (.goto 39, 3) := by decide +kernel
theorem dX5_writeConflict_110 : decode cX5_writeConflict 110 = .ok (.aload_n 0, 1) := by decide +kernel
theorem dX5_writeConflict_111 : decode cX5_writeConflict 111 = .ok (.getfield 48, 3) := by decide +kernel
theorem dX5_writeConflict_114 : decode cX5_writeConflict 114 = .ok (.iconst (-1), 1) := by decide +kernel
theorem dX5_writeConflict_115 : decode cX5_writeConflict 115 = .ok (.invokevirtual 119, 3) := by decide +kernel
theorem dX5_writeConflict_118 : decode cX5_writeConflict 118 = .ok (.aload_n 0, 1) := by decide +kernel
theorem dX5_writeConflict_119 : decode cX5_writeConflict 119 = .ok (.iload_n 1, 1) := by decide +kernel
theorem dX5_writeConflict_120 : decode cX5_writeConflict 120 = .ok (.invokevirtual 152, 3) := by decide +kernel
theorem dX5_writeConflict_123 : decode cX5_writeConflict 123 = .ok (.aload_n 0, 1) := by decide +kernel
theorem dX5_writeConflict_124 : decode cX5_writeConflict 124 = .ok (.getfield 48, 3) := by decide +kernel
theorem dX5_writeConflict_127 : decode cX5_writeConflict 127 = .ok (.bipush (-2), 2) := by decide +kernel
theorem dX5_writeConflict_129 : decode cX5_writeConflict 129 = .ok (.invokevirtual 119, 3) := by decide +kernel
theorem dX5_writeConflict_132 : decode cX5_writeConflict 132 = .ok (.aload_n 0, 1) := by decide +kernel
theorem dX5_writeConflict_133 : decode cX5_writeConflict 133 = .ok (.iload_n 1, 1) := by decide +kernel
theorem dX5_writeConflict_134 : decode cX5_writeConflict 134 = .ok (.invokevirtual 149, 3) := by decide +kernel
theorem dX5_writeConflict_137 : decode cX5_writeConflict 137 = .ok (.aload_n 0, 1) := by decide +kernel
theorem dX5_writeConflict_138 : decode cX5_writeConflict 138 = .ok (.getfield 48, 3) := by decide +kernel
theorem dX5_writeConflict_141 : decode cX5_writeConflict 141 = .ok (.bipush (-3), 2) := by decide +kernel
theorem dX5_writeConflict_143 : decode cX5_writeConflict 143 = .ok (.invokevirtual 119, 3) := by decide +kernel
theorem dX5_writeConflict_146 : decode cX5_writeConflict 146 = .ok (.return_, 1) := by decide +kernel
theorem dX5_writeLeft_0 : decode cX5_writeLeft 0 = .ok (.aload_n 0, 1) := by decide +kernel
theorem dX5_writeLeft_1 : decode cX5_writeLeft 1 = .ok (.getfield 48, 3) := by decide +kernel
theorem dX5_writeLeft_4 : decode cX5_writeLeft 4 = .ok (.aload_n 0, 1) := by decide +kernel
theorem dX5_writeLeft_5 : decode cX5_writeLeft 5 = .ok (.getfield 20, 3) := by decide +kernel
theorem dX5_writeLeft_8 : decode cX5_writeLeft 8 = .ok (.aload_n 0, 1) := by decide +kernel
theorem dX5_writeLeft_9 : decode cX5_writeLeft 9 = .ok (.getfield 41, 3) := by decide +kernel
theorem dX5_writeLeft_12 : decode cX5_writeLeft 12 = .ok (.iload_n 1, 1) := by decide +kernel
theorem dX5_writeLeft_13 : decode cX5_writeLeft 13 = .ok (.iconst 3, 1) := by decide +kernel
theorem dX5_writeLeft_14 : decode cX5_writeLeft 14 = .ok (.invokevirtual 106, 3) := by decide +kernel
theorem dX5_writeLeft_17 : decode cX5_writeLeft 17 = .ok (.aload_n 0, 1) := by decide +kernel
theorem dX5_writeLeft_18 : decode cX5_writeLeft 18 = .ok (.getfield 41, 3) := by decide +kernel
theorem dX5_writeLeft_21 : decode cX5_writeLeft 21 = .ok (.iload_n 1, 1) := by decide +kernel
theorem dX5_writeLeft_22 : decode cX5_writeLeft 22 = .ok (.iconst 4, 1) := by decide +kernel
theorem dX5_writeLeft_23 : decode cX5_writeLeft 23 = .ok (.invokevirtual 106, 3) := by decide +kernel
theorem dX5_writeLeft_26 : decode cX5_writeLeft 26 = .ok (.invokevirtual 155, 3) := by decide +kernel
theorem dX5_writeLeft_29 : decode cX5_writeLeft 29 = .ok (.return_, 1) := by decide +kernel
theorem dX5_writeRight_0 : decode cX5_writeRight 0 = .ok (.aload_n 0, 1) := by decide +kernel
theorem dX5_writeRight_1 : decode cX5_writeRight 1 = .ok (.getfield 48, 3) := by decide +kernel
theorem dX5_writeRight_4 : decode cX5_writeRight 4 = .ok (.aload_n 0, 1) := by decide +kernel
theorem dX5_writeRight_5 : decode cX5_writeRight 5 = .ok (.getfield 23, 3) := by decide +kernel
theorem dX5_writeRight_8 : decode cX5_writeRight 8 = .ok (.aload_n 0, 1) := by decide +kernel
theorem dX5_writeRight_9 : decode cX5_writeRight 9 = .ok (.getfield 41, 3) := by decide +kernel
theorem dX5_writeRight_12 : decode cX5_writeRight 12 = .ok (.iload_n 1, 1) := by decide +kernel
theorem dX5_writeRight_13 : decode cX5_writeRight 13 = .ok (.iconst 5, 1) := by decide +kernel
theorem dX5_writeRight_14 : decode cX5_writeRight 14 = .ok (.invokevirtual 106, 3) := by decide +kernel
theorem dX5_writeRight_17 : decode cX5_writeRight 17 = .ok (.aload_n 0, 1) := by decide +kernel
theorem dX5_writeRight_18 : decode cX5_writeRight 18 = .ok (.getfield 41, 3) := by decide +kernel
theorem dX5_writeRight_21 : decode cX5_writeRight 21 = .ok (.iload_n 1, 1) := by decide +kernel
theorem dX5_writeRight_22 : decode cX5_writeRight 22 = .ok (.bipush 6, 2) := by decide +kernel
theorem dX5_writeRight_24 : decode cX5_writeRight 24 = .ok (.invokevirtual 106, 3) := by decide +kernel
theorem dX5_writeRight_27 : decode cX5_writeRight 27 = .ok (.invokevirtual 155, 3) := by decide +kernel
theorem dX5_writeRight_30 : decode cX5_writeRight 30 = .ok (.return_, 1) := by decide +kernel
theorem dX6_init_0 : decode cX6_init 0 = .ok (.aload_n 0, 1) := by decide +kernel
theorem dX6_init_1 : decode cX6_init 1 = .ok (.invokespecial 3, 3) := by decide +kernel
theorem dX6_init_4 : decode cX6_init 4 = .ok (.aload_n 0, 1) := by decide +kernel
theorem dX6_init_5 : decode cX6_init 5 = .ok (.new 9, 3) := by decide +kernel
theorem dX6_init_8 : decode cX6_init 8 = .ok (.dup, 1) := by decide +kernel
theorem dX6_init_9 : decode cX6_init 9 = .ok (.bipush 24, 2) := by decide +kernel
theorem dX6_init_11 : decode cX6_init 11 = .ok (.invokespecial 11, 3) := by decide +kernel
theorem dX6_init_14 : decode cX6_init 14 = .ok (.putfield 14, 3) := by decide +kernel
theorem dX6_init_17 : decode cX6_init 17 = .ok (.aload_n 0, 1) := by decide +kernel
theorem dX6_init_18 : decode cX6_init 18 = .ok (.new 9, 3) := by decide +kernel
theorem dX6_init_21 : decode cX6_init 21 = .ok (.dup, 1) := by decide +kernel
theorem dX6_init_22 : decode cX6_init 22 = .ok (.bipush 24, 2) := by decide +kernel
theorem dX6_init_24 : decode cX6_init 24 = .ok (.invokespecial 11, 3) := by decide +kernel
theorem dX6_init_27 : decode cX6_init 27 = .ok (.putfield 20, 3) := by decide +kernel
theorem dX6_init_30 : decode cX6_init 30 = .ok (.aload_n 0, 1) := by decide +kernel
theorem dX6_init_31 : decode cX6_init 31 = .ok (.new 23, 3) := by decide +kernel
theorem dX6_init_34 : decode cX6_init 34 = .ok (.dup, 1) := by decide +kernel
theorem dX6_init_35 : decode cX6_init 35 = .ok (.bipush 25, 2) := by decide +kernel
theorem dX6_init_37 : decode cX6_init 37 = .ok (.bipush 6, 2) := by decide +kernel
theorem dX6_init_39 : decode cX6_init 39 = .ok (.invokespecial 25, 3) := by decide +kernel
theorem dX6_init_42 : decode cX6_init 42 = .ok (.putfield 28, 3) := by decide +kernel
theorem dX6_init_45 : decode cX6_init 45 = .ok (.aload_n 0, 1) := by decide +kernel
theorem dX6_init_46 : decode cX6_init 46 = .ok (.new 23, 3) := by decide +kernel
theorem dX6_init_49 : decode cX6_init 49 = .ok (.dup, 1) := by decide +kernel
theorem dX6_init_50 : decode cX6_init 50 = .ok (.bipush 25, 2) := by decide +kernel
theorem dX6_init_52 : decode cX6_init 52 = .ok (.iconst 2, 1) := by decide +kernel
theorem dX6_init_53 : decode cX6_init 53 = .ok (.invokespecial 25, 3) := by decide +kernel
theorem dX6_init_56 : decode cX6_init 56 = .ok (.putfield 32, 3) := by decide +kernel
theorem dX6_init_59 : decode cX6_init 59 = .ok (.aload_n 0, 1) := by decide +kernel
theorem dX6_init_60 : decode cX6_init 60 = .ok (.new 23, 3) := by decide +kernel
theorem dX6_init_63 : decode cX6_init 63 = .ok (.dup, 1) := by decide +kernel
theorem dX6_init_64 : decode cX6_init 64 = .ok (.bipush 25, 2) := by decide +kernel
theorem dX6_init_66 : decode cX6_init 66 = .ok (.iconst 2, 1) := by decide +kernel
theorem dX6_init_67 : decode cX6_init 67 = .ok (.invokespecial 25, 3) := by decide +kernel
theorem dX6_init_70 : decode cX6_init 70 = .ok (.putfield 35, 3) := by decide +kernel
theorem dX6_init_73 : decode cX6_init 73 = .ok (.aload_n 0, 1) := by decide +kernel
theorem dX6_init_74 : decode cX6_init 74 = .ok (.new 9, 3) := by decide +kernel
theorem dX6_init_77 : decode cX6_init 77 = .ok (.dup, 1) := by decide +kernel
theorem dX6_init_78 : decode cX6_init 78 = .ok (.bipush 96, 2) := by decide +kernel
theorem dX6_init_80 : decode cX6_init 80 = .ok (.invokespecial 11, 3) := by decide +kernel
theorem dX6_init_83 : decode cX6_init 83 = .ok (.putfield 38, 3) := by decide +kernel
theorem dX6_init_86 : decode cX6_init 86 = .ok (.return_, 1) := by decide +kernel
theorem dX6_exists_0 : decode cX6_exists 0 = .ok (.aload_n 0, 1) := by decide +kernel
theorem dX6_exists_1 : decode cX6_exists 1 = .ok (.getfield 41, 3) := by decide +kernel
theorem dX6_exists_4 : decode cX6_exists 4 = .ok (.ireturn, 1) := by decide +kernel
theorem dX6_parts_0 : decode cX6_parts 0 = .ok (.aload_n 0, 1) := by decide +kernel
theorem dX6_parts_1 : decode cX6_parts 1 = .ok (.getfield 28, 3) := by decide +kernel
theorem dX6_parts_4 : decode cX6_parts 4 = .ok (.areturn, 1) := by decide +kernel
theorem dX6_outcomes_0 : decode cX6_outcomes 0 = .ok (.aload_n 0, 1) := by decide +kernel
theorem dX6_outcomes_1 : decode cX6_outcomes 1 = .ok (.getfield 35, 3) := by decide +kernel
theorem dX6_outcomes_4 : decode cX6_outcomes 4 = .ok (.areturn, 1) := by decide +kernel
theorem dX6_make_0 : decode cX6_make 0 = .ok (.aload_n 0, 1) := by decide +kernel
theorem dX6_make_1 : decode cX6_make 1 = .ok (.getfield 14, 3) := by decide +kernel
theorem dX6_make_4 : decode cX6_make 4 = .ok (.aload_n 1, 1) := by decide +kernel
theorem dX6_make_5 : decode cX6_make 5 = .ok (.invokevirtual 45, 3) := by decide +kernel
theorem dX6_make_8 : decode cX6_make 8 = .ok (.invokevirtual 50, 3) := by decide +kernel
theorem dX6_make_11 : decode cX6_make 11 = .ok (.aload_n 0, 1) := by decide +kernel
theorem dX6_make_12 : decode cX6_make 12 = .ok (.getfield 20, 3) := by decide +kernel
theorem dX6_make_15 : decode cX6_make 15 = .ok (.aload_n 1, 1) := by decide +kernel
theorem dX6_make_16 : decode cX6_make 16 = .ok (.invokevirtual 54, 3) := by decide +kernel
theorem dX6_make_19 : decode cX6_make 19 = .ok (.invokevirtual 50, 3) := by decide +kernel
theorem dX6_make_22 : decode cX6_make 22 = .ok (.aload_n 0, 1) := by decide +kernel
theorem dX6_make_23 : decode cX6_make 23 = .ok (.getfield 28, 3) := by decide +kernel
theorem dX6_make_26 : decode cX6_make 26 = .ok (.invokevirtual 56, 3) := by decide +kernel
theorem dX6_make_29 : decode cX6_make 29 = .ok (.aload_n 0, 1) := by decide +kernel
theorem dX6_make_30 : decode cX6_make 30 = .ok (.getfield 35, 3) := by decide +kernel
theorem dX6_make_33 : decode cX6_make 33 = .ok (.invokevirtual 56, 3) := by decide +kernel
theorem dX6_make_36 : decode cX6_make 36 = .ok (.aload_n 0, 1) := by decide +kernel
theorem dX6_make_37 : decode cX6_make 37 = .ok (.iconst 1, 1) := by decide +kernel
theorem dX6_make_38 : decode cX6_make 38 = .ok (.putfield 41, 3) := by decide +kernel
theorem dX6_make_41 : decode cX6_make 41 = .ok (.aload_n 1, 1) := by decide +kernel
theorem dX6_make_42 : decode cX6_make 42 = .ok (.invokevirtual 59, 3) := by decide +kernel
theorem dX6_make_45 : decode cX6_make 45 = .ok (.astore_n 3, 1) := by decide +kernel
theorem dX6_make_46 : decode cX6_make 46 = .ok (.iconst 0, 1) := by decide +kernel
theorem dX6_make_47 : decode cX6_make 47 = .ok (.istore 4, 2) := by decide +kernel
theorem dX6_make_49 : decode cX6_make 49 = .ok (.iconst 0, 1) := by decide +kernel
theorem dX6_make_50 : decode cX6_make 50 = .ok (.istore 5, 2) := by decide +kernel
theorem dX6_make_52 : decode cX6_make 52 = .ok (.iload 5, 2) := by decide +kernel
theorem dX6_make_54 : decode cX6_make 54 = .ok (.aload_n 3, 1) := by decide +kernel
theorem dX6_make_55 : decode cX6_make 55 = .ok (.invokevirtual 63, 3) := by decide +kernel
theorem dX6_make_58 : decode cX6_make 58 = .ok (.if_icmp .ge 35, 3) := by decide +kernel
theorem dX6_make_61 : decode cX6_make 61 = .ok (.aload_n 3, 1) := by decide +kernel
theorem dX6_make_62 : decode cX6_make 62 = .ok (.iload 5, 2) := by decide +kernel
theorem dX6_make_64 : decode cX6_make 64 = .ok (.iload_n 2, 1) := by decide +kernel
theorem dX6_make_65 : decode cX6_make 65 = .ok (.invokestatic 67, 3) := by decide +kernel
theorem dX6_make_68 : decode cX6_make 68 = .ok (.ifCond .eq 19, 3) := by decide +kernel
theorem dX6_make_71 : decode cX6_make 71 = .ok (.aload_n 0, 1) := by decide +kernel
theorem dX6_make_72 : decode cX6_make 72 = .ok (.aload_n 3, 1) := by decide +kernel
theorem dX6_make_73 : decode cX6_make 73 = .ok (.iload 4, 2) := by decide +kernel
theorem dX6_make_75 : decode cX6_make 75 = .ok (.iload 5, 2) := by decide +kernel
theorem dX6_make_77 : decode cX6_make 77 = .ok (.iload_n 2, 1) := by decide +kernel
theorem dX6_make_78 : decode cX6_make 78 = .ok (.invokevirtual 71, 3) := by decide +kernel
theorem dX6_make_81 : decode cX6_make 81 = .ok (.iload 5, 2) := by decide +kernel
theorem dX6_make_83 : decode cX6_make 83 = .ok (.iconst 1, 1) := by decide +kernel
theorem dX6_make_84 : decode cX6_make 84 = .ok (.iadd, 1) := by decide +kernel
theorem dX6_make_85 : decode cX6_make 85 = .ok (.istore 4, 2) := by decide +kernel
theorem dX6_make_87 : decode cX6_make 87 = .ok (.iinc 5 1, 3) := by decide +kernel
theorem dX6_make_90 : decode cX6_make 90 = .ok (.goto (-38), 3) := by decide +kernel
theorem dX6_make_93 : decode cX6_make 93 = .ok (.aload_n 0, 1) := by decide +kernel
theorem dX6_make_94 : decode cX6_make 94 = .ok (.getfield 28, 3) := by decide +kernel
theorem dX6_make_97 : decode cX6_make 97 = .ok (.invokevirtual 63, 3) := by decide +kernel
theorem dX6_make_100 : decode cX6_make 100 = .ok (.ireturn, 1) := by decide +kernel
theorem dX6_isLastOfHunk_0 : decode cX6_isLastOfHunk 0 = .ok (.aload_n 0, 1) := by decide +kernel
theorem dX6_isLastOfHunk_1 : decode cX6_isLastOfHunk 1 = .ok (.iload_n 1, 1) := by decide +kernel
theorem dX6_isLastOfHunk_2 : decode cX6_isLastOfHunk 2 = .ok (.iconst 1, 1) := by decide +kernel
theorem dX6_isLastOfHunk_3 : decode cX6_isLastOfHunk 3 = .ok (.iadd, 1) := by decide +kernel
theorem dX6_isLastOfHunk_4 : decode cX6_isLastOfHunk 4 = .ok (.invokevirtual 75, 3) := by decide +kernel
theorem dX6_isLastOfHunk_7 : decode cX6_isLastOfHunk 7 = .ok (.ifCond .eq 24, 3) := by decide +kernel
theorem dX6_isLastOfHunk_10 : decode cX6_isLastOfHunk 10 = .ok (.aload_n 0, 1) := by decide +kernel
theorem dX6_isLastOfHunk_11 : decode cX6_isLastOfHunk 11 = .ok (.iload_n 1, 1) := by decide +kernel
theorem dX6_isLastOfHunk_12 : decode cX6_isLastOfHunk 12 = .ok (.iconst 1, 1) := by decide +kernel
theorem dX6_isLastOfHunk_13 : decode cX6_isLastOfHunk 13 = .ok (.iadd, 1) := by decide +kernel
theorem dX6_isLastOfHunk_14 : decode cX6_isLastOfHunk 14 = .ok (.iconst 0, 1) := by decide +kernel
theorem dX6_isLastOfHunk_15 : decode cX6_isLastOfHunk 15 = .ok (.invokevirtual 79, 3) := by decide +kernel
theorem dX6_isLastOfHunk_18 : decode cX6_isLastOfHunk 18 = .ok (.aload_n 0, 1) := by decide +kernel
theorem dX6_isLastOfHunk_19 : decode cX6_isLastOfHunk 19 = .ok (.iload_n 1, 1) := by decide +kernel
theorem dX6_isLastOfHunk_20 : decode cX6_isLastOfHunk 20 = .ok (.iconst 1, 1) := by decide +kernel
theorem dX6_isLastOfHunk_21 : decode cX6_isLastOfHunk 21 = .ok (.invokevirtual 79, 3) := by decide +kernel
theorem dX6_isLastOfHunk_24 : decode cX6_isLastOfHunk 24 = .ok (.isub, 1) := by decide +kernel
theorem dX6_isLastOfHunk_25 : decode cX6_isLastOfHunk 25 = .ok (.iconst 2, 1) := by decide +kernel
theorem dX6_isLastOfHunk_26 : decode cX6_isLastOfHunk 26 = .ok (.iload_n 2, 1) := by decide +kernel
theorem dX6_isLastOfHunk_27 : decode cX6_isLastOfHunk 27 = .ok (.imul, 1) := by decide +kernel
theorem dX6_isLastOfHunk_28 : decode cX6_isLastOfHunk 28 = .ok (.if_icmp .le 7, 3) := by decide +kernel
theorem dX6_isLastOfHunk_31 : decode cX6_isLastOfHunk 31 = .ok (.iconst 1, 1) := by decide +kernel
theorem dX6_isLastOfHunk_32 : decode cX6_isLastOfHunk 32 = .ok (.goto 4, 3) := by decide +kernel
theorem dX6_isLastOfHunk_35 : decode cX6_isLastOfHunk 35 = .ok (.iconst 0, 1) := by decide +kernel
theorem dX6_isLastOfHunk_36 : decode cX6_isLastOfHunk 36 = .ok (.ireturn, 1) := by decide +kernel
theorem dX6_addHunk_0 : decode cX6_addHunk 0 = .ok (.aload_n 1, 1) := by decide +kernel
theorem dX6_addHunk_1 : decode cX6_addHunk 1 = .ok (.iload_n 2, 1) := by decide +kernel
theorem dX6_addHunk_2 : decode cX6_addHunk 2 = .ok (.iconst 0, 1) := by decide +kernel
theorem dX6_addHunk_3 : decode cX6_addHunk 3 = .ok (.invokevirtual 79, 3) := by decide +kernel
theorem dX6_addHunk_6 : decode cX6_addHunk 6 = .ok (.istore 5, 2) := by decide +kernel
theorem dX6_addHunk_8 : decode cX6_addHunk 8 = .ok (.aload_n 1, 1) := by decide +kernel
theorem dX6_addHunk_9 : decode cX6_addHunk 9 = .ok (.iload_n 3, 1) := by decide +kernel
theorem dX6_addHunk_10 : decode cX6_addHunk 10 = .ok (.iconst 1, 1) := by decide +kernel
theorem dX6_addHunk_11 : decode cX6_addHunk 11 = .ok (.invokevirtual 79, 3) := by decide +kernel
theorem dX6_addHunk_14 : decode cX6_addHunk 14 = .ok (.istore 6, 2) := by decide +kernel
theorem dX6_addHunk_16 : decode cX6_addHunk 16 = .ok (.aload_n 1, 1) := by decide +kernel
theorem dX6_addHunk_17 : decode cX6_addHunk 17 = .ok (.iload_n 2, 1) := by decide +kernel
theorem dX6_addHunk_18 : decode cX6_addHunk 18 = .ok (.iconst 2, 1) := by decide +kernel
theorem dX6_addHunk_19 : decode cX6_addHunk 19 = .ok (.invokevirtual 79, 3) := by decide +kernel
theorem dX6_addHunk_22 : decode cX6_addHunk 22 = .ok (.istore 7, 2) := by decide +kernel
theorem dX6_addHunk_24 : decode cX6_addHunk 24 = .ok (.aload_n 1, 1) := by decide +kernel
theorem dX6_addHunk_25 : decode cX6_addHunk 25 = .ok (.iload_n 3, 1) := by decide +kernel
theorem dX6_addHunk_26 : decode cX6_addHunk 26 = .ok (.iconst 3, 1) := by decide +kernel
theorem dX6_addHunk_27 : decode cX6_addHunk 27 = .ok (.invokevirtual 79, 3) := by decide +kernel
theorem dX6_addHunk_30 : decode cX6_addHunk 30 = .ok (.istore 8, 2) := by decide +kernel
theorem dX6_addHunk_32 : decode cX6_addHunk 32 = .ok (.iload 4, 2) := by decide +kernel
theorem dX6_addHunk_34 : decode cX6_addHunk 34 = .ok (.iload 5, 2) := by decide +kernel
theorem dX6_addHunk_36 : decode cX6_addHunk 36 = .ok (.invokestatic 83, 3) := by decide +kernel
theorem dX6_addHunk_39 : decode cX6_addHunk 39 = .ok (.istore 9, 2) := by decide +kernel
theorem dX6_addHunk_41 : decode cX6_addHunk 41 = .ok (.iload 4, 2) := by decide +kernel
theorem dX6_addHunk_43 : decode cX6_addHunk 43 = .ok (.aload_n 0, 1) := by decide +kernel
theorem dX6_addHunk_44 : decode cX6_addHunk 44 = .ok (.getfield 14, 3) := by decide +kernel
theorem dX6_addHunk_47 : decode cX6_addHunk 47 = .ok (.invokevirtual 88, 3) := by decide +kernel
theorem dX6_addHunk_50 : decode cX6_addHunk 50 = .ok (.iload 6, 2) := by decide +kernel
theorem dX6_addHunk_52 : decode cX6_addHunk 52 = .ok (.isub, 1) := by decide +kernel
theorem dX6_addHunk_53 : decode cX6_addHunk 53 = .ok (.invokestatic 83, 3) := by decide +kernel
theorem dX6_addHunk_56 : decode cX6_addHunk 56 = .ok (.istore 10, 2) := by decide +kernel
theorem dX6_addHunk_58 : decode cX6_addHunk 58 = .ok (.aload_n 0, 1) := by decide +kernel
theorem dX6_addHunk_59 : decode cX6_addHunk 59 = .ok (.getfield 28, 3) := by decide +kernel
theorem dX6_addHunk_62 : decode cX6_addHunk 62 = .ok (.invokevirtual 91, 3) := by decide +kernel
theorem dX6_addHunk_65 : decode cX6_addHunk 65 = .ok (.istore 11, 2) := by decide +kernel
theorem dX6_addHunk_67 : decode cX6_addHunk 67 = .ok (.aload_n 0, 1) := by decide +kernel
theorem dX6_addHunk_68 : decode cX6_addHunk 68 = .ok (.getfield 28, 3) := by decide +kernel
theorem dX6_addHunk_71 : decode cX6_addHunk 71 = .ok (.iload 11, 2) := by decide +kernel
theorem dX6_addHunk_73 : decode cX6_addHunk 73 = .ok (.iconst 0, 1) := by decide +kernel
theorem dX6_addHunk_74 : decode cX6_addHunk 74 = .ok (.iload 5, 2) := by decide +kernel
theorem dX6_addHunk_76 : decode cX6_addHunk 76 = .ok (.iload 9, 2) := by decide +kernel
theorem dX6_addHunk_78 : decode cX6_addHunk 78 = .ok (.isub, 1) := by decide +kernel
theorem dX6_addHunk_79 : decode cX6_addHunk 79 = .ok (.invokevirtual 94, 3) := by decide +kernel
theorem dX6_addHunk_82 : decode cX6_addHunk 82 = .ok (.aload_n 0, 1) := by decide +kernel
theorem dX6_addHunk_83 : decode cX6_addHunk 83 = .ok (.getfield 28, 3) := by decide +kernel
theorem dX6_addHunk_86 : decode cX6_addHunk 86 = .ok (.iload 11, 2) := by decide +kernel
theorem dX6_addHunk_88 : decode cX6_addHunk 88 = .ok (.iconst 1, 1) := by decide +kernel
theorem dX6_addHunk_89 : decode cX6_addHunk 89 = .ok (.iload 9, 2) := by decide +kernel
theorem dX6_addHunk_91 : decode cX6_addHunk 91 = .ok (.iload 6, 2) := by decide +kernel
theorem dX6_addHunk_93 : decode cX6_addHunk 93 = .ok (.iadd, 1) := by decide +kernel
theorem dX6_addHunk_94 : decode cX6_addHunk 94 = .ok (.iload 5, 2) := by decide +kernel
theorem dX6_addHunk_96 : decode cX6_addHunk 96 = .ok (.isub, 1) := by decide +kernel
theorem dX6_addHunk_97 : decode cX6_addHunk 97 = .ok (.iload 10, 2) := by decide +kernel
theorem dX6_addHunk_99 : decode cX6_addHunk 99 = .ok (.iadd, 1) := by decide +kernel
theorem dX6_addHunk_100 : decode cX6_addHunk 100 = .ok (.invokevirtual 94, 3) := by decide +kernel
theorem dX6_addHunk_103 : decode cX6_addHunk 103 = .ok (.aload_n 0, 1) := by decide +kernel
theorem dX6_addHunk_104 : decode cX6_addHunk 104 = .ok (.getfield 28, 3) := by decide +kernel
theorem dX6_addHunk_107 : decode cX6_addHunk 107 = .ok (.iload 11, 2) := by decide +kernel
theorem dX6_addHunk_109 : decode cX6_addHunk 109 = .ok (.iconst 2, 1) := by decide +kernel
theorem dX6_addHunk_110 : decode cX6_addHunk 110 = .ok (.iload 7, 2) := by decide +kernel
theorem dX6_addHunk_112 : decode cX6_addHunk 112 = .ok (.iload 9, 2) := by decide +kernel
theorem dX6_addHunk_114 : decode cX6_addHunk 114 = .ok (.isub, 1) := by decide +kernel
theorem dX6_addHunk_115 : decode cX6_addHunk 115 = .ok (.invokevirtual 94, 3) := by decide +kernel
theorem dX6_addHunk_118 : decode cX6_addHunk 118 = .ok (.aload_n 0, 1) := by decide +kernel
theorem dX6_addHunk_119 : decode cX6_addHunk 119 = .ok (.getfield 28, 3) := by decide +kernel
theorem dX6_addHunk_122 : decode cX6_addHunk 122 = .ok (.iload 11, 2) := by decide +kernel
theorem dX6_addHunk_124 : decode cX6_addHunk 124 = .ok (.iconst 3, 1) := by decide +kernel
theorem dX6_addHunk_125 : decode cX6_addHunk 125 = .ok (.iload 9, 2) := by decide +kernel
theorem dX6_addHunk_127 : decode cX6_addHunk 127 = .ok (.iload 8, 2) := by decide +kernel
theorem dX6_addHunk_129 : decode cX6_addHunk 129 = .ok (.iadd, 1) := by decide +kernel
theorem dX6_addHunk_130 : decode cX6_addHunk 130 = .ok (.iload 7, 2) := by decide +kernel
theorem dX6_addHunk_132 : decode cX6_addHunk 132 = .ok (.isub, 1) := by decide +kernel
theorem dX6_addHunk_133 : decode cX6_addHunk 133 = .ok (.iload 10, 2) := by decide +kernel
theorem dX6_addHunk_135 : decode cX6_addHunk 135 = .ok (.iadd, 1) := by decide +kernel
theorem dX6_addHunk_136 : decode cX6_addHunk 136 = .ok (.invokevirtual 94, 3) := by decide +kernel
theorem dX6_addHunk_139 : decode cX6_addHunk 139 = .ok (.aload_n 0, 1) := by decide +kernel
theorem dX6_addHunk_140 : decode cX6_addHunk 140 = .ok (.getfield 28, 3) := by decide +kernel
theorem dX6_addHunk_143 : decode cX6_addHunk 143 = .ok (.iload 11, 2) := by decide +kernel
theorem dX6_addHunk_145 : decode cX6_addHunk 145 = .ok (.iconst 4, 1) := by decide +kernel
theorem dX6_addHunk_146 : decode cX6_addHunk 146 = .ok (.iload 9, 2) := by decide +kernel
theorem dX6_addHunk_148 : decode cX6_addHunk 148 = .ok (.invokevirtual 94, 3) := by decide +kernel
theorem dX6_addHunk_151 : decode cX6_addHunk 151 = .ok (.aload_n 0, 1) := by decide +kernel
theorem dX6_addHunk_152 : decode cX6_addHunk 152 = .ok (.getfield 28, 3) := by decide +kernel
theorem dX6_addHunk_155 : decode cX6_addHunk 155 = .ok (.iload 11, 2) := by decide +kernel
theorem dX6_addHunk_157 : decode cX6_addHunk 157 = .ok (.iconst 5, 1) := by decide +kernel
theorem dX6_addHunk_158 : decode cX6_addHunk 158 = .ok (.iload 10, 2) := by decide +kernel
theorem dX6_addHunk_160 : decode cX6_addHunk 160 = .ok (.invokevirtual 94, 3) := by decide +kernel
theorem dX6_addHunk_163 : decode cX6_addHunk 163 = .ok (.return_, 1) := by decide +kernel
theorem dX6_attempt_0 : decode cX6_attempt 0 = .ok (.aload_n 0, 1) := by decide +kernel
theorem dX6_attempt_1 : decode cX6_attempt 1 = .ok (.iconst 0, 1) := by decide +kernel
theorem dX6_attempt_2 : decode cX6_attempt 2 = .ok (.putfield 98, 3) := by decide +kernel
theorem dX6_attempt_5 : decode cX6_attempt 5 = .ok (.aload_n 0, 1) := by decide +kernel
theorem dX6_attempt_6 : decode cX6_attempt 6 = .ok (.iconst 0, 1) := by decide +kernel
theorem dX6_attempt_7 : decode cX6_attempt 7 = .ok (.putfield 102, 3) := by decide +kernel
theorem dX6_attempt_10 : decode cX6_attempt 10 = .ok (.aload_n 0, 1) := by decide +kernel
theorem dX6_attempt_11 : decode cX6_attempt 11 = .ok (.getfield 32, 3) := by decide +kernel
theorem dX6_attempt_14 : decode cX6_attempt 14 = .ok (.invokevirtual 56, 3) := by decide +kernel
theorem dX6_attempt_17 : decode cX6_attempt 17 = .ok (.aload_n 0, 1) := by decide +kernel
theorem dX6_attempt_18 : decode cX6_attempt 18 = .ok (.getfield 38, 3) := by decide +kernel
theorem dX6_attempt_21 : decode cX6_attempt 21 = .ok (.invokevirtual 105, 3) := by decide +kernel
theorem dX6_attempt_24 : decode cX6_attempt 24 = .ok (.iconst 0, 1) := by decide +kernel
theorem dX6_attempt_25 : decode cX6_attempt 25 = .ok (.istore 4, 2) := by decide +kernel
theorem dX6_attempt_27 : decode cX6_attempt 27 = .ok (.iload 4, 2) := by decide +kernel
theorem dX6_attempt_29 : decode cX6_attempt 29 = .ok (.aload_n 0, 1) := by decide +kernel
theorem dX6_attempt_30 : decode cX6_attempt 30 = .ok (.getfield 28, 3) := by decide +kernel
theorem dX6_attempt_33 : decode cX6_attempt 33 = .ok (.invokevirtual 63, 3) := by decide +kernel
theorem dX6_attempt_36 : decode cX6_attempt 36 = .ok (.if_icmp .ge 18, 3) := by decide +kernel
theorem dX6_attempt_39 : decode cX6_attempt 39 = .ok (.aload_n 0, 1) := by decide +kernel
theorem dX6_attempt_40 : decode cX6_attempt 40 = .ok (.aload_n 1, 1) := by decide +kernel
theorem dX6_attempt_41 : decode cX6_attempt 41 = .ok (.iload 4, 2) := by decide +kernel
theorem dX6_attempt_43 : decode cX6_attempt 43 = .ok (.iload_n 2, 1) := by decide +kernel
theorem dX6_attempt_44 : decode cX6_attempt 44 = .ok (.iload_n 3, 1) := by decide +kernel
theorem dX6_attempt_45 : decode cX6_attempt 45 = .ok (.invokevirtual 106, 3) := by decide +kernel
theorem dX6_attempt_48 : decode cX6_attempt 48 = .ok (.iinc 4 1, 3) := by decide +kernel
theorem dX6_attempt_51 : decode cX6_attempt 51 = .ok (.goto (-24), 3) := by decide +kernel
theorem dX6_attempt_54 : decode cX6_attempt 54 = .ok (.aload_n 0, 1) := by decide +kernel
theorem dX6_attempt_55 : decode cX6_attempt 55 = .ok (.getfield 38, 3) := by decide +kernel
theorem dX6_attempt_58 : decode cX6_attempt 58 = .ok (.aload_n 1, 1) := by decide +kernel
theorem dX6_attempt_59 : decode cX6_attempt 59 = .ok (.aload_n 0, 1) := by decide +kernel
theorem dX6_attempt_60 : decode cX6_attempt 60 = .ok (.getfield 102, 3) := by decide +kernel
theorem dX6_attempt_63 : decode cX6_attempt 63 = .ok (.aload_n 1, 1) := by decide +kernel
theorem dX6_attempt_64 : decode cX6_attempt 64 = .ok (.invokevirtual 88, 3) := by decide +kernel
theorem dX6_attempt_67 : decode cX6_attempt 67 = .ok (.invokevirtual 110, 3) := by decide +kernel
theorem dX6_attempt_70 : decode cX6_attempt 70 = .ok (.aload_n 0, 1) := by decide +kernel
theorem dX6_attempt_71 : decode cX6_attempt 71 = .ok (.getfield 38, 3) := by decide +kernel
theorem dX6_attempt_74 : decode cX6_attempt 74 = .ok (.areturn, 1) := by decide +kernel
theorem dX6_attemptHunk_0 : decode cX6_attemptHunk 0 = .ok (.iload 4, 2) := by decide +kernel
theorem dX6_attemptHunk_2 : decode cX6_attemptHunk 2 = .ok (.ifCond .eq 10, 3) := by decide +kernel
theorem dX6_attemptHunk_5 : decode cX6_attemptHunk 5 = .ok (.aload_n 0, 1) := by decide +kernel
theorem dX6_attemptHunk_6 : decode cX6_attemptHunk 6 = .ok (.getfield 20, 3) := by decide +kernel
theorem dX6_attemptHunk_9 : decode cX6_attemptHunk 9 = .ok (.goto 7, 3) := by decide +kernel
theorem dX6_attemptHunk_12 : decode cX6_attemptHunk 12 = .ok (.aload_n 0, 1) := by decide +kernel
theorem dX6_attemptHunk_13 : decode cX6_attemptHunk 13 = .ok (.getfield 14, 3) := by decide +kernel
theorem dX6_attemptHunk_16 : decode cX6_attemptHunk 16 = .ok (.astore 5, 2) := by decide +kernel
theorem dX6_attemptHunk_18 : decode cX6_attemptHunk 18 = .ok (.iload 4, 2) := by decide +kernel
theorem dX6_attemptHunk_20 : decode cX6_attemptHunk 20 = .ok (.ifCond .eq 7, 3) := by decide +kernel
theorem dX6_attemptHunk_23 : decode cX6_attemptHunk 23 = .ok (.iconst 2, 1) := by decide +kernel
theorem dX6_attemptHunk_24 : decode cX6_attemptHunk 24 = .ok (.goto 4, 3) := by decide +kernel
theorem dX6_attemptHunk_27 : decode cX6_attemptHunk 27 = .ok (.iconst 0, 1) := by decide +kernel
theorem dX6_attemptHunk_28 : decode cX6_attemptHunk 28 = .ok (.istore 6, 2) := by decide +kernel
theorem dX6_attemptHunk_30 : decode cX6_attemptHunk 30 = .ok (.iconst 0, 1) := by decide +kernel
theorem dX6_attemptHunk_31 : decode cX6_attemptHunk 31 = .ok (.istore 7, 2) := by decide +kernel
theorem dX6_attemptHunk_33 : decode cX6_attemptHunk 33 = .ok (.iload 7, 2) := by decide +kernel
theorem dX6_attemptHunk_35 : decode cX6_attemptHunk 35 = .ok (.iload_n 3, 1) := by decide +kernel
theorem dX6_attemptHunk_36 : decode cX6_attemptHunk 36 = .ok (.if_icmp .gt 106, 3) := by decide +kernel
theorem dX6_attemptHunk_39 : decode cX6_attemptHunk 39 = .ok (.aload_n 0, 1) := by decide +kernel
theorem dX6_attemptHunk_40 : decode cX6_attemptHunk 40 = .ok (.iload_n 2, 1) := by decide +kernel
theorem dX6_attemptHunk_41 : decode cX6_attemptHunk 41 = .ok (.iload 6, 2) := by decide +kernel
theorem dX6_attemptHunk_43 : decode cX6_attemptHunk 43 = .ok (.iload 7, 2) := by decide +kernel
theorem dX6_attemptHunk_45 : decode cX6_attemptHunk 45 = .ok (.invokevirtual 114, 3) := by decide +kernel
theorem dX6_attemptHunk_48 : decode cX6_attemptHunk 48 = .ok (.istore 8, 2) := by decide +kernel
theorem dX6_attemptHunk_50 : decode cX6_attemptHunk 50 = .ok (.aload_n 0, 1) := by decide +kernel
theorem dX6_attemptHunk_51 : decode cX6_attemptHunk 51 = .ok (.iload_n 2, 1) := by decide +kernel
theorem dX6_attemptHunk_52 : decode cX6_attemptHunk 52 = .ok (.iload 6, 2) := by decide +kernel
theorem dX6_attemptHunk_54 : decode cX6_attemptHunk 54 = .ok (.iload 7, 2) := by decide +kernel
theorem dX6_attemptHunk_56 : decode cX6_attemptHunk 56 = .ok (.invokevirtual 118, 3) := by decide +kernel
theorem dX6_attemptHunk_59 : decode cX6_attemptHunk 59 = .ok (.istore 9, 2) := by decide +kernel
theorem dX6_attemptHunk_61 : decode cX6_attemptHunk 61 = .ok (.aload_n 0, 1) := by decide +kernel
theorem dX6_attemptHunk_62 : decode cX6_attemptHunk 62 = .ok (.aload_n 1, 1) := by decide +kernel
theorem dX6_attemptHunk_63 : decode cX6_attemptHunk 63 = .ok (.aload 5, 2) := by decide +kernel
theorem dX6_attemptHunk_65 : decode cX6_attemptHunk 65 = .ok (.iload 8, 2) := by decide +kernel
theorem dX6_attemptHunk_67 : decode cX6_attemptHunk 67 = .ok (.iload 9, 2) := by decide +kernel
theorem dX6_attemptHunk_69 : decode cX6_attemptHunk 69 = .ok (.invokevirtual 121, 3) := by decide +kernel
theorem dX6_attemptHunk_72 : decode cX6_attemptHunk 72 = .ok (.istore 10, 2) := by decide +kernel
theorem dX6_attemptHunk_74 : decode cX6_attemptHunk 74 = .ok (.iload 10, 2) := by decide +kernel
theorem dX6_attemptHunk_76 : decode cX6_attemptHunk 76 = .ok (.iconst (-1), 1) := by decide +kernel
theorem dX6_attemptHunk_77 : decode cX6_attemptHunk 77 = .ok (.if_icmp .eq 59, 3) := by decide +kernel
theorem dX6_attemptHunk_80 : decode cX6_attemptHunk 80 = .ok (.aload_n 0, 1) := by decide +kernel
theorem dX6_attemptHunk_81 : decode cX6_attemptHunk 81 = .ok (.getfield 38, 3) := by decide +kernel
theorem dX6_attemptHunk_84 : decode cX6_attemptHunk 84 = .ok (.aload_n 1, 1) := by decide +kernel
theorem dX6_attemptHunk_85 : decode cX6_attemptHunk 85 = .ok (.aload_n 0, 1) := by decide +kernel
theorem dX6_attemptHunk_86 : decode cX6_attemptHunk 86 = .ok (.getfield 102, 3) := by decide +kernel
theorem dX6_attemptHunk_89 : decode cX6_attemptHunk 89 = .ok (.iload 10, 2) := by decide +kernel
theorem dX6_attemptHunk_91 : decode cX6_attemptHunk 91 = .ok (.invokevirtual 110, 3) := by decide +kernel
theorem dX6_attemptHunk_94 : decode cX6_attemptHunk 94 = .ok (.aload_n 0, 1) := by decide +kernel
theorem dX6_attemptHunk_95 : decode cX6_attemptHunk 95 = .ok (.iload_n 2, 1) := by decide +kernel
theorem dX6_attemptHunk_96 : decode cX6_attemptHunk 96 = .ok (.iload 7, 2) := by decide +kernel
theorem dX6_attemptHunk_98 : decode cX6_attemptHunk 98 = .ok (.iload 4, 2) := by decide +kernel
theorem dX6_attemptHunk_100 : decode cX6_attemptHunk 100 = .ok (.invokevirtual 125, 3) := by decide +kernel
theorem dX6_attemptHunk_103 : decode cX6_attemptHunk 103 = .ok (.aload_n 0, 1) := by decide +kernel
theorem dX6_attemptHunk_104 : decode cX6_attemptHunk 104 = .ok (.iload 10, 2) := by decide +kernel
theorem dX6_attemptHunk_106 : decode cX6_attemptHunk 106 = .ok (.iload 8, 2) := by decide +kernel
theorem dX6_attemptHunk_108 : decode cX6_attemptHunk 108 = .ok (.isub, 1) := by decide +kernel
theorem dX6_attemptHunk_109 : decode cX6_attemptHunk 109 = .ok (.putfield 98, 3) := by decide +kernel
theorem dX6_attemptHunk_112 : decode cX6_attemptHunk 112 = .ok (.aload_n 0, 1) := by decide +kernel
theorem dX6_attemptHunk_113 : decode cX6_attemptHunk 113 = .ok (.iload 10, 2) := by decide +kernel
theorem dX6_attemptHunk_115 : decode cX6_attemptHunk 115 = .ok (.iload 9, 2) := by decide +kernel
theorem dX6_attemptHunk_117 : decode cX6_attemptHunk 117 = .ok (.iadd, 1) := by decide +kernel
theorem dX6_attemptHunk_118 : decode cX6_attemptHunk 118 = .ok (.iload 8, 2) := by decide +kernel
theorem dX6_attemptHunk_120 : decode cX6_attemptHunk 120 = .ok (.isub, 1) := by decide +kernel
theorem dX6_attemptHunk_121 : decode cX6_attemptHunk 121 = .ok (.putfield 102, 3) := by decide +kernel
theorem dX6_attemptHunk_124 : decode cX6_attemptHunk 124 = .ok (.aload_n 0, 1) := by decide +kernel
theorem dX6_attemptHunk_125 : decode cX6_attemptHunk 125 = .ok (.getfield 32, 3) := by decide +kernel
theorem dX6_attemptHunk_128 : decode cX6_attemptHunk 128 = .ok (.iload 10, 2) := by decide +kernel
theorem dX6_attemptHunk_130 : decode cX6_attemptHunk 130 = .ok (.iload 7, 2) := by decide +kernel
theorem dX6_attemptHunk_132 : decode cX6_attemptHunk 132 = .ok (.invokevirtual 129, 3) := by decide +kernel
theorem dX6_attemptHunk_135 : decode cX6_attemptHunk 135 = .ok (.return_, 1) := by decide +kernel
theorem dX6_attemptHunk_136 : decode cX6_attemptHunk 136 = .ok (.iinc 7 1, 3) := by decide +kernel
theorem dX6_attemptHunk_139 : decode cX6_attemptHunk 139 = .ok (.goto (-106), 3) := by decide +kernel
theorem dX6_attemptHunk_142 : decode cX6_attemptHunk 142 = .ok (.aload_n 0, 1) := by decide +kernel
theorem dX6_attemptHunk_143 : decode cX6_attemptHunk 143 = .ok (.getfield 32, 3) := by decide +kernel
theorem dX6_attemptHunk_146 : decode cX6_attemptHunk 146 = .ok (.iconst (-1), 1) := by decide +kernel
theorem dX6_attemptHunk_147 : decode cX6_attemptHunk 147 = .ok (.iconst (-1), 1) := by decide +kernel
theorem dX6_attemptHunk_148 : decode cX6_attemptHunk 148 = .ok (.invokevirtual 129, 3) := by decide +kernel
theorem dX6_attemptHunk_151 : decode cX6_attemptHunk 151 = .ok (.return_, 1) := by decide +kernel
