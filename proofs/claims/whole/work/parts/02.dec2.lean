theorem dX11_match_32 : decode cX11_match 32 = .ok (.sipush 130, 3) := by decide +kernel
theorem dX11_match_35 : decode cX11_match 35 = .ok (.if_icmp .ge 32, 3) := by decide +kernel
theorem dX11_match_38 : decode cX11_match 38 = .ok (.aload_n 0, 1) := by decide +kernel
theorem dX11_match_39 : decode cX11_match 39 = .ok (.getfield 25, 3) := by decide +kernel
theorem dX11_match_42 : decode cX11_match 42 = .ok (.iload_n 1, 1) := by decide +kernel
theorem dX11_match_43 : decode cX11_match 43 = .ok (.iload 4, 2) := by decide +kernel
theorem dX11_match_45 : decode cX11_match 45 = .ok (.iadd, 1) := by decide +kernel
theorem dX11_match_46 : decode cX11_match 46 = .ok (.iaload, 1) := by decide +kernel
theorem dX11_match_47 : decode cX11_match 47 = .ok (.aload_n 0, 1) := by decide +kernel
theorem dX11_match_48 : decode cX11_match 48 = .ok (.getfield 25, 3) := by decide +kernel
theorem dX11_match_51 : decode cX11_match 51 = .ok (.iload_n 1, 1) := by decide +kernel
theorem dX11_match_52 : decode cX11_match 52 = .ok (.iload 4, 2) := by decide +kernel
theorem dX11_match_54 : decode cX11_match 54 = .ok (.iadd, 1) := by decide +kernel
theorem dX11_match_55 : decode cX11_match 55 = .ok (.iload_n 3, 1) := by decide +kernel
theorem dX11_match_56 : decode cX11_match 56 = .ok (.isub, 1) := by decide +kernel
theorem dX11_match_57 : decode cX11_match 57 = .ok (.iaload, 1) := by decide +kernel
theorem dX11_match_58 : decode cX11_match 58 = .ok (.if_icmp .ne 9, 3) := by decide +kernel
theorem dX11_match_61 : decode cX11_match 61 = .ok (.iinc 4 1, 3) := by decide +kernel
theorem dX11_match_64 : decode cX11_match 64 = .ok (.goto (-42), 3) := by decide +kernel
theorem dX11_match_67 : decode cX11_match 67 = .ok (.iload 4, 2) := by decide +kernel
theorem dX11_match_69 : decode cX11_match 69 = .ok (.aload_n 0, 1) := by decide +kernel
theorem dX11_match_70 : decode cX11_match 70 = .ok (.getfield 134, 3) := by decide +kernel
theorem dX11_match_73 : decode cX11_match 73 = .ok (.if_icmp .le 14, 3) := by decide +kernel
theorem dX11_match_76 : decode cX11_match 76 = .ok (.aload_n 0, 1) := by decide +kernel
theorem dX11_match_77 : decode cX11_match 77 = .ok (.iload 4, 2) := by decide +kernel
theorem dX11_match_79 : decode cX11_match 79 = .ok (.putfield 134, 3) := by decide +kernel
theorem dX11_match_82 : decode cX11_match 82 = .ok (.aload_n 0, 1) := by decide +kernel
theorem dX11_match_83 : decode cX11_match 83 = .ok (.iload_n 3, 1) := by decide +kernel
theorem dX11_match_84 : decode cX11_match 84 = .ok (.putfield 137, 3) := by decide +kernel
theorem dX11_match_87 : decode cX11_match 87 = .ok (.iinc 3 1, 3) := by decide +kernel
theorem dX11_match_90 : decode cX11_match 90 = .ok (.goto (-83), 3) := by decide +kernel
theorem dX11_match_93 : decode cX11_match 93 = .ok (.return_, 1) := by decide +kernel
theorem dX11_packMatches_0 : decode cX11_packMatches 0 = .ok (.iconst 0, 1) := by decide +kernel
theorem dX11_packMatches_1 : decode cX11_packMatches 1 = .ok (.istore_n 2, 1) := by decide +kernel
theorem dX11_packMatches_2 : decode cX11_packMatches 2 = .ok (.iload_n 2, 1) := by decide +kernel
theorem dX11_packMatches_3 : decode cX11_packMatches 3 = .ok (.iload_n 1, 1) := by decide +kernel
theorem dX11_packMatches_4 : decode cX11_packMatches 4 = .ok (.if_icmp .ge 93, 3) := by decide +kernel
theorem dX11_packMatches_7 : decode cX11_packMatches 7 = .ok (.aload_n 0, 1) := by decide +kernel
theorem dX11_packMatches_8 : decode cX11_packMatches 8 = .ok (.iload_n 2, 1) := by decide +kernel
theorem dX11_packMatches_9 : decode cX11_packMatches 9 = .ok (.iload_n 1, 1) := by decide +kernel
theorem dX11_packMatches_10 : decode cX11_packMatches 10 = .ok (.invokevirtual 140, 3) := by decide +kernel
theorem dX11_packMatches_13 : decode cX11_packMatches 13 = .ok (.aload_n 0, 1) := by decide +kernel
theorem dX11_packMatches_14 : decode cX11_packMatches 14 = .ok (.getfield 134, 3) := by decide +kernel
theorem dX11_packMatches_17 : decode cX11_packMatches 17 = .ok (.iconst 2, 1) := by decide +kernel
theorem dX11_packMatches_18 : decode cX11_packMatches 18 = .ok (.if_icmp .le 32, 3) := by decide +kernel
theorem dX11_packMatches_21 : decode cX11_packMatches 21 = .ok (.aload_n 0, 1) := by decide +kernel
theorem dX11_packMatches_22 : decode cX11_packMatches 22 = .ok (.bipush 125, 2) := by decide +kernel
theorem dX11_packMatches_24 : decode cX11_packMatches 24 = .ok (.aload_n 0, 1) := by decide +kernel
theorem dX11_packMatches_25 : decode cX11_packMatches 25 = .ok (.getfield 134, 3) := by decide +kernel
theorem dX11_packMatches_28 : decode cX11_packMatches 28 = .ok (.iadd, 1) := by decide +kernel
theorem dX11_packMatches_29 : decode cX11_packMatches 29 = .ok (.invokevirtual 123, 3) := by decide +kernel
theorem dX11_packMatches_32 : decode cX11_packMatches 32 = .ok (.aload_n 0, 1) := by decide +kernel
theorem dX11_packMatches_33 : decode cX11_packMatches 33 = .ok (.aload_n 0, 1) := by decide +kernel
theorem dX11_packMatches_34 : decode cX11_packMatches 34 = .ok (.getfield 137, 3) := by decide +kernel
theorem dX11_packMatches_37 : decode cX11_packMatches 37 = .ok (.invokevirtual 123, 3) := by decide +kernel
theorem dX11_packMatches_40 : decode cX11_packMatches 40 = .ok (.iload_n 2, 1) := by decide +kernel
theorem dX11_packMatches_41 : decode cX11_packMatches 41 = .ok (.aload_n 0, 1) := by decide +kernel
theorem dX11_packMatches_42 : decode cX11_packMatches 42 = .ok (.getfield 134, 3) := by decide +kernel
theorem dX11_packMatches_45 : decode cX11_packMatches 45 = .ok (.iadd, 1) := by decide +kernel
theorem dX11_packMatches_46 : decode cX11_packMatches 46 = .ok (.istore_n 2, 1) := by decide +kernel
theorem dX11_packMatches_47 : decode cX11_packMatches 47 = .ok (.goto (-45), 3) := by decide +kernel
theorem dX11_packMatches_50 : decode cX11_packMatches 50 = .ok (.iload_n 2, 1) := by decide +kernel
theorem dX11_packMatches_51 : decode cX11_packMatches 51 = .ok (.istore_n 3, 1) := by decide +kernel
theorem dX11_packMatches_52 : decode cX11_packMatches 52 = .ok (.iload_n 3, 1) := by decide +kernel
theorem dX11_packMatches_53 : decode cX11_packMatches 53 = .ok (.iload_n 1, 1) := by decide +kernel
theorem dX11_packMatches_54 : decode cX11_packMatches 54 = .ok (.if_icmp .ge 32, 3) := by decide +kernel
theorem dX11_packMatches_57 : decode cX11_packMatches 57 = .ok (.iload_n 3, 1) := by decide +kernel
theorem dX11_packMatches_58 : decode cX11_packMatches 58 = .ok (.iload_n 2, 1) := by decide +kernel
theorem dX11_packMatches_59 : decode cX11_packMatches 59 = .ok (.isub, 1) := by decide +kernel
theorem dX11_packMatches_60 : decode cX11_packMatches 60 = .ok (.sipush 128, 3) := by decide +kernel
theorem dX11_packMatches_63 : decode cX11_packMatches 63 = .ok (.if_icmp .ge 23, 3) := by decide +kernel
theorem dX11_packMatches_66 : decode cX11_packMatches 66 = .ok (.aload_n 0, 1) := by decide +kernel
theorem dX11_packMatches_67 : decode cX11_packMatches 67 = .ok (.getfield 134, 3) := by decide +kernel
theorem dX11_packMatches_70 : decode cX11_packMatches 70 = .ok (.iconst 3, 1) := by decide +kernel
theorem dX11_packMatches_71 : decode cX11_packMatches 71 = .ok (.if_icmp .ge 15, 3) := by decide +kernel
theorem dX11_packMatches_74 : decode cX11_packMatches 74 = .ok (.iinc 3 1, 3) := by decide +kernel
theorem dX11_packMatches_77 : decode cX11_packMatches 77 = .ok (.aload_n 0, 1) := by decide +kernel
theorem dX11_packMatches_78 : decode cX11_packMatches 78 = .ok (.iload_n 3, 1) := by decide +kernel
theorem dX11_packMatches_79 : decode cX11_packMatches 79 = .ok (.iload_n 1, 1) := by decide +kernel
theorem dX11_packMatches_80 : decode cX11_packMatches 80 = .ok (.invokevirtual 140, 3) := by decide +kernel
theorem dX11_packMatches_83 : decode cX11_packMatches 83 = .ok (.goto (-31), 3) := by decide +kernel
theorem dX11_packMatches_86 : decode cX11_packMatches 86 = .ok (.aload_n 0, 1) := by decide +kernel
theorem dX11_packMatches_87 : decode cX11_packMatches 87 = .ok (.iload_n 2, 1) := by decide +kernel
theorem dX11_packMatches_88 : decode cX11_packMatches 88 = .ok (.iload_n 3, 1) := by decide +kernel
theorem dX11_packMatches_89 : decode cX11_packMatches 89 = .ok (.invokevirtual 130, 3) := by decide +kernel
theorem dX11_packMatches_92 : decode cX11_packMatches 92 = .ok (.iload_n 3, 1) := by decide +kernel
theorem dX11_packMatches_93 : decode cX11_packMatches 93 = .ok (.istore_n 2, 1) := by decide +kernel
theorem dX11_packMatches_94 : decode cX11_packMatches 94 = .ok (.goto (-92), 3) := by decide +kernel
theorem dX11_packMatches_97 : decode cX11_packMatches 97 = .ok (.return_, 1) := by decide +kernel
theorem dX11_countBytes_0 : decode cX11_countBytes 0 = .ok (.iconst 0, 1) := by decide +kernel
theorem dX11_countBytes_1 : decode cX11_countBytes 1 = .ok (.istore_n 2, 1) := by decide +kernel
theorem dX11_countBytes_2 : decode cX11_countBytes 2 = .ok (.iconst 0, 1) := by decide +kernel
theorem dX11_countBytes_3 : decode cX11_countBytes 3 = .ok (.istore_n 3, 1) := by decide +kernel
theorem dX11_countBytes_4 : decode cX11_countBytes 4 = .ok (.iload_n 3, 1) := by decide +kernel
theorem dX11_countBytes_5 : decode cX11_countBytes 5 = .ok (.sipush 256, 3) := by decide +kernel
theorem dX11_countBytes_8 : decode cX11_countBytes 8 = .ok (.if_icmp .ge 16, 3) := by decide +kernel
theorem dX11_countBytes_11 : decode cX11_countBytes 11 = .ok (.aload_n 0, 1) := by decide +kernel
theorem dX11_countBytes_12 : decode cX11_countBytes 12 = .ok (.getfield 34, 3) := by decide +kernel
theorem dX11_countBytes_15 : decode cX11_countBytes 15 = .ok (.iload_n 3, 1) := by decide +kernel
theorem dX11_countBytes_16 : decode cX11_countBytes 16 = .ok (.iconst 0, 1) := by decide +kernel
theorem dX11_countBytes_17 : decode cX11_countBytes 17 = .ok (.iastore, 1) := by decide +kernel
theorem dX11_countBytes_18 : decode cX11_countBytes 18 = .ok (.iinc 3 1, 3) := by decide +kernel
theorem dX11_countBytes_21 : decode cX11_countBytes 21 = .ok (.goto (-17), 3) := by decide +kernel
theorem dX11_countBytes_24 : decode cX11_countBytes 24 = .ok (.iconst 0, 1) := by decide +kernel
theorem dX11_countBytes_25 : decode cX11_countBytes 25 = .ok (.istore_n 3, 1) := by decide +kernel
theorem dX11_countBytes_26 : decode cX11_countBytes 26 = .ok (.iload_n 3, 1) := by decide +kernel
theorem dX11_countBytes_27 : decode cX11_countBytes 27 = .ok (.iload_n 1, 1) := by decide +kernel
theorem dX11_countBytes_28 : decode cX11_countBytes 28 = .ok (.if_icmp .ge 46, 3) := by decide +kernel
theorem dX11_countBytes_31 : decode cX11_countBytes 31 = .ok (.iload_n 2, 1) := by decide +kernel
theorem dX11_countBytes_32 : decode cX11_countBytes 32 = .ok (.aload_n 0, 1) := by decide +kernel
theorem dX11_countBytes_33 : decode cX11_countBytes 33 = .ok (.getfield 34, 3) := by decide +kernel
theorem dX11_countBytes_36 : decode cX11_countBytes 36 = .ok (.aload_n 0, 1) := by decide +kernel
theorem dX11_countBytes_37 : decode cX11_countBytes 37 = .ok (.getfield 25, 3) := by decide +kernel
theorem dX11_countBytes_40 : decode cX11_countBytes 40 = .ok (.iload_n 3, 1) := by decide +kernel
theorem dX11_countBytes_41 : decode cX11_countBytes 41 = .ok (.iaload, 1) := by decide +kernel
theorem dX11_countBytes_42 : decode cX11_countBytes 42 = .ok (.iaload, 1) := by decide +kernel
theorem dX11_countBytes_43 : decode cX11_countBytes 43 = .ok (.ifCond .ne 7, 3) := by decide +kernel
theorem dX11_countBytes_46 : decode cX11_countBytes 46 = .ok (.iconst 1, 1) := by decide +kernel
theorem dX11_countBytes_47 : decode cX11_countBytes 47 = .ok (.goto 4, 3) := by decide +kernel
theorem dX11_countBytes_50 : decode cX11_countBytes 50 = .ok (.iconst 0, 1) := by decide +kernel
theorem dX11_countBytes_51 : decode cX11_countBytes 51 = .ok (.iadd, 1) := by decide +kernel
theorem dX11_countBytes_52 : decode cX11_countBytes 52 = .ok (.istore_n 2, 1) := by decide +kernel
theorem dX11_countBytes_53 : decode cX11_countBytes 53 = .ok (.aload_n 0, 1) := by decide +kernel
theorem dX11_countBytes_54 : decode cX11_countBytes 54 = .ok (.getfield 34, 3) := by decide +kernel
theorem dX11_countBytes_57 : decode cX11_countBytes 57 = .ok (.aload_n 0, 1) := by decide +kernel
theorem dX11_countBytes_58 : decode cX11_countBytes 58 = .ok (.getfield 25, 3) := by decide +kernel
theorem dX11_countBytes_61 : decode cX11_countBytes 61 = .ok (.iload_n 3, 1) := by decide +kernel
theorem dX11_countBytes_62 : decode cX11_countBytes 62 = .ok (.iaload, 1) := by decide +kernel
theorem dX11_countBytes_63 : decode cX11_countBytes 63 = .ok (.dup2, 1) := by decide +kernel
theorem dX11_countBytes_64 : decode cX11_countBytes 64 = .ok (.iaload, 1) := by decide +kernel
theorem dX11_countBytes_65 : decode cX11_countBytes 65 = .ok (.iconst 1, 1) := by decide +kernel
theorem dX11_countBytes_66 : decode cX11_countBytes 66 = .ok (.iadd, 1) := by decide +kernel
theorem dX11_countBytes_67 : decode cX11_countBytes 67 = .ok (.iastore, 1) := by decide +kernel
theorem dX11_countBytes_68 : decode cX11_countBytes 68 = .ok (.iinc 3 1, 3) := by decide +kernel
theorem dX11_countBytes_71 : decode cX11_countBytes 71 = .ok (.goto (-45), 3) := by decide +kernel
theorem dX11_countBytes_74 : decode cX11_countBytes 74 = .ok (.iload_n 2, 1) := by decide +kernel
theorem dX11_countBytes_75 : decode cX11_countBytes 75 = .ok (.ireturn, 1) := by decide +kernel
theorem dX11_packBits_0 : decode cX11_packBits 0 = .ok (.aload_n 0, 1) := by decide +kernel
theorem dX11_packBits_1 : decode cX11_packBits 1 = .ok (.iload_n 1, 1) := by decide +kernel
theorem dX11_packBits_2 : decode cX11_packBits 2 = .ok (.invokevirtual 143, 3) := by decide +kernel
theorem dX11_packBits_5 : decode cX11_packBits 5 = .ok (.istore_n 2, 1) := by decide +kernel
theorem dX11_packBits_6 : decode cX11_packBits 6 = .ok (.aload_n 0, 1) := by decide +kernel
theorem dX11_packBits_7 : decode cX11_packBits 7 = .ok (.iload_n 2, 1) := by decide +kernel
theorem dX11_packBits_8 : decode cX11_packBits 8 = .ok (.iconst 1, 1) := by decide +kernel
theorem dX11_packBits_9 : decode cX11_packBits 9 = .ok (.isub, 1) := by decide +kernel
theorem dX11_packBits_10 : decode cX11_packBits 10 = .ok (.invokevirtual 123, 3) := by decide +kernel
theorem dX11_packBits_13 : decode cX11_packBits 13 = .ok (.iconst 0, 1) := by decide +kernel
theorem dX11_packBits_14 : decode cX11_packBits 14 = .ok (.istore_n 3, 1) := by decide +kernel
theorem dX11_packBits_15 : decode cX11_packBits 15 = .ok (.iconst 0, 1) := by decide +kernel
theorem dX11_packBits_16 : decode cX11_packBits 16 = .ok (.istore 4, 2) := by decide +kernel
theorem dX11_packBits_18 : decode cX11_packBits 18 = .ok (.iload 4, 2) := by decide +kernel
theorem dX11_packBits_20 : decode cX11_packBits 20 = .ok (.sipush 256, 3) := by decide +kernel
theorem dX11_packBits_23 : decode cX11_packBits 23 = .ok (.if_icmp .ge 36, 3) := by decide +kernel
theorem dX11_packBits_26 : decode cX11_packBits 26 = .ok (.aload_n 0, 1) := by decide +kernel
theorem dX11_packBits_27 : decode cX11_packBits 27 = .ok (.getfield 34, 3) := by decide +kernel
theorem dX11_packBits_30 : decode cX11_packBits 30 = .ok (.iload 4, 2) := by decide +kernel
theorem dX11_packBits_32 : decode cX11_packBits 32 = .ok (.iaload, 1) := by decide +kernel
theorem dX11_packBits_33 : decode cX11_packBits 33 = .ok (.ifCond .le 20, 3) := by decide +kernel
theorem dX11_packBits_36 : decode cX11_packBits 36 = .ok (.aload_n 0, 1) := by decide +kernel
theorem dX11_packBits_37 : decode cX11_packBits 37 = .ok (.iload 4, 2) := by decide +kernel
theorem dX11_packBits_39 : decode cX11_packBits 39 = .ok (.invokevirtual 123, 3) := by decide +kernel
theorem dX11_packBits_42 : decode cX11_packBits 42 = .ok (.aload_n 0, 1) := by decide +kernel
theorem dX11_packBits_43 : decode cX11_packBits 43 = .ok (.getfield 40, 3) := by decide +kernel
theorem dX11_packBits_46 : decode cX11_packBits 46 = .ok (.iload 4, 2) := by decide +kernel
theorem dX11_packBits_48 : decode cX11_packBits 48 = .ok (.iload_n 3, 1) := by decide +kernel
theorem dX11_packBits_49 : decode cX11_packBits 49 = .ok (.iastore, 1) := by decide +kernel
theorem dX11_packBits_50 : decode cX11_packBits 50 = .ok (.iinc 3 1, 3) := by decide +kernel
theorem dX11_packBits_53 : decode cX11_packBits 53 = .ok (.iinc 4 1, 3) := by decide +kernel
theorem dX11_packBits_56 : decode cX11_packBits 56 = .ok (.goto (-38), 3) := by decide +kernel
theorem dX11_packBits_59 : decode cX11_packBits 59 = .ok (.iconst 0, 1) := by decide +kernel
theorem dX11_packBits_60 : decode cX11_packBits 60 = .ok (.istore 4, 2) := by decide +kernel
theorem dX11_packBits_62 : decode cX11_packBits 62 = .ok (.iload 4, 2) := by decide +kernel
theorem dX11_packBits_64 : decode cX11_packBits 64 = .ok (.iload_n 1, 1) := by decide +kernel
theorem dX11_packBits_65 : decode cX11_packBits 65 = .ok (.if_icmp .ge 29, 3) := by decide +kernel
theorem dX11_packBits_68 : decode cX11_packBits 68 = .ok (.aload_n 0, 1) := by decide +kernel
theorem dX11_packBits_69 : decode cX11_packBits 69 = .ok (.aload_n 0, 1) := by decide +kernel
theorem dX11_packBits_70 : decode cX11_packBits 70 = .ok (.getfield 40, 3) := by decide +kernel
theorem dX11_packBits_73 : decode cX11_packBits 73 = .ok (.aload_n 0, 1) := by decide +kernel
theorem dX11_packBits_74 : decode cX11_packBits 74 = .ok (.getfield 25, 3) := by decide +kernel
theorem dX11_packBits_77 : decode cX11_packBits 77 = .ok (.iload 4, 2) := by decide +kernel
theorem dX11_packBits_79 : decode cX11_packBits 79 = .ok (.iaload, 1) := by decide +kernel
theorem dX11_packBits_80 : decode cX11_packBits 80 = .ok (.iaload, 1) := by decide +kernel
theorem dX11_packBits_81 : decode cX11_packBits 81 = .ok (.iload_n 2, 1) := by decide +kernel
theorem dX11_packBits_82 : decode cX11_packBits 82 = .ok (.invokestatic 146, 3) := by decide +kernel
theorem dX11_packBits_85 : decode cX11_packBits 85 = .ok (.invokevirtual 149, 3) := by decide +kernel
theorem dX11_packBits_88 : decode cX11_packBits 88 = .ok (.iinc 4 1, 3) := by decide +kernel
theorem dX11_packBits_91 : decode cX11_packBits 91 = .ok (.goto (-29), 3) := by decide +kernel
theorem dX11_packBits_94 : decode cX11_packBits 94 = .ok (.return_, 1) := by decide +kernel
theorem dX11_least_0 : decode cX11_least 0 = .ok (.iconst (-1), 1) := by decide +kernel
theorem dX11_least_1 : decode cX11_least 1 = .ok (.istore_n 3, 1) := by decide +kernel
theorem dX11_least_2 : decode cX11_least 2 = .ok (.iconst 0, 1) := by decide +kernel
theorem dX11_least_3 : decode cX11_least 3 = .ok (.istore 4, 2) := by decide +kernel
theorem dX11_least_5 : decode cX11_least 5 = .ok (.iload 4, 2) := by decide +kernel
theorem dX11_least_7 : decode cX11_least 7 = .ok (.iload_n 1, 1) := by decide +kernel
theorem dX11_least_8 : decode cX11_least 8 = .ok (.if_icmp .ge 64, 3) := by decide +kernel
theorem dX11_least_11 : decode cX11_least 11 = .ok (.aload_n 0, 1) := by decide +kernel
theorem dX11_least_12 : decode cX11_least 12 = .ok (.getfield 46, 3) := by decide +kernel
theorem dX11_least_15 : decode cX11_least 15 = .ok (.iload 4, 2) := by decide +kernel
theorem dX11_least_17 : decode cX11_least 17 = .ok (.iaload, 1) := by decide +kernel
theorem dX11_least_18 : decode cX11_least 18 = .ok (.ifCond .ge 13, 3) := by decide +kernel
theorem dX11_least_21 : decode cX11_least 21 = .ok (.iload 4, 2) := by decide +kernel
theorem dX11_least_23 : decode cX11_least 23 = .ok (.iload_n 2, 1) := by decide +kernel
theorem dX11_least_24 : decode cX11_least 24 = .ok (.if_icmp .eq 7, 3) := by decide +kernel
theorem dX11_least_27 : decode cX11_least 27 = .ok (.iconst 1, 1) := by decide +kernel
theorem dX11_least_28 : decode cX11_least 28 = .ok (.goto 4, 3) := by decide +kernel
theorem dX11_least_31 : decode cX11_least 31 = .ok (.iconst 0, 1) := by decide +kernel
theorem dX11_least_32 : decode cX11_least 32 = .ok (.istore 5, 2) := by decide +kernel
theorem dX11_least_34 : decode cX11_least 34 = .ok (.iload 5, 2) := by decide +kernel
theorem dX11_least_36 : decode cX11_least 36 = .ok (.ifCond .eq 28, 3) := by decide +kernel
theorem dX11_least_39 : decode cX11_least 39 = .ok (.iload_n 3, 1) := by decide +kernel
theorem dX11_least_40 : decode cX11_least 40 = .ok (.ifCond .lt 19, 3) := by decide +kernel
theorem dX11_least_43 : decode cX11_least 43 = .ok (.aload_n 0, 1) := by decide +kernel
theorem dX11_least_44 : decode cX11_least 44 = .ok (.getfield 43, 3) := by decide +kernel
theorem dX11_least_47 : decode cX11_least 47 = .ok (.iload 4, 2) := by decide +kernel
theorem dX11_least_49 : decode cX11_least 49 = .ok (.iaload, 1) := by decide +kernel
theorem dX11_least_50 : decode cX11_least 50 = .ok (.aload_n 0, 1) := by decide +kernel
theorem dX11_least_51 : decode cX11_least 51 = .ok (.getfield 43, 3) := by decide +kernel
theorem dX11_least_54 : decode cX11_least 54 = .ok (.iload_n 3, 1) := by decide +kernel
theorem dX11_least_55 : decode cX11_least 55 = .ok (.iaload, 1) := by decide +kernel
theorem dX11_least_56 : decode cX11_least 56 = .ok (.if_icmp .ge 8, 3) := by decide +kernel
theorem dX11_least_59 : decode cX11_least 59 = .ok (.iload 4, 2) := by decide +kernel
theorem dX11_least_61 : decode cX11_least 61 = .ok (.goto 4, 3) := by decide +kernel
theorem dX11_least_64 : decode cX11_least 64 = .ok (.iload_n 3, 1) := by decide +kernel
theorem dX11_least_65 : decode cX11_least 65 = .ok (.istore_n 3, 1) := by decide +kernel
theorem dX11_least_66 : decode cX11_least 66 = .ok (.iinc 4 1, 3) := by decide +kernel
theorem dX11_least_69 : decode cX11_least 69 = .ok (.goto (-64), 3) := by decide +kernel
theorem dX11_least_72 : decode cX11_least 72 = .ok (.iload_n 3, 1) := by decide +kernel
theorem dX11_least_73 : decode cX11_least 73 = .ok (.ireturn, 1) := by decide +kernel
theorem dX11_findLengths_0 : decode cX11_findLengths 0 = .ok (.iconst 0, 1) := by decide +kernel
theorem dX11_findLengths_1 : decode cX11_findLengths 1 = .ok (.istore_n 2, 1) := by decide +kernel
theorem dX11_findLengths_2 : decode cX11_findLengths 2 = .ok (.iconst 0, 1) := by decide +kernel
theorem dX11_findLengths_3 : decode cX11_findLengths 3 = .ok (.istore_n 3, 1) := by decide +kernel
theorem dX11_findLengths_4 : decode cX11_findLengths 4 = .ok (.iload_n 3, 1) := by decide +kernel
theorem dX11_findLengths_5 : decode cX11_findLengths 5 = .ok (.sipush 256, 3) := by decide +kernel
theorem dX11_findLengths_8 : decode cX11_findLengths 8 = .ok (.if_icmp .ge 40, 3) := by decide +kernel
theorem dX11_findLengths_11 : decode cX11_findLengths 11 = .ok (.aload_n 0, 1) := by decide +kernel
theorem dX11_findLengths_12 : decode cX11_findLengths 12 = .ok (.getfield 34, 3) := by decide +kernel
theorem dX11_findLengths_15 : decode cX11_findLengths 15 = .ok (.iload_n 3, 1) := by decide +kernel
theorem dX11_findLengths_16 : decode cX11_findLengths 16 = .ok (.iaload, 1) := by decide +kernel
theorem dX11_findLengths_17 : decode cX11_findLengths 17 = .ok (.ifCond .le 25, 3) := by decide +kernel
theorem dX11_findLengths_20 : decode cX11_findLengths 20 = .ok (.aload_n 0, 1) := by decide +kernel
theorem dX11_findLengths_21 : decode cX11_findLengths 21 = .ok (.getfield 43, 3) := by decide +kernel
theorem dX11_findLengths_24 : decode cX11_findLengths 24 = .ok (.iload_n 2, 1) := by decide +kernel
theorem dX11_findLengths_25 : decode cX11_findLengths 25 = .ok (.aload_n 0, 1) := by decide +kernel
theorem dX11_findLengths_26 : decode cX11_findLengths 26 = .ok (.getfield 34, 3) := by decide +kernel
theorem dX11_findLengths_29 : decode cX11_findLengths 29 = .ok (.iload_n 3, 1) := by decide +kernel
theorem dX11_findLengths_30 : decode cX11_findLengths 30 = .ok (.iaload, 1) := by decide +kernel
theorem dX11_findLengths_31 : decode cX11_findLengths 31 = .ok (.iastore, 1) := by decide +kernel
theorem dX11_findLengths_32 : decode cX11_findLengths 32 = .ok (.aload_n 0, 1) := by decide +kernel
theorem dX11_findLengths_33 : decode cX11_findLengths 33 = .ok (.getfield 46, 3) := by decide +kernel
theorem dX11_findLengths_36 : decode cX11_findLengths 36 = .ok (.iload_n 2, 1) := by decide +kernel
theorem dX11_findLengths_37 : decode cX11_findLengths 37 = .ok (.iconst (-1), 1) := by decide +kernel
theorem dX11_findLengths_38 : decode cX11_findLengths 38 = .ok (.iastore, 1) := by decide +kernel
theorem dX11_findLengths_39 : decode cX11_findLengths 39 = .ok (.iinc 2 1, 3) := by decide +kernel
theorem dX11_findLengths_42 : decode cX11_findLengths 42 = .ok (.iinc 3 1, 3) := by decide +kernel
theorem dX11_findLengths_45 : decode cX11_findLengths 45 = .ok (.goto (-41), 3) := by decide +kernel
theorem dX11_findLengths_48 : decode cX11_findLengths 48 = .ok (.iload_n 1, 1) := by decide +kernel
theorem dX11_findLengths_49 : decode cX11_findLengths 49 = .ok (.istore_n 3, 1) := by decide +kernel
theorem dX11_findLengths_50 : decode cX11_findLengths 50 = .ok (.iload_n 3, 1) := by decide +kernel
theorem dX11_findLengths_51 : decode cX11_findLengths 51 = .ok (.iconst 1, 1) := by decide +kernel
theorem dX11_findLengths_52 : decode cX11_findLengths 52 = .ok (.if_icmp .le 73, 3) := by decide +kernel
theorem dX11_findLengths_55 : decode cX11_findLengths 55 = .ok (.aload_n 0, 1) := by decide +kernel
theorem dX11_findLengths_56 : decode cX11_findLengths 56 = .ok (.iload_n 2, 1) := by decide +kernel
theorem dX11_findLengths_57 : decode cX11_findLengths 57 = .ok (.iconst (-1), 1) := by decide +kernel
theorem dX11_findLengths_58 : decode cX11_findLengths 58 = .ok (.invokevirtual 152, 3) := by decide +kernel
theorem dX11_findLengths_61 : decode cX11_findLengths 61 = .ok (.istore 4, 2) := by decide +kernel
theorem dX11_findLengths_63 : decode cX11_findLengths 63 = .ok (.aload_n 0, 1) := by decide +kernel
theorem dX11_findLengths_64 : decode cX11_findLengths 64 = .ok (.iload_n 2, 1) := by decide +kernel
theorem dX11_findLengths_65 : decode cX11_findLengths 65 = .ok (.iload 4, 2) := by decide +kernel
theorem dX11_findLengths_67 : decode cX11_findLengths 67 = .ok (.invokevirtual 152, 3) := by decide +kernel
theorem dX11_findLengths_70 : decode cX11_findLengths 70 = .ok (.istore 5, 2) := by decide +kernel
theorem dX11_findLengths_72 : decode cX11_findLengths 72 = .ok (.aload_n 0, 1) := by decide +kernel
theorem dX11_findLengths_73 : decode cX11_findLengths 73 = .ok (.getfield 43, 3) := by decide +kernel
theorem dX11_findLengths_76 : decode cX11_findLengths 76 = .ok (.iload_n 2, 1) := by decide +kernel
theorem dX11_findLengths_77 : decode cX11_findLengths 77 = .ok (.aload_n 0, 1) := by decide +kernel
theorem dX11_findLengths_78 : decode cX11_findLengths 78 = .ok (.getfield 43, 3) := by decide +kernel
theorem dX11_findLengths_81 : decode cX11_findLengths 81 = .ok (.iload 4, 2) := by decide +kernel
theorem dX11_findLengths_83 : decode cX11_findLengths 83 = .ok (.iaload, 1) := by decide +kernel
theorem dX11_findLengths_84 : decode cX11_findLengths 84 = .ok (.aload_n 0, 1) := by decide +kernel
theorem dX11_findLengths_85 : decode cX11_findLengths 85 = .ok (.getfield 43, 3) := by decide +kernel
theorem dX11_findLengths_88 : decode cX11_findLengths 88 = .ok (.iload 5, 2) := by decide +kernel
theorem dX11_findLengths_90 : decode cX11_findLengths 90 = .ok (.iaload, 1) := by decide +kernel
theorem dX11_findLengths_91 : decode cX11_findLengths 91 = .ok (.iadd, 1) := by decide +kernel
theorem dX11_findLengths_92 : decode cX11_findLengths 92 = .ok (.iastore, 1) := by decide +kernel
theorem dX11_findLengths_93 : decode cX11_findLengths 93 = .ok (.aload_n 0, 1) := by decide +kernel
theorem dX11_findLengths_94 : decode cX11_findLengths 94 = .ok (.getfield 46, 3) := by decide +kernel
theorem dX11_findLengths_97 : decode cX11_findLengths 97 = .ok (.iload_n 2, 1) := by decide +kernel
theorem dX11_findLengths_98 : decode cX11_findLengths 98 = .ok (.iconst (-1), 1) := by decide +kernel
theorem dX11_findLengths_99 : decode cX11_findLengths 99 = .ok (.iastore, 1) := by decide +kernel
theorem dX11_findLengths_100 : decode cX11_findLengths 100 = .ok (.aload_n 0, 1) := by decide +kernel
theorem dX11_findLengths_101 : decode cX11_findLengths 101 = .ok (.getfield 46, 3) := by decide +kernel
theorem dX11_findLengths_104 : decode cX11_findLengths 104 = .ok (.iload 4, 2) := by decide +kernel
theorem dX11_findLengths_106 : decode cX11_findLengths 106 = .ok (.iload_n 2, 1) := by decide +kernel
theorem dX11_findLengths_107 : decode cX11_findLengths 107 = .ok (.iastore, 1) := by decide +kernel
theorem dX11_findLengths_108 : decode cX11_findLengths 108 = .ok (.aload_n 0, 1) := by decide +kernel
theorem dX11_findLengths_109 : decode cX11_findLengths 109 = .ok (.getfield 46, 3) := by decide +kernel
theorem dX11_findLengths_112 : decode cX11_findLengths 112 = .ok (.iload 5, 2) := by decide +kernel
theorem dX11_findLengths_114 : decode cX11_findLengths 114 = .ok (.iload_n 2, 1) := by decide +kernel
theorem dX11_findLengths_115 : decode cX11_findLengths 115 = .ok (.iastore, 1) := by decide +kernel
theorem dX11_findLengths_116 : decode cX11_findLengths 116 = .ok (.iinc 2 1, 3) := by decide +kernel
theorem dX11_findLengths_119 : decode cX11_findLengths 119 = .ok (.iinc 3 (-1), 3) := by decide +kernel
theorem dX11_findLengths_122 : decode cX11_findLengths 122 = .ok (.goto (-72), 3) := by decide +kernel
theorem dX11_findLengths_125 : decode cX11_findLengths 125 = .ok (.iconst 0, 1) := by decide +kernel
theorem dX11_findLengths_126 : decode cX11_findLengths 126 = .ok (.istore_n 3, 1) := by decide +kernel
theorem dX11_findLengths_127 : decode cX11_findLengths 127 = .ok (.iconst 0, 1) := by decide +kernel
theorem dX11_findLengths_128 : decode cX11_findLengths 128 = .ok (.istore 4, 2) := by decide +kernel
theorem dX11_findLengths_130 : decode cX11_findLengths 130 = .ok (.iload 4, 2) := by decide +kernel
theorem dX11_findLengths_132 : decode cX11_findLengths 132 = .ok (.sipush 256, 3) := by decide +kernel
theorem dX11_findLengths_135 : decode cX11_findLengths 135 = .ok (.if_icmp .ge 89, 3) := by decide +kernel
theorem dX11_findLengths_138 : decode cX11_findLengths 138 = .ok (.aload_n 0, 1) := by decide +kernel
theorem dX11_findLengths_139 : decode cX11_findLengths 139 = .ok (.getfield 37, 3) := by decide +kernel
theorem dX11_findLengths_142 : decode cX11_findLengths 142 = .ok (.iload 4, 2) := by decide +kernel
theorem dX11_findLengths_144 : decode cX11_findLengths 144 = .ok (.iconst 0, 1) := by decide +kernel
theorem dX11_findLengths_145 : decode cX11_findLengths 145 = .ok (.iastore, 1) := by decide +kernel
theorem dX11_findLengths_146 : decode cX11_findLengths 146 = .ok (.aload_n 0, 1) := by decide +kernel
theorem dX11_findLengths_147 : decode cX11_findLengths 147 = .ok (.getfield 34, 3) := by decide +kernel
theorem dX11_findLengths_150 : decode cX11_findLengths 150 = .ok (.iload 4, 2) := by decide +kernel
theorem dX11_findLengths_152 : decode cX11_findLengths 152 = .ok (.iaload, 1) := by decide +kernel
theorem dX11_findLengths_153 : decode cX11_findLengths 153 = .ok (.ifCond .le 65, 3) := by decide +kernel
theorem dX11_findLengths_156 : decode cX11_findLengths 156 = .ok (.aload_n 0, 1) := by decide +kernel
theorem dX11_findLengths_157 : decode cX11_findLengths 157 = .ok (.getfield 46, 3) := by decide +kernel
theorem dX11_findLengths_160 : decode cX11_findLengths 160 = .ok (.iload_n 3, 1) := by decide +kernel
theorem dX11_findLengths_161 : decode cX11_findLengths 161 = .ok (.iaload, 1) := by decide +kernel
theorem dX11_findLengths_162 : decode cX11_findLengths 162 = .ok (.istore 5, 2) := by decide +kernel
theorem dX11_findLengths_164 : decode cX11_findLengths 164 = .ok (.iload 5, 2) := by decide +kernel
theorem dX11_findLengths_166 : decode cX11_findLengths 166 = .ok (.ifCond .lt 26, 3) := by decide +kernel
theorem dX11_findLengths_169 : decode cX11_findLengths 169 = .ok (.aload_n 0, 1) := by decide +kernel
theorem dX11_findLengths_170 : decode cX11_findLengths 170 = .ok (.getfield 37, 3) := by decide +kernel
theorem dX11_findLengths_173 : decode cX11_findLengths 173 = .ok (.iload 4, 2) := by decide +kernel
theorem dX11_findLengths_175 : decode cX11_findLengths 175 = .ok (.dup2, 1) := by decide +kernel
theorem dX11_findLengths_176 : decode cX11_findLengths 176 = .ok (.iaload, 1) := by decide +kernel
theorem dX11_findLengths_177 : decode cX11_findLengths 177 = .ok (.iconst 1, 1) := by decide +kernel
theorem dX11_findLengths_178 : decode cX11_findLengths 178 = .ok (.iadd, 1) := by decide +kernel
theorem dX11_findLengths_179 : decode cX11_findLengths 179 = .ok (.iastore, 1) := by decide +kernel
theorem dX11_findLengths_180 : decode cX11_findLengths 180 = .ok (.aload_n 0, 1) := by decide +kernel
theorem dX11_findLengths_181 : decode cX11_findLengths 181 = .ok (.getfield 46, 3) := by decide +kernel
theorem dX11_findLengths_184 : decode cX11_findLengths 184 = .ok (.iload 5, 2) := by decide +kernel
theorem dX11_findLengths_186 : decode cX11_findLengths 186 = .ok (.iaload, 1) := by decide +kernel
theorem dX11_findLengths_187 : decode cX11_findLengths 187 = .ok (.istore 5, 2) := by decide +kernel
theorem dX11_findLengths_189 : decode cX11_findLengths 189 = .ok (.goto (-25), 3) := by decide +kernel
theorem dX11_findLengths_192 : decode cX11_findLengths 192 = .ok (.aload_n 0, 1) := by decide +kernel
theorem dX11_findLengths_193 : decode cX11_findLengths 193 = .ok (.getfield 37, 3) := by decide +kernel
theorem dX11_findLengths_196 : decode cX11_findLengths 196 = .ok (.iload 4, 2) := by decide +kernel
theorem dX11_findLengths_198 : decode cX11_findLengths 198 = .ok (.iload_n 1, 1) := by decide +kernel
theorem dX11_findLengths_199 : decode cX11_findLengths 199 = .ok (.iconst 1, 1) := by decide +kernel
theorem dX11_findLengths_200 : decode cX11_findLengths 200 = .ok (.if_icmp .ne 7, 3) := by decide +kernel
theorem dX11_findLengths_203 : decode cX11_findLengths 203 = .ok (.iconst 1, 1) := by decide +kernel
theorem dX11_findLengths_204 : decode cX11_findLengths 204 = .ok (.goto 10, 3) := by decide +kernel
theorem dX11_findLengths_207 : decode cX11_findLengths 207 = .ok (.aload_n 0, 1) := by decide +kernel
theorem dX11_findLengths_208 : decode cX11_findLengths 208 = .ok (.getfield 37, 3) := by decide +kernel
theorem dX11_findLengths_211 : decode cX11_findLengths 211 = .ok (.iload 4, 2) := by decide +kernel
theorem dX11_findLengths_213 : decode cX11_findLengths 213 = .ok (.iaload, 1) := by decide +kernel
theorem dX11_findLengths_214 : decode cX11_findLengths 214 = .ok (.iastore, 1) := by decide +kernel
theorem dX11_findLengths_215 : decode cX11_findLengths 215 = .ok (.iinc 3 1, 3) := by decide +kernel
theorem dX11_findLengths_218 : decode cX11_findLengths 218 = .ok (.iinc 4 1, 3) := by decide +kernel
theorem dX11_findLengths_221 : decode cX11_findLengths 221 = .ok (.goto (-91), 3) := by decide +kernel
theorem dX11_findLengths_224 : decode cX11_findLengths 224 = .ok (.return_, 1) := by decide +kernel
theorem dX11_findCodes_0 : decode cX11_findCodes 0 = .ok (.iconst 0, 1) := by decide +kernel
theorem dX11_findCodes_1 : decode cX11_findCodes 1 = .ok (.istore_n 1, 1) := by decide +kernel
theorem dX11_findCodes_2 : decode cX11_findCodes 2 = .ok (.iconst 1, 1) := by decide +kernel
theorem dX11_findCodes_3 : decode cX11_findCodes 3 = .ok (.istore_n 2, 1) := by decide +kernel
theorem dX11_findCodes_4 : decode cX11_findCodes 4 = .ok (.iload_n 2, 1) := by decide +kernel
theorem dX11_findCodes_5 : decode cX11_findCodes 5 = .ok (.bipush 16, 2) := by decide +kernel
theorem dX11_findCodes_7 : decode cX11_findCodes 7 = .ok (.if_icmp .ge 48, 3) := by decide +kernel
theorem dX11_findCodes_10 : decode cX11_findCodes 10 = .ok (.iload_n 1, 1) := by decide +kernel
theorem dX11_findCodes_11 : decode cX11_findCodes 11 = .ok (.iconst 1, 1) := by decide +kernel
theorem dX11_findCodes_12 : decode cX11_findCodes 12 = .ok (.ishl, 1) := by decide +kernel
theorem dX11_findCodes_13 : decode cX11_findCodes 13 = .ok (.istore_n 1, 1) := by decide +kernel
theorem dX11_findCodes_14 : decode cX11_findCodes 14 = .ok (.iconst 0, 1) := by decide +kernel
theorem dX11_findCodes_15 : decode cX11_findCodes 15 = .ok (.istore_n 3, 1) := by decide +kernel
theorem dX11_findCodes_16 : decode cX11_findCodes 16 = .ok (.iload_n 3, 1) := by decide +kernel
theorem dX11_findCodes_17 : decode cX11_findCodes 17 = .ok (.sipush 256, 3) := by decide +kernel
theorem dX11_findCodes_20 : decode cX11_findCodes 20 = .ok (.if_icmp .ge 29, 3) := by decide +kernel
theorem dX11_findCodes_23 : decode cX11_findCodes 23 = .ok (.aload_n 0, 1) := by decide +kernel
theorem dX11_findCodes_24 : decode cX11_findCodes 24 = .ok (.getfield 37, 3) := by decide +kernel
theorem dX11_findCodes_27 : decode cX11_findCodes 27 = .ok (.iload_n 3, 1) := by decide +kernel
theorem dX11_findCodes_28 : decode cX11_findCodes 28 = .ok (.iaload, 1) := by decide +kernel
theorem dX11_findCodes_29 : decode cX11_findCodes 29 = .ok (.iload_n 2, 1) := by decide +kernel
theorem dX11_findCodes_30 : decode cX11_findCodes 30 = .ok (.if_icmp .ne 13, 3) := by decide +kernel
theorem dX11_findCodes_33 : decode cX11_findCodes 33 = .ok (.aload_n 0, 1) := by decide +kernel
theorem dX11_findCodes_34 : decode cX11_findCodes 34 = .ok (.getfield 40, 3) := by decide +kernel
theorem dX11_findCodes_37 : decode cX11_findCodes 37 = .ok (.iload_n 3, 1) := by decide +kernel
theorem dX11_findCodes_38 : decode cX11_findCodes 38 = .ok (.iload_n 1, 1) := by decide +kernel
theorem dX11_findCodes_39 : decode cX11_findCodes 39 = .ok (.iastore, 1) := by decide +kernel
theorem dX11_findCodes_40 : decode cX11_findCodes 40 = .ok (.iinc 1 1, 3) := by decide +kernel
theorem dX11_findCodes_43 : decode cX11_findCodes 43 = .ok (.iinc 3 1, 3) := by decide +kernel
theorem dX11_findCodes_46 : decode cX11_findCodes 46 = .ok (.goto (-30), 3) := by decide +kernel
theorem dX11_findCodes_49 : decode cX11_findCodes 49 = .ok (.iinc 2 1, 3) := by decide +kernel
theorem dX11_findCodes_52 : decode cX11_findCodes 52 = .ok (.goto (-48), 3) := by decide +kernel
theorem dX11_findCodes_55 : decode cX11_findCodes 55 = .ok (.return_, 1) := by decide +kernel
theorem dX11_packPrefix_0 : decode cX11_packPrefix 0 = .ok (.aload_n 0, 1) := by decide +kernel
theorem dX11_packPrefix_1 : decode cX11_packPrefix 1 = .ok (.iload_n 1, 1) := by decide +kernel
theorem dX11_packPrefix_2 : decode cX11_packPrefix 2 = .ok (.invokevirtual 143, 3) := by decide +kernel
theorem dX11_packPrefix_5 : decode cX11_packPrefix 5 = .ok (.istore_n 2, 1) := by decide +kernel
theorem dX11_packPrefix_6 : decode cX11_packPrefix 6 = .ok (.aload_n 0, 1) := by decide +kernel
theorem dX11_packPrefix_7 : decode cX11_packPrefix 7 = .ok (.iload_n 2, 1) := by decide +kernel
theorem dX11_packPrefix_8 : decode cX11_packPrefix 8 = .ok (.invokevirtual 155, 3) := by decide +kernel
theorem dX11_packPrefix_11 : decode cX11_packPrefix 11 = .ok (.aload_n 0, 1) := by decide +kernel
theorem dX11_packPrefix_12 : decode cX11_packPrefix 12 = .ok (.invokevirtual 158, 3) := by decide +kernel
theorem dX11_packPrefix_15 : decode cX11_packPrefix 15 = .ok (.aload_n 0, 1) := by decide +kernel
theorem dX11_packPrefix_16 : decode cX11_packPrefix 16 = .ok (.iload_n 2, 1) := by decide +kernel
theorem dX11_packPrefix_17 : decode cX11_packPrefix 17 = .ok (.iconst 1, 1) := by decide +kernel
theorem dX11_packPrefix_18 : decode cX11_packPrefix 18 = .ok (.isub, 1) := by decide +kernel
theorem dX11_packPrefix_19 : decode cX11_packPrefix 19 = .ok (.invokevirtual 123, 3) := by decide +kernel
theorem dX11_packPrefix_22 : decode cX11_packPrefix 22 = .ok (.iconst 0, 1) := by decide +kernel
theorem dX11_packPrefix_23 : decode cX11_packPrefix 23 = .ok (.istore_n 3, 1) := by decide +kernel
theorem dX11_packPrefix_24 : decode cX11_packPrefix 24 = .ok (.iload_n 3, 1) := by decide +kernel
theorem dX11_packPrefix_25 : decode cX11_packPrefix 25 = .ok (.sipush 256, 3) := by decide +kernel
theorem dX11_packPrefix_28 : decode cX11_packPrefix 28 = .ok (.if_icmp .ge 33, 3) := by decide +kernel
theorem dX11_packPrefix_31 : decode cX11_packPrefix 31 = .ok (.aload_n 0, 1) := by decide +kernel
theorem dX11_packPrefix_32 : decode cX11_packPrefix 32 = .ok (.getfield 34, 3) := by decide +kernel
theorem dX11_packPrefix_35 : decode cX11_packPrefix 35 = .ok (.iload_n 3, 1) := by decide +kernel
theorem dX11_packPrefix_36 : decode cX11_packPrefix 36 = .ok (.iaload, 1) := by decide +kernel
theorem dX11_packPrefix_37 : decode cX11_packPrefix 37 = .ok (.ifCond .le 18, 3) := by decide +kernel
theorem dX11_packPrefix_40 : decode cX11_packPrefix 40 = .ok (.aload_n 0, 1) := by decide +kernel
theorem dX11_packPrefix_41 : decode cX11_packPrefix 41 = .ok (.iload_n 3, 1) := by decide +kernel
theorem dX11_packPrefix_42 : decode cX11_packPrefix 42 = .ok (.invokevirtual 123, 3) := by decide +kernel
theorem dX11_packPrefix_45 : decode cX11_packPrefix 45 = .ok (.aload_n 0, 1) := by decide +kernel
theorem dX11_packPrefix_46 : decode cX11_packPrefix 46 = .ok (.aload_n 0, 1) := by decide +kernel
theorem dX11_packPrefix_47 : decode cX11_packPrefix 47 = .ok (.getfield 37, 3) := by decide +kernel
theorem dX11_packPrefix_50 : decode cX11_packPrefix 50 = .ok (.iload_n 3, 1) := by decide +kernel
theorem dX11_packPrefix_51 : decode cX11_packPrefix 51 = .ok (.iaload, 1) := by decide +kernel
theorem dX11_packPrefix_52 : decode cX11_packPrefix 52 = .ok (.invokevirtual 123, 3) := by decide +kernel
theorem dX11_packPrefix_55 : decode cX11_packPrefix 55 = .ok (.iinc 3 1, 3) := by decide +kernel
theorem dX11_packPrefix_58 : decode cX11_packPrefix 58 = .ok (.goto (-34), 3) := by decide +kernel
theorem dX11_packPrefix_61 : decode cX11_packPrefix 61 = .ok (.iconst 0, 1) := by decide +kernel
theorem dX11_packPrefix_62 : decode cX11_packPrefix 62 = .ok (.istore_n 3, 1) := by decide +kernel
theorem dX11_packPrefix_63 : decode cX11_packPrefix 63 = .ok (.iload_n 3, 1) := by decide +kernel
theorem dX11_packPrefix_64 : decode cX11_packPrefix 64 = .ok (.iload_n 1, 1) := by decide +kernel
theorem dX11_packPrefix_65 : decode cX11_packPrefix 65 = .ok (.if_icmp .ge 35, 3) := by decide +kernel
theorem dX11_packPrefix_68 : decode cX11_packPrefix 68 = .ok (.aload_n 0, 1) := by decide +kernel
theorem dX11_packPrefix_69 : decode cX11_packPrefix 69 = .ok (.aload_n 0, 1) := by decide +kernel
theorem dX11_packPrefix_70 : decode cX11_packPrefix 70 = .ok (.getfield 40, 3) := by decide +kernel
theorem dX11_packPrefix_73 : decode cX11_packPrefix 73 = .ok (.aload_n 0, 1) := by decide +kernel
theorem dX11_packPrefix_74 : decode cX11_packPrefix 74 = .ok (.getfield 25, 3) := by decide +kernel
theorem dX11_packPrefix_77 : decode cX11_packPrefix 77 = .ok (.iload_n 3, 1) := by decide +kernel
theorem dX11_packPrefix_78 : decode cX11_packPrefix 78 = .ok (.iaload, 1) := by decide +kernel
theorem dX11_packPrefix_79 : decode cX11_packPrefix 79 = .ok (.iaload, 1) := by decide +kernel
theorem dX11_packPrefix_80 : decode cX11_packPrefix 80 = .ok (.aload_n 0, 1) := by decide +kernel
theorem dX11_packPrefix_81 : decode cX11_packPrefix 81 = .ok (.getfield 37, 3) := by decide +kernel
theorem dX11_packPrefix_84 : decode cX11_packPrefix 84 = .ok (.aload_n 0, 1) := by decide +kernel
theorem dX11_packPrefix_85 : decode cX11_packPrefix 85 = .ok (.getfield 25, 3) := by decide +kernel
theorem dX11_packPrefix_88 : decode cX11_packPrefix 88 = .ok (.iload_n 3, 1) := by decide +kernel
theorem dX11_packPrefix_89 : decode cX11_packPrefix 89 = .ok (.iaload, 1) := by decide +kernel
theorem dX11_packPrefix_90 : decode cX11_packPrefix 90 = .ok (.iaload, 1) := by decide +kernel
theorem dX11_packPrefix_91 : decode cX11_packPrefix 91 = .ok (.invokevirtual 149, 3) := by decide +kernel
theorem dX11_packPrefix_94 : decode cX11_packPrefix 94 = .ok (.iinc 3 1, 3) := by decide +kernel
theorem dX11_packPrefix_97 : decode cX11_packPrefix 97 = .ok (.goto (-34), 3) := by decide +kernel
theorem dX11_packPrefix_100 : decode cX11_packPrefix 100 = .ok (.return_, 1) := by decide +kernel
theorem dX11_putFilter_0 : decode cX11_putFilter 0 = .ok (.iload_n 1, 1) := by decide +kernel
theorem dX11_putFilter_1 : decode cX11_putFilter 1 = .ok (.ifCond .lt 44, 3) := by decide +kernel
theorem dX11_putFilter_4 : decode cX11_putFilter 4 = .ok (.aload_n 0, 1) := by decide +kernel
theorem dX11_putFilter_5 : decode cX11_putFilter 5 = .ok (.aload_n 0, 1) := by decide +kernel
theorem dX11_putFilter_6 : decode cX11_putFilter 6 = .ok (.getfield 16, 3) := by decide +kernel
theorem dX11_putFilter_9 : decode cX11_putFilter 9 = .ok (.iload_n 1, 1) := by decide +kernel
theorem dX11_putFilter_10 : decode cX11_putFilter 10 = .ok (.iaload, 1) := by decide +kernel
theorem dX11_putFilter_11 : decode cX11_putFilter 11 = .ok (.invokevirtual 123, 3) := by decide +kernel
theorem dX11_putFilter_14 : decode cX11_putFilter 14 = .ok (.aload_n 0, 1) := by decide +kernel
theorem dX11_putFilter_15 : decode cX11_putFilter 15 = .ok (.aload_n 0, 1) := by decide +kernel
theorem dX11_putFilter_16 : decode cX11_putFilter 16 = .ok (.getfield 19, 3) := by decide +kernel
theorem dX11_putFilter_19 : decode cX11_putFilter 19 = .ok (.iload_n 1, 1) := by decide +kernel
theorem dX11_putFilter_20 : decode cX11_putFilter 20 = .ok (.iaload, 1) := by decide +kernel
theorem dX11_putFilter_21 : decode cX11_putFilter 21 = .ok (.invokevirtual 123, 3) := by decide +kernel
theorem dX11_putFilter_24 : decode cX11_putFilter 24 = .ok (.aload_n 0, 1) := by decide +kernel
theorem dX11_putFilter_25 : decode cX11_putFilter 25 = .ok (.aload_n 0, 1) := by decide +kernel
theorem dX11_putFilter_26 : decode cX11_putFilter 26 = .ok (.getfield 16, 3) := by decide +kernel
theorem dX11_putFilter_29 : decode cX11_putFilter 29 = .ok (.iload_n 1, 1) := by decide +kernel
theorem dX11_putFilter_30 : decode cX11_putFilter 30 = .ok (.iaload, 1) := by decide +kernel
theorem dX11_putFilter_31 : decode cX11_putFilter 31 = .ok (.aload_n 0, 1) := by decide +kernel
theorem dX11_putFilter_32 : decode cX11_putFilter 32 = .ok (.getfield 19, 3) := by decide +kernel
theorem dX11_putFilter_35 : decode cX11_putFilter 35 = .ok (.iload_n 1, 1) := by decide +kernel
theorem dX11_putFilter_36 : decode cX11_putFilter 36 = .ok (.iaload, 1) := by decide +kernel
theorem dX11_putFilter_37 : decode cX11_putFilter 37 = .ok (.aload_n 0, 1) := by decide +kernel
theorem dX11_putFilter_38 : decode cX11_putFilter 38 = .ok (.getfield 72, 3) := by decide +kernel
theorem dX11_putFilter_41 : decode cX11_putFilter 41 = .ok (.iconst 0, 1) := by decide +kernel
theorem dX11_putFilter_42 : decode cX11_putFilter 42 = .ok (.invokevirtual 161, 3) := by decide +kernel
theorem dX11_putFilter_45 : decode cX11_putFilter 45 = .ok (.return_, 1) := by decide +kernel
theorem dX11_packAll_0 : decode cX11_packAll 0 = .ok (.aload_n 0, 1) := by decide +kernel
theorem dX11_packAll_1 : decode cX11_packAll 1 = .ok (.iload_n 1, 1) := by decide +kernel
theorem dX11_packAll_2 : decode cX11_packAll 2 = .ok (.invokevirtual 165, 3) := by decide +kernel
theorem dX11_packAll_5 : decode cX11_packAll 5 = .ok (.aload_n 0, 1) := by decide +kernel
theorem dX11_packAll_6 : decode cX11_packAll 6 = .ok (.iconst 0, 1) := by decide +kernel
theorem dX11_packAll_7 : decode cX11_packAll 7 = .ok (.putfield 117, 3) := by decide +kernel
theorem dX11_packAll_10 : decode cX11_packAll 10 = .ok (.iconst 0, 1) := by decide +kernel
theorem dX11_packAll_11 : decode cX11_packAll 11 = .ok (.istore_n 2, 1) := by decide +kernel
theorem dX11_packAll_12 : decode cX11_packAll 12 = .ok (.iload_n 2, 1) := by decide +kernel
theorem dX11_packAll_13 : decode cX11_packAll 13 = .ok (.aload_n 0, 1) := by decide +kernel
theorem dX11_packAll_14 : decode cX11_packAll 14 = .ok (.getfield 72, 3) := by decide +kernel
theorem dX11_packAll_17 : decode cX11_packAll 17 = .ok (.if_icmp .ge 21, 3) := by decide +kernel
theorem dX11_packAll_20 : decode cX11_packAll 20 = .ok (.aload_n 0, 1) := by decide +kernel
theorem dX11_packAll_21 : decode cX11_packAll 21 = .ok (.getfield 25, 3) := by decide +kernel
theorem dX11_packAll_24 : decode cX11_packAll 24 = .ok (.iload_n 2, 1) := by decide +kernel
theorem dX11_packAll_25 : decode cX11_packAll 25 = .ok (.aload_n 0, 1) := by decide +kernel
theorem dX11_packAll_26 : decode cX11_packAll 26 = .ok (.getfield 7, 3) := by decide +kernel
theorem dX11_packAll_29 : decode cX11_packAll 29 = .ok (.iload_n 2, 1) := by decide +kernel
theorem dX11_packAll_30 : decode cX11_packAll 30 = .ok (.iaload, 1) := by decide +kernel
theorem dX11_packAll_31 : decode cX11_packAll 31 = .ok (.iastore, 1) := by decide +kernel
theorem dX11_packAll_32 : decode cX11_packAll 32 = .ok (.iinc 2 1, 3) := by decide +kernel
theorem dX11_packAll_35 : decode cX11_packAll 35 = .ok (.goto (-23), 3) := by decide +kernel
theorem dX11_packAll_38 : decode cX11_packAll 38 = .ok (.aload_n 0, 1) := by decide +kernel
theorem dX11_packAll_39 : decode cX11_packAll 39 = .ok (.aload_n 0, 1) := by decide +kernel
theorem dX11_packAll_40 : decode cX11_packAll 40 = .ok (.getfield 100, 3) := by decide +kernel
theorem dX11_packAll_43 : decode cX11_packAll 43 = .ok (.ifCond .ge 7, 3) := by decide +kernel
theorem dX11_packAll_46 : decode cX11_packAll 46 = .ok (.iconst 0, 1) := by decide +kernel
theorem dX11_packAll_47 : decode cX11_packAll 47 = .ok (.goto 15, 3) := by decide +kernel
theorem dX11_packAll_50 : decode cX11_packAll 50 = .ok (.aload_n 0, 1) := by decide +kernel
theorem dX11_packAll_51 : decode cX11_packAll 51 = .ok (.getfield 103, 3) := by decide +kernel
theorem dX11_packAll_54 : decode cX11_packAll 54 = .ok (.ifCond .ge 7, 3) := by decide +kernel
theorem dX11_packAll_57 : decode cX11_packAll 57 = .ok (.iconst 1, 1) := by decide +kernel
theorem dX11_packAll_58 : decode cX11_packAll 58 = .ok (.goto 4, 3) := by decide +kernel
theorem dX11_packAll_61 : decode cX11_packAll 61 = .ok (.iconst 2, 1) := by decide +kernel
theorem dX11_packAll_62 : decode cX11_packAll 62 = .ok (.invokevirtual 123, 3) := by decide +kernel
theorem dX11_packAll_65 : decode cX11_packAll 65 = .ok (.aload_n 0, 1) := by decide +kernel
theorem dX11_packAll_66 : decode cX11_packAll 66 = .ok (.aload_n 0, 1) := by decide +kernel
theorem dX11_packAll_67 : decode cX11_packAll 67 = .ok (.getfield 100, 3) := by decide +kernel
theorem dX11_packAll_70 : decode cX11_packAll 70 = .ok (.invokevirtual 168, 3) := by decide +kernel
theorem dX11_packAll_73 : decode cX11_packAll 73 = .ok (.aload_n 0, 1) := by decide +kernel
theorem dX11_packAll_74 : decode cX11_packAll 74 = .ok (.aload_n 0, 1) := by decide +kernel
theorem dX11_packAll_75 : decode cX11_packAll 75 = .ok (.getfield 103, 3) := by decide +kernel
theorem dX11_packAll_78 : decode cX11_packAll 78 = .ok (.invokevirtual 168, 3) := by decide +kernel
theorem dX11_packAll_81 : decode cX11_packAll 81 = .ok (.aload_n 0, 1) := by decide +kernel
theorem dX11_packAll_82 : decode cX11_packAll 82 = .ok (.aload_n 0, 1) := by decide +kernel
theorem dX11_packAll_83 : decode cX11_packAll 83 = .ok (.getfield 97, 3) := by decide +kernel
theorem dX11_packAll_86 : decode cX11_packAll 86 = .ok (.invokevirtual 123, 3) := by decide +kernel
theorem dX11_packAll_89 : decode cX11_packAll 89 = .ok (.aload_n 0, 1) := by decide +kernel
theorem dX11_packAll_90 : decode cX11_packAll 90 = .ok (.aload_n 0, 1) := by decide +kernel
theorem dX11_packAll_91 : decode cX11_packAll 91 = .ok (.getfield 72, 3) := by decide +kernel
theorem dX11_packAll_94 : decode cX11_packAll 94 = .ok (.sipush 256, 3) := by decide +kernel
theorem dX11_packAll_97 : decode cX11_packAll 97 = .ok (.idiv, 1) := by decide +kernel
theorem dX11_packAll_98 : decode cX11_packAll 98 = .ok (.invokevirtual 123, 3) := by decide +kernel
theorem dX11_packAll_101 : decode cX11_packAll 101 = .ok (.aload_n 0, 1) := by decide +kernel
theorem dX11_packAll_102 : decode cX11_packAll 102 = .ok (.aload_n 0, 1) := by decide +kernel
theorem dX11_packAll_103 : decode cX11_packAll 103 = .ok (.getfield 72, 3) := by decide +kernel
theorem dX11_packAll_106 : decode cX11_packAll 106 = .ok (.sipush 256, 3) := by decide +kernel
theorem dX11_packAll_109 : decode cX11_packAll 109 = .ok (.irem, 1) := by decide +kernel
theorem dX11_packAll_110 : decode cX11_packAll 110 = .ok (.invokevirtual 123, 3) := by decide +kernel
theorem dX11_packAll_113 : decode cX11_packAll 113 = .ok (.aload_n 0, 1) := by decide +kernel
theorem dX11_packAll_114 : decode cX11_packAll 114 = .ok (.getfield 72, 3) := by decide +kernel
theorem dX11_packAll_117 : decode cX11_packAll 117 = .ok (.ifCond .ne 4, 3) := by decide +kernel
theorem dX11_packAll_120 : decode cX11_packAll 120 = .ok (.return_, 1) := by decide +kernel
theorem dX11_packAll_121 : decode cX11_packAll 121 = .ok (.aload_n 0, 1) := by decide +kernel
theorem dX11_packAll_122 : decode cX11_packAll 122 = .ok (.getfield 97, 3) := by decide +kernel
theorem dX11_packAll_125 : decode cX11_packAll 125 = .ok (.tableswitch 93 0 3 #[31, 60, 71, 82], 31) := by decide +kernel
theorem dX11_packAll_156 : decode cX11_packAll 156 = .ok (.iconst 0, 1) := by decide +kernel
theorem dX11_packAll_157 : decode cX11_packAll 157 = .ok (.istore_n 2, 1) := by decide +kernel
theorem dX11_packAll_158 : decode cX11_packAll 158 = .ok (.iload_n 2, 1) := by decide +kernel
theorem dX11_packAll_159 : decode cX11_packAll 159 = .ok (.aload_n 0, 1) := by decide +kernel
theorem dX11_packAll_160 : decode cX11_packAll 160 = .ok (.getfield 72, 3) := by decide +kernel
theorem dX11_packAll_163 : decode cX11_packAll 163 = .ok (.if_icmp .ge 19, 3) := by decide +kernel
theorem dX11_packAll_166 : decode cX11_packAll 166 = .ok (.aload_n 0, 1) := by decide +kernel
theorem dX11_packAll_167 : decode cX11_packAll 167 = .ok (.aload_n 0, 1) := by decide +kernel
theorem dX11_packAll_168 : decode cX11_packAll 168 = .ok (.getfield 25, 3) := by decide +kernel
theorem dX11_packAll_171 : decode cX11_packAll 171 = .ok (.iload_n 2, 1) := by decide +kernel
theorem dX11_packAll_172 : decode cX11_packAll 172 = .ok (.iaload, 1) := by decide +kernel
theorem dX11_packAll_173 : decode cX11_packAll 173 = .ok (.invokevirtual 123, 3) := by decide +kernel
theorem dX11_packAll_176 : decode cX11_packAll 176 = .ok (.iinc 2 1, 3) := by decide +kernel
theorem dX11_packAll_179 : decode cX11_packAll 179 = .ok (.goto (-21), 3) := by decide +kernel
theorem dX11_packAll_182 : decode cX11_packAll 182 = .ok (.goto 44, 3) := by decide +kernel
theorem dX11_packAll_185 : decode cX11_packAll 185 = .ok (.aload_n 0, 1) := by decide +kernel
theorem dX11_packAll_186 : decode cX11_packAll 186 = .ok (.aload_n 0, 1) := by decide +kernel
theorem dX11_packAll_187 : decode cX11_packAll 187 = .ok (.getfield 72, 3) := by decide +kernel
theorem dX11_packAll_190 : decode cX11_packAll 190 = .ok (.invokevirtual 171, 3) := by decide +kernel
theorem dX11_packAll_193 : decode cX11_packAll 193 = .ok (.goto 33, 3) := by decide +kernel
theorem dX11_packAll_196 : decode cX11_packAll 196 = .ok (.aload_n 0, 1) := by decide +kernel
theorem dX11_packAll_197 : decode cX11_packAll 197 = .ok (.aload_n 0, 1) := by decide +kernel
theorem dX11_packAll_198 : decode cX11_packAll 198 = .ok (.getfield 72, 3) := by decide +kernel
theorem dX11_packAll_201 : decode cX11_packAll 201 = .ok (.invokevirtual 174, 3) := by decide +kernel
theorem dX11_packAll_204 : decode cX11_packAll 204 = .ok (.goto 22, 3) := by decide +kernel
theorem dX11_packAll_207 : decode cX11_packAll 207 = .ok (.aload_n 0, 1) := by decide +kernel
theorem dX11_packAll_208 : decode cX11_packAll 208 = .ok (.aload_n 0, 1) := by decide +kernel
theorem dX11_packAll_209 : decode cX11_packAll 209 = .ok (.getfield 72, 3) := by decide +kernel
theorem dX11_packAll_212 : decode cX11_packAll 212 = .ok (.invokevirtual 177, 3) := by decide +kernel
theorem dX11_packAll_215 : decode cX11_packAll 215 = .ok (.goto 11, 3) := by decide +kernel
theorem dX11_packAll_218 : decode cX11_packAll 218 = .ok (.aload_n 0, 1) := by decide +kernel
theorem dX11_packAll_219 : decode cX11_packAll 219 = .ok (.aload_n 0, 1) := by decide +kernel
theorem dX11_packAll_220 : decode cX11_packAll 220 = .ok (.getfield 72, 3) := by decide +kernel
theorem dX11_packAll_223 : decode cX11_packAll 223 = .ok (.invokevirtual 180, 3) := by decide +kernel
theorem dX11_packAll_226 : decode cX11_packAll 226 = .ok (.return_, 1) := by decide +kernel
theorem dX11_chain_0 : decode cX11_chain 0 = .ok (.iload_n 1, 1) := by decide +kernel
theorem dX11_chain_1 : decode cX11_chain 1 = .ok (.iconst 0, 1) := by decide +kernel
theorem dX11_chain_2 : decode cX11_chain 2 = .ok (.aload_n 0, 1) := by decide +kernel
theorem dX11_chain_3 : decode cX11_chain 3 = .ok (.invokevirtual 93, 3) := by decide +kernel
theorem dX11_chain_6 : decode cX11_chain 6 = .ok (.iconst 1, 1) := by decide +kernel
theorem dX11_chain_7 : decode cX11_chain 7 = .ok (.isub, 1) := by decide +kernel
theorem dX11_chain_8 : decode cX11_chain 8 = .ok (.invokestatic 75, 3) := by decide +kernel
theorem dX11_chain_11 : decode cX11_chain 11 = .ok (.ifCond .ne 5, 3) := by decide +kernel
theorem dX11_chain_14 : decode cX11_chain 14 = .ok (.iconst (-1), 1) := by decide +kernel
theorem dX11_chain_15 : decode cX11_chain 15 = .ok (.ireturn, 1) := by decide +kernel
theorem dX11_chain_16 : decode cX11_chain 16 = .ok (.aload_n 0, 1) := by decide +kernel
theorem dX11_chain_17 : decode cX11_chain 17 = .ok (.iload_n 1, 1) := by decide +kernel
theorem dX11_chain_18 : decode cX11_chain 18 = .ok (.invokevirtual 165, 3) := by decide +kernel
theorem dX11_chain_21 : decode cX11_chain 21 = .ok (.iload_n 2, 1) := by decide +kernel
theorem dX11_chain_22 : decode cX11_chain 22 = .ok (.tableswitch 73 0 5 #[38, 43, 48, 53, 58, 63], 38) := by decide +kernel
theorem dX11_chain_60 : decode cX11_chain 60 = .ok (.aload_n 0, 1) := by decide +kernel
theorem dX11_chain_61 : decode cX11_chain 61 = .ok (.getfield 100, 3) := by decide +kernel
theorem dX11_chain_64 : decode cX11_chain 64 = .ok (.ireturn, 1) := by decide +kernel
theorem dX11_chain_65 : decode cX11_chain 65 = .ok (.aload_n 0, 1) := by decide +kernel
theorem dX11_chain_66 : decode cX11_chain 66 = .ok (.getfield 103, 3) := by decide +kernel
theorem dX11_chain_69 : decode cX11_chain 69 = .ok (.ireturn, 1) := by decide +kernel
theorem dX11_chain_70 : decode cX11_chain 70 = .ok (.aload_n 0, 1) := by decide +kernel
theorem dX11_chain_71 : decode cX11_chain 71 = .ok (.getfield 97, 3) := by decide +kernel
theorem dX11_chain_74 : decode cX11_chain 74 = .ok (.ireturn, 1) := by decide +kernel
theorem dX11_chain_75 : decode cX11_chain 75 = .ok (.aload_n 0, 1) := by decide +kernel
theorem dX11_chain_76 : decode cX11_chain 76 = .ok (.invokevirtual 183, 3) := by decide +kernel
theorem dX11_chain_79 : decode cX11_chain 79 = .ok (.ireturn, 1) := by decide +kernel
theorem dX11_chain_80 : decode cX11_chain 80 = .ok (.aload_n 0, 1) := by decide +kernel
theorem dX11_chain_81 : decode cX11_chain 81 = .ok (.invokevirtual 186, 3) := by decide +kernel
theorem dX11_chain_84 : decode cX11_chain 84 = .ok (.ireturn, 1) := by decide +kernel
theorem dX11_chain_85 : decode cX11_chain 85 = .ok (.aload_n 0, 1) := by decide +kernel
theorem dX11_chain_86 : decode cX11_chain 86 = .ok (.iload_n 1, 1) := by decide +kernel
theorem dX11_chain_87 : decode cX11_chain 87 = .ok (.invokevirtual 189, 3) := by decide +kernel
theorem dX11_chain_90 : decode cX11_chain 90 = .ok (.aload_n 0, 1) := by decide +kernel
theorem dX11_chain_91 : decode cX11_chain 91 = .ok (.getfield 117, 3) := by decide +kernel
theorem dX11_chain_94 : decode cX11_chain 94 = .ok (.ireturn, 1) := by decide +kernel
theorem dX11_chain_95 : decode cX11_chain 95 = .ok (.iconst (-1), 1) := by decide +kernel
theorem dX11_chain_96 : decode cX11_chain 96 = .ok (.ireturn, 1) := by decide +kernel
theorem dX11_isFlat_0 : decode cX11_isFlat 0 = .ok (.iconst 0, 1) := by decide +kernel
theorem dX11_isFlat_1 : decode cX11_isFlat 1 = .ok (.istore_n 1, 1) := by decide +kernel
theorem dX11_isFlat_2 : decode cX11_isFlat 2 = .ok (.iload_n 1, 1) := by decide +kernel
theorem dX11_isFlat_3 : decode cX11_isFlat 3 = .ok (.aload_n 0, 1) := by decide +kernel
theorem dX11_isFlat_4 : decode cX11_isFlat 4 = .ok (.getfield 72, 3) := by decide +kernel
theorem dX11_isFlat_7 : decode cX11_isFlat 7 = .ok (.if_icmp .ge 21, 3) := by decide +kernel
theorem dX11_isFlat_10 : decode cX11_isFlat 10 = .ok (.aload_n 0, 1) := by decide +kernel
theorem dX11_isFlat_11 : decode cX11_isFlat 11 = .ok (.getfield 25, 3) := by decide +kernel
theorem dX11_isFlat_14 : decode cX11_isFlat 14 = .ok (.iload_n 1, 1) := by decide +kernel
theorem dX11_isFlat_15 : decode cX11_isFlat 15 = .ok (.aload_n 0, 1) := by decide +kernel
theorem dX11_isFlat_16 : decode cX11_isFlat 16 = .ok (.getfield 7, 3) := by decide +kernel
theorem dX11_isFlat_19 : decode cX11_isFlat 19 = .ok (.iload_n 1, 1) := by decide +kernel
theorem dX11_isFlat_20 : decode cX11_isFlat 20 = .ok (.iaload, 1) := by decide +kernel
theorem dX11_isFlat_21 : decode cX11_isFlat 21 = .ok (.iastore, 1) := by decide +kernel
theorem dX11_isFlat_22 : decode cX11_isFlat 22 = .ok (.iinc 1 1, 3) := by decide +kernel
theorem dX11_isFlat_25 : decode cX11_isFlat 25 = .ok (.goto (-23), 3) := by decide +kernel
theorem dX11_isFlat_28 : decode cX11_isFlat 28 = .ok (.aload_n 0, 1) := by decide +kernel
theorem dX11_isFlat_29 : decode cX11_isFlat 29 = .ok (.aload_n 0, 1) := by decide +kernel
theorem dX11_isFlat_30 : decode cX11_isFlat 30 = .ok (.getfield 72, 3) := by decide +kernel
theorem dX11_isFlat_33 : decode cX11_isFlat 33 = .ok (.invokevirtual 143, 3) := by decide +kernel
theorem dX11_isFlat_36 : decode cX11_isFlat 36 = .ok (.istore_n 1, 1) := by decide +kernel
theorem dX11_isFlat_37 : decode cX11_isFlat 37 = .ok (.aload_n 0, 1) := by decide +kernel
theorem dX11_isFlat_38 : decode cX11_isFlat 38 = .ok (.getfield 72, 3) := by decide +kernel
theorem dX11_isFlat_41 : decode cX11_isFlat 41 = .ok (.bipush 64, 2) := by decide +kernel
theorem dX11_isFlat_43 : decode cX11_isFlat 43 = .ok (.if_icmp .lt 7, 3) := by decide +kernel
theorem dX11_isFlat_46 : decode cX11_isFlat 46 = .ok (.iconst 1, 1) := by decide +kernel
theorem dX11_isFlat_47 : decode cX11_isFlat 47 = .ok (.goto 4, 3) := by decide +kernel
theorem dX11_isFlat_50 : decode cX11_isFlat 50 = .ok (.iconst 0, 1) := by decide +kernel
theorem dX11_isFlat_51 : decode cX11_isFlat 51 = .ok (.istore_n 2, 1) := by decide +kernel
theorem dX11_isFlat_52 : decode cX11_isFlat 52 = .ok (.iconst 0, 1) := by decide +kernel
theorem dX11_isFlat_53 : decode cX11_isFlat 53 = .ok (.istore_n 3, 1) := by decide +kernel
theorem dX11_isFlat_54 : decode cX11_isFlat 54 = .ok (.iload_n 3, 1) := by decide +kernel
theorem dX11_isFlat_55 : decode cX11_isFlat 55 = .ok (.sipush 256, 3) := by decide +kernel
theorem dX11_isFlat_58 : decode cX11_isFlat 58 = .ok (.if_icmp .ge 37, 3) := by decide +kernel
theorem dX11_isFlat_61 : decode cX11_isFlat 61 = .ok (.iload_n 2, 1) := by decide +kernel
theorem dX11_isFlat_62 : decode cX11_isFlat 62 = .ok (.ifCond .eq 25, 3) := by decide +kernel
theorem dX11_isFlat_65 : decode cX11_isFlat 65 = .ok (.aload_n 0, 1) := by decide +kernel
theorem dX11_isFlat_66 : decode cX11_isFlat 66 = .ok (.getfield 34, 3) := by decide +kernel
theorem dX11_isFlat_69 : decode cX11_isFlat 69 = .ok (.iload_n 3, 1) := by decide +kernel
theorem dX11_isFlat_70 : decode cX11_isFlat 70 = .ok (.iaload, 1) := by decide +kernel
theorem dX11_isFlat_71 : decode cX11_isFlat 71 = .ok (.iconst 2, 1) := by decide +kernel
theorem dX11_isFlat_72 : decode cX11_isFlat 72 = .ok (.aload_n 0, 1) := by decide +kernel
theorem dX11_isFlat_73 : decode cX11_isFlat 73 = .ok (.getfield 72, 3) := by decide +kernel
theorem dX11_isFlat_76 : decode cX11_isFlat 76 = .ok (.bipush 32, 2) := by decide +kernel
theorem dX11_isFlat_78 : decode cX11_isFlat 78 = .ok (.idiv, 1) := by decide +kernel
theorem dX11_isFlat_79 : decode cX11_isFlat 79 = .ok (.iadd, 1) := by decide +kernel
theorem dX11_isFlat_80 : decode cX11_isFlat 80 = .ok (.if_icmp .gt 7, 3) := by decide +kernel
theorem dX11_isFlat_83 : decode cX11_isFlat 83 = .ok (.iconst 1, 1) := by decide +kernel
theorem dX11_isFlat_84 : decode cX11_isFlat 84 = .ok (.goto 4, 3) := by decide +kernel
theorem dX11_isFlat_87 : decode cX11_isFlat 87 = .ok (.iconst 0, 1) := by decide +kernel
theorem dX11_isFlat_88 : decode cX11_isFlat 88 = .ok (.istore_n 2, 1) := by decide +kernel
theorem dX11_isFlat_89 : decode cX11_isFlat 89 = .ok (.iinc 3 1, 3) := by decide +kernel
theorem dX11_isFlat_92 : decode cX11_isFlat 92 = .ok (.goto (-38), 3) := by decide +kernel
theorem dX11_isFlat_95 : decode cX11_isFlat 95 = .ok (.iload_n 2, 1) := by decide +kernel
theorem dX11_isFlat_96 : decode cX11_isFlat 96 = .ok (.ireturn, 1) := by decide +kernel
theorem dX11_choose_0 : decode cX11_choose 0 = .ok (.aload_n 0, 1) := by decide +kernel
theorem dX11_choose_1 : decode cX11_choose 1 = .ok (.iconst 0, 1) := by decide +kernel
theorem dX11_choose_2 : decode cX11_choose 2 = .ok (.putfield 65, 3) := by decide +kernel
theorem dX11_choose_5 : decode cX11_choose 5 = .ok (.iload_n 1, 1) := by decide +kernel
theorem dX11_choose_6 : decode cX11_choose 6 = .ok (.ifCond .lt 7, 3) := by decide +kernel
theorem dX11_choose_9 : decode cX11_choose 9 = .ok (.iload_n 2, 1) := by decide +kernel
theorem dX11_choose_10 : decode cX11_choose 10 = .ok (.ifCond .ge 5, 3) := by decide +kernel
theorem dX11_choose_13 : decode cX11_choose 13 = .ok (.iconst (-1), 1) := by decide +kernel
theorem dX11_choose_14 : decode cX11_choose 14 = .ok (.ireturn, 1) := by decide +kernel
theorem dX11_choose_15 : decode cX11_choose 15 = .ok (.aload_n 0, 1) := by decide +kernel
theorem dX11_choose_16 : decode cX11_choose 16 = .ok (.invokevirtual 192, 3) := by decide +kernel
theorem dX11_choose_19 : decode cX11_choose 19 = .ok (.istore_n 3, 1) := by decide +kernel
theorem dX11_choose_20 : decode cX11_choose 20 = .ok (.iconst 0, 1) := by decide +kernel
theorem dX11_choose_21 : decode cX11_choose 21 = .ok (.istore 4, 2) := by decide +kernel
theorem dX11_choose_23 : decode cX11_choose 23 = .ok (.iconst 0, 1) := by decide +kernel
theorem dX11_choose_24 : decode cX11_choose 24 = .ok (.istore 5, 2) := by decide +kernel
theorem dX11_choose_26 : decode cX11_choose 26 = .ok (.iconst 0, 1) := by decide +kernel
theorem dX11_choose_27 : decode cX11_choose 27 = .ok (.istore 6, 2) := by decide +kernel
theorem dX11_choose_29 : decode cX11_choose 29 = .ok (.iconst 0, 1) := by decide +kernel
theorem dX11_choose_30 : decode cX11_choose 30 = .ok (.istore 7, 2) := by decide +kernel
theorem dX11_choose_32 : decode cX11_choose 32 = .ok (.iconst 0, 1) := by decide +kernel
theorem dX11_choose_33 : decode cX11_choose 33 = .ok (.istore 8, 2) := by decide +kernel
theorem dX11_choose_35 : decode cX11_choose 35 = .ok (.iconst 0, 1) := by decide +kernel
theorem dX11_choose_36 : decode cX11_choose 36 = .ok (.istore 9, 2) := by decide +kernel
theorem dX11_choose_38 : decode cX11_choose 38 = .ok (.iload_n 3, 1) := by decide +kernel
theorem dX11_choose_39 : decode cX11_choose 39 = .ok (.ifCond .ne 7, 3) := by decide +kernel
theorem dX11_choose_42 : decode cX11_choose 42 = .ok (.iconst 1, 1) := by decide +kernel
theorem dX11_choose_43 : decode cX11_choose 43 = .ok (.goto 4, 3) := by decide +kernel
theorem dX11_choose_46 : decode cX11_choose 46 = .ok (.iconst 0, 1) := by decide +kernel
theorem dX11_choose_47 : decode cX11_choose 47 = .ok (.istore 10, 2) := by decide +kernel
theorem dX11_choose_49 : decode cX11_choose 49 = .ok (.iconst 0, 1) := by decide +kernel
theorem dX11_choose_50 : decode cX11_choose 50 = .ok (.istore 11, 2) := by decide +kernel
theorem dX11_choose_52 : decode cX11_choose 52 = .ok (.iload 11, 2) := by decide +kernel
theorem dX11_choose_54 : decode cX11_choose 54 = .ok (.aload_n 0, 1) := by decide +kernel
theorem dX11_choose_55 : decode cX11_choose 55 = .ok (.invokevirtual 93, 3) := by decide +kernel
theorem dX11_choose_58 : decode cX11_choose 58 = .ok (.if_icmp .ge 162, 3) := by decide +kernel
theorem dX11_choose_61 : decode cX11_choose 61 = .ok (.iload 10, 2) := by decide +kernel
theorem dX11_choose_63 : decode cX11_choose 63 = .ok (.ifCond .eq 157, 3) := by decide +kernel
theorem dX11_choose_66 : decode cX11_choose 66 = .ok (.aload_n 0, 1) := by decide +kernel
theorem dX11_choose_67 : decode cX11_choose 67 = .ok (.iload 11, 2) := by decide +kernel
theorem dX11_choose_69 : decode cX11_choose 69 = .ok (.invokevirtual 165, 3) := by decide +kernel
theorem dX11_choose_72 : decode cX11_choose 72 = .ok (.aload_n 0, 1) := by decide +kernel
theorem dX11_choose_73 : decode cX11_choose 73 = .ok (.invokevirtual 183, 3) := by decide +kernel
theorem dX11_choose_76 : decode cX11_choose 76 = .ok (.istore 12, 2) := by decide +kernel
theorem dX11_choose_78 : decode cX11_choose 78 = .ok (.aload_n 0, 1) := by decide +kernel
theorem dX11_choose_79 : decode cX11_choose 79 = .ok (.invokevirtual 186, 3) := by decide +kernel
theorem dX11_choose_82 : decode cX11_choose 82 = .ok (.iload_n 2, 1) := by decide +kernel
theorem dX11_choose_83 : decode cX11_choose 83 = .ok (.if_icmp .le 9, 3) := by decide +kernel
theorem dX11_choose_86 : decode cX11_choose 86 = .ok (.iinc 9 1, 3) := by decide +kernel
theorem dX11_choose_89 : decode cX11_choose 89 = .ok (.goto 125, 3) := by decide +kernel
theorem dX11_choose_92 : decode cX11_choose 92 = .ok (.iload 12, 2) := by decide +kernel
theorem dX11_choose_94 : decode cX11_choose 94 = .ok (.aload_n 0, 1) := by decide +kernel
theorem dX11_choose_95 : decode cX11_choose 95 = .ok (.getfield 72, 3) := by decide +kernel
theorem dX11_choose_98 : decode cX11_choose 98 = .ok (.imul, 1) := by decide +kernel
theorem dX11_choose_99 : decode cX11_choose 99 = .ok (.iload_n 1, 1) := by decide +kernel
theorem dX11_choose_100 : decode cX11_choose 100 = .ok (.iload 5, 2) := by decide +kernel
theorem dX11_choose_102 : decode cX11_choose 102 = .ok (.isub, 1) := by decide +kernel
theorem dX11_choose_103 : decode cX11_choose 103 = .ok (.if_icmp .le 9, 3) := by decide +kernel
theorem dX11_choose_106 : decode cX11_choose 106 = .ok (.iconst 0, 1) := by decide +kernel
theorem dX11_choose_107 : decode cX11_choose 107 = .ok (.istore 10, 2) := by decide +kernel
theorem dX11_choose_109 : decode cX11_choose 109 = .ok (.goto 105, 3) := by decide +kernel
theorem dX11_choose_112 : decode cX11_choose 112 = .ok (.iload 5, 2) := by decide +kernel
theorem dX11_choose_114 : decode cX11_choose 114 = .ok (.iload 12, 2) := by decide +kernel
theorem dX11_choose_116 : decode cX11_choose 116 = .ok (.aload_n 0, 1) := by decide +kernel
theorem dX11_choose_117 : decode cX11_choose 117 = .ok (.getfield 72, 3) := by decide +kernel
theorem dX11_choose_120 : decode cX11_choose 120 = .ok (.imul, 1) := by decide +kernel
theorem dX11_choose_121 : decode cX11_choose 121 = .ok (.iadd, 1) := by decide +kernel
theorem dX11_choose_122 : decode cX11_choose 122 = .ok (.istore 5, 2) := by decide +kernel
theorem dX11_choose_124 : decode cX11_choose 124 = .ok (.aload_n 0, 1) := by decide +kernel
theorem dX11_choose_125 : decode cX11_choose 125 = .ok (.iload 11, 2) := by decide +kernel
theorem dX11_choose_127 : decode cX11_choose 127 = .ok (.invokevirtual 189, 3) := by decide +kernel
theorem dX11_choose_130 : decode cX11_choose 130 = .ok (.iload 4, 2) := by decide +kernel
theorem dX11_choose_132 : decode cX11_choose 132 = .ok (.ifCond .eq 28, 3) := by decide +kernel
theorem dX11_choose_135 : decode cX11_choose 135 = .ok (.aload_n 0, 1) := by decide +kernel
theorem dX11_choose_136 : decode cX11_choose 136 = .ok (.getfield 117, 3) := by decide +kernel
theorem dX11_choose_139 : decode cX11_choose 139 = .ok (.iload 7, 2) := by decide +kernel
theorem dX11_choose_141 : decode cX11_choose 141 = .ok (.if_icmp .lt 19, 3) := by decide +kernel
theorem dX11_choose_144 : decode cX11_choose 144 = .ok (.aload_n 0, 1) := by decide +kernel
theorem dX11_choose_145 : decode cX11_choose 145 = .ok (.getfield 117, 3) := by decide +kernel
theorem dX11_choose_148 : decode cX11_choose 148 = .ok (.iload 7, 2) := by decide +kernel
theorem dX11_choose_150 : decode cX11_choose 150 = .ok (.if_icmp .ne 14, 3) := by decide +kernel
theorem dX11_choose_153 : decode cX11_choose 153 = .ok (.iload 12, 2) := by decide +kernel
theorem dX11_choose_155 : decode cX11_choose 155 = .ok (.iload 8, 2) := by decide +kernel
theorem dX11_choose_157 : decode cX11_choose 157 = .ok (.if_icmp .ge 7, 3) := by decide +kernel
theorem dX11_choose_160 : decode cX11_choose 160 = .ok (.iconst 1, 1) := by decide +kernel
theorem dX11_choose_161 : decode cX11_choose 161 = .ok (.goto 4, 3) := by decide +kernel
theorem dX11_choose_164 : decode cX11_choose 164 = .ok (.iconst 0, 1) := by decide +kernel
theorem dX11_choose_165 : decode cX11_choose 165 = .ok (.istore 13, 2) := by decide +kernel
theorem dX11_choose_167 : decode cX11_choose 167 = .ok (.iload 13, 2) := by decide +kernel
theorem dX11_choose_169 : decode cX11_choose 169 = .ok (.ifCond .eq 8, 3) := by decide +kernel
theorem dX11_choose_172 : decode cX11_choose 172 = .ok (.iload 11, 2) := by decide +kernel
theorem dX11_choose_174 : decode cX11_choose 174 = .ok (.goto 5, 3) := by decide +kernel
theorem dX11_choose_177 : decode cX11_choose 177 = .ok (.iload 6, 2) := by decide +kernel
theorem dX11_choose_179 : decode cX11_choose 179 = .ok (.istore 6, 2) := by decide +kernel
theorem dX11_choose_181 : decode cX11_choose 181 = .ok (.iload 13, 2) := by decide +kernel
theorem dX11_choose_183 : decode cX11_choose 183 = .ok (.ifCond .eq 10, 3) := by decide +kernel
theorem dX11_choose_186 : decode cX11_choose 186 = .ok (.aload_n 0, 1) := by decide +kernel
theorem dX11_choose_187 : decode cX11_choose 187 = .ok (.getfield 117, 3) := by decide +kernel
theorem dX11_choose_190 : decode cX11_choose 190 = .ok (.goto 5, 3) := by decide +kernel
theorem dX11_choose_193 : decode cX11_choose 193 = .ok (.iload 7, 2) := by decide +kernel
theorem dX11_choose_195 : decode cX11_choose 195 = .ok (.istore 7, 2) := by decide +kernel
theorem dX11_choose_197 : decode cX11_choose 197 = .ok (.iload 13, 2) := by decide +kernel
theorem dX11_choose_199 : decode cX11_choose 199 = .ok (.ifCond .eq 8, 3) := by decide +kernel
theorem dX11_choose_202 : decode cX11_choose 202 = .ok (.iload 12, 2) := by decide +kernel
theorem dX11_choose_204 : decode cX11_choose 204 = .ok (.goto 5, 3) := by decide +kernel
theorem dX11_choose_207 : decode cX11_choose 207 = .ok (.iload 8, 2) := by decide +kernel
theorem dX11_choose_209 : decode cX11_choose 209 = .ok (.istore 8, 2) := by decide +kernel
theorem dX11_choose_211 : decode cX11_choose 211 = .ok (.iinc 4 1, 3) := by decide +kernel
theorem dX11_choose_214 : decode cX11_choose 214 = .ok (.iinc 11 1, 3) := by decide +kernel
theorem dX11_choose_217 : decode cX11_choose 217 = .ok (.goto (-165), 3) := by decide +kernel
theorem dX11_choose_220 : decode cX11_choose 220 = .ok (.iload 4, 2) := by decide +kernel
theorem dX11_choose_222 : decode cX11_choose 222 = .ok (.ifCond .ne 14, 3) := by decide +kernel
theorem dX11_choose_225 : decode cX11_choose 225 = .ok (.aload_n 0, 1) := by decide +kernel
theorem dX11_choose_226 : decode cX11_choose 226 = .ok (.iconst 0, 1) := by decide +kernel
theorem dX11_choose_227 : decode cX11_choose 227 = .ok (.invokevirtual 189, 3) := by decide +kernel
theorem dX11_choose_230 : decode cX11_choose 230 = .ok (.aload_n 0, 1) := by decide +kernel
theorem dX11_choose_231 : decode cX11_choose 231 = .ok (.getfield 117, 3) := by decide +kernel
theorem dX11_choose_234 : decode cX11_choose 234 = .ok (.istore 7, 2) := by decide +kernel
theorem dX11_choose_236 : decode cX11_choose 236 = .ok (.aload_n 0, 1) := by decide +kernel
theorem dX11_choose_237 : decode cX11_choose 237 = .ok (.iconst 1, 1) := by decide +kernel
theorem dX11_choose_238 : decode cX11_choose 238 = .ok (.putfield 68, 3) := by decide +kernel
theorem dX11_choose_241 : decode cX11_choose 241 = .ok (.aload_n 0, 1) := by decide +kernel
theorem dX11_choose_242 : decode cX11_choose 242 = .ok (.getfield 52, 3) := by decide +kernel
theorem dX11_choose_245 : decode cX11_choose 245 = .ok (.iconst 0, 1) := by decide +kernel
theorem dX11_choose_246 : decode cX11_choose 246 = .ok (.iload 4, 2) := by decide +kernel
theorem dX11_choose_248 : decode cX11_choose 248 = .ok (.iastore, 1) := by decide +kernel
theorem dX11_choose_249 : decode cX11_choose 249 = .ok (.aload_n 0, 1) := by decide +kernel
theorem dX11_choose_250 : decode cX11_choose 250 = .ok (.getfield 52, 3) := by decide +kernel
theorem dX11_choose_253 : decode cX11_choose 253 = .ok (.iconst 1, 1) := by decide +kernel
theorem dX11_choose_254 : decode cX11_choose 254 = .ok (.iload 5, 2) := by decide +kernel
theorem dX11_choose_256 : decode cX11_choose 256 = .ok (.iastore, 1) := by decide +kernel
theorem dX11_choose_257 : decode cX11_choose 257 = .ok (.aload_n 0, 1) := by decide +kernel
theorem dX11_choose_258 : decode cX11_choose 258 = .ok (.getfield 52, 3) := by decide +kernel
theorem dX11_choose_261 : decode cX11_choose 261 = .ok (.iconst 2, 1) := by decide +kernel
theorem dX11_choose_262 : decode cX11_choose 262 = .ok (.iload 6, 2) := by decide +kernel
theorem dX11_choose_264 : decode cX11_choose 264 = .ok (.iastore, 1) := by decide +kernel
theorem dX11_choose_265 : decode cX11_choose 265 = .ok (.aload_n 0, 1) := by decide +kernel
theorem dX11_choose_266 : decode cX11_choose 266 = .ok (.getfield 52, 3) := by decide +kernel
theorem dX11_choose_269 : decode cX11_choose 269 = .ok (.iconst 3, 1) := by decide +kernel
theorem dX11_choose_270 : decode cX11_choose 270 = .ok (.iload 7, 2) := by decide +kernel
theorem dX11_choose_272 : decode cX11_choose 272 = .ok (.iastore, 1) := by decide +kernel
theorem dX11_choose_273 : decode cX11_choose 273 = .ok (.aload_n 0, 1) := by decide +kernel
theorem dX11_choose_274 : decode cX11_choose 274 = .ok (.getfield 52, 3) := by decide +kernel
theorem dX11_choose_277 : decode cX11_choose 277 = .ok (.iconst 4, 1) := by decide +kernel
theorem dX11_choose_278 : decode cX11_choose 278 = .ok (.iload 9, 2) := by decide +kernel
theorem dX11_choose_280 : decode cX11_choose 280 = .ok (.iastore, 1) := by decide +kernel
theorem dX11_choose_281 : decode cX11_choose 281 = .ok (.aload_n 0, 1) := by decide +kernel
theorem dX11_choose_282 : decode cX11_choose 282 = .ok (.getfield 52, 3) := by decide +kernel
theorem dX11_choose_285 : decode cX11_choose 285 = .ok (.iconst 5, 1) := by decide +kernel
theorem dX11_choose_286 : decode cX11_choose 286 = .ok (.iload_n 3, 1) := by decide +kernel
theorem dX11_choose_287 : decode cX11_choose 287 = .ok (.ifCond .eq 7, 3) := by decide +kernel
theorem dX11_choose_290 : decode cX11_choose 290 = .ok (.iconst 1, 1) := by decide +kernel
theorem dX11_choose_291 : decode cX11_choose 291 = .ok (.goto 4, 3) := by decide +kernel
theorem dX11_choose_294 : decode cX11_choose 294 = .ok (.iconst 0, 1) := by decide +kernel
theorem dX11_choose_295 : decode cX11_choose 295 = .ok (.iastore, 1) := by decide +kernel
theorem dX11_choose_296 : decode cX11_choose 296 = .ok (.iload 6, 2) := by decide +kernel
theorem dX11_choose_298 : decode cX11_choose 298 = .ok (.ireturn, 1) := by decide +kernel
theorem dX11_told_0 : decode cX11_told 0 = .ok (.aload_n 0, 1) := by decide +kernel
theorem dX11_told_1 : decode cX11_told 1 = .ok (.iconst 0, 1) := by decide +kernel
theorem dX11_told_2 : decode cX11_told 2 = .ok (.putfield 65, 3) := by decide +kernel
theorem dX11_told_5 : decode cX11_told 5 = .ok (.iload_n 1, 1) := by decide +kernel
theorem dX11_told_6 : decode cX11_told 6 = .ok (.iconst 0, 1) := by decide +kernel
theorem dX11_told_7 : decode cX11_told 7 = .ok (.iconst 5, 1) := by decide +kernel
theorem dX11_told_8 : decode cX11_told 8 = .ok (.invokestatic 75, 3) := by decide +kernel
theorem dX11_told_11 : decode cX11_told 11 = .ok (.ifCond .ne 7, 3) := by decide +kernel
theorem dX11_told_14 : decode cX11_told 14 = .ok (.iconst (-1), 1) := by decide +kernel
theorem dX11_told_15 : decode cX11_told 15 = .ok (.goto 21, 3) := by decide +kernel
theorem dX11_told_18 : decode cX11_told 18 = .ok (.aload_n 0, 1) := by decide +kernel
theorem dX11_told_19 : decode cX11_told 19 = .ok (.getfield 68, 3) := by decide +kernel
theorem dX11_told_22 : decode cX11_told 22 = .ok (.ifCond .eq 12, 3) := by decide +kernel
theorem dX11_told_25 : decode cX11_told 25 = .ok (.aload_n 0, 1) := by decide +kernel
theorem dX11_told_26 : decode cX11_told 26 = .ok (.getfield 52, 3) := by decide +kernel
theorem dX11_told_29 : decode cX11_told 29 = .ok (.iload_n 1, 1) := by decide +kernel
theorem dX11_told_30 : decode cX11_told 30 = .ok (.iaload, 1) := by decide +kernel
theorem dX11_told_31 : decode cX11_told 31 = .ok (.goto 5, 3) := by decide +kernel
theorem dX11_told_34 : decode cX11_told 34 = .ok (.bipush (-3), 2) := by decide +kernel
theorem dX11_told_36 : decode cX11_told 36 = .ok (.ireturn, 1) := by decide +kernel
theorem dX11_feature_0 : decode cX11_feature 0 = .ok (.aload_n 0, 1) := by decide +kernel
theorem dX11_feature_1 : decode cX11_feature 1 = .ok (.iconst 0, 1) := by decide +kernel
theorem dX11_feature_2 : decode cX11_feature 2 = .ok (.putfield 65, 3) := by decide +kernel
theorem dX11_feature_5 : decode cX11_feature 5 = .ok (.iconst 0, 1) := by decide +kernel
theorem dX11_feature_6 : decode cX11_feature 6 = .ok (.istore_n 1, 1) := by decide +kernel
theorem dX11_feature_7 : decode cX11_feature 7 = .ok (.iload_n 1, 1) := by decide +kernel
theorem dX11_feature_8 : decode cX11_feature 8 = .ok (.aload_n 0, 1) := by decide +kernel
theorem dX11_feature_9 : decode cX11_feature 9 = .ok (.getfield 72, 3) := by decide +kernel
theorem dX11_feature_12 : decode cX11_feature 12 = .ok (.if_icmp .ge 21, 3) := by decide +kernel
theorem dX11_feature_15 : decode cX11_feature 15 = .ok (.aload_n 0, 1) := by decide +kernel
theorem dX11_feature_16 : decode cX11_feature 16 = .ok (.getfield 25, 3) := by decide +kernel
theorem dX11_feature_19 : decode cX11_feature 19 = .ok (.iload_n 1, 1) := by decide +kernel
theorem dX11_feature_20 : decode cX11_feature 20 = .ok (.aload_n 0, 1) := by decide +kernel
theorem dX11_feature_21 : decode cX11_feature 21 = .ok (.getfield 7, 3) := by decide +kernel
theorem dX11_feature_24 : decode cX11_feature 24 = .ok (.iload_n 1, 1) := by decide +kernel
theorem dX11_feature_25 : decode cX11_feature 25 = .ok (.iaload, 1) := by decide +kernel
theorem dX11_feature_26 : decode cX11_feature 26 = .ok (.iastore, 1) := by decide +kernel
theorem dX11_feature_27 : decode cX11_feature 27 = .ok (.iinc 1 1, 3) := by decide +kernel
theorem dX11_feature_30 : decode cX11_feature 30 = .ok (.goto (-23), 3) := by decide +kernel
theorem dX11_feature_33 : decode cX11_feature 33 = .ok (.aload_n 0, 1) := by decide +kernel
theorem dX11_feature_34 : decode cX11_feature 34 = .ok (.aload_n 0, 1) := by decide +kernel
theorem dX11_feature_35 : decode cX11_feature 35 = .ok (.getfield 72, 3) := by decide +kernel
theorem dX11_feature_38 : decode cX11_feature 38 = .ok (.invokevirtual 143, 3) := by decide +kernel
theorem dX11_feature_41 : decode cX11_feature 41 = .ok (.istore_n 1, 1) := by decide +kernel
theorem dX11_feature_42 : decode cX11_feature 42 = .ok (.iconst 0, 1) := by decide +kernel
theorem dX11_feature_43 : decode cX11_feature 43 = .ok (.istore_n 2, 1) := by decide +kernel
theorem dX11_feature_44 : decode cX11_feature 44 = .ok (.iconst 0, 1) := by decide +kernel
theorem dX11_feature_45 : decode cX11_feature 45 = .ok (.istore_n 3, 1) := by decide +kernel
theorem dX11_feature_46 : decode cX11_feature 46 = .ok (.iconst 1, 1) := by decide +kernel
theorem dX11_feature_47 : decode cX11_feature 47 = .ok (.istore 4, 2) := by decide +kernel
theorem dX11_feature_49 : decode cX11_feature 49 = .ok (.iload 4, 2) := by decide +kernel
theorem dX11_feature_51 : decode cX11_feature 51 = .ok (.aload_n 0, 1) := by decide +kernel
theorem dX11_feature_52 : decode cX11_feature 52 = .ok (.getfield 72, 3) := by decide +kernel
theorem dX11_feature_55 : decode cX11_feature 55 = .ok (.if_icmp .ge 100, 3) := by decide +kernel
theorem dX11_feature_58 : decode cX11_feature 58 = .ok (.aload_n 0, 1) := by decide +kernel
theorem dX11_feature_59 : decode cX11_feature 59 = .ok (.getfield 25, 3) := by decide +kernel
theorem dX11_feature_62 : decode cX11_feature 62 = .ok (.iload 4, 2) := by decide +kernel
theorem dX11_feature_64 : decode cX11_feature 64 = .ok (.iaload, 1) := by decide +kernel
theorem dX11_feature_65 : decode cX11_feature 65 = .ok (.aload_n 0, 1) := by decide +kernel
theorem dX11_feature_66 : decode cX11_feature 66 = .ok (.getfield 25, 3) := by decide +kernel
theorem dX11_feature_69 : decode cX11_feature 69 = .ok (.iload 4, 2) := by decide +kernel
theorem dX11_feature_71 : decode cX11_feature 71 = .ok (.iconst 1, 1) := by decide +kernel
theorem dX11_feature_72 : decode cX11_feature 72 = .ok (.isub, 1) := by decide +kernel
theorem dX11_feature_73 : decode cX11_feature 73 = .ok (.iaload, 1) := by decide +kernel
theorem dX11_feature_74 : decode cX11_feature 74 = .ok (.if_icmp .ge 23, 3) := by decide +kernel
theorem dX11_feature_77 : decode cX11_feature 77 = .ok (.aload_n 0, 1) := by decide +kernel
theorem dX11_feature_78 : decode cX11_feature 78 = .ok (.getfield 25, 3) := by decide +kernel
theorem dX11_feature_81 : decode cX11_feature 81 = .ok (.iload 4, 2) := by decide +kernel
theorem dX11_feature_83 : decode cX11_feature 83 = .ok (.iconst 1, 1) := by decide +kernel
theorem dX11_feature_84 : decode cX11_feature 84 = .ok (.isub, 1) := by decide +kernel
theorem dX11_feature_85 : decode cX11_feature 85 = .ok (.iaload, 1) := by decide +kernel
theorem dX11_feature_86 : decode cX11_feature 86 = .ok (.aload_n 0, 1) := by decide +kernel
theorem dX11_feature_87 : decode cX11_feature 87 = .ok (.getfield 25, 3) := by decide +kernel
theorem dX11_feature_90 : decode cX11_feature 90 = .ok (.iload 4, 2) := by decide +kernel
theorem dX11_feature_92 : decode cX11_feature 92 = .ok (.iaload, 1) := by decide +kernel
theorem dX11_feature_93 : decode cX11_feature 93 = .ok (.isub, 1) := by decide +kernel
theorem dX11_feature_94 : decode cX11_feature 94 = .ok (.goto 20, 3) := by decide +kernel
theorem dX11_feature_97 : decode cX11_feature 97 = .ok (.aload_n 0, 1) := by decide +kernel
theorem dX11_feature_98 : decode cX11_feature 98 = .ok (.getfield 25, 3) := by decide +kernel
theorem dX11_feature_101 : decode cX11_feature 101 = .ok (.iload 4, 2) := by decide +kernel
theorem dX11_feature_103 : decode cX11_feature 103 = .ok (.iaload, 1) := by decide +kernel
theorem dX11_feature_104 : decode cX11_feature 104 = .ok (.aload_n 0, 1) := by decide +kernel
theorem dX11_feature_105 : decode cX11_feature 105 = .ok (.getfield 25, 3) := by decide +kernel
theorem dX11_feature_108 : decode cX11_feature 108 = .ok (.iload 4, 2) := by decide +kernel
theorem dX11_feature_110 : decode cX11_feature 110 = .ok (.iconst 1, 1) := by decide +kernel
theorem dX11_feature_111 : decode cX11_feature 111 = .ok (.isub, 1) := by decide +kernel
theorem dX11_feature_112 : decode cX11_feature 112 = .ok (.iaload, 1) := by decide +kernel
theorem dX11_feature_113 : decode cX11_feature 113 = .ok (.isub, 1) := by decide +kernel
theorem dX11_feature_114 : decode cX11_feature 114 = .ok (.istore 5, 2) := by decide +kernel
theorem dX11_feature_116 : decode cX11_feature 116 = .ok (.iload_n 2, 1) := by decide +kernel
theorem dX11_feature_117 : decode cX11_feature 117 = .ok (.iload 5, 2) := by decide +kernel
theorem dX11_feature_119 : decode cX11_feature 119 = .ok (.ifCond .ne 7, 3) := by decide +kernel
theorem dX11_feature_122 : decode cX11_feature 122 = .ok (.iconst 1, 1) := by decide +kernel
theorem dX11_feature_123 : decode cX11_feature 123 = .ok (.goto 4, 3) := by decide +kernel
theorem dX11_feature_126 : decode cX11_feature 126 = .ok (.iconst 0, 1) := by decide +kernel
theorem dX11_feature_127 : decode cX11_feature 127 = .ok (.iadd, 1) := by decide +kernel
theorem dX11_feature_128 : decode cX11_feature 128 = .ok (.istore_n 2, 1) := by decide +kernel
theorem dX11_feature_129 : decode cX11_feature 129 = .ok (.iload_n 3, 1) := by decide +kernel
theorem dX11_feature_130 : decode cX11_feature 130 = .ok (.iload 5, 2) := by decide +kernel
theorem dX11_feature_132 : decode cX11_feature 132 = .ok (.iconst 1, 1) := by decide +kernel
theorem dX11_feature_133 : decode cX11_feature 133 = .ok (.if_icmp .eq 9, 3) := by decide +kernel
theorem dX11_feature_136 : decode cX11_feature 136 = .ok (.iload 5, 2) := by decide +kernel
theorem dX11_feature_138 : decode cX11_feature 138 = .ok (.iconst 2, 1) := by decide +kernel
theorem dX11_feature_139 : decode cX11_feature 139 = .ok (.if_icmp .ne 7, 3) := by decide +kernel
theorem dX11_feature_142 : decode cX11_feature 142 = .ok (.iconst 1, 1) := by decide +kernel
theorem dX11_feature_143 : decode cX11_feature 143 = .ok (.goto 4, 3) := by decide +kernel
theorem dX11_feature_146 : decode cX11_feature 146 = .ok (.iconst 0, 1) := by decide +kernel
theorem dX11_feature_147 : decode cX11_feature 147 = .ok (.iadd, 1) := by decide +kernel
theorem dX11_feature_148 : decode cX11_feature 148 = .ok (.istore_n 3, 1) := by decide +kernel
theorem dX11_feature_149 : decode cX11_feature 149 = .ok (.iinc 4 1, 3) := by decide +kernel
theorem dX11_feature_152 : decode cX11_feature 152 = .ok (.goto (-103), 3) := by decide +kernel
theorem dX11_feature_155 : decode cX11_feature 155 = .ok (.iload_n 1, 1) := by decide +kernel
theorem dX11_feature_156 : decode cX11_feature 156 = .ok (.iconst 3, 1) := by decide +kernel
theorem dX11_feature_157 : decode cX11_feature 157 = .ok (.if_icmp .ge 7, 3) := by decide +kernel
theorem dX11_feature_160 : decode cX11_feature 160 = .ok (.iconst 0, 1) := by decide +kernel
theorem dX11_feature_161 : decode cX11_feature 161 = .ok (.goto 24, 3) := by decide +kernel
theorem dX11_feature_164 : decode cX11_feature 164 = .ok (.iload_n 1, 1) := by decide +kernel
theorem dX11_feature_165 : decode cX11_feature 165 = .ok (.bipush 17, 2) := by decide +kernel
theorem dX11_feature_167 : decode cX11_feature 167 = .ok (.if_icmp .ge 7, 3) := by decide +kernel
theorem dX11_feature_170 : decode cX11_feature 170 = .ok (.iconst 1, 1) := by decide +kernel
theorem dX11_feature_171 : decode cX11_feature 171 = .ok (.goto 14, 3) := by decide +kernel
theorem dX11_feature_174 : decode cX11_feature 174 = .ok (.iload_n 1, 1) := by decide +kernel
theorem dX11_feature_175 : decode cX11_feature 175 = .ok (.bipush 65, 2) := by decide +kernel
theorem dX11_feature_177 : decode cX11_feature 177 = .ok (.if_icmp .ge 7, 3) := by decide +kernel
theorem dX11_feature_180 : decode cX11_feature 180 = .ok (.iconst 2, 1) := by decide +kernel
theorem dX11_feature_181 : decode cX11_feature 181 = .ok (.goto 4, 3) := by decide +kernel
theorem dX11_feature_184 : decode cX11_feature 184 = .ok (.iconst 3, 1) := by decide +kernel
theorem dX11_feature_185 : decode cX11_feature 185 = .ok (.istore 4, 2) := by decide +kernel
theorem dX11_feature_187 : decode cX11_feature 187 = .ok (.aload_n 0, 1) := by decide +kernel
theorem dX11_feature_188 : decode cX11_feature 188 = .ok (.getfield 72, 3) := by decide +kernel
theorem dX11_feature_191 : decode cX11_feature 191 = .ok (.ifCond .ne 7, 3) := by decide +kernel
theorem dX11_feature_194 : decode cX11_feature 194 = .ok (.iconst 0, 1) := by decide +kernel
theorem dX11_feature_195 : decode cX11_feature 195 = .ok (.goto 11, 3) := by decide +kernel
theorem dX11_feature_198 : decode cX11_feature 198 = .ok (.iconst 4, 1) := by decide +kernel
theorem dX11_feature_199 : decode cX11_feature 199 = .ok (.iload_n 2, 1) := by decide +kernel
theorem dX11_feature_200 : decode cX11_feature 200 = .ok (.imul, 1) := by decide +kernel
theorem dX11_feature_201 : decode cX11_feature 201 = .ok (.aload_n 0, 1) := by decide +kernel
theorem dX11_feature_202 : decode cX11_feature 202 = .ok (.getfield 72, 3) := by decide +kernel
theorem dX11_feature_205 : decode cX11_feature 205 = .ok (.idiv, 1) := by decide +kernel
theorem dX11_feature_206 : decode cX11_feature 206 = .ok (.istore 5, 2) := by decide +kernel
theorem dX11_feature_208 : decode cX11_feature 208 = .ok (.aload_n 0, 1) := by decide +kernel
theorem dX11_feature_209 : decode cX11_feature 209 = .ok (.getfield 72, 3) := by decide +kernel
theorem dX11_feature_212 : decode cX11_feature 212 = .ok (.ifCond .ne 7, 3) := by decide +kernel
theorem dX11_feature_215 : decode cX11_feature 215 = .ok (.iconst 0, 1) := by decide +kernel
theorem dX11_feature_216 : decode cX11_feature 216 = .ok (.goto 11, 3) := by decide +kernel
theorem dX11_feature_219 : decode cX11_feature 219 = .ok (.iconst 4, 1) := by decide +kernel
theorem dX11_feature_220 : decode cX11_feature 220 = .ok (.iload_n 3, 1) := by decide +kernel
theorem dX11_feature_221 : decode cX11_feature 221 = .ok (.imul, 1) := by decide +kernel
theorem dX11_feature_222 : decode cX11_feature 222 = .ok (.aload_n 0, 1) := by decide +kernel
theorem dX11_feature_223 : decode cX11_feature 223 = .ok (.getfield 72, 3) := by decide +kernel
theorem dX11_feature_226 : decode cX11_feature 226 = .ok (.idiv, 1) := by decide +kernel
theorem dX11_feature_227 : decode cX11_feature 227 = .ok (.istore 6, 2) := by decide +kernel
theorem dX11_feature_229 : decode cX11_feature 229 = .ok (.bipush 16, 2) := by decide +kernel
theorem dX11_feature_231 : decode cX11_feature 231 = .ok (.iload 4, 2) := by decide +kernel
theorem dX11_feature_233 : decode cX11_feature 233 = .ok (.imul, 1) := by decide +kernel
theorem dX11_feature_234 : decode cX11_feature 234 = .ok (.iconst 4, 1) := by decide +kernel
theorem dX11_feature_235 : decode cX11_feature 235 = .ok (.iload 5, 2) := by decide +kernel
theorem dX11_feature_237 : decode cX11_feature 237 = .ok (.iconst 3, 1) := by decide +kernel
theorem dX11_feature_238 : decode cX11_feature 238 = .ok (.if_icmp .le 7, 3) := by decide +kernel
theorem dX11_feature_241 : decode cX11_feature 241 = .ok (.iconst 3, 1) := by decide +kernel
theorem dX11_feature_242 : decode cX11_feature 242 = .ok (.goto 5, 3) := by decide +kernel
theorem dX11_feature_245 : decode cX11_feature 245 = .ok (.iload 5, 2) := by decide +kernel
theorem dX11_feature_247 : decode cX11_feature 247 = .ok (.imul, 1) := by decide +kernel
theorem dX11_feature_248 : decode cX11_feature 248 = .ok (.iadd, 1) := by decide +kernel
theorem dX11_feature_249 : decode cX11_feature 249 = .ok (.iload 6, 2) := by decide +kernel
theorem dX11_feature_251 : decode cX11_feature 251 = .ok (.iconst 3, 1) := by decide +kernel
theorem dX11_feature_252 : decode cX11_feature 252 = .ok (.if_icmp .le 7, 3) := by decide +kernel
theorem dX11_feature_255 : decode cX11_feature 255 = .ok (.iconst 3, 1) := by decide +kernel
theorem dX11_feature_256 : decode cX11_feature 256 = .ok (.goto 5, 3) := by decide +kernel
theorem dX11_feature_259 : decode cX11_feature 259 = .ok (.iload 6, 2) := by decide +kernel
theorem dX11_feature_261 : decode cX11_feature 261 = .ok (.iadd, 1) := by decide +kernel
theorem dX11_feature_262 : decode cX11_feature 262 = .ok (.ireturn, 1) := by decide +kernel
theorem dX11_learn_0 : decode cX11_learn 0 = .ok (.aload_n 0, 1) := by decide +kernel
theorem dX11_learn_1 : decode cX11_learn 1 = .ok (.invokevirtual 196, 3) := by decide +kernel
theorem dX11_learn_4 : decode cX11_learn 4 = .ok (.istore_n 1, 1) := by decide +kernel
theorem dX11_learn_5 : decode cX11_learn 5 = .ok (.aload_n 0, 1) := by decide +kernel
theorem dX11_learn_6 : decode cX11_learn 6 = .ok (.getfield 68, 3) := by decide +kernel
theorem dX11_learn_9 : decode cX11_learn 9 = .ok (.ifCond .ne 6, 3) := by decide +kernel
theorem dX11_learn_12 : decode cX11_learn 12 = .ok (.bipush (-3), 2) := by decide +kernel
theorem dX11_learn_14 : decode cX11_learn 14 = .ok (.ireturn, 1) := by decide +kernel
theorem dX11_learn_15 : decode cX11_learn 15 = .ok (.aload_n 0, 1) := by decide +kernel
theorem dX11_learn_16 : decode cX11_learn 16 = .ok (.getfield 55, 3) := by decide +kernel
theorem dX11_learn_19 : decode cX11_learn 19 = .ok (.iload_n 1, 1) := by decide +kernel
theorem dX11_learn_20 : decode cX11_learn 20 = .ok (.aload_n 0, 1) := by decide +kernel
theorem dX11_learn_21 : decode cX11_learn 21 = .ok (.getfield 52, 3) := by decide +kernel
theorem dX11_learn_24 : decode cX11_learn 24 = .ok (.iconst 2, 1) := by decide +kernel
theorem dX11_learn_25 : decode cX11_learn 25 = .ok (.iaload, 1) := by decide +kernel
theorem dX11_learn_26 : decode cX11_learn 26 = .ok (.iastore, 1) := by decide +kernel
theorem dX11_learn_27 : decode cX11_learn 27 = .ok (.iload_n 1, 1) := by decide +kernel
theorem dX11_learn_28 : decode cX11_learn 28 = .ok (.ireturn, 1) := by decide +kernel
theorem dX11_learned_0 : decode cX11_learned 0 = .ok (.aload_n 0, 1) := by decide +kernel
theorem dX11_learned_1 : decode cX11_learned 1 = .ok (.iconst 0, 1) := by decide +kernel
theorem dX11_learned_2 : decode cX11_learned 2 = .ok (.putfield 65, 3) := by decide +kernel
theorem dX11_learned_5 : decode cX11_learned 5 = .ok (.iload_n 1, 1) := by decide +kernel
theorem dX11_learned_6 : decode cX11_learned 6 = .ok (.iconst 0, 1) := by decide +kernel
theorem dX11_learned_7 : decode cX11_learned 7 = .ok (.bipush 63, 2) := by decide +kernel
theorem dX11_learned_9 : decode cX11_learned 9 = .ok (.invokestatic 75, 3) := by decide +kernel
theorem dX11_learned_12 : decode cX11_learned 12 = .ok (.ifCond .eq 12, 3) := by decide +kernel
theorem dX11_learned_15 : decode cX11_learned 15 = .ok (.aload_n 0, 1) := by decide +kernel
theorem dX11_learned_16 : decode cX11_learned 16 = .ok (.getfield 55, 3) := by decide +kernel
theorem dX11_learned_19 : decode cX11_learned 19 = .ok (.iload_n 1, 1) := by decide +kernel
theorem dX11_learned_20 : decode cX11_learned 20 = .ok (.iaload, 1) := by decide +kernel
theorem dX11_learned_21 : decode cX11_learned 21 = .ok (.goto 4, 3) := by decide +kernel
theorem dX11_learned_24 : decode cX11_learned 24 = .ok (.iconst (-1), 1) := by decide +kernel
theorem dX11_learned_25 : decode cX11_learned 25 = .ok (.ireturn, 1) := by decide +kernel
theorem dX11_share_0 : decode cX11_share 0 = .ok (.aload_n 0, 1) := by decide +kernel
theorem dX11_share_1 : decode cX11_share 1 = .ok (.iload_n 2, 1) := by decide +kernel
theorem dX11_share_2 : decode cX11_share 2 = .ok (.ifCond .ne 7, 3) := by decide +kernel
theorem dX11_share_5 : decode cX11_share 5 = .ok (.iconst 1, 1) := by decide +kernel
theorem dX11_share_6 : decode cX11_share 6 = .ok (.goto 4, 3) := by decide +kernel
theorem dX11_share_9 : decode cX11_share 9 = .ok (.iconst 0, 1) := by decide +kernel
theorem dX11_share_10 : decode cX11_share 10 = .ok (.putfield 65, 3) := by decide +kernel
theorem dX11_share_13 : decode cX11_share 13 = .ok (.iload_n 2, 1) := by decide +kernel
theorem dX11_share_14 : decode cX11_share 14 = .ok (.ifCond .ne 7, 3) := by decide +kernel
theorem dX11_share_17 : decode cX11_share 17 = .ok (.lconst 0, 1) := by decide +kernel
theorem dX11_share_18 : decode cX11_share 18 = .ok (.goto 12, 3) := by decide +kernel
theorem dX11_share_21 : decode cX11_share 21 = .ok (.ldc2_w 199, 3) := by decide +kernel
theorem dX11_share_24 : decode cX11_share 24 = .ok (.iload_n 1, 1) := by decide +kernel
theorem dX11_share_25 : decode cX11_share 25 = .ok (.i2l, 1) := by decide +kernel
theorem dX11_share_26 : decode cX11_share 26 = .ok (.lmul, 1) := by decide +kernel
theorem dX11_share_27 : decode cX11_share 27 = .ok (.iload_n 2, 1) := by decide +kernel
theorem dX11_share_28 : decode cX11_share 28 = .ok (.i2l, 1) := by decide +kernel
theorem dX11_share_29 : decode cX11_share 29 = .ok (.ldiv, 1) := by decide +kernel
theorem dX11_share_30 : decode cX11_share 30 = .ok (.lreturn, 1) := by decide +kernel
theorem dX11_pack_0 : decode cX11_pack 0 = .ok (.iload_n 1, 1) := by decide +kernel
theorem dX11_pack_1 : decode cX11_pack 1 = .ok (.iconst 0, 1) := by decide +kernel
theorem dX11_pack_2 : decode cX11_pack 2 = .ok (.aload_n 0, 1) := by decide +kernel
theorem dX11_pack_3 : decode cX11_pack 3 = .ok (.invokevirtual 93, 3) := by decide +kernel
theorem dX11_pack_6 : decode cX11_pack 6 = .ok (.iconst 1, 1) := by decide +kernel
theorem dX11_pack_7 : decode cX11_pack 7 = .ok (.isub, 1) := by decide +kernel
theorem dX11_pack_8 : decode cX11_pack 8 = .ok (.invokestatic 75, 3) := by decide +kernel
theorem dX11_pack_11 : decode cX11_pack 11 = .ok (.ifCond .ne 5, 3) := by decide +kernel
theorem dX11_pack_14 : decode cX11_pack 14 = .ok (.iconst (-1), 1) := by decide +kernel
theorem dX11_pack_15 : decode cX11_pack 15 = .ok (.ireturn, 1) := by decide +kernel
theorem dX11_pack_16 : decode cX11_pack 16 = .ok (.aload_n 0, 1) := by decide +kernel
theorem dX11_pack_17 : decode cX11_pack 17 = .ok (.iload_n 1, 1) := by decide +kernel
theorem dX11_pack_18 : decode cX11_pack 18 = .ok (.invokevirtual 189, 3) := by decide +kernel
theorem dX11_pack_21 : decode cX11_pack 21 = .ok (.aload_n 0, 1) := by decide +kernel
theorem dX11_pack_22 : decode cX11_pack 22 = .ok (.aload_n 0, 1) := by decide +kernel
theorem dX11_pack_23 : decode cX11_pack 23 = .ok (.getfield 117, 3) := by decide +kernel
theorem dX11_pack_26 : decode cX11_pack 26 = .ok (.putfield 80, 3) := by decide +kernel
theorem dX11_pack_29 : decode cX11_pack 29 = .ok (.iconst 0, 1) := by decide +kernel
theorem dX11_pack_30 : decode cX11_pack 30 = .ok (.istore_n 2, 1) := by decide +kernel
theorem dX11_pack_31 : decode cX11_pack 31 = .ok (.iload_n 2, 1) := by decide +kernel
theorem dX11_pack_32 : decode cX11_pack 32 = .ok (.aload_n 0, 1) := by decide +kernel
theorem dX11_pack_33 : decode cX11_pack 33 = .ok (.getfield 117, 3) := by decide +kernel
theorem dX11_pack_36 : decode cX11_pack 36 = .ok (.if_icmp .ge 21, 3) := by decide +kernel
theorem dX11_pack_39 : decode cX11_pack 39 = .ok (.aload_n 0, 1) := by decide +kernel
theorem dX11_pack_40 : decode cX11_pack 40 = .ok (.getfield 13, 3) := by decide +kernel
theorem dX11_pack_43 : decode cX11_pack 43 = .ok (.iload_n 2, 1) := by decide +kernel
theorem dX11_pack_44 : decode cX11_pack 44 = .ok (.aload_n 0, 1) := by decide +kernel
theorem dX11_pack_45 : decode cX11_pack 45 = .ok (.getfield 31, 3) := by decide +kernel
theorem dX11_pack_48 : decode cX11_pack 48 = .ok (.iload_n 2, 1) := by decide +kernel
theorem dX11_pack_49 : decode cX11_pack 49 = .ok (.iaload, 1) := by decide +kernel
theorem dX11_pack_50 : decode cX11_pack 50 = .ok (.iastore, 1) := by decide +kernel
theorem dX11_pack_51 : decode cX11_pack 51 = .ok (.iinc 2 1, 3) := by decide +kernel
theorem dX11_pack_54 : decode cX11_pack 54 = .ok (.goto (-23), 3) := by decide +kernel
theorem dX11_pack_57 : decode cX11_pack 57 = .ok (.aload_n 0, 1) := by decide +kernel
theorem dX11_pack_58 : decode cX11_pack 58 = .ok (.getfield 80, 3) := by decide +kernel
theorem dX11_pack_61 : decode cX11_pack 61 = .ok (.ireturn, 1) := by decide +kernel
theorem dX11_alter_0 : decode cX11_alter 0 = .ok (.aload_n 0, 1) := by decide +kernel
theorem dX11_alter_1 : decode cX11_alter 1 = .ok (.iconst 0, 1) := by decide +kernel
theorem dX11_alter_2 : decode cX11_alter 2 = .ok (.putfield 65, 3) := by decide +kernel
theorem dX11_alter_5 : decode cX11_alter 5 = .ok (.iload_n 1, 1) := by decide +kernel
theorem dX11_alter_6 : decode cX11_alter 6 = .ok (.iconst 0, 1) := by decide +kernel
theorem dX11_alter_7 : decode cX11_alter 7 = .ok (.aload_n 0, 1) := by decide +kernel
theorem dX11_alter_8 : decode cX11_alter 8 = .ok (.getfield 80, 3) := by decide +kernel
theorem dX11_alter_11 : decode cX11_alter 11 = .ok (.iconst 1, 1) := by decide +kernel
theorem dX11_alter_12 : decode cX11_alter 12 = .ok (.isub, 1) := by decide +kernel
theorem dX11_alter_13 : decode cX11_alter 13 = .ok (.invokestatic 75, 3) := by decide +kernel
theorem dX11_alter_16 : decode cX11_alter 16 = .ok (.ifCond .eq 14, 3) := by decide +kernel
theorem dX11_alter_19 : decode cX11_alter 19 = .ok (.iload_n 2, 1) := by decide +kernel
theorem dX11_alter_20 : decode cX11_alter 20 = .ok (.iconst 0, 1) := by decide +kernel
theorem dX11_alter_21 : decode cX11_alter 21 = .ok (.sipush 255, 3) := by decide +kernel
theorem dX11_alter_24 : decode cX11_alter 24 = .ok (.invokestatic 75, 3) := by decide +kernel
theorem dX11_alter_27 : decode cX11_alter 27 = .ok (.ifCond .ne 5, 3) := by decide +kernel
theorem dX11_alter_30 : decode cX11_alter 30 = .ok (.iconst (-1), 1) := by decide +kernel
theorem dX11_alter_31 : decode cX11_alter 31 = .ok (.ireturn, 1) := by decide +kernel
theorem dX11_alter_32 : decode cX11_alter 32 = .ok (.aload_n 0, 1) := by decide +kernel
theorem dX11_alter_33 : decode cX11_alter 33 = .ok (.getfield 13, 3) := by decide +kernel
theorem dX11_alter_36 : decode cX11_alter 36 = .ok (.iload_n 1, 1) := by decide +kernel
theorem dX11_alter_37 : decode cX11_alter 37 = .ok (.iaload, 1) := by decide +kernel
theorem dX11_alter_38 : decode cX11_alter 38 = .ok (.istore_n 3, 1) := by decide +kernel
theorem dX11_alter_39 : decode cX11_alter 39 = .ok (.aload_n 0, 1) := by decide +kernel
theorem dX11_alter_40 : decode cX11_alter 40 = .ok (.getfield 13, 3) := by decide +kernel
theorem dX11_alter_43 : decode cX11_alter 43 = .ok (.iload_n 1, 1) := by decide +kernel
theorem dX11_alter_44 : decode cX11_alter 44 = .ok (.iload_n 2, 1) := by decide +kernel
theorem dX11_alter_45 : decode cX11_alter 45 = .ok (.iastore, 1) := by decide +kernel
theorem dX11_alter_46 : decode cX11_alter 46 = .ok (.iload_n 3, 1) := by decide +kernel
theorem dX11_alter_47 : decode cX11_alter 47 = .ok (.ireturn, 1) := by decide +kernel
theorem dX11_cut_0 : decode cX11_cut 0 = .ok (.aload_n 0, 1) := by decide +kernel
theorem dX11_cut_1 : decode cX11_cut 1 = .ok (.iconst 0, 1) := by decide +kernel
theorem dX11_cut_2 : decode cX11_cut 2 = .ok (.putfield 65, 3) := by decide +kernel
theorem dX11_cut_5 : decode cX11_cut 5 = .ok (.iload_n 1, 1) := by decide +kernel
theorem dX11_cut_6 : decode cX11_cut 6 = .ok (.iconst 0, 1) := by decide +kernel
theorem dX11_cut_7 : decode cX11_cut 7 = .ok (.aload_n 0, 1) := by decide +kernel
theorem dX11_cut_8 : decode cX11_cut 8 = .ok (.getfield 80, 3) := by decide +kernel
theorem dX11_cut_11 : decode cX11_cut 11 = .ok (.invokestatic 75, 3) := by decide +kernel
theorem dX11_cut_14 : decode cX11_cut 14 = .ok (.ifCond .ne 5, 3) := by decide +kernel
theorem dX11_cut_17 : decode cX11_cut 17 = .ok (.iconst (-1), 1) := by decide +kernel
theorem dX11_cut_18 : decode cX11_cut 18 = .ok (.ireturn, 1) := by decide +kernel
theorem dX11_cut_19 : decode cX11_cut 19 = .ok (.aload_n 0, 1) := by decide +kernel
theorem dX11_cut_20 : decode cX11_cut 20 = .ok (.getfield 80, 3) := by decide +kernel
theorem dX11_cut_23 : decode cX11_cut 23 = .ok (.iload_n 1, 1) := by decide +kernel
theorem dX11_cut_24 : decode cX11_cut 24 = .ok (.isub, 1) := by decide +kernel
theorem dX11_cut_25 : decode cX11_cut 25 = .ok (.istore_n 2, 1) := by decide +kernel
theorem dX11_cut_26 : decode cX11_cut 26 = .ok (.aload_n 0, 1) := by decide +kernel
theorem dX11_cut_27 : decode cX11_cut 27 = .ok (.iload_n 1, 1) := by decide +kernel
theorem dX11_cut_28 : decode cX11_cut 28 = .ok (.putfield 80, 3) := by decide +kernel
theorem dX11_cut_31 : decode cX11_cut 31 = .ok (.iload_n 2, 1) := by decide +kernel
theorem dX11_cut_32 : decode cX11_cut 32 = .ok (.ireturn, 1) := by decide +kernel
theorem dX11_fail_0 : decode cX11_fail 0 = .ok (.aload_n 0, 1) := by decide +kernel
theorem dX11_fail_1 : decode cX11_fail 1 = .ok (.getfield 201, 3) := by decide +kernel
theorem dX11_fail_4 : decode cX11_fail 4 = .ok (.ifCond .ne 13, 3) := by decide +kernel
theorem dX11_fail_7 : decode cX11_fail 7 = .ok (.aload_n 0, 1) := by decide +kernel
theorem dX11_fail_8 : decode cX11_fail 8 = .ok (.iload_n 1, 1) := by decide +kernel
theorem dX11_fail_9 : decode cX11_fail 9 = .ok (.putfield 201, 3) := by decide +kernel
theorem dX11_fail_12 : decode cX11_fail 12 = .ok (.aload_n 0, 1) := by decide +kernel
theorem dX11_fail_13 : decode cX11_fail 13 = .ok (.iload_n 2, 1) := by decide +kernel
theorem dX11_fail_14 : decode cX11_fail 14 = .ok (.putfield 58, 3) := by decide +kernel
theorem dX11_fail_17 : decode cX11_fail 17 = .ok (.return_, 1) := by decide +kernel
theorem dX11_next_0 : decode cX11_next 0 = .ok (.aload_n 0, 1) := by decide +kernel
theorem dX11_next_1 : decode cX11_next 1 = .ok (.getfield 201, 3) := by decide +kernel
theorem dX11_next_4 : decode cX11_next 4 = .ok (.ifCond .ne 14, 3) := by decide +kernel
theorem dX11_next_7 : decode cX11_next 7 = .ok (.aload_n 0, 1) := by decide +kernel
theorem dX11_next_8 : decode cX11_next 8 = .ok (.getfield 204, 3) := by decide +kernel
theorem dX11_next_11 : decode cX11_next 11 = .ok (.aload_n 0, 1) := by decide +kernel
theorem dX11_next_12 : decode cX11_next 12 = .ok (.getfield 80, 3) := by decide +kernel
theorem dX11_next_15 : decode cX11_next 15 = .ok (.if_icmp .lt 14, 3) := by decide +kernel
theorem dX11_next_18 : decode cX11_next 18 = .ok (.aload_n 0, 1) := by decide +kernel
theorem dX11_next_19 : decode cX11_next 19 = .ok (.iconst 2, 1) := by decide +kernel
theorem dX11_next_20 : decode cX11_next 20 = .ok (.aload_n 0, 1) := by decide +kernel
theorem dX11_next_21 : decode cX11_next 21 = .ok (.getfield 80, 3) := by decide +kernel
theorem dX11_next_24 : decode cX11_next 24 = .ok (.invokevirtual 207, 3) := by decide +kernel
theorem dX11_next_27 : decode cX11_next 27 = .ok (.iconst 0, 1) := by decide +kernel
theorem dX11_next_28 : decode cX11_next 28 = .ok (.ireturn, 1) := by decide +kernel
theorem dX11_next_29 : decode cX11_next 29 = .ok (.aload_n 0, 1) := by decide +kernel
theorem dX11_next_30 : decode cX11_next 30 = .ok (.dup, 1) := by decide +kernel
theorem dX11_next_31 : decode cX11_next 31 = .ok (.getfield 204, 3) := by decide +kernel
theorem dX11_next_34 : decode cX11_next 34 = .ok (.iconst 1, 1) := by decide +kernel
theorem dX11_next_35 : decode cX11_next 35 = .ok (.iadd, 1) := by decide +kernel
theorem dX11_next_36 : decode cX11_next 36 = .ok (.putfield 204, 3) := by decide +kernel
theorem dX11_next_39 : decode cX11_next 39 = .ok (.aload_n 0, 1) := by decide +kernel
theorem dX11_next_40 : decode cX11_next 40 = .ok (.getfield 13, 3) := by decide +kernel
theorem dX11_next_43 : decode cX11_next 43 = .ok (.aload_n 0, 1) := by decide +kernel
theorem dX11_next_44 : decode cX11_next 44 = .ok (.getfield 204, 3) := by decide +kernel
theorem dX11_next_47 : decode cX11_next 47 = .ok (.iconst 1, 1) := by decide +kernel
theorem dX11_next_48 : decode cX11_next 48 = .ok (.isub, 1) := by decide +kernel
theorem dX11_next_49 : decode cX11_next 49 = .ok (.iaload, 1) := by decide +kernel
theorem dX11_next_50 : decode cX11_next 50 = .ok (.ireturn, 1) := by decide +kernel
theorem dX11_must_0 : decode cX11_must 0 = .ok (.iload_n 1, 1) := by decide +kernel
theorem dX11_must_1 : decode cX11_must 1 = .ok (.ifCond .ne 14, 3) := by decide +kernel
theorem dX11_must_4 : decode cX11_must 4 = .ok (.aload_n 0, 1) := by decide +kernel
theorem dX11_must_5 : decode cX11_must 5 = .ok (.iload_n 2, 1) := by decide +kernel
theorem dX11_must_6 : decode cX11_must 6 = .ok (.aload_n 0, 1) := by decide +kernel
theorem dX11_must_7 : decode cX11_must 7 = .ok (.getfield 204, 3) := by decide +kernel
theorem dX11_must_10 : decode cX11_must 10 = .ok (.iconst 1, 1) := by decide +kernel
theorem dX11_must_11 : decode cX11_must 11 = .ok (.isub, 1) := by decide +kernel
theorem dX11_must_12 : decode cX11_must 12 = .ok (.invokevirtual 207, 3) := by decide +kernel
theorem dX11_must_15 : decode cX11_must 15 = .ok (.return_, 1) := by decide +kernel
theorem dX11_bit_0 : decode cX11_bit 0 = .ok (.aload_n 0, 1) := by decide +kernel
theorem dX11_bit_1 : decode cX11_bit 1 = .ok (.getfield 210, 3) := by decide +kernel
theorem dX11_bit_4 : decode cX11_bit 4 = .ok (.bipush 8, 2) := by decide +kernel
theorem dX11_bit_6 : decode cX11_bit 6 = .ok (.if_icmp .ne 13, 3) := by decide +kernel
theorem dX11_bit_9 : decode cX11_bit 9 = .ok (.aload_n 0, 1) := by decide +kernel
theorem dX11_bit_10 : decode cX11_bit 10 = .ok (.invokevirtual 213, 3) := by decide +kernel
theorem dX11_bit_13 : decode cX11_bit 13 = .ok (.istore_n 1, 1) := by decide +kernel
theorem dX11_bit_14 : decode cX11_bit 14 = .ok (.aload_n 0, 1) := by decide +kernel
theorem dX11_bit_15 : decode cX11_bit 15 = .ok (.iconst 0, 1) := by decide +kernel
theorem dX11_bit_16 : decode cX11_bit 16 = .ok (.putfield 210, 3) := by decide +kernel
theorem dX11_bit_19 : decode cX11_bit 19 = .ok (.aload_n 0, 1) := by decide +kernel
theorem dX11_bit_20 : decode cX11_bit 20 = .ok (.dup, 1) := by decide +kernel
theorem dX11_bit_21 : decode cX11_bit 21 = .ok (.getfield 210, 3) := by decide +kernel
theorem dX11_bit_24 : decode cX11_bit 24 = .ok (.iconst 1, 1) := by decide +kernel
theorem dX11_bit_25 : decode cX11_bit 25 = .ok (.iadd, 1) := by decide +kernel
theorem dX11_bit_26 : decode cX11_bit 26 = .ok (.putfield 210, 3) := by decide +kernel
theorem dX11_bit_29 : decode cX11_bit 29 = .ok (.aload_n 0, 1) := by decide +kernel
theorem dX11_bit_30 : decode cX11_bit 30 = .ok (.getfield 201, 3) := by decide +kernel
theorem dX11_bit_33 : decode cX11_bit 33 = .ok (.ifCond .eq 7, 3) := by decide +kernel
theorem dX11_bit_36 : decode cX11_bit 36 = .ok (.iconst 0, 1) := by decide +kernel
theorem dX11_bit_37 : decode cX11_bit 37 = .ok (.goto 24, 3) := by decide +kernel
theorem dX11_bit_40 : decode cX11_bit 40 = .ok (.aload_n 0, 1) := by decide +kernel
theorem dX11_bit_41 : decode cX11_bit 41 = .ok (.getfield 13, 3) := by decide +kernel
theorem dX11_bit_44 : decode cX11_bit 44 = .ok (.aload_n 0, 1) := by decide +kernel
theorem dX11_bit_45 : decode cX11_bit 45 = .ok (.getfield 204, 3) := by decide +kernel
theorem dX11_bit_48 : decode cX11_bit 48 = .ok (.iconst 1, 1) := by decide +kernel
theorem dX11_bit_49 : decode cX11_bit 49 = .ok (.isub, 1) := by decide +kernel
theorem dX11_bit_50 : decode cX11_bit 50 = .ok (.iaload, 1) := by decide +kernel
theorem dX11_bit_51 : decode cX11_bit 51 = .ok (.bipush 8, 2) := by decide +kernel
theorem dX11_bit_53 : decode cX11_bit 53 = .ok (.aload_n 0, 1) := by decide +kernel
theorem dX11_bit_54 : decode cX11_bit 54 = .ok (.getfield 210, 3) := by decide +kernel
theorem dX11_bit_57 : decode cX11_bit 57 = .ok (.isub, 1) := by decide +kernel
theorem dX11_bit_58 : decode cX11_bit 58 = .ok (.ishr, 1) := by decide +kernel
theorem dX11_bit_59 : decode cX11_bit 59 = .ok (.iconst 1, 1) := by decide +kernel
theorem dX11_bit_60 : decode cX11_bit 60 = .ok (.iand, 1) := by decide +kernel
theorem dX11_bit_61 : decode cX11_bit 61 = .ok (.ireturn, 1) := by decide +kernel
theorem dX11_come_0 : decode cX11_come 0 = .ok (.aload_n 0, 1) := by decide +kernel
theorem dX11_come_1 : decode cX11_come 1 = .ok (.getfield 201, 3) := by decide +kernel
theorem dX11_come_4 : decode cX11_come 4 = .ok (.ifCond .ne 23, 3) := by decide +kernel
theorem dX11_come_7 : decode cX11_come 7 = .ok (.aload_n 0, 1) := by decide +kernel
theorem dX11_come_8 : decode cX11_come 8 = .ok (.getfield 25, 3) := by decide +kernel
theorem dX11_come_11 : decode cX11_come 11 = .ok (.aload_n 0, 1) := by decide +kernel
theorem dX11_come_12 : decode cX11_come 12 = .ok (.getfield 216, 3) := by decide +kernel
theorem dX11_come_15 : decode cX11_come 15 = .ok (.iload_n 1, 1) := by decide +kernel
theorem dX11_come_16 : decode cX11_come 16 = .ok (.iastore, 1) := by decide +kernel
theorem dX11_come_17 : decode cX11_come 17 = .ok (.aload_n 0, 1) := by decide +kernel
theorem dX11_come_18 : decode cX11_come 18 = .ok (.dup, 1) := by decide +kernel
theorem dX11_come_19 : decode cX11_come 19 = .ok (.getfield 216, 3) := by decide +kernel
theorem dX11_come_22 : decode cX11_come 22 = .ok (.iconst 1, 1) := by decide +kernel
theorem dX11_come_23 : decode cX11_come 23 = .ok (.iadd, 1) := by decide +kernel
theorem dX11_come_24 : decode cX11_come 24 = .ok (.putfield 216, 3) := by decide +kernel
theorem dX11_come_27 : decode cX11_come 27 = .ok (.return_, 1) := by decide +kernel
theorem dX11_endBits_0 : decode cX11_endBits 0 = .ok (.aload_n 0, 1) := by decide +kernel
theorem dX11_endBits_1 : decode cX11_endBits 1 = .ok (.getfield 201, 3) := by decide +kernel
theorem dX11_endBits_4 : decode cX11_endBits 4 = .ok (.ifCond .ne 32, 3) := by decide +kernel
theorem dX11_endBits_7 : decode cX11_endBits 7 = .ok (.aload_n 0, 1) := by decide +kernel
theorem dX11_endBits_8 : decode cX11_endBits 8 = .ok (.getfield 210, 3) := by decide +kernel
theorem dX11_endBits_11 : decode cX11_endBits 11 = .ok (.bipush 8, 2) := by decide +kernel
theorem dX11_endBits_13 : decode cX11_endBits 13 = .ok (.if_icmp .ge 23, 3) := by decide +kernel
theorem dX11_endBits_16 : decode cX11_endBits 16 = .ok (.aload_n 0, 1) := by decide +kernel
theorem dX11_endBits_17 : decode cX11_endBits 17 = .ok (.aload_n 0, 1) := by decide +kernel
theorem dX11_endBits_18 : decode cX11_endBits 18 = .ok (.invokevirtual 219, 3) := by decide +kernel
theorem dX11_endBits_21 : decode cX11_endBits 21 = .ok (.ifCond .ne 7, 3) := by decide +kernel
theorem dX11_endBits_24 : decode cX11_endBits 24 = .ok (.iconst 1, 1) := by decide +kernel
theorem dX11_endBits_25 : decode cX11_endBits 25 = .ok (.goto 4, 3) := by decide +kernel
theorem dX11_endBits_28 : decode cX11_endBits 28 = .ok (.iconst 0, 1) := by decide +kernel
theorem dX11_endBits_29 : decode cX11_endBits 29 = .ok (.iconst 4, 1) := by decide +kernel
theorem dX11_endBits_30 : decode cX11_endBits 30 = .ok (.invokevirtual 222, 3) := by decide +kernel
theorem dX11_endBits_33 : decode cX11_endBits 33 = .ok (.goto (-33), 3) := by decide +kernel
theorem dX11_endBits_36 : decode cX11_endBits 36 = .ok (.return_, 1) := by decide +kernel
theorem dX11_readItems_0 : decode cX11_readItems 0 = .ok (.aload_n 0, 1) := by decide +kernel
theorem dX11_readItems_1 : decode cX11_readItems 1 = .ok (.getfield 201, 3) := by decide +kernel
theorem dX11_readItems_4 : decode cX11_readItems 4 = .ok (.ifCond .ne 216, 3) := by decide +kernel
theorem dX11_readItems_7 : decode cX11_readItems 7 = .ok (.aload_n 0, 1) := by decide +kernel
theorem dX11_readItems_8 : decode cX11_readItems 8 = .ok (.getfield 216, 3) := by decide +kernel
theorem dX11_readItems_11 : decode cX11_readItems 11 = .ok (.aload_n 0, 1) := by decide +kernel
theorem dX11_readItems_12 : decode cX11_readItems 12 = .ok (.getfield 226, 3) := by decide +kernel
theorem dX11_readItems_15 : decode cX11_readItems 15 = .ok (.if_icmp .ge 205, 3) := by decide +kernel
theorem dX11_readItems_18 : decode cX11_readItems 18 = .ok (.aload_n 0, 1) := by decide +kernel
theorem dX11_readItems_19 : decode cX11_readItems 19 = .ok (.invokevirtual 213, 3) := by decide +kernel
theorem dX11_readItems_22 : decode cX11_readItems 22 = .ok (.istore_n 2, 1) := by decide +kernel
theorem dX11_readItems_23 : decode cX11_readItems 23 = .ok (.iload_n 2, 1) := by decide +kernel
theorem dX11_readItems_24 : decode cX11_readItems 24 = .ok (.sipush 128, 3) := by decide +kernel
theorem dX11_readItems_27 : decode cX11_readItems 27 = .ok (.if_icmp .ge 9, 3) := by decide +kernel
theorem dX11_readItems_30 : decode cX11_readItems 30 = .ok (.iload_n 2, 1) := by decide +kernel
theorem dX11_readItems_31 : decode cX11_readItems 31 = .ok (.iconst 1, 1) := by decide +kernel
theorem dX11_readItems_32 : decode cX11_readItems 32 = .ok (.iadd, 1) := by decide +kernel
theorem dX11_readItems_33 : decode cX11_readItems 33 = .ok (.goto 18, 3) := by decide +kernel
theorem dX11_readItems_36 : decode cX11_readItems 36 = .ok (.iload_n 1, 1) := by decide +kernel
theorem dX11_readItems_37 : decode cX11_readItems 37 = .ok (.ifCond .eq 10, 3) := by decide +kernel
theorem dX11_readItems_40 : decode cX11_readItems 40 = .ok (.iload_n 2, 1) := by decide +kernel
theorem dX11_readItems_41 : decode cX11_readItems 41 = .ok (.bipush 125, 2) := by decide +kernel
theorem dX11_readItems_43 : decode cX11_readItems 43 = .ok (.isub, 1) := by decide +kernel
theorem dX11_readItems_44 : decode cX11_readItems 44 = .ok (.goto 7, 3) := by decide +kernel
theorem dX11_readItems_47 : decode cX11_readItems 47 = .ok (.iload_n 2, 1) := by decide +kernel
theorem dX11_readItems_48 : decode cX11_readItems 48 = .ok (.bipush 126, 2) := by decide +kernel
theorem dX11_readItems_50 : decode cX11_readItems 50 = .ok (.isub, 1) := by decide +kernel
theorem dX11_readItems_51 : decode cX11_readItems 51 = .ok (.istore_n 3, 1) := by decide +kernel
theorem dX11_readItems_52 : decode cX11_readItems 52 = .ok (.aload_n 0, 1) := by decide +kernel
theorem dX11_readItems_53 : decode cX11_readItems 53 = .ok (.aload_n 0, 1) := by decide +kernel
theorem dX11_readItems_54 : decode cX11_readItems 54 = .ok (.getfield 201, 3) := by decide +kernel
theorem dX11_readItems_57 : decode cX11_readItems 57 = .ok (.ifCond .ne 16, 3) := by decide +kernel
theorem dX11_readItems_60 : decode cX11_readItems 60 = .ok (.aload_n 0, 1) := by decide +kernel
theorem dX11_readItems_61 : decode cX11_readItems 61 = .ok (.getfield 216, 3) := by decide +kernel
theorem dX11_readItems_64 : decode cX11_readItems 64 = .ok (.iload_n 3, 1) := by decide +kernel
theorem dX11_readItems_65 : decode cX11_readItems 65 = .ok (.iadd, 1) := by decide +kernel
theorem dX11_readItems_66 : decode cX11_readItems 66 = .ok (.aload_n 0, 1) := by decide +kernel
theorem dX11_readItems_67 : decode cX11_readItems 67 = .ok (.getfield 226, 3) := by decide +kernel
theorem dX11_readItems_70 : decode cX11_readItems 70 = .ok (.if_icmp .gt 7, 3) := by decide +kernel
theorem dX11_readItems_73 : decode cX11_readItems 73 = .ok (.iconst 1, 1) := by decide +kernel
theorem dX11_readItems_74 : decode cX11_readItems 74 = .ok (.goto 4, 3) := by decide +kernel
theorem dX11_readItems_77 : decode cX11_readItems 77 = .ok (.iconst 0, 1) := by decide +kernel
theorem dX11_readItems_78 : decode cX11_readItems 78 = .ok (.iconst 4, 1) := by decide +kernel
theorem dX11_readItems_79 : decode cX11_readItems 79 = .ok (.invokevirtual 222, 3) := by decide +kernel
theorem dX11_readItems_82 : decode cX11_readItems 82 = .ok (.iload_n 2, 1) := by decide +kernel
theorem dX11_readItems_83 : decode cX11_readItems 83 = .ok (.sipush 128, 3) := by decide +kernel
theorem dX11_readItems_86 : decode cX11_readItems 86 = .ok (.if_icmp .ge 36, 3) := by decide +kernel
theorem dX11_readItems_89 : decode cX11_readItems 89 = .ok (.iconst 0, 1) := by decide +kernel
theorem dX11_readItems_90 : decode cX11_readItems 90 = .ok (.istore 4, 2) := by decide +kernel
theorem dX11_readItems_92 : decode cX11_readItems 92 = .ok (.iload 4, 2) := by decide +kernel
theorem dX11_readItems_94 : decode cX11_readItems 94 = .ok (.iload_n 3, 1) := by decide +kernel
theorem dX11_readItems_95 : decode cX11_readItems 95 = .ok (.if_icmp .ge 24, 3) := by decide +kernel
theorem dX11_readItems_98 : decode cX11_readItems 98 = .ok (.aload_n 0, 1) := by decide +kernel
theorem dX11_readItems_99 : decode cX11_readItems 99 = .ok (.getfield 201, 3) := by decide +kernel
theorem dX11_readItems_102 : decode cX11_readItems 102 = .ok (.ifCond .ne 17, 3) := by decide +kernel
theorem dX11_readItems_105 : decode cX11_readItems 105 = .ok (.aload_n 0, 1) := by decide +kernel
theorem dX11_readItems_106 : decode cX11_readItems 106 = .ok (.aload_n 0, 1) := by decide +kernel
theorem dX11_readItems_107 : decode cX11_readItems 107 = .ok (.invokevirtual 213, 3) := by decide +kernel
theorem dX11_readItems_110 : decode cX11_readItems 110 = .ok (.invokevirtual 229, 3) := by decide +kernel
theorem dX11_readItems_113 : decode cX11_readItems 113 = .ok (.iinc 4 1, 3) := by decide +kernel
theorem dX11_readItems_116 : decode cX11_readItems 116 = .ok (.goto (-24), 3) := by decide +kernel
theorem dX11_readItems_119 : decode cX11_readItems 119 = .ok (.goto 98, 3) := by decide +kernel
theorem dX11_readItems_122 : decode cX11_readItems 122 = .ok (.aload_n 0, 1) := by decide +kernel
theorem dX11_readItems_123 : decode cX11_readItems 123 = .ok (.getfield 201, 3) := by decide +kernel
theorem dX11_readItems_126 : decode cX11_readItems 126 = .ok (.ifCond .ne 91, 3) := by decide +kernel
theorem dX11_readItems_129 : decode cX11_readItems 129 = .ok (.aload_n 0, 1) := by decide +kernel
theorem dX11_readItems_130 : decode cX11_readItems 130 = .ok (.invokevirtual 213, 3) := by decide +kernel
theorem dX11_readItems_133 : decode cX11_readItems 133 = .ok (.istore 4, 2) := by decide +kernel
theorem dX11_readItems_135 : decode cX11_readItems 135 = .ok (.iload_n 1, 1) := by decide +kernel
theorem dX11_readItems_136 : decode cX11_readItems 136 = .ok (.ifCond .eq 34, 3) := by decide +kernel
theorem dX11_readItems_139 : decode cX11_readItems 139 = .ok (.aload_n 0, 1) := by decide +kernel
theorem dX11_readItems_140 : decode cX11_readItems 140 = .ok (.aload_n 0, 1) := by decide +kernel
theorem dX11_readItems_141 : decode cX11_readItems 141 = .ok (.getfield 201, 3) := by decide +kernel
theorem dX11_readItems_144 : decode cX11_readItems 144 = .ok (.ifCond .ne 17, 3) := by decide +kernel
theorem dX11_readItems_147 : decode cX11_readItems 147 = .ok (.iload 4, 2) := by decide +kernel
theorem dX11_readItems_149 : decode cX11_readItems 149 = .ok (.ifCond .le 16, 3) := by decide +kernel
theorem dX11_readItems_152 : decode cX11_readItems 152 = .ok (.iload 4, 2) := by decide +kernel
theorem dX11_readItems_154 : decode cX11_readItems 154 = .ok (.aload_n 0, 1) := by decide +kernel
theorem dX11_readItems_155 : decode cX11_readItems 155 = .ok (.getfield 216, 3) := by decide +kernel
theorem dX11_readItems_158 : decode cX11_readItems 158 = .ok (.if_icmp .gt 7, 3) := by decide +kernel
theorem dX11_readItems_161 : decode cX11_readItems 161 = .ok (.iconst 1, 1) := by decide +kernel
theorem dX11_readItems_162 : decode cX11_readItems 162 = .ok (.goto 4, 3) := by decide +kernel
theorem dX11_readItems_165 : decode cX11_readItems 165 = .ok (.iconst 0, 1) := by decide +kernel
theorem dX11_readItems_166 : decode cX11_readItems 166 = .ok (.iconst 4, 1) := by decide +kernel
theorem dX11_readItems_167 : decode cX11_readItems 167 = .ok (.invokevirtual 222, 3) := by decide +kernel
theorem dX11_readItems_170 : decode cX11_readItems 170 = .ok (.iconst 0, 1) := by decide +kernel
theorem dX11_readItems_171 : decode cX11_readItems 171 = .ok (.istore 5, 2) := by decide +kernel
theorem dX11_readItems_173 : decode cX11_readItems 173 = .ok (.iload 5, 2) := by decide +kernel
theorem dX11_readItems_175 : decode cX11_readItems 175 = .ok (.iload_n 3, 1) := by decide +kernel
theorem dX11_readItems_176 : decode cX11_readItems 176 = .ok (.if_icmp .ge 41, 3) := by decide +kernel
theorem dX11_readItems_179 : decode cX11_readItems 179 = .ok (.aload_n 0, 1) := by decide +kernel
theorem dX11_readItems_180 : decode cX11_readItems 180 = .ok (.getfield 201, 3) := by decide +kernel
theorem dX11_readItems_183 : decode cX11_readItems 183 = .ok (.ifCond .ne 34, 3) := by decide +kernel
theorem dX11_readItems_186 : decode cX11_readItems 186 = .ok (.aload_n 0, 1) := by decide +kernel
theorem dX11_readItems_187 : decode cX11_readItems 187 = .ok (.iload_n 1, 1) := by decide +kernel
theorem dX11_readItems_188 : decode cX11_readItems 188 = .ok (.ifCond .eq 18, 3) := by decide +kernel
theorem dX11_readItems_191 : decode cX11_readItems 191 = .ok (.aload_n 0, 1) := by decide +kernel
theorem dX11_readItems_192 : decode cX11_readItems 192 = .ok (.getfield 25, 3) := by decide +kernel
theorem dX11_readItems_195 : decode cX11_readItems 195 = .ok (.aload_n 0, 1) := by decide +kernel
theorem dX11_readItems_196 : decode cX11_readItems 196 = .ok (.getfield 216, 3) := by decide +kernel
theorem dX11_readItems_199 : decode cX11_readItems 199 = .ok (.iload 4, 2) := by decide +kernel
theorem dX11_readItems_201 : decode cX11_readItems 201 = .ok (.isub, 1) := by decide +kernel
theorem dX11_readItems_202 : decode cX11_readItems 202 = .ok (.iaload, 1) := by decide +kernel
theorem dX11_readItems_203 : decode cX11_readItems 203 = .ok (.goto 5, 3) := by decide +kernel
theorem dX11_readItems_206 : decode cX11_readItems 206 = .ok (.iload 4, 2) := by decide +kernel
theorem dX11_readItems_208 : decode cX11_readItems 208 = .ok (.invokevirtual 229, 3) := by decide +kernel
theorem dX11_readItems_211 : decode cX11_readItems 211 = .ok (.iinc 5 1, 3) := by decide +kernel
theorem dX11_readItems_214 : decode cX11_readItems 214 = .ok (.goto (-41), 3) := by decide +kernel
theorem dX11_readItems_217 : decode cX11_readItems 217 = .ok (.goto (-217), 3) := by decide +kernel
theorem dX11_readItems_220 : decode cX11_readItems 220 = .ok (.return_, 1) := by decide +kernel
theorem dX11_readBits_0 : decode cX11_readBits 0 = .ok (.aload_n 0, 1) := by decide +kernel
theorem dX11_readBits_1 : decode cX11_readBits 1 = .ok (.invokevirtual 213, 3) := by decide +kernel
theorem dX11_readBits_4 : decode cX11_readBits 4 = .ok (.iconst 1, 1) := by decide +kernel
theorem dX11_readBits_5 : decode cX11_readBits 5 = .ok (.iadd, 1) := by decide +kernel
theorem dX11_readBits_6 : decode cX11_readBits 6 = .ok (.istore_n 1, 1) := by decide +kernel
theorem dX11_readBits_7 : decode cX11_readBits 7 = .ok (.iconst (-1), 1) := by decide +kernel
theorem dX11_readBits_8 : decode cX11_readBits 8 = .ok (.istore_n 2, 1) := by decide +kernel
theorem dX11_readBits_9 : decode cX11_readBits 9 = .ok (.iconst 0, 1) := by decide +kernel
theorem dX11_readBits_10 : decode cX11_readBits 10 = .ok (.istore_n 3, 1) := by decide +kernel
theorem dX11_readBits_11 : decode cX11_readBits 11 = .ok (.iload_n 3, 1) := by decide +kernel
theorem dX11_readBits_12 : decode cX11_readBits 12 = .ok (.iload_n 1, 1) := by decide +kernel
theorem dX11_readBits_13 : decode cX11_readBits 13 = .ok (.if_icmp .ge 60, 3) := by decide +kernel
theorem dX11_readBits_16 : decode cX11_readBits 16 = .ok (.aload_n 0, 1) := by decide +kernel
theorem dX11_readBits_17 : decode cX11_readBits 17 = .ok (.getfield 201, 3) := by decide +kernel
theorem dX11_readBits_20 : decode cX11_readBits 20 = .ok (.ifCond .ne 53, 3) := by decide +kernel
theorem dX11_readBits_23 : decode cX11_readBits 23 = .ok (.aload_n 0, 1) := by decide +kernel
theorem dX11_readBits_24 : decode cX11_readBits 24 = .ok (.getfield 49, 3) := by decide +kernel
theorem dX11_readBits_27 : decode cX11_readBits 27 = .ok (.iload_n 3, 1) := by decide +kernel
theorem dX11_readBits_28 : decode cX11_readBits 28 = .ok (.aload_n 0, 1) := by decide +kernel
theorem dX11_readBits_29 : decode cX11_readBits 29 = .ok (.invokevirtual 213, 3) := by decide +kernel
theorem dX11_readBits_32 : decode cX11_readBits 32 = .ok (.iastore, 1) := by decide +kernel
theorem dX11_readBits_33 : decode cX11_readBits 33 = .ok (.aload_n 0, 1) := by decide +kernel
theorem dX11_readBits_34 : decode cX11_readBits 34 = .ok (.aload_n 0, 1) := by decide +kernel
theorem dX11_readBits_35 : decode cX11_readBits 35 = .ok (.getfield 201, 3) := by decide +kernel
theorem dX11_readBits_38 : decode cX11_readBits 38 = .ok (.ifCond .ne 13, 3) := by decide +kernel
theorem dX11_readBits_41 : decode cX11_readBits 41 = .ok (.aload_n 0, 1) := by decide +kernel
theorem dX11_readBits_42 : decode cX11_readBits 42 = .ok (.getfield 49, 3) := by decide +kernel
theorem dX11_readBits_45 : decode cX11_readBits 45 = .ok (.iload_n 3, 1) := by decide +kernel
theorem dX11_readBits_46 : decode cX11_readBits 46 = .ok (.iaload, 1) := by decide +kernel
theorem dX11_readBits_47 : decode cX11_readBits 47 = .ok (.iload_n 2, 1) := by decide +kernel
theorem dX11_readBits_48 : decode cX11_readBits 48 = .ok (.if_icmp .le 7, 3) := by decide +kernel
theorem dX11_readBits_51 : decode cX11_readBits 51 = .ok (.iconst 1, 1) := by decide +kernel
theorem dX11_readBits_52 : decode cX11_readBits 52 = .ok (.goto 4, 3) := by decide +kernel
theorem dX11_readBits_55 : decode cX11_readBits 55 = .ok (.iconst 0, 1) := by decide +kernel
theorem dX11_readBits_56 : decode cX11_readBits 56 = .ok (.iconst 4, 1) := by decide +kernel
theorem dX11_readBits_57 : decode cX11_readBits 57 = .ok (.invokevirtual 222, 3) := by decide +kernel
theorem dX11_readBits_60 : decode cX11_readBits 60 = .ok (.aload_n 0, 1) := by decide +kernel
theorem dX11_readBits_61 : decode cX11_readBits 61 = .ok (.getfield 49, 3) := by decide +kernel
theorem dX11_readBits_64 : decode cX11_readBits 64 = .ok (.iload_n 3, 1) := by decide +kernel
theorem dX11_readBits_65 : decode cX11_readBits 65 = .ok (.iaload, 1) := by decide +kernel
theorem dX11_readBits_66 : decode cX11_readBits 66 = .ok (.istore_n 2, 1) := by decide +kernel
theorem dX11_readBits_67 : decode cX11_readBits 67 = .ok (.iinc 3 1, 3) := by decide +kernel
theorem dX11_readBits_70 : decode cX11_readBits 70 = .ok (.goto (-59), 3) := by decide +kernel
theorem dX11_readBits_73 : decode cX11_readBits 73 = .ok (.iload_n 1, 1) := by decide +kernel
theorem dX11_readBits_74 : decode cX11_readBits 74 = .ok (.invokestatic 146, 3) := by decide +kernel
theorem dX11_readBits_77 : decode cX11_readBits 77 = .ok (.istore_n 3, 1) := by decide +kernel
theorem dX11_readBits_78 : decode cX11_readBits 78 = .ok (.aload_n 0, 1) := by decide +kernel
theorem dX11_readBits_79 : decode cX11_readBits 79 = .ok (.bipush 8, 2) := by decide +kernel
theorem dX11_readBits_81 : decode cX11_readBits 81 = .ok (.putfield 210, 3) := by decide +kernel
theorem dX11_readBits_84 : decode cX11_readBits 84 = .ok (.aload_n 0, 1) := by decide +kernel
theorem dX11_readBits_85 : decode cX11_readBits 85 = .ok (.getfield 201, 3) := by decide +kernel
theorem dX11_readBits_88 : decode cX11_readBits 88 = .ok (.ifCond .ne 94, 3) := by decide +kernel
theorem dX11_readBits_91 : decode cX11_readBits 91 = .ok (.aload_n 0, 1) := by decide +kernel
theorem dX11_readBits_92 : decode cX11_readBits 92 = .ok (.getfield 216, 3) := by decide +kernel
theorem dX11_readBits_95 : decode cX11_readBits 95 = .ok (.aload_n 0, 1) := by decide +kernel
theorem dX11_readBits_96 : decode cX11_readBits 96 = .ok (.getfield 226, 3) := by decide +kernel
theorem dX11_readBits_99 : decode cX11_readBits 99 = .ok (.if_icmp .ge 83, 3) := by decide +kernel
theorem dX11_readBits_102 : decode cX11_readBits 102 = .ok (.iconst 0, 1) := by decide +kernel
theorem dX11_readBits_103 : decode cX11_readBits 103 = .ok (.istore 4, 2) := by decide +kernel
theorem dX11_readBits_105 : decode cX11_readBits 105 = .ok (.iconst 0, 1) := by decide +kernel
theorem dX11_readBits_106 : decode cX11_readBits 106 = .ok (.istore 5, 2) := by decide +kernel
theorem dX11_readBits_108 : decode cX11_readBits 108 = .ok (.iload 5, 2) := by decide +kernel
theorem dX11_readBits_110 : decode cX11_readBits 110 = .ok (.iload_n 3, 1) := by decide +kernel
theorem dX11_readBits_111 : decode cX11_readBits 111 = .ok (.if_icmp .ge 27, 3) := by decide +kernel
theorem dX11_readBits_114 : decode cX11_readBits 114 = .ok (.aload_n 0, 1) := by decide +kernel
theorem dX11_readBits_115 : decode cX11_readBits 115 = .ok (.getfield 201, 3) := by decide +kernel
theorem dX11_readBits_118 : decode cX11_readBits 118 = .ok (.ifCond .ne 20, 3) := by decide +kernel
theorem dX11_readBits_121 : decode cX11_readBits 121 = .ok (.iconst 2, 1) := by decide +kernel
theorem dX11_readBits_122 : decode cX11_readBits 122 = .ok (.iload 4, 2) := by decide +kernel
theorem dX11_readBits_124 : decode cX11_readBits 124 = .ok (.imul, 1) := by decide +kernel
theorem dX11_readBits_125 : decode cX11_readBits 125 = .ok (.aload_n 0, 1) := by decide +kernel
theorem dX11_readBits_126 : decode cX11_readBits 126 = .ok (.invokevirtual 219, 3) := by decide +kernel
theorem dX11_readBits_129 : decode cX11_readBits 129 = .ok (.iadd, 1) := by decide +kernel
theorem dX11_readBits_130 : decode cX11_readBits 130 = .ok (.istore 4, 2) := by decide +kernel
theorem dX11_readBits_132 : decode cX11_readBits 132 = .ok (.iinc 5 1, 3) := by decide +kernel
theorem dX11_readBits_135 : decode cX11_readBits 135 = .ok (.goto (-27), 3) := by decide +kernel
theorem dX11_readBits_138 : decode cX11_readBits 138 = .ok (.aload_n 0, 1) := by decide +kernel
theorem dX11_readBits_139 : decode cX11_readBits 139 = .ok (.aload_n 0, 1) := by decide +kernel
theorem dX11_readBits_140 : decode cX11_readBits 140 = .ok (.getfield 201, 3) := by decide +kernel
theorem dX11_readBits_143 : decode cX11_readBits 143 = .ok (.ifCond .ne 9, 3) := by decide +kernel
theorem dX11_readBits_146 : decode cX11_readBits 146 = .ok (.iload 4, 2) := by decide +kernel
theorem dX11_readBits_148 : decode cX11_readBits 148 = .ok (.iload_n 1, 1) := by decide +kernel
theorem dX11_readBits_149 : decode cX11_readBits 149 = .ok (.if_icmp .ge 7, 3) := by decide +kernel
theorem dX11_readBits_152 : decode cX11_readBits 152 = .ok (.iconst 1, 1) := by decide +kernel
theorem dX11_readBits_153 : decode cX11_readBits 153 = .ok (.goto 4, 3) := by decide +kernel
theorem dX11_readBits_156 : decode cX11_readBits 156 = .ok (.iconst 0, 1) := by decide +kernel
theorem dX11_readBits_157 : decode cX11_readBits 157 = .ok (.iconst 4, 1) := by decide +kernel
theorem dX11_readBits_158 : decode cX11_readBits 158 = .ok (.invokevirtual 222, 3) := by decide +kernel
theorem dX11_readBits_161 : decode cX11_readBits 161 = .ok (.aload_n 0, 1) := by decide +kernel
theorem dX11_readBits_162 : decode cX11_readBits 162 = .ok (.getfield 201, 3) := by decide +kernel
theorem dX11_readBits_165 : decode cX11_readBits 165 = .ok (.ifCond .ne 14, 3) := by decide +kernel
theorem dX11_readBits_168 : decode cX11_readBits 168 = .ok (.aload_n 0, 1) := by decide +kernel
theorem dX11_readBits_169 : decode cX11_readBits 169 = .ok (.aload_n 0, 1) := by decide +kernel
theorem dX11_readBits_170 : decode cX11_readBits 170 = .ok (.getfield 49, 3) := by decide +kernel
theorem dX11_readBits_173 : decode cX11_readBits 173 = .ok (.iload 4, 2) := by decide +kernel
theorem dX11_readBits_175 : decode cX11_readBits 175 = .ok (.iaload, 1) := by decide +kernel
theorem dX11_readBits_176 : decode cX11_readBits 176 = .ok (.invokevirtual 229, 3) := by decide +kernel
theorem dX11_readBits_179 : decode cX11_readBits 179 = .ok (.goto (-95), 3) := by decide +kernel
theorem dX11_readBits_182 : decode cX11_readBits 182 = .ok (.aload_n 0, 1) := by decide +kernel
theorem dX11_readBits_183 : decode cX11_readBits 183 = .ok (.invokevirtual 232, 3) := by decide +kernel
theorem dX11_readBits_186 : decode cX11_readBits 186 = .ok (.return_, 1) := by decide +kernel
theorem dX11_readPrefix_0 : decode cX11_readPrefix 0 = .ok (.aload_n 0, 1) := by decide +kernel
theorem dX11_readPrefix_1 : decode cX11_readPrefix 1 = .ok (.invokevirtual 213, 3) := by decide +kernel
theorem dX11_readPrefix_4 : decode cX11_readPrefix 4 = .ok (.iconst 1, 1) := by decide +kernel
theorem dX11_readPrefix_5 : decode cX11_readPrefix 5 = .ok (.iadd, 1) := by decide +kernel
theorem dX11_readPrefix_6 : decode cX11_readPrefix 6 = .ok (.istore_n 1, 1) := by decide +kernel
theorem dX11_readPrefix_7 : decode cX11_readPrefix 7 = .ok (.iconst (-1), 1) := by decide +kernel
theorem dX11_readPrefix_8 : decode cX11_readPrefix 8 = .ok (.istore_n 2, 1) := by decide +kernel
theorem dX11_readPrefix_9 : decode cX11_readPrefix 9 = .ok (.iconst 0, 1) := by decide +kernel
theorem dX11_readPrefix_10 : decode cX11_readPrefix 10 = .ok (.istore_n 3, 1) := by decide +kernel
theorem dX11_readPrefix_11 : decode cX11_readPrefix 11 = .ok (.iconst 0, 1) := by decide +kernel
theorem dX11_readPrefix_12 : decode cX11_readPrefix 12 = .ok (.istore 4, 2) := by decide +kernel
theorem dX11_readPrefix_14 : decode cX11_readPrefix 14 = .ok (.iload 4, 2) := by decide +kernel
theorem dX11_readPrefix_16 : decode cX11_readPrefix 16 = .ok (.sipush 256, 3) := by decide +kernel
theorem dX11_readPrefix_19 : decode cX11_readPrefix 19 = .ok (.if_icmp .ge 17, 3) := by decide +kernel
theorem dX11_readPrefix_22 : decode cX11_readPrefix 22 = .ok (.aload_n 0, 1) := by decide +kernel
theorem dX11_readPrefix_23 : decode cX11_readPrefix 23 = .ok (.getfield 37, 3) := by decide +kernel
theorem dX11_readPrefix_26 : decode cX11_readPrefix 26 = .ok (.iload 4, 2) := by decide +kernel
theorem dX11_readPrefix_28 : decode cX11_readPrefix 28 = .ok (.iconst 0, 1) := by decide +kernel
theorem dX11_readPrefix_29 : decode cX11_readPrefix 29 = .ok (.iastore, 1) := by decide +kernel
theorem dX11_readPrefix_30 : decode cX11_readPrefix 30 = .ok (.iinc 4 1, 3) := by decide +kernel
theorem dX11_readPrefix_33 : decode cX11_readPrefix 33 = .ok (.goto (-19), 3) := by decide +kernel
theorem dX11_readPrefix_36 : decode cX11_readPrefix 36 = .ok (.iconst 0, 1) := by decide +kernel
theorem dX11_readPrefix_37 : decode cX11_readPrefix 37 = .ok (.istore 4, 2) := by decide +kernel
theorem dX11_readPrefix_39 : decode cX11_readPrefix 39 = .ok (.iload 4, 2) := by decide +kernel
theorem dX11_readPrefix_41 : decode cX11_readPrefix 41 = .ok (.iload_n 1, 1) := by decide +kernel
theorem dX11_readPrefix_42 : decode cX11_readPrefix 42 = .ok (.if_icmp .ge 157, 3) := by decide +kernel
theorem dX11_readPrefix_45 : decode cX11_readPrefix 45 = .ok (.aload_n 0, 1) := by decide +kernel
theorem dX11_readPrefix_46 : decode cX11_readPrefix 46 = .ok (.getfield 201, 3) := by decide +kernel
theorem dX11_readPrefix_49 : decode cX11_readPrefix 49 = .ok (.ifCond .ne 150, 3) := by decide +kernel
theorem dX11_readPrefix_52 : decode cX11_readPrefix 52 = .ok (.aload_n 0, 1) := by decide +kernel
theorem dX11_readPrefix_53 : decode cX11_readPrefix 53 = .ok (.invokevirtual 213, 3) := by decide +kernel
theorem dX11_readPrefix_56 : decode cX11_readPrefix 56 = .ok (.istore 5, 2) := by decide +kernel
theorem dX11_readPrefix_58 : decode cX11_readPrefix 58 = .ok (.aload_n 0, 1) := by decide +kernel
theorem dX11_readPrefix_59 : decode cX11_readPrefix 59 = .ok (.aload_n 0, 1) := by decide +kernel
theorem dX11_readPrefix_60 : decode cX11_readPrefix 60 = .ok (.getfield 201, 3) := by decide +kernel
theorem dX11_readPrefix_63 : decode cX11_readPrefix 63 = .ok (.ifCond .ne 9, 3) := by decide +kernel
theorem dX11_readPrefix_66 : decode cX11_readPrefix 66 = .ok (.iload 5, 2) := by decide +kernel
theorem dX11_readPrefix_68 : decode cX11_readPrefix 68 = .ok (.iload_n 2, 1) := by decide +kernel
theorem dX11_readPrefix_69 : decode cX11_readPrefix 69 = .ok (.if_icmp .le 7, 3) := by decide +kernel
theorem dX11_readPrefix_72 : decode cX11_readPrefix 72 = .ok (.iconst 1, 1) := by decide +kernel
theorem dX11_readPrefix_73 : decode cX11_readPrefix 73 = .ok (.goto 4, 3) := by decide +kernel
theorem dX11_readPrefix_76 : decode cX11_readPrefix 76 = .ok (.iconst 0, 1) := by decide +kernel
theorem dX11_readPrefix_77 : decode cX11_readPrefix 77 = .ok (.iconst 4, 1) := by decide +kernel
theorem dX11_readPrefix_78 : decode cX11_readPrefix 78 = .ok (.invokevirtual 222, 3) := by decide +kernel
theorem dX11_readPrefix_81 : decode cX11_readPrefix 81 = .ok (.iload 5, 2) := by decide +kernel
theorem dX11_readPrefix_83 : decode cX11_readPrefix 83 = .ok (.istore_n 2, 1) := by decide +kernel
theorem dX11_readPrefix_84 : decode cX11_readPrefix 84 = .ok (.aload_n 0, 1) := by decide +kernel
theorem dX11_readPrefix_85 : decode cX11_readPrefix 85 = .ok (.getfield 201, 3) := by decide +kernel
theorem dX11_readPrefix_88 : decode cX11_readPrefix 88 = .ok (.ifCond .ne 10, 3) := by decide +kernel
theorem dX11_readPrefix_91 : decode cX11_readPrefix 91 = .ok (.aload_n 0, 1) := by decide +kernel
theorem dX11_readPrefix_92 : decode cX11_readPrefix 92 = .ok (.invokevirtual 213, 3) := by decide +kernel
theorem dX11_readPrefix_95 : decode cX11_readPrefix 95 = .ok (.goto 4, 3) := by decide +kernel
theorem dX11_readPrefix_98 : decode cX11_readPrefix 98 = .ok (.iconst 1, 1) := by decide +kernel
theorem dX11_readPrefix_99 : decode cX11_readPrefix 99 = .ok (.istore 6, 2) := by decide +kernel
theorem dX11_readPrefix_101 : decode cX11_readPrefix 101 = .ok (.aload_n 0, 1) := by decide +kernel
theorem dX11_readPrefix_102 : decode cX11_readPrefix 102 = .ok (.aload_n 0, 1) := by decide +kernel
theorem dX11_readPrefix_103 : decode cX11_readPrefix 103 = .ok (.getfield 201, 3) := by decide +kernel
theorem dX11_readPrefix_106 : decode cX11_readPrefix 106 = .ok (.ifCond .ne 14, 3) := by decide +kernel
theorem dX11_readPrefix_109 : decode cX11_readPrefix 109 = .ok (.iload 6, 2) := by decide +kernel
theorem dX11_readPrefix_111 : decode cX11_readPrefix 111 = .ok (.iconst 1, 1) := by decide +kernel
theorem dX11_readPrefix_112 : decode cX11_readPrefix 112 = .ok (.bipush 15, 2) := by decide +kernel
theorem dX11_readPrefix_114 : decode cX11_readPrefix 114 = .ok (.invokestatic 75, 3) := by decide +kernel
theorem dX11_readPrefix_117 : decode cX11_readPrefix 117 = .ok (.ifCond .eq 7, 3) := by decide +kernel
theorem dX11_readPrefix_120 : decode cX11_readPrefix 120 = .ok (.iconst 1, 1) := by decide +kernel
theorem dX11_readPrefix_121 : decode cX11_readPrefix 121 = .ok (.goto 4, 3) := by decide +kernel
theorem dX11_readPrefix_124 : decode cX11_readPrefix 124 = .ok (.iconst 0, 1) := by decide +kernel
theorem dX11_readPrefix_125 : decode cX11_readPrefix 125 = .ok (.iconst 4, 1) := by decide +kernel
theorem dX11_readPrefix_126 : decode cX11_readPrefix 126 = .ok (.invokevirtual 222, 3) := by decide +kernel
theorem dX11_readPrefix_129 : decode cX11_readPrefix 129 = .ok (.aload_n 0, 1) := by decide +kernel
theorem dX11_readPrefix_130 : decode cX11_readPrefix 130 = .ok (.getfield 201, 3) := by decide +kernel
theorem dX11_readPrefix_133 : decode cX11_readPrefix 133 = .ok (.ifCond .ne 60, 3) := by decide +kernel
theorem dX11_readPrefix_136 : decode cX11_readPrefix 136 = .ok (.aload_n 0, 1) := by decide +kernel
theorem dX11_readPrefix_137 : decode cX11_readPrefix 137 = .ok (.getfield 37, 3) := by decide +kernel
theorem dX11_readPrefix_140 : decode cX11_readPrefix 140 = .ok (.iload 5, 2) := by decide +kernel
theorem dX11_readPrefix_142 : decode cX11_readPrefix 142 = .ok (.iload 6, 2) := by decide +kernel
theorem dX11_readPrefix_144 : decode cX11_readPrefix 144 = .ok (.iastore, 1) := by decide +kernel
theorem dX11_readPrefix_145 : decode cX11_readPrefix 145 = .ok (.iload_n 3, 1) := by decide +kernel
theorem dX11_readPrefix_146 : decode cX11_readPrefix 146 = .ok (.iconst 1, 1) := by decide +kernel
theorem dX11_readPrefix_147 : decode cX11_readPrefix 147 = .ok (.bipush 15, 2) := by decide +kernel
theorem dX11_readPrefix_149 : decode cX11_readPrefix 149 = .ok (.iload 6, 2) := by decide +kernel
theorem dX11_readPrefix_151 : decode cX11_readPrefix 151 = .ok (.isub, 1) := by decide +kernel
theorem dX11_readPrefix_152 : decode cX11_readPrefix 152 = .ok (.ishl, 1) := by decide +kernel
theorem dX11_readPrefix_153 : decode cX11_readPrefix 153 = .ok (.iadd, 1) := by decide +kernel
theorem dX11_readPrefix_154 : decode cX11_readPrefix 154 = .ok (.istore_n 3, 1) := by decide +kernel
theorem dX11_readPrefix_155 : decode cX11_readPrefix 155 = .ok (.aload_n 0, 1) := by decide +kernel
theorem dX11_readPrefix_156 : decode cX11_readPrefix 156 = .ok (.iload 4, 2) := by decide +kernel
theorem dX11_readPrefix_158 : decode cX11_readPrefix 158 = .ok (.iload_n 1, 1) := by decide +kernel
theorem dX11_readPrefix_159 : decode cX11_readPrefix 159 = .ok (.iconst 1, 1) := by decide +kernel
theorem dX11_readPrefix_160 : decode cX11_readPrefix 160 = .ok (.isub, 1) := by decide +kernel
theorem dX11_readPrefix_161 : decode cX11_readPrefix 161 = .ok (.if_icmp .lt 23, 3) := by decide +kernel
theorem dX11_readPrefix_164 : decode cX11_readPrefix 164 = .ok (.iload_n 1, 1) := by decide +kernel
theorem dX11_readPrefix_165 : decode cX11_readPrefix 165 = .ok (.iconst 1, 1) := by decide +kernel
theorem dX11_readPrefix_166 : decode cX11_readPrefix 166 = .ok (.if_icmp .ne 12, 3) := by decide +kernel
theorem dX11_readPrefix_169 : decode cX11_readPrefix 169 = .ok (.iload 6, 2) := by decide +kernel
theorem dX11_readPrefix_171 : decode cX11_readPrefix 171 = .ok (.iconst 1, 1) := by decide +kernel
theorem dX11_readPrefix_172 : decode cX11_readPrefix 172 = .ok (.if_icmp .ne 16, 3) := by decide +kernel
theorem dX11_readPrefix_175 : decode cX11_readPrefix 175 = .ok (.goto 9, 3) := by decide +kernel
theorem dX11_readPrefix_178 : decode cX11_readPrefix 178 = .ok (.iload_n 3, 1) := by decide +kernel
theorem dX11_readPrefix_179 : decode cX11_readPrefix 179 = .ok (.ldc 235, 2) := by decide +kernel
theorem dX11_readPrefix_181 : decode cX11_readPrefix 181 = .ok (.if_icmp .ne 7, 3) := by decide +kernel
theorem dX11_readPrefix_184 : decode cX11_readPrefix 184 = .ok (.iconst 1, 1) := by decide +kernel
theorem dX11_readPrefix_185 : decode cX11_readPrefix 185 = .ok (.goto 4, 3) := by decide +kernel
theorem dX11_readPrefix_188 : decode cX11_readPrefix 188 = .ok (.iconst 0, 1) := by decide +kernel
theorem dX11_readPrefix_189 : decode cX11_readPrefix 189 = .ok (.iconst 4, 1) := by decide +kernel
theorem dX11_readPrefix_190 : decode cX11_readPrefix 190 = .ok (.invokevirtual 222, 3) := by decide +kernel
theorem dX11_readPrefix_193 : decode cX11_readPrefix 193 = .ok (.iinc 4 1, 3) := by decide +kernel
theorem dX11_readPrefix_196 : decode cX11_readPrefix 196 = .ok (.goto (-157), 3) := by decide +kernel
theorem dX11_readPrefix_199 : decode cX11_readPrefix 199 = .ok (.aload_n 0, 1) := by decide +kernel
theorem dX11_readPrefix_200 : decode cX11_readPrefix 200 = .ok (.getfield 201, 3) := by decide +kernel
theorem dX11_readPrefix_203 : decode cX11_readPrefix 203 = .ok (.ifCond .eq 4, 3) := by decide +kernel
theorem dX11_readPrefix_206 : decode cX11_readPrefix 206 = .ok (.return_, 1) := by decide +kernel
theorem dX11_readPrefix_207 : decode cX11_readPrefix 207 = .ok (.aload_n 0, 1) := by decide +kernel
theorem dX11_readPrefix_208 : decode cX11_readPrefix 208 = .ok (.invokevirtual 158, 3) := by decide +kernel
theorem dX11_readPrefix_211 : decode cX11_readPrefix 211 = .ok (.aload_n 0, 1) := by decide +kernel
theorem dX11_readPrefix_212 : decode cX11_readPrefix 212 = .ok (.bipush 8, 2) := by decide +kernel
theorem dX11_readPrefix_214 : decode cX11_readPrefix 214 = .ok (.putfield 210, 3) := by decide +kernel
theorem dX11_readPrefix_217 : decode cX11_readPrefix 217 = .ok (.aload_n 0, 1) := by decide +kernel
theorem dX11_readPrefix_218 : decode cX11_readPrefix 218 = .ok (.getfield 201, 3) := by decide +kernel
theorem dX11_readPrefix_221 : decode cX11_readPrefix 221 = .ok (.ifCond .ne 23, 3) := by decide +kernel
theorem dX11_readPrefix_224 : decode cX11_readPrefix 224 = .ok (.aload_n 0, 1) := by decide +kernel
theorem dX11_readPrefix_225 : decode cX11_readPrefix 225 = .ok (.getfield 216, 3) := by decide +kernel
theorem dX11_readPrefix_228 : decode cX11_readPrefix 228 = .ok (.aload_n 0, 1) := by decide +kernel
theorem dX11_readPrefix_229 : decode cX11_readPrefix 229 = .ok (.getfield 226, 3) := by decide +kernel
theorem dX11_readPrefix_232 : decode cX11_readPrefix 232 = .ok (.if_icmp .ge 12, 3) := by decide +kernel
theorem dX11_readPrefix_235 : decode cX11_readPrefix 235 = .ok (.aload_n 0, 1) := by decide +kernel
theorem dX11_readPrefix_236 : decode cX11_readPrefix 236 = .ok (.iload_n 1, 1) := by decide +kernel
theorem dX11_readPrefix_237 : decode cX11_readPrefix 237 = .ok (.iload_n 2, 1) := by decide +kernel
theorem dX11_readPrefix_238 : decode cX11_readPrefix 238 = .ok (.invokevirtual 236, 3) := by decide +kernel
theorem dX11_readPrefix_241 : decode cX11_readPrefix 241 = .ok (.goto (-24), 3) := by decide +kernel
theorem dX11_readPrefix_244 : decode cX11_readPrefix 244 = .ok (.aload_n 0, 1) := by decide +kernel
theorem dX11_readPrefix_245 : decode cX11_readPrefix 245 = .ok (.invokevirtual 232, 3) := by decide +kernel
theorem dX11_readPrefix_248 : decode cX11_readPrefix 248 = .ok (.return_, 1) := by decide +kernel
theorem dX11_readCode_0 : decode cX11_readCode 0 = .ok (.iconst 0, 1) := by decide +kernel
theorem dX11_readCode_1 : decode cX11_readCode 1 = .ok (.istore_n 3, 1) := by decide +kernel
theorem dX11_readCode_2 : decode cX11_readCode 2 = .ok (.iconst 1, 1) := by decide +kernel
theorem dX11_readCode_3 : decode cX11_readCode 3 = .ok (.istore 4, 2) := by decide +kernel
theorem dX11_readCode_5 : decode cX11_readCode 5 = .ok (.iload 4, 2) := by decide +kernel
theorem dX11_readCode_7 : decode cX11_readCode 7 = .ok (.bipush 16, 2) := by decide +kernel
theorem dX11_readCode_9 : decode cX11_readCode 9 = .ok (.if_icmp .ge 111, 3) := by decide +kernel
theorem dX11_readCode_12 : decode cX11_readCode 12 = .ok (.aload_n 0, 1) := by decide +kernel
theorem dX11_readCode_13 : decode cX11_readCode 13 = .ok (.getfield 201, 3) := by decide +kernel
theorem dX11_readCode_16 : decode cX11_readCode 16 = .ok (.ifCond .ne 104, 3) := by decide +kernel
theorem dX11_readCode_19 : decode cX11_readCode 19 = .ok (.iconst 2, 1) := by decide +kernel
theorem dX11_readCode_20 : decode cX11_readCode 20 = .ok (.iload_n 3, 1) := by decide +kernel
theorem dX11_readCode_21 : decode cX11_readCode 21 = .ok (.imul, 1) := by decide +kernel
theorem dX11_readCode_22 : decode cX11_readCode 22 = .ok (.aload_n 0, 1) := by decide +kernel
theorem dX11_readCode_23 : decode cX11_readCode 23 = .ok (.invokevirtual 219, 3) := by decide +kernel
theorem dX11_readCode_26 : decode cX11_readCode 26 = .ok (.iadd, 1) := by decide +kernel
theorem dX11_readCode_27 : decode cX11_readCode 27 = .ok (.istore_n 3, 1) := by decide +kernel
theorem dX11_readCode_28 : decode cX11_readCode 28 = .ok (.iload_n 1, 1) := by decide +kernel
theorem dX11_readCode_29 : decode cX11_readCode 29 = .ok (.iconst 1, 1) := by decide +kernel
theorem dX11_readCode_30 : decode cX11_readCode 30 = .ok (.if_icmp .ne 30, 3) := by decide +kernel
theorem dX11_readCode_33 : decode cX11_readCode 33 = .ok (.aload_n 0, 1) := by decide +kernel
theorem dX11_readCode_34 : decode cX11_readCode 34 = .ok (.aload_n 0, 1) := by decide +kernel
theorem dX11_readCode_35 : decode cX11_readCode 35 = .ok (.getfield 201, 3) := by decide +kernel
theorem dX11_readCode_38 : decode cX11_readCode 38 = .ok (.ifCond .ne 7, 3) := by decide +kernel
theorem dX11_readCode_41 : decode cX11_readCode 41 = .ok (.iload_n 3, 1) := by decide +kernel
theorem dX11_readCode_42 : decode cX11_readCode 42 = .ok (.ifCond .ne 7, 3) := by decide +kernel
theorem dX11_readCode_45 : decode cX11_readCode 45 = .ok (.iconst 1, 1) := by decide +kernel
theorem dX11_readCode_46 : decode cX11_readCode 46 = .ok (.goto 4, 3) := by decide +kernel
theorem dX11_readCode_49 : decode cX11_readCode 49 = .ok (.iconst 0, 1) := by decide +kernel
theorem dX11_readCode_50 : decode cX11_readCode 50 = .ok (.iconst 4, 1) := by decide +kernel
theorem dX11_readCode_51 : decode cX11_readCode 51 = .ok (.invokevirtual 222, 3) := by decide +kernel
theorem dX11_readCode_54 : decode cX11_readCode 54 = .ok (.aload_n 0, 1) := by decide +kernel
theorem dX11_readCode_55 : decode cX11_readCode 55 = .ok (.iload_n 2, 1) := by decide +kernel
theorem dX11_readCode_56 : decode cX11_readCode 56 = .ok (.invokevirtual 229, 3) := by decide +kernel
theorem dX11_readCode_59 : decode cX11_readCode 59 = .ok (.return_, 1) := by decide +kernel
theorem dX11_readCode_60 : decode cX11_readCode 60 = .ok (.iconst 0, 1) := by decide +kernel
theorem dX11_readCode_61 : decode cX11_readCode 61 = .ok (.istore 5, 2) := by decide +kernel
theorem dX11_readCode_63 : decode cX11_readCode 63 = .ok (.iload 5, 2) := by decide +kernel
theorem dX11_readCode_65 : decode cX11_readCode 65 = .ok (.sipush 256, 3) := by decide +kernel
theorem dX11_readCode_68 : decode cX11_readCode 68 = .ok (.if_icmp .ge 46, 3) := by decide +kernel
theorem dX11_readCode_71 : decode cX11_readCode 71 = .ok (.aload_n 0, 1) := by decide +kernel
theorem dX11_readCode_72 : decode cX11_readCode 72 = .ok (.getfield 201, 3) := by decide +kernel
theorem dX11_readCode_75 : decode cX11_readCode 75 = .ok (.ifCond .ne 39, 3) := by decide +kernel
theorem dX11_readCode_78 : decode cX11_readCode 78 = .ok (.aload_n 0, 1) := by decide +kernel
theorem dX11_readCode_79 : decode cX11_readCode 79 = .ok (.getfield 37, 3) := by decide +kernel
theorem dX11_readCode_82 : decode cX11_readCode 82 = .ok (.iload 5, 2) := by decide +kernel
theorem dX11_readCode_84 : decode cX11_readCode 84 = .ok (.iaload, 1) := by decide +kernel
theorem dX11_readCode_85 : decode cX11_readCode 85 = .ok (.iload 4, 2) := by decide +kernel
theorem dX11_readCode_87 : decode cX11_readCode 87 = .ok (.if_icmp .ne 21, 3) := by decide +kernel
theorem dX11_readCode_90 : decode cX11_readCode 90 = .ok (.aload_n 0, 1) := by decide +kernel
theorem dX11_readCode_91 : decode cX11_readCode 91 = .ok (.getfield 40, 3) := by decide +kernel
theorem dX11_readCode_94 : decode cX11_readCode 94 = .ok (.iload 5, 2) := by decide +kernel
theorem dX11_readCode_96 : decode cX11_readCode 96 = .ok (.iaload, 1) := by decide +kernel
theorem dX11_readCode_97 : decode cX11_readCode 97 = .ok (.iload_n 3, 1) := by decide +kernel
theorem dX11_readCode_98 : decode cX11_readCode 98 = .ok (.if_icmp .ne 10, 3) := by decide +kernel
theorem dX11_readCode_101 : decode cX11_readCode 101 = .ok (.aload_n 0, 1) := by decide +kernel
theorem dX11_readCode_102 : decode cX11_readCode 102 = .ok (.iload 5, 2) := by decide +kernel
theorem dX11_readCode_104 : decode cX11_readCode 104 = .ok (.invokevirtual 229, 3) := by decide +kernel
theorem dX11_readCode_107 : decode cX11_readCode 107 = .ok (.return_, 1) := by decide +kernel
theorem dX11_readCode_108 : decode cX11_readCode 108 = .ok (.iinc 5 1, 3) := by decide +kernel
theorem dX11_readCode_111 : decode cX11_readCode 111 = .ok (.goto (-48), 3) := by decide +kernel
theorem dX11_readCode_114 : decode cX11_readCode 114 = .ok (.iinc 4 1, 3) := by decide +kernel
theorem dX11_readCode_117 : decode cX11_readCode 117 = .ok (.goto (-112), 3) := by decide +kernel
theorem dX11_readCode_120 : decode cX11_readCode 120 = .ok (.return_, 1) := by decide +kernel
theorem dX11_unpack_0 : decode cX11_unpack 0 = .ok (.aload_n 0, 1) := by decide +kernel
theorem dX11_unpack_1 : decode cX11_unpack 1 = .ok (.iconst 0, 1) := by decide +kernel
theorem dX11_unpack_2 : decode cX11_unpack 2 = .ok (.putfield 65, 3) := by decide +kernel
theorem dX11_unpack_5 : decode cX11_unpack 5 = .ok (.aload_n 0, 1) := by decide +kernel
theorem dX11_unpack_6 : decode cX11_unpack 6 = .ok (.iconst 0, 1) := by decide +kernel
theorem dX11_unpack_7 : decode cX11_unpack 7 = .ok (.putfield 201, 3) := by decide +kernel
theorem dX11_unpack_10 : decode cX11_unpack 10 = .ok (.aload_n 0, 1) := by decide +kernel
theorem dX11_unpack_11 : decode cX11_unpack 11 = .ok (.bipush (-3), 2) := by decide +kernel
theorem dX11_unpack_13 : decode cX11_unpack 13 = .ok (.putfield 58, 3) := by decide +kernel
theorem dX11_unpack_16 : decode cX11_unpack 16 = .ok (.aload_n 0, 1) := by decide +kernel
theorem dX11_unpack_17 : decode cX11_unpack 17 = .ok (.iconst 0, 1) := by decide +kernel
theorem dX11_unpack_18 : decode cX11_unpack 18 = .ok (.putfield 204, 3) := by decide +kernel
theorem dX11_unpack_21 : decode cX11_unpack 21 = .ok (.aload_n 0, 1) := by decide +kernel
theorem dX11_unpack_22 : decode cX11_unpack 22 = .ok (.iconst 0, 1) := by decide +kernel
theorem dX11_unpack_23 : decode cX11_unpack 23 = .ok (.putfield 216, 3) := by decide +kernel
theorem dX11_unpack_26 : decode cX11_unpack 26 = .ok (.aload_n 0, 1) := by decide +kernel
theorem dX11_unpack_27 : decode cX11_unpack 27 = .ok (.invokevirtual 213, 3) := by decide +kernel
theorem dX11_unpack_30 : decode cX11_unpack 30 = .ok (.istore_n 1, 1) := by decide +kernel
theorem dX11_unpack_31 : decode cX11_unpack 31 = .ok (.aload_n 0, 1) := by decide +kernel
theorem dX11_unpack_32 : decode cX11_unpack 32 = .ok (.aload_n 0, 1) := by decide +kernel
theorem dX11_unpack_33 : decode cX11_unpack 33 = .ok (.getfield 201, 3) := by decide +kernel
theorem dX11_unpack_36 : decode cX11_unpack 36 = .ok (.ifCond .ne 8, 3) := by decide +kernel
theorem dX11_unpack_39 : decode cX11_unpack 39 = .ok (.iload_n 1, 1) := by decide +kernel
theorem dX11_unpack_40 : decode cX11_unpack 40 = .ok (.iconst 3, 1) := by decide +kernel
theorem dX11_unpack_41 : decode cX11_unpack 41 = .ok (.if_icmp .ge 7, 3) := by decide +kernel
theorem dX11_unpack_44 : decode cX11_unpack 44 = .ok (.iconst 1, 1) := by decide +kernel
theorem dX11_unpack_45 : decode cX11_unpack 45 = .ok (.goto 4, 3) := by decide +kernel
theorem dX11_unpack_48 : decode cX11_unpack 48 = .ok (.iconst 0, 1) := by decide +kernel
theorem dX11_unpack_49 : decode cX11_unpack 49 = .ok (.iconst 1, 1) := by decide +kernel
theorem dX11_unpack_50 : decode cX11_unpack 50 = .ok (.invokevirtual 222, 3) := by decide +kernel
theorem dX11_unpack_53 : decode cX11_unpack 53 = .ok (.iconst 0, 1) := by decide +kernel
theorem dX11_unpack_54 : decode cX11_unpack 54 = .ok (.istore_n 2, 1) := by decide +kernel
theorem dX11_unpack_55 : decode cX11_unpack 55 = .ok (.iconst 0, 1) := by decide +kernel
theorem dX11_unpack_56 : decode cX11_unpack 56 = .ok (.istore_n 3, 1) := by decide +kernel
theorem dX11_unpack_57 : decode cX11_unpack 57 = .ok (.iconst 0, 1) := by decide +kernel
theorem dX11_unpack_58 : decode cX11_unpack 58 = .ok (.istore 4, 2) := by decide +kernel
theorem dX11_unpack_60 : decode cX11_unpack 60 = .ok (.iconst 0, 1) := by decide +kernel
theorem dX11_unpack_61 : decode cX11_unpack 61 = .ok (.istore 5, 2) := by decide +kernel
theorem dX11_unpack_63 : decode cX11_unpack 63 = .ok (.iconst 0, 1) := by decide +kernel
theorem dX11_unpack_64 : decode cX11_unpack 64 = .ok (.istore 6, 2) := by decide +kernel
theorem dX11_unpack_66 : decode cX11_unpack 66 = .ok (.iload 6, 2) := by decide +kernel
theorem dX11_unpack_68 : decode cX11_unpack 68 = .ok (.iload_n 1, 1) := by decide +kernel
theorem dX11_unpack_69 : decode cX11_unpack 69 = .ok (.if_icmp .ge 147, 3) := by decide +kernel
theorem dX11_unpack_72 : decode cX11_unpack 72 = .ok (.aload_n 0, 1) := by decide +kernel
theorem dX11_unpack_73 : decode cX11_unpack 73 = .ok (.getfield 201, 3) := by decide +kernel
theorem dX11_unpack_76 : decode cX11_unpack 76 = .ok (.ifCond .ne 140, 3) := by decide +kernel
theorem dX11_unpack_79 : decode cX11_unpack 79 = .ok (.aload_n 0, 1) := by decide +kernel
theorem dX11_unpack_80 : decode cX11_unpack 80 = .ok (.invokevirtual 213, 3) := by decide +kernel
theorem dX11_unpack_83 : decode cX11_unpack 83 = .ok (.istore 7, 2) := by decide +kernel
theorem dX11_unpack_85 : decode cX11_unpack 85 = .ok (.aload_n 0, 1) := by decide +kernel
theorem dX11_unpack_86 : decode cX11_unpack 86 = .ok (.aload_n 0, 1) := by decide +kernel
theorem dX11_unpack_87 : decode cX11_unpack 87 = .ok (.getfield 201, 3) := by decide +kernel
theorem dX11_unpack_90 : decode cX11_unpack 90 = .ok (.ifCond .ne 13, 3) := by decide +kernel
theorem dX11_unpack_93 : decode cX11_unpack 93 = .ok (.iload 7, 2) := by decide +kernel
theorem dX11_unpack_95 : decode cX11_unpack 95 = .ok (.iconst 1, 1) := by decide +kernel
theorem dX11_unpack_96 : decode cX11_unpack 96 = .ok (.iconst 4, 1) := by decide +kernel
theorem dX11_unpack_97 : decode cX11_unpack 97 = .ok (.invokestatic 75, 3) := by decide +kernel
theorem dX11_unpack_100 : decode cX11_unpack 100 = .ok (.ifCond .eq 7, 3) := by decide +kernel
theorem dX11_unpack_103 : decode cX11_unpack 103 = .ok (.iconst 1, 1) := by decide +kernel
theorem dX11_unpack_104 : decode cX11_unpack 104 = .ok (.goto 4, 3) := by decide +kernel
theorem dX11_unpack_107 : decode cX11_unpack 107 = .ok (.iconst 0, 1) := by decide +kernel
theorem dX11_unpack_108 : decode cX11_unpack 108 = .ok (.iconst 1, 1) := by decide +kernel
theorem dX11_unpack_109 : decode cX11_unpack 109 = .ok (.invokevirtual 222, 3) := by decide +kernel
theorem dX11_unpack_112 : decode cX11_unpack 112 = .ok (.aload_n 0, 1) := by decide +kernel
theorem dX11_unpack_113 : decode cX11_unpack 113 = .ok (.getfield 201, 3) := by decide +kernel
theorem dX11_unpack_116 : decode cX11_unpack 116 = .ok (.ifCond .ne 10, 3) := by decide +kernel
theorem dX11_unpack_119 : decode cX11_unpack 119 = .ok (.aload_n 0, 1) := by decide +kernel
theorem dX11_unpack_120 : decode cX11_unpack 120 = .ok (.invokevirtual 213, 3) := by decide +kernel
theorem dX11_unpack_123 : decode cX11_unpack 123 = .ok (.goto 4, 3) := by decide +kernel
theorem dX11_unpack_126 : decode cX11_unpack 126 = .ok (.iconst 0, 1) := by decide +kernel
theorem dX11_unpack_127 : decode cX11_unpack 127 = .ok (.istore 8, 2) := by decide +kernel
theorem dX11_unpack_129 : decode cX11_unpack 129 = .ok (.aload_n 0, 1) := by decide +kernel
theorem dX11_unpack_130 : decode cX11_unpack 130 = .ok (.aload_n 0, 1) := by decide +kernel
theorem dX11_unpack_131 : decode cX11_unpack 131 = .ok (.getfield 201, 3) := by decide +kernel
theorem dX11_unpack_134 : decode cX11_unpack 134 = .ok (.ifCond .ne 13, 3) := by decide +kernel
theorem dX11_unpack_137 : decode cX11_unpack 137 = .ok (.iload 7, 2) := by decide +kernel
theorem dX11_unpack_139 : decode cX11_unpack 139 = .ok (.iload 8, 2) := by decide +kernel
theorem dX11_unpack_141 : decode cX11_unpack 141 = .ok (.invokestatic 83, 3) := by decide +kernel
theorem dX11_unpack_144 : decode cX11_unpack 144 = .ok (.ifCond .eq 7, 3) := by decide +kernel
theorem dX11_unpack_147 : decode cX11_unpack 147 = .ok (.iconst 1, 1) := by decide +kernel
theorem dX11_unpack_148 : decode cX11_unpack 148 = .ok (.goto 4, 3) := by decide +kernel
theorem dX11_unpack_151 : decode cX11_unpack 151 = .ok (.iconst 0, 1) := by decide +kernel
theorem dX11_unpack_152 : decode cX11_unpack 152 = .ok (.iconst 1, 1) := by decide +kernel
theorem dX11_unpack_153 : decode cX11_unpack 153 = .ok (.invokevirtual 222, 3) := by decide +kernel
theorem dX11_unpack_156 : decode cX11_unpack 156 = .ok (.iload 6, 2) := by decide +kernel
theorem dX11_unpack_158 : decode cX11_unpack 158 = .ok (.ifCond .ne 8, 3) := by decide +kernel
theorem dX11_unpack_161 : decode cX11_unpack 161 = .ok (.iload 7, 2) := by decide +kernel
theorem dX11_unpack_163 : decode cX11_unpack 163 = .ok (.goto 4, 3) := by decide +kernel
theorem dX11_unpack_166 : decode cX11_unpack 166 = .ok (.iload_n 2, 1) := by decide +kernel
theorem dX11_unpack_167 : decode cX11_unpack 167 = .ok (.istore_n 2, 1) := by decide +kernel
theorem dX11_unpack_168 : decode cX11_unpack 168 = .ok (.iload 6, 2) := by decide +kernel
theorem dX11_unpack_170 : decode cX11_unpack 170 = .ok (.ifCond .ne 8, 3) := by decide +kernel
theorem dX11_unpack_173 : decode cX11_unpack 173 = .ok (.iload 8, 2) := by decide +kernel
theorem dX11_unpack_175 : decode cX11_unpack 175 = .ok (.goto 4, 3) := by decide +kernel
theorem dX11_unpack_178 : decode cX11_unpack 178 = .ok (.iload_n 3, 1) := by decide +kernel
theorem dX11_unpack_179 : decode cX11_unpack 179 = .ok (.istore_n 3, 1) := by decide +kernel
theorem dX11_unpack_180 : decode cX11_unpack 180 = .ok (.iload 6, 2) := by decide +kernel
theorem dX11_unpack_182 : decode cX11_unpack 182 = .ok (.iconst 1, 1) := by decide +kernel
theorem dX11_unpack_183 : decode cX11_unpack 183 = .ok (.if_icmp .ne 8, 3) := by decide +kernel
theorem dX11_unpack_186 : decode cX11_unpack 186 = .ok (.iload 7, 2) := by decide +kernel
theorem dX11_unpack_188 : decode cX11_unpack 188 = .ok (.goto 5, 3) := by decide +kernel
theorem dX11_unpack_191 : decode cX11_unpack 191 = .ok (.iload 4, 2) := by decide +kernel
theorem dX11_unpack_193 : decode cX11_unpack 193 = .ok (.istore 4, 2) := by decide +kernel
theorem dX11_unpack_195 : decode cX11_unpack 195 = .ok (.iload 6, 2) := by decide +kernel
theorem dX11_unpack_197 : decode cX11_unpack 197 = .ok (.iconst 1, 1) := by decide +kernel
theorem dX11_unpack_198 : decode cX11_unpack 198 = .ok (.if_icmp .ne 8, 3) := by decide +kernel
theorem dX11_unpack_201 : decode cX11_unpack 201 = .ok (.iload 8, 2) := by decide +kernel
theorem dX11_unpack_203 : decode cX11_unpack 203 = .ok (.goto 5, 3) := by decide +kernel
theorem dX11_unpack_206 : decode cX11_unpack 206 = .ok (.iload 5, 2) := by decide +kernel
theorem dX11_unpack_208 : decode cX11_unpack 208 = .ok (.istore 5, 2) := by decide +kernel
theorem dX11_unpack_210 : decode cX11_unpack 210 = .ok (.iinc 6 1, 3) := by decide +kernel
theorem dX11_unpack_213 : decode cX11_unpack 213 = .ok (.goto (-147), 3) := by decide +kernel
theorem dX11_unpack_216 : decode cX11_unpack 216 = .ok (.aload_n 0, 1) := by decide +kernel
theorem dX11_unpack_217 : decode cX11_unpack 217 = .ok (.getfield 201, 3) := by decide +kernel
theorem dX11_unpack_220 : decode cX11_unpack 220 = .ok (.ifCond .ne 10, 3) := by decide +kernel
theorem dX11_unpack_223 : decode cX11_unpack 223 = .ok (.aload_n 0, 1) := by decide +kernel
theorem dX11_unpack_224 : decode cX11_unpack 224 = .ok (.invokevirtual 213, 3) := by decide +kernel
theorem dX11_unpack_227 : decode cX11_unpack 227 = .ok (.goto 4, 3) := by decide +kernel
theorem dX11_unpack_230 : decode cX11_unpack 230 = .ok (.iconst 0, 1) := by decide +kernel
theorem dX11_unpack_231 : decode cX11_unpack 231 = .ok (.istore 6, 2) := by decide +kernel
theorem dX11_unpack_233 : decode cX11_unpack 233 = .ok (.aload_n 0, 1) := by decide +kernel
theorem dX11_unpack_234 : decode cX11_unpack 234 = .ok (.aload_n 0, 1) := by decide +kernel
theorem dX11_unpack_235 : decode cX11_unpack 235 = .ok (.getfield 201, 3) := by decide +kernel
theorem dX11_unpack_238 : decode cX11_unpack 238 = .ok (.ifCond .ne 9, 3) := by decide +kernel
theorem dX11_unpack_241 : decode cX11_unpack 241 = .ok (.iload 6, 2) := by decide +kernel
theorem dX11_unpack_243 : decode cX11_unpack 243 = .ok (.iconst 5, 1) := by decide +kernel
theorem dX11_unpack_244 : decode cX11_unpack 244 = .ok (.if_icmp .ge 7, 3) := by decide +kernel
theorem dX11_unpack_247 : decode cX11_unpack 247 = .ok (.iconst 1, 1) := by decide +kernel
theorem dX11_unpack_248 : decode cX11_unpack 248 = .ok (.goto 4, 3) := by decide +kernel
theorem dX11_unpack_251 : decode cX11_unpack 251 = .ok (.iconst 0, 1) := by decide +kernel
theorem dX11_unpack_252 : decode cX11_unpack 252 = .ok (.iconst 1, 1) := by decide +kernel
theorem dX11_unpack_253 : decode cX11_unpack 253 = .ok (.invokevirtual 222, 3) := by decide +kernel
theorem dX11_unpack_256 : decode cX11_unpack 256 = .ok (.aload_n 0, 1) := by decide +kernel
theorem dX11_unpack_257 : decode cX11_unpack 257 = .ok (.getfield 201, 3) := by decide +kernel
theorem dX11_unpack_260 : decode cX11_unpack 260 = .ok (.ifCond .ne 10, 3) := by decide +kernel
theorem dX11_unpack_263 : decode cX11_unpack 263 = .ok (.aload_n 0, 1) := by decide +kernel
theorem dX11_unpack_264 : decode cX11_unpack 264 = .ok (.invokevirtual 213, 3) := by decide +kernel
theorem dX11_unpack_267 : decode cX11_unpack 267 = .ok (.goto 4, 3) := by decide +kernel
theorem dX11_unpack_270 : decode cX11_unpack 270 = .ok (.iconst 0, 1) := by decide +kernel
theorem dX11_unpack_271 : decode cX11_unpack 271 = .ok (.istore 7, 2) := by decide +kernel
theorem dX11_unpack_273 : decode cX11_unpack 273 = .ok (.aload_n 0, 1) := by decide +kernel
theorem dX11_unpack_274 : decode cX11_unpack 274 = .ok (.getfield 201, 3) := by decide +kernel
theorem dX11_unpack_277 : decode cX11_unpack 277 = .ok (.ifCond .ne 10, 3) := by decide +kernel
theorem dX11_unpack_280 : decode cX11_unpack 280 = .ok (.aload_n 0, 1) := by decide +kernel
theorem dX11_unpack_281 : decode cX11_unpack 281 = .ok (.invokevirtual 213, 3) := by decide +kernel
theorem dX11_unpack_284 : decode cX11_unpack 284 = .ok (.goto 4, 3) := by decide +kernel
theorem dX11_unpack_287 : decode cX11_unpack 287 = .ok (.iconst 0, 1) := by decide +kernel
theorem dX11_unpack_288 : decode cX11_unpack 288 = .ok (.istore 8, 2) := by decide +kernel
theorem dX11_unpack_290 : decode cX11_unpack 290 = .ok (.aload_n 0, 1) := by decide +kernel
theorem dX11_unpack_291 : decode cX11_unpack 291 = .ok (.sipush 256, 3) := by decide +kernel
theorem dX11_unpack_294 : decode cX11_unpack 294 = .ok (.iload 7, 2) := by decide +kernel
theorem dX11_unpack_296 : decode cX11_unpack 296 = .ok (.imul, 1) := by decide +kernel
theorem dX11_unpack_297 : decode cX11_unpack 297 = .ok (.iload 8, 2) := by decide +kernel
theorem dX11_unpack_299 : decode cX11_unpack 299 = .ok (.iadd, 1) := by decide +kernel
theorem dX11_unpack_300 : decode cX11_unpack 300 = .ok (.putfield 226, 3) := by decide +kernel
theorem dX11_unpack_303 : decode cX11_unpack 303 = .ok (.aload_n 0, 1) := by decide +kernel
theorem dX11_unpack_304 : decode cX11_unpack 304 = .ok (.aload_n 0, 1) := by decide +kernel
theorem dX11_unpack_305 : decode cX11_unpack 305 = .ok (.getfield 201, 3) := by decide +kernel
theorem dX11_unpack_308 : decode cX11_unpack 308 = .ok (.ifCond .ne 13, 3) := by decide +kernel
theorem dX11_unpack_311 : decode cX11_unpack 311 = .ok (.aload_n 0, 1) := by decide +kernel
theorem dX11_unpack_312 : decode cX11_unpack 312 = .ok (.getfield 226, 3) := by decide +kernel
theorem dX11_unpack_315 : decode cX11_unpack 315 = .ok (.sipush 300, 3) := by decide +kernel
theorem dX11_unpack_318 : decode cX11_unpack 318 = .ok (.if_icmp .gt 7, 3) := by decide +kernel
theorem dX11_unpack_321 : decode cX11_unpack 321 = .ok (.iconst 1, 1) := by decide +kernel
theorem dX11_unpack_322 : decode cX11_unpack 322 = .ok (.goto 4, 3) := by decide +kernel
theorem dX11_unpack_325 : decode cX11_unpack 325 = .ok (.iconst 0, 1) := by decide +kernel
theorem dX11_unpack_326 : decode cX11_unpack 326 = .ok (.iconst 1, 1) := by decide +kernel
theorem dX11_unpack_327 : decode cX11_unpack 327 = .ok (.invokevirtual 222, 3) := by decide +kernel
theorem dX11_unpack_330 : decode cX11_unpack 330 = .ok (.aload_n 0, 1) := by decide +kernel
theorem dX11_unpack_331 : decode cX11_unpack 331 = .ok (.getfield 201, 3) := by decide +kernel
theorem dX11_unpack_334 : decode cX11_unpack 334 = .ok (.ifCond .ne 85, 3) := by decide +kernel
theorem dX11_unpack_337 : decode cX11_unpack 337 = .ok (.aload_n 0, 1) := by decide +kernel
theorem dX11_unpack_338 : decode cX11_unpack 338 = .ok (.getfield 226, 3) := by decide +kernel
theorem dX11_unpack_341 : decode cX11_unpack 341 = .ok (.ifCond .le 78, 3) := by decide +kernel
theorem dX11_unpack_344 : decode cX11_unpack 344 = .ok (.iload 6, 2) := by decide +kernel
theorem dX11_unpack_346 : decode cX11_unpack 346 = .ok (.ifCond .ne 32, 3) := by decide +kernel
theorem dX11_unpack_349 : decode cX11_unpack 349 = .ok (.aload_n 0, 1) := by decide +kernel
theorem dX11_unpack_350 : decode cX11_unpack 350 = .ok (.getfield 201, 3) := by decide +kernel
theorem dX11_unpack_353 : decode cX11_unpack 353 = .ok (.ifCond .ne 66, 3) := by decide +kernel
theorem dX11_unpack_356 : decode cX11_unpack 356 = .ok (.aload_n 0, 1) := by decide +kernel
theorem dX11_unpack_357 : decode cX11_unpack 357 = .ok (.getfield 216, 3) := by decide +kernel
theorem dX11_unpack_360 : decode cX11_unpack 360 = .ok (.aload_n 0, 1) := by decide +kernel
theorem dX11_unpack_361 : decode cX11_unpack 361 = .ok (.getfield 226, 3) := by decide +kernel
theorem dX11_unpack_364 : decode cX11_unpack 364 = .ok (.if_icmp .ge 55, 3) := by decide +kernel
theorem dX11_unpack_367 : decode cX11_unpack 367 = .ok (.aload_n 0, 1) := by decide +kernel
theorem dX11_unpack_368 : decode cX11_unpack 368 = .ok (.aload_n 0, 1) := by decide +kernel
theorem dX11_unpack_369 : decode cX11_unpack 369 = .ok (.invokevirtual 213, 3) := by decide +kernel
theorem dX11_unpack_372 : decode cX11_unpack 372 = .ok (.invokevirtual 229, 3) := by decide +kernel
theorem dX11_unpack_375 : decode cX11_unpack 375 = .ok (.goto (-26), 3) := by decide +kernel
theorem dX11_unpack_378 : decode cX11_unpack 378 = .ok (.iload 6, 2) := by decide +kernel
theorem dX11_unpack_380 : decode cX11_unpack 380 = .ok (.iconst 2, 1) := by decide +kernel
theorem dX11_unpack_381 : decode cX11_unpack 381 = .ok (.if_icmp .ne 10, 3) := by decide +kernel
theorem dX11_unpack_384 : decode cX11_unpack 384 = .ok (.aload_n 0, 1) := by decide +kernel
theorem dX11_unpack_385 : decode cX11_unpack 385 = .ok (.invokevirtual 239, 3) := by decide +kernel
theorem dX11_unpack_388 : decode cX11_unpack 388 = .ok (.goto 31, 3) := by decide +kernel
theorem dX11_unpack_391 : decode cX11_unpack 391 = .ok (.iload 6, 2) := by decide +kernel
theorem dX11_unpack_393 : decode cX11_unpack 393 = .ok (.iconst 3, 1) := by decide +kernel
theorem dX11_unpack_394 : decode cX11_unpack 394 = .ok (.if_icmp .ne 10, 3) := by decide +kernel
theorem dX11_unpack_397 : decode cX11_unpack 397 = .ok (.aload_n 0, 1) := by decide +kernel
theorem dX11_unpack_398 : decode cX11_unpack 398 = .ok (.invokevirtual 242, 3) := by decide +kernel
theorem dX11_unpack_401 : decode cX11_unpack 401 = .ok (.goto 18, 3) := by decide +kernel
theorem dX11_unpack_404 : decode cX11_unpack 404 = .ok (.aload_n 0, 1) := by decide +kernel
theorem dX11_unpack_405 : decode cX11_unpack 405 = .ok (.iload 6, 2) := by decide +kernel
theorem dX11_unpack_407 : decode cX11_unpack 407 = .ok (.iconst 4, 1) := by decide +kernel
theorem dX11_unpack_408 : decode cX11_unpack 408 = .ok (.if_icmp .ne 7, 3) := by decide +kernel
theorem dX11_unpack_411 : decode cX11_unpack 411 = .ok (.iconst 1, 1) := by decide +kernel
theorem dX11_unpack_412 : decode cX11_unpack 412 = .ok (.goto 4, 3) := by decide +kernel
theorem dX11_unpack_415 : decode cX11_unpack 415 = .ok (.iconst 0, 1) := by decide +kernel
theorem dX11_unpack_416 : decode cX11_unpack 416 = .ok (.invokevirtual 245, 3) := by decide +kernel
theorem dX11_unpack_419 : decode cX11_unpack 419 = .ok (.aload_n 0, 1) := by decide +kernel
theorem dX11_unpack_420 : decode cX11_unpack 420 = .ok (.getfield 201, 3) := by decide +kernel
theorem dX11_unpack_423 : decode cX11_unpack 423 = .ok (.ifCond .ne 23, 3) := by decide +kernel
theorem dX11_unpack_426 : decode cX11_unpack 426 = .ok (.aload_n 0, 1) := by decide +kernel
theorem dX11_unpack_427 : decode cX11_unpack 427 = .ok (.getfield 204, 3) := by decide +kernel
theorem dX11_unpack_430 : decode cX11_unpack 430 = .ok (.aload_n 0, 1) := by decide +kernel
theorem dX11_unpack_431 : decode cX11_unpack 431 = .ok (.getfield 80, 3) := by decide +kernel
theorem dX11_unpack_434 : decode cX11_unpack 434 = .ok (.if_icmp .ge 12, 3) := by decide +kernel
theorem dX11_unpack_437 : decode cX11_unpack 437 = .ok (.aload_n 0, 1) := by decide +kernel
theorem dX11_unpack_438 : decode cX11_unpack 438 = .ok (.iconst 3, 1) := by decide +kernel
theorem dX11_unpack_439 : decode cX11_unpack 439 = .ok (.aload_n 0, 1) := by decide +kernel
theorem dX11_unpack_440 : decode cX11_unpack 440 = .ok (.getfield 204, 3) := by decide +kernel
theorem dX11_unpack_443 : decode cX11_unpack 443 = .ok (.invokevirtual 207, 3) := by decide +kernel
theorem dX11_unpack_446 : decode cX11_unpack 446 = .ok (.aload_n 0, 1) := by decide +kernel
theorem dX11_unpack_447 : decode cX11_unpack 447 = .ok (.getfield 201, 3) := by decide +kernel
theorem dX11_unpack_450 : decode cX11_unpack 450 = .ok (.ifCond .eq 11, 3) := by decide +kernel
theorem dX11_unpack_453 : decode cX11_unpack 453 = .ok (.bipush (-10), 2) := by decide +kernel
theorem dX11_unpack_455 : decode cX11_unpack 455 = .ok (.aload_n 0, 1) := by decide +kernel
theorem dX11_unpack_456 : decode cX11_unpack 456 = .ok (.getfield 201, 3) := by decide +kernel
theorem dX11_unpack_459 : decode cX11_unpack 459 = .ok (.isub, 1) := by decide +kernel
theorem dX11_unpack_460 : decode cX11_unpack 460 = .ok (.ireturn, 1) := by decide +kernel
theorem dX11_unpack_461 : decode cX11_unpack 461 = .ok (.iload 4, 2) := by decide +kernel
theorem dX11_unpack_463 : decode cX11_unpack 463 = .ok (.ifCond .le 16, 3) := by decide +kernel
theorem dX11_unpack_466 : decode cX11_unpack 466 = .ok (.aload_n 0, 1) := by decide +kernel
theorem dX11_unpack_467 : decode cX11_unpack 467 = .ok (.iload 4, 2) := by decide +kernel
theorem dX11_unpack_469 : decode cX11_unpack 469 = .ok (.iload 5, 2) := by decide +kernel
theorem dX11_unpack_471 : decode cX11_unpack 471 = .ok (.aload_n 0, 1) := by decide +kernel
theorem dX11_unpack_472 : decode cX11_unpack 472 = .ok (.getfield 226, 3) := by decide +kernel
theorem dX11_unpack_475 : decode cX11_unpack 475 = .ok (.iconst 1, 1) := by decide +kernel
theorem dX11_unpack_476 : decode cX11_unpack 476 = .ok (.invokevirtual 161, 3) := by decide +kernel
theorem dX11_unpack_479 : decode cX11_unpack 479 = .ok (.iload_n 2, 1) := by decide +kernel
theorem dX11_unpack_480 : decode cX11_unpack 480 = .ok (.ifCond .le 14, 3) := by decide +kernel
theorem dX11_unpack_483 : decode cX11_unpack 483 = .ok (.aload_n 0, 1) := by decide +kernel
theorem dX11_unpack_484 : decode cX11_unpack 484 = .ok (.iload_n 2, 1) := by decide +kernel
theorem dX11_unpack_485 : decode cX11_unpack 485 = .ok (.iload_n 3, 1) := by decide +kernel
theorem dX11_unpack_486 : decode cX11_unpack 486 = .ok (.aload_n 0, 1) := by decide +kernel
theorem dX11_unpack_487 : decode cX11_unpack 487 = .ok (.getfield 226, 3) := by decide +kernel
theorem dX11_unpack_490 : decode cX11_unpack 490 = .ok (.iconst 1, 1) := by decide +kernel
theorem dX11_unpack_491 : decode cX11_unpack 491 = .ok (.invokevirtual 161, 3) := by decide +kernel
theorem dX11_unpack_494 : decode cX11_unpack 494 = .ok (.aload_n 0, 1) := by decide +kernel
theorem dX11_unpack_495 : decode cX11_unpack 495 = .ok (.aload_n 0, 1) := by decide +kernel
theorem dX11_unpack_496 : decode cX11_unpack 496 = .ok (.getfield 226, 3) := by decide +kernel
theorem dX11_unpack_499 : decode cX11_unpack 499 = .ok (.putfield 72, 3) := by decide +kernel
theorem dX11_unpack_502 : decode cX11_unpack 502 = .ok (.iconst 0, 1) := by decide +kernel
theorem dX11_unpack_503 : decode cX11_unpack 503 = .ok (.istore 9, 2) := by decide +kernel
theorem dX11_unpack_505 : decode cX11_unpack 505 = .ok (.iload 9, 2) := by decide +kernel
theorem dX11_unpack_507 : decode cX11_unpack 507 = .ok (.aload_n 0, 1) := by decide +kernel
theorem dX11_unpack_508 : decode cX11_unpack 508 = .ok (.getfield 226, 3) := by decide +kernel
theorem dX11_unpack_511 : decode cX11_unpack 511 = .ok (.if_icmp .ge 23, 3) := by decide +kernel
theorem dX11_unpack_514 : decode cX11_unpack 514 = .ok (.aload_n 0, 1) := by decide +kernel
theorem dX11_unpack_515 : decode cX11_unpack 515 = .ok (.getfield 7, 3) := by decide +kernel
theorem dX11_unpack_518 : decode cX11_unpack 518 = .ok (.iload 9, 2) := by decide +kernel
theorem dX11_unpack_520 : decode cX11_unpack 520 = .ok (.aload_n 0, 1) := by decide +kernel
theorem dX11_unpack_521 : decode cX11_unpack 521 = .ok (.getfield 25, 3) := by decide +kernel
theorem dX11_unpack_524 : decode cX11_unpack 524 = .ok (.iload 9, 2) := by decide +kernel
theorem dX11_unpack_526 : decode cX11_unpack 526 = .ok (.iaload, 1) := by decide +kernel
theorem dX11_unpack_527 : decode cX11_unpack 527 = .ok (.iastore, 1) := by decide +kernel
theorem dX11_unpack_528 : decode cX11_unpack 528 = .ok (.iinc 9 1, 3) := by decide +kernel
theorem dX11_unpack_531 : decode cX11_unpack 531 = .ok (.goto (-26), 3) := by decide +kernel
theorem dX11_unpack_534 : decode cX11_unpack 534 = .ok (.aload_n 0, 1) := by decide +kernel
theorem dX11_unpack_535 : decode cX11_unpack 535 = .ok (.getfield 226, 3) := by decide +kernel
theorem dX11_unpack_538 : decode cX11_unpack 538 = .ok (.ireturn, 1) := by decide +kernel
theorem dX11_place_0 : decode cX11_place 0 = .ok (.aload_n 0, 1) := by decide +kernel
theorem dX11_place_1 : decode cX11_place 1 = .ok (.iconst 0, 1) := by decide +kernel
theorem dX11_place_2 : decode cX11_place 2 = .ok (.putfield 65, 3) := by decide +kernel
theorem dX11_place_5 : decode cX11_place 5 = .ok (.aload_n 0, 1) := by decide +kernel
theorem dX11_place_6 : decode cX11_place 6 = .ok (.getfield 58, 3) := by decide +kernel
theorem dX11_place_9 : decode cX11_place 9 = .ok (.ireturn, 1) := by decide +kernel
theorem dJ9_abs_0f7a4_0 : decode cJ9_abs_0f7a4 0 = .ok (.iload_n 0, 1) := by decide +kernel
theorem dJ9_abs_0f7a4_1 : decode cJ9_abs_0f7a4 1 = .ok (.ifCond .ge 8, 3) := by decide +kernel
theorem dJ9_abs_0f7a4_4 : decode cJ9_abs_0f7a4 4 = .ok (.iload_n 0, 1) := by decide +kernel
theorem dJ9_abs_0f7a4_5 : decode cJ9_abs_0f7a4 5 = .ok (.ineg, 1) := by decide +kernel
theorem dJ9_abs_0f7a4_6 : decode cJ9_abs_0f7a4 6 = .ok (.goto 4, 3) := by decide +kernel
theorem dJ9_abs_0f7a4_9 : decode cJ9_abs_0f7a4 9 = .ok (.iload_n 0, 1) := by decide +kernel
theorem dJ9_abs_0f7a4_10 : decode cJ9_abs_0f7a4 10 = .ok (.ireturn, 1) := by decide +kernel
theorem dJ9_max_7cf53_0 : decode cJ9_max_7cf53 0 = .ok (.iload_n 0, 1) := by decide +kernel
theorem dJ9_max_7cf53_1 : decode cJ9_max_7cf53 1 = .ok (.iload_n 1, 1) := by decide +kernel
theorem dJ9_max_7cf53_2 : decode cJ9_max_7cf53 2 = .ok (.if_icmp .lt 7, 3) := by decide +kernel
theorem dJ9_max_7cf53_5 : decode cJ9_max_7cf53 5 = .ok (.iload_n 0, 1) := by decide +kernel
theorem dJ9_max_7cf53_6 : decode cJ9_max_7cf53 6 = .ok (.goto 4, 3) := by decide +kernel
theorem dJ9_max_7cf53_9 : decode cJ9_max_7cf53 9 = .ok (.iload_n 1, 1) := by decide +kernel
theorem dJ9_max_7cf53_10 : decode cJ9_max_7cf53 10 = .ok (.ireturn, 1) := by decide +kernel
theorem dJ9_min_7cf53_0 : decode cJ9_min_7cf53 0 = .ok (.iload_n 0, 1) := by decide +kernel
theorem dJ9_min_7cf53_1 : decode cJ9_min_7cf53 1 = .ok (.iload_n 1, 1) := by decide +kernel
theorem dJ9_min_7cf53_2 : decode cJ9_min_7cf53 2 = .ok (.if_icmp .gt 7, 3) := by decide +kernel
theorem dJ9_min_7cf53_5 : decode cJ9_min_7cf53 5 = .ok (.iload_n 0, 1) := by decide +kernel
theorem dJ9_min_7cf53_6 : decode cJ9_min_7cf53 6 = .ok (.goto 4, 3) := by decide +kernel
theorem dJ9_min_7cf53_9 : decode cJ9_min_7cf53 9 = .ok (.iload_n 1, 1) := by decide +kernel
theorem dJ9_min_7cf53_10 : decode cJ9_min_7cf53 10 = .ok (.ireturn, 1) := by decide +kernel
theorem dJ7_fill_53178_0 : decode cJ7_fill_53178 0 = .ok (.iconst 0, 1) := by decide +kernel
theorem dJ7_fill_53178_1 : decode cJ7_fill_53178 1 = .ok (.istore_n 2, 1) := by decide +kernel
theorem dJ7_fill_53178_2 : decode cJ7_fill_53178 2 = .ok (.aload_n 0, 1) := by decide +kernel
theorem dJ7_fill_53178_3 : decode cJ7_fill_53178 3 = .ok (.arraylength, 1) := by decide +kernel
theorem dJ7_fill_53178_4 : decode cJ7_fill_53178 4 = .ok (.istore_n 3, 1) := by decide +kernel
theorem dJ7_fill_53178_5 : decode cJ7_fill_53178 5 = .ok (.iload_n 2, 1) := by decide +kernel
theorem dJ7_fill_53178_6 : decode cJ7_fill_53178 6 = .ok (.iload_n 3, 1) := by decide +kernel
theorem dJ7_fill_53178_7 : decode cJ7_fill_53178 7 = .ok (.if_icmp .ge 13, 3) := by decide +kernel
theorem dJ7_fill_53178_10 : decode cJ7_fill_53178 10 = .ok (.aload_n 0, 1) := by decide +kernel
theorem dJ7_fill_53178_11 : decode cJ7_fill_53178 11 = .ok (.iload_n 2, 1) := by decide +kernel
theorem dJ7_fill_53178_12 : decode cJ7_fill_53178 12 = .ok (.iload_n 1, 1) := by decide +kernel
theorem dJ7_fill_53178_13 : decode cJ7_fill_53178 13 = .ok (.iastore, 1) := by decide +kernel
theorem dJ7_fill_53178_14 : decode cJ7_fill_53178 14 = .ok (.iinc 2 1, 3) := by decide +kernel
theorem dJ7_fill_53178_17 : decode cJ7_fill_53178 17 = .ok (.goto (-12), 3) := by decide +kernel
theorem dJ7_fill_53178_20 : decode cJ7_fill_53178 20 = .ok (.return_, 1) := by decide +kernel
theorem dL_share_0 : decode cL_share 0 = .ok (.aload_n 3, 1) := by decide +kernel
theorem dL_share_1 : decode cL_share 1 = .ok (.iconst 0, 1) := by decide +kernel
theorem dL_share_2 : decode cL_share 2 = .ok (.aload_n 0, 1) := by decide +kernel
theorem dL_share_3 : decode cL_share 3 = .ok (.iload_n 1, 1) := by decide +kernel
theorem dL_share_4 : decode cL_share 4 = .ok (.iload_n 2, 1) := by decide +kernel
theorem dL_share_5 : decode cL_share 5 = .ok (.invokevirtual 7, 3) := by decide +kernel
theorem dL_share_8 : decode cL_share 8 = .ok (.lastore, 1) := by decide +kernel
theorem dL_share_9 : decode cL_share 9 = .ok (.goto 7, 3) := by decide +kernel
theorem dL_share_12 : decode cL_share 12 = .ok (.astore 4, 2) := by decide +kernel
theorem dL_share_14 : decode cL_share 14 = .ok (.iconst 1, 1) := by decide +kernel
theorem dL_share_15 : decode cL_share 15 = .ok (.ireturn, 1) := by decide +kernel
theorem dL_share_16 : decode cL_share 16 = .ok (.iconst 0, 1) := by decide +kernel
theorem dL_share_17 : decode cL_share 17 = .ok (.ireturn, 1) := by decide +kernel
theorem dL_law_0 : decode cL_law 0 = .ok (.new 8, 3) := by decide +kernel
theorem dL_law_3 : decode cL_law 3 = .ok (.dup, 1) := by decide +kernel
theorem dL_law_4 : decode cL_law 4 = .ok (.invokespecial 15, 3) := by decide +kernel
theorem dL_law_7 : decode cL_law 7 = .ok (.astore_n 1, 1) := by decide +kernel
theorem dL_law_8 : decode cL_law 8 = .ok (.new 16, 3) := by decide +kernel
theorem dL_law_11 : decode cL_law 11 = .ok (.dup, 1) := by decide +kernel
theorem dL_law_12 : decode cL_law 12 = .ok (.invokespecial 18, 3) := by decide +kernel
theorem dL_law_15 : decode cL_law 15 = .ok (.astore_n 2, 1) := by decide +kernel
theorem dL_law_16 : decode cL_law 16 = .ok (.iconst 1, 1) := by decide +kernel
theorem dL_law_17 : decode cL_law 17 = .ok (.newarray .long, 2) := by decide +kernel
theorem dL_law_19 : decode cL_law 19 = .ok (.astore_n 3, 1) := by decide +kernel
theorem dL_law_20 : decode cL_law 20 = .ok (.iconst 0, 1) := by decide +kernel
theorem dL_law_21 : decode cL_law 21 = .ok (.istore 4, 2) := by decide +kernel
theorem dL_law_23 : decode cL_law 23 = .ok (.iload 4, 2) := by decide +kernel
theorem dL_law_25 : decode cL_law 25 = .ok (.aload_n 0, 1) := by decide +kernel
theorem dL_law_26 : decode cL_law 26 = .ok (.arraylength, 1) := by decide +kernel
theorem dL_law_27 : decode cL_law 27 = .ok (.iconst 4, 1) := by decide +kernel
theorem dL_law_28 : decode cL_law 28 = .ok (.isub, 1) := by decide +kernel
theorem dL_law_29 : decode cL_law 29 = .ok (.if_icmp .gt 680, 3) := by decide +kernel
theorem dL_law_32 : decode cL_law 32 = .ok (.aload_n 0, 1) := by decide +kernel
theorem dL_law_33 : decode cL_law 33 = .ok (.iload 4, 2) := by decide +kernel
theorem dL_law_35 : decode cL_law 35 = .ok (.iaload, 1) := by decide +kernel
theorem dL_law_36 : decode cL_law 36 = .ok (.bipush 31, 2) := by decide +kernel
theorem dL_law_38 : decode cL_law 38 = .ok (.iand, 1) := by decide +kernel
theorem dL_law_39 : decode cL_law 39 = .ok (.tableswitch 664 0 20 #[97, 110, 135, 184, 209, 246, 283, 308, 321, 334, 371, 408, 433, 446, 459, 484, 551, 576, 613, 638, 651], 97) := by decide +kernel
theorem dL_law_136 : decode cL_law 136 = .ok (.aload_n 1, 1) := by decide +kernel
theorem dL_law_137 : decode cL_law 137 = .ok (.invokevirtual 19, 3) := by decide +kernel
theorem dL_law_140 : decode cL_law 140 = .ok (.aload_n 2, 1) := by decide +kernel
theorem dL_law_141 : decode cL_law 141 = .ok (.invokevirtual 23, 3) := by decide +kernel
theorem dL_law_144 : decode cL_law 144 = .ok (.if_icmp .eq 559, 3) := by decide +kernel
theorem dL_law_147 : decode cL_law 147 = .ok (.iconst 0, 1) := by decide +kernel
theorem dL_law_148 : decode cL_law 148 = .ok (.ireturn, 1) := by decide +kernel
theorem dL_law_149 : decode cL_law 149 = .ok (.aload_n 1, 1) := by decide +kernel
theorem dL_law_150 : decode cL_law 150 = .ok (.aload_n 0, 1) := by decide +kernel
theorem dL_law_151 : decode cL_law 151 = .ok (.iload 4, 2) := by decide +kernel
theorem dL_law_153 : decode cL_law 153 = .ok (.iconst 1, 1) := by decide +kernel
theorem dL_law_154 : decode cL_law 154 = .ok (.iadd, 1) := by decide +kernel
theorem dL_law_155 : decode cL_law 155 = .ok (.iaload, 1) := by decide +kernel
theorem dL_law_156 : decode cL_law 156 = .ok (.invokevirtual 24, 3) := by decide +kernel
theorem dL_law_159 : decode cL_law 159 = .ok (.aload_n 2, 1) := by decide +kernel
theorem dL_law_160 : decode cL_law 160 = .ok (.aload_n 0, 1) := by decide +kernel
theorem dL_law_161 : decode cL_law 161 = .ok (.iload 4, 2) := by decide +kernel
theorem dL_law_163 : decode cL_law 163 = .ok (.iconst 1, 1) := by decide +kernel
theorem dL_law_164 : decode cL_law 164 = .ok (.iadd, 1) := by decide +kernel
theorem dL_law_165 : decode cL_law 165 = .ok (.iaload, 1) := by decide +kernel
theorem dL_law_166 : decode cL_law 166 = .ok (.invokevirtual 28, 3) := by decide +kernel
theorem dL_law_169 : decode cL_law 169 = .ok (.if_icmp .eq 534, 3) := by decide +kernel
theorem dL_law_172 : decode cL_law 172 = .ok (.iconst 0, 1) := by decide +kernel
theorem dL_law_173 : decode cL_law 173 = .ok (.ireturn, 1) := by decide +kernel
theorem dL_law_174 : decode cL_law 174 = .ok (.aload_n 1, 1) := by decide +kernel
theorem dL_law_175 : decode cL_law 175 = .ok (.aload_n 0, 1) := by decide +kernel
theorem dL_law_176 : decode cL_law 176 = .ok (.iload 4, 2) := by decide +kernel
theorem dL_law_178 : decode cL_law 178 = .ok (.iconst 1, 1) := by decide +kernel
theorem dL_law_179 : decode cL_law 179 = .ok (.iadd, 1) := by decide +kernel
theorem dL_law_180 : decode cL_law 180 = .ok (.iaload, 1) := by decide +kernel
theorem dL_law_181 : decode cL_law 181 = .ok (.aload_n 0, 1) := by decide +kernel
theorem dL_law_182 : decode cL_law 182 = .ok (.iload 4, 2) := by decide +kernel
theorem dL_law_184 : decode cL_law 184 = .ok (.iconst 2, 1) := by decide +kernel
theorem dL_law_185 : decode cL_law 185 = .ok (.iadd, 1) := by decide +kernel
theorem dL_law_186 : decode cL_law 186 = .ok (.iaload, 1) := by decide +kernel
theorem dL_law_187 : decode cL_law 187 = .ok (.aload_n 0, 1) := by decide +kernel
theorem dL_law_188 : decode cL_law 188 = .ok (.iload 4, 2) := by decide +kernel
theorem dL_law_190 : decode cL_law 190 = .ok (.iconst 3, 1) := by decide +kernel
theorem dL_law_191 : decode cL_law 191 = .ok (.iadd, 1) := by decide +kernel
theorem dL_law_192 : decode cL_law 192 = .ok (.iaload, 1) := by decide +kernel
theorem dL_law_193 : decode cL_law 193 = .ok (.invokevirtual 29, 3) := by decide +kernel
theorem dL_law_196 : decode cL_law 196 = .ok (.aload_n 2, 1) := by decide +kernel
theorem dL_law_197 : decode cL_law 197 = .ok (.aload_n 0, 1) := by decide +kernel
theorem dL_law_198 : decode cL_law 198 = .ok (.iload 4, 2) := by decide +kernel
theorem dL_law_200 : decode cL_law 200 = .ok (.iconst 1, 1) := by decide +kernel
theorem dL_law_201 : decode cL_law 201 = .ok (.iadd, 1) := by decide +kernel
theorem dL_law_202 : decode cL_law 202 = .ok (.iaload, 1) := by decide +kernel
theorem dL_law_203 : decode cL_law 203 = .ok (.aload_n 0, 1) := by decide +kernel
theorem dL_law_204 : decode cL_law 204 = .ok (.iload 4, 2) := by decide +kernel
theorem dL_law_206 : decode cL_law 206 = .ok (.iconst 2, 1) := by decide +kernel
theorem dL_law_207 : decode cL_law 207 = .ok (.iadd, 1) := by decide +kernel
theorem dL_law_208 : decode cL_law 208 = .ok (.iaload, 1) := by decide +kernel
theorem dL_law_209 : decode cL_law 209 = .ok (.aload_n 0, 1) := by decide +kernel
theorem dL_law_210 : decode cL_law 210 = .ok (.iload 4, 2) := by decide +kernel
theorem dL_law_212 : decode cL_law 212 = .ok (.iconst 3, 1) := by decide +kernel
theorem dL_law_213 : decode cL_law 213 = .ok (.iadd, 1) := by decide +kernel
theorem dL_law_214 : decode cL_law 214 = .ok (.iaload, 1) := by decide +kernel
theorem dL_law_215 : decode cL_law 215 = .ok (.invokevirtual 33, 3) := by decide +kernel
theorem dL_law_218 : decode cL_law 218 = .ok (.if_icmp .eq 485, 3) := by decide +kernel
theorem dL_law_221 : decode cL_law 221 = .ok (.iconst 0, 1) := by decide +kernel
theorem dL_law_222 : decode cL_law 222 = .ok (.ireturn, 1) := by decide +kernel
theorem dL_law_223 : decode cL_law 223 = .ok (.aload_n 1, 1) := by decide +kernel
theorem dL_law_224 : decode cL_law 224 = .ok (.aload_n 0, 1) := by decide +kernel
theorem dL_law_225 : decode cL_law 225 = .ok (.iload 4, 2) := by decide +kernel
theorem dL_law_227 : decode cL_law 227 = .ok (.iconst 1, 1) := by decide +kernel
theorem dL_law_228 : decode cL_law 228 = .ok (.iadd, 1) := by decide +kernel
theorem dL_law_229 : decode cL_law 229 = .ok (.iaload, 1) := by decide +kernel
theorem dL_law_230 : decode cL_law 230 = .ok (.invokevirtual 34, 3) := by decide +kernel
theorem dL_law_233 : decode cL_law 233 = .ok (.aload_n 2, 1) := by decide +kernel
theorem dL_law_234 : decode cL_law 234 = .ok (.aload_n 0, 1) := by decide +kernel
theorem dL_law_235 : decode cL_law 235 = .ok (.iload 4, 2) := by decide +kernel
theorem dL_law_237 : decode cL_law 237 = .ok (.iconst 1, 1) := by decide +kernel
theorem dL_law_238 : decode cL_law 238 = .ok (.iadd, 1) := by decide +kernel
theorem dL_law_239 : decode cL_law 239 = .ok (.iaload, 1) := by decide +kernel
theorem dL_law_240 : decode cL_law 240 = .ok (.invokevirtual 37, 3) := by decide +kernel
theorem dL_law_243 : decode cL_law 243 = .ok (.if_icmp .eq 460, 3) := by decide +kernel
theorem dL_law_246 : decode cL_law 246 = .ok (.iconst 0, 1) := by decide +kernel
theorem dL_law_247 : decode cL_law 247 = .ok (.ireturn, 1) := by decide +kernel
theorem dL_law_248 : decode cL_law 248 = .ok (.aload_n 1, 1) := by decide +kernel
theorem dL_law_249 : decode cL_law 249 = .ok (.aload_n 0, 1) := by decide +kernel
theorem dL_law_250 : decode cL_law 250 = .ok (.iload 4, 2) := by decide +kernel
theorem dL_law_252 : decode cL_law 252 = .ok (.iconst 1, 1) := by decide +kernel
theorem dL_law_253 : decode cL_law 253 = .ok (.iadd, 1) := by decide +kernel
theorem dL_law_254 : decode cL_law 254 = .ok (.iaload, 1) := by decide +kernel
theorem dL_law_255 : decode cL_law 255 = .ok (.aload_n 0, 1) := by decide +kernel
theorem dL_law_256 : decode cL_law 256 = .ok (.iload 4, 2) := by decide +kernel
theorem dL_law_258 : decode cL_law 258 = .ok (.iconst 2, 1) := by decide +kernel
theorem dL_law_259 : decode cL_law 259 = .ok (.iadd, 1) := by decide +kernel
theorem dL_law_260 : decode cL_law 260 = .ok (.iaload, 1) := by decide +kernel
theorem dL_law_261 : decode cL_law 261 = .ok (.invokevirtual 38, 3) := by decide +kernel
theorem dL_law_264 : decode cL_law 264 = .ok (.aload_n 2, 1) := by decide +kernel
theorem dL_law_265 : decode cL_law 265 = .ok (.aload_n 0, 1) := by decide +kernel
theorem dL_law_266 : decode cL_law 266 = .ok (.iload 4, 2) := by decide +kernel
theorem dL_law_268 : decode cL_law 268 = .ok (.iconst 1, 1) := by decide +kernel
theorem dL_law_269 : decode cL_law 269 = .ok (.iadd, 1) := by decide +kernel
theorem dL_law_270 : decode cL_law 270 = .ok (.iaload, 1) := by decide +kernel
theorem dL_law_271 : decode cL_law 271 = .ok (.aload_n 0, 1) := by decide +kernel
theorem dL_law_272 : decode cL_law 272 = .ok (.iload 4, 2) := by decide +kernel
theorem dL_law_274 : decode cL_law 274 = .ok (.iconst 2, 1) := by decide +kernel
theorem dL_law_275 : decode cL_law 275 = .ok (.iadd, 1) := by decide +kernel
theorem dL_law_276 : decode cL_law 276 = .ok (.iaload, 1) := by decide +kernel
theorem dL_law_277 : decode cL_law 277 = .ok (.invokevirtual 42, 3) := by decide +kernel
theorem dL_law_280 : decode cL_law 280 = .ok (.if_icmp .eq 423, 3) := by decide +kernel
theorem dL_law_283 : decode cL_law 283 = .ok (.iconst 0, 1) := by decide +kernel
theorem dL_law_284 : decode cL_law 284 = .ok (.ireturn, 1) := by decide +kernel
theorem dL_law_285 : decode cL_law 285 = .ok (.aload_n 1, 1) := by decide +kernel
theorem dL_law_286 : decode cL_law 286 = .ok (.aload_n 0, 1) := by decide +kernel
theorem dL_law_287 : decode cL_law 287 = .ok (.iload 4, 2) := by decide +kernel
theorem dL_law_289 : decode cL_law 289 = .ok (.iconst 1, 1) := by decide +kernel
theorem dL_law_290 : decode cL_law 290 = .ok (.iadd, 1) := by decide +kernel
theorem dL_law_291 : decode cL_law 291 = .ok (.iaload, 1) := by decide +kernel
theorem dL_law_292 : decode cL_law 292 = .ok (.aload_n 0, 1) := by decide +kernel
theorem dL_law_293 : decode cL_law 293 = .ok (.iload 4, 2) := by decide +kernel
theorem dL_law_295 : decode cL_law 295 = .ok (.iconst 2, 1) := by decide +kernel
theorem dL_law_296 : decode cL_law 296 = .ok (.iadd, 1) := by decide +kernel
theorem dL_law_297 : decode cL_law 297 = .ok (.iaload, 1) := by decide +kernel
theorem dL_law_298 : decode cL_law 298 = .ok (.invokevirtual 43, 3) := by decide +kernel
theorem dL_law_301 : decode cL_law 301 = .ok (.aload_n 2, 1) := by decide +kernel
theorem dL_law_302 : decode cL_law 302 = .ok (.aload_n 0, 1) := by decide +kernel
theorem dL_law_303 : decode cL_law 303 = .ok (.iload 4, 2) := by decide +kernel
theorem dL_law_305 : decode cL_law 305 = .ok (.iconst 1, 1) := by decide +kernel
theorem dL_law_306 : decode cL_law 306 = .ok (.iadd, 1) := by decide +kernel
theorem dL_law_307 : decode cL_law 307 = .ok (.iaload, 1) := by decide +kernel
theorem dL_law_308 : decode cL_law 308 = .ok (.aload_n 0, 1) := by decide +kernel
theorem dL_law_309 : decode cL_law 309 = .ok (.iload 4, 2) := by decide +kernel
theorem dL_law_311 : decode cL_law 311 = .ok (.iconst 2, 1) := by decide +kernel
theorem dL_law_312 : decode cL_law 312 = .ok (.iadd, 1) := by decide +kernel
theorem dL_law_313 : decode cL_law 313 = .ok (.iaload, 1) := by decide +kernel
theorem dL_law_314 : decode cL_law 314 = .ok (.invokevirtual 46, 3) := by decide +kernel
theorem dL_law_317 : decode cL_law 317 = .ok (.if_icmp .eq 386, 3) := by decide +kernel
theorem dL_law_320 : decode cL_law 320 = .ok (.iconst 0, 1) := by decide +kernel
theorem dL_law_321 : decode cL_law 321 = .ok (.ireturn, 1) := by decide +kernel
theorem dL_law_322 : decode cL_law 322 = .ok (.aload_n 1, 1) := by decide +kernel
theorem dL_law_323 : decode cL_law 323 = .ok (.aload_n 0, 1) := by decide +kernel
theorem dL_law_324 : decode cL_law 324 = .ok (.iload 4, 2) := by decide +kernel
theorem dL_law_326 : decode cL_law 326 = .ok (.iconst 1, 1) := by decide +kernel
theorem dL_law_327 : decode cL_law 327 = .ok (.iadd, 1) := by decide +kernel
theorem dL_law_328 : decode cL_law 328 = .ok (.iaload, 1) := by decide +kernel
theorem dL_law_329 : decode cL_law 329 = .ok (.invokevirtual 47, 3) := by decide +kernel
theorem dL_law_332 : decode cL_law 332 = .ok (.aload_n 2, 1) := by decide +kernel
theorem dL_law_333 : decode cL_law 333 = .ok (.aload_n 0, 1) := by decide +kernel
theorem dL_law_334 : decode cL_law 334 = .ok (.iload 4, 2) := by decide +kernel
theorem dL_law_336 : decode cL_law 336 = .ok (.iconst 1, 1) := by decide +kernel
theorem dL_law_337 : decode cL_law 337 = .ok (.iadd, 1) := by decide +kernel
theorem dL_law_338 : decode cL_law 338 = .ok (.iaload, 1) := by decide +kernel
theorem dL_law_339 : decode cL_law 339 = .ok (.invokevirtual 50, 3) := by decide +kernel
theorem dL_law_342 : decode cL_law 342 = .ok (.if_icmp .eq 361, 3) := by decide +kernel
theorem dL_law_345 : decode cL_law 345 = .ok (.iconst 0, 1) := by decide +kernel
theorem dL_law_346 : decode cL_law 346 = .ok (.ireturn, 1) := by decide +kernel
theorem dL_law_347 : decode cL_law 347 = .ok (.aload_n 1, 1) := by decide +kernel
theorem dL_law_348 : decode cL_law 348 = .ok (.invokevirtual 51, 3) := by decide +kernel
theorem dL_law_351 : decode cL_law 351 = .ok (.aload_n 2, 1) := by decide +kernel
theorem dL_law_352 : decode cL_law 352 = .ok (.invokevirtual 54, 3) := by decide +kernel
theorem dL_law_355 : decode cL_law 355 = .ok (.if_icmp .eq 348, 3) := by decide +kernel
theorem dL_law_358 : decode cL_law 358 = .ok (.iconst 0, 1) := by decide +kernel
theorem dL_law_359 : decode cL_law 359 = .ok (.ireturn, 1) := by decide +kernel
theorem dL_law_360 : decode cL_law 360 = .ok (.aload_n 1, 1) := by decide +kernel
theorem dL_law_361 : decode cL_law 361 = .ok (.invokevirtual 55, 3) := by decide +kernel
theorem dL_law_364 : decode cL_law 364 = .ok (.aload_n 2, 1) := by decide +kernel
theorem dL_law_365 : decode cL_law 365 = .ok (.invokevirtual 58, 3) := by decide +kernel
theorem dL_law_368 : decode cL_law 368 = .ok (.if_icmp .eq 335, 3) := by decide +kernel
theorem dL_law_371 : decode cL_law 371 = .ok (.iconst 0, 1) := by decide +kernel
theorem dL_law_372 : decode cL_law 372 = .ok (.ireturn, 1) := by decide +kernel
theorem dL_law_373 : decode cL_law 373 = .ok (.aload_n 1, 1) := by decide +kernel
theorem dL_law_374 : decode cL_law 374 = .ok (.aload_n 0, 1) := by decide +kernel
theorem dL_law_375 : decode cL_law 375 = .ok (.iload 4, 2) := by decide +kernel
theorem dL_law_377 : decode cL_law 377 = .ok (.iconst 1, 1) := by decide +kernel
theorem dL_law_378 : decode cL_law 378 = .ok (.iadd, 1) := by decide +kernel
theorem dL_law_379 : decode cL_law 379 = .ok (.iaload, 1) := by decide +kernel
theorem dL_law_380 : decode cL_law 380 = .ok (.aload_n 0, 1) := by decide +kernel
theorem dL_law_381 : decode cL_law 381 = .ok (.iload 4, 2) := by decide +kernel
theorem dL_law_383 : decode cL_law 383 = .ok (.iconst 2, 1) := by decide +kernel
theorem dL_law_384 : decode cL_law 384 = .ok (.iadd, 1) := by decide +kernel
theorem dL_law_385 : decode cL_law 385 = .ok (.iaload, 1) := by decide +kernel
theorem dL_law_386 : decode cL_law 386 = .ok (.invokevirtual 59, 3) := by decide +kernel
theorem dL_law_389 : decode cL_law 389 = .ok (.aload_n 2, 1) := by decide +kernel
theorem dL_law_390 : decode cL_law 390 = .ok (.aload_n 0, 1) := by decide +kernel
theorem dL_law_391 : decode cL_law 391 = .ok (.iload 4, 2) := by decide +kernel
theorem dL_law_393 : decode cL_law 393 = .ok (.iconst 1, 1) := by decide +kernel
theorem dL_law_394 : decode cL_law 394 = .ok (.iadd, 1) := by decide +kernel
theorem dL_law_395 : decode cL_law 395 = .ok (.iaload, 1) := by decide +kernel
theorem dL_law_396 : decode cL_law 396 = .ok (.aload_n 0, 1) := by decide +kernel
theorem dL_law_397 : decode cL_law 397 = .ok (.iload 4, 2) := by decide +kernel
theorem dL_law_399 : decode cL_law 399 = .ok (.iconst 2, 1) := by decide +kernel
theorem dL_law_400 : decode cL_law 400 = .ok (.iadd, 1) := by decide +kernel
theorem dL_law_401 : decode cL_law 401 = .ok (.iaload, 1) := by decide +kernel
theorem dL_law_402 : decode cL_law 402 = .ok (.invokevirtual 62, 3) := by decide +kernel
theorem dL_law_405 : decode cL_law 405 = .ok (.if_icmp .eq 298, 3) := by decide +kernel
theorem dL_law_408 : decode cL_law 408 = .ok (.iconst 0, 1) := by decide +kernel
theorem dL_law_409 : decode cL_law 409 = .ok (.ireturn, 1) := by decide +kernel
theorem dL_law_410 : decode cL_law 410 = .ok (.aload_n 1, 1) := by decide +kernel
theorem dL_law_411 : decode cL_law 411 = .ok (.aload_n 0, 1) := by decide +kernel
theorem dL_law_412 : decode cL_law 412 = .ok (.iload 4, 2) := by decide +kernel
theorem dL_law_414 : decode cL_law 414 = .ok (.iconst 1, 1) := by decide +kernel
theorem dL_law_415 : decode cL_law 415 = .ok (.iadd, 1) := by decide +kernel
theorem dL_law_416 : decode cL_law 416 = .ok (.iaload, 1) := by decide +kernel
theorem dL_law_417 : decode cL_law 417 = .ok (.aload_n 0, 1) := by decide +kernel
theorem dL_law_418 : decode cL_law 418 = .ok (.iload 4, 2) := by decide +kernel
theorem dL_law_420 : decode cL_law 420 = .ok (.iconst 2, 1) := by decide +kernel
theorem dL_law_421 : decode cL_law 421 = .ok (.iadd, 1) := by decide +kernel
theorem dL_law_422 : decode cL_law 422 = .ok (.iaload, 1) := by decide +kernel
theorem dL_law_423 : decode cL_law 423 = .ok (.invokevirtual 63, 3) := by decide +kernel
theorem dL_law_426 : decode cL_law 426 = .ok (.aload_n 2, 1) := by decide +kernel
theorem dL_law_427 : decode cL_law 427 = .ok (.aload_n 0, 1) := by decide +kernel
theorem dL_law_428 : decode cL_law 428 = .ok (.iload 4, 2) := by decide +kernel
theorem dL_law_430 : decode cL_law 430 = .ok (.iconst 1, 1) := by decide +kernel
theorem dL_law_431 : decode cL_law 431 = .ok (.iadd, 1) := by decide +kernel
theorem dL_law_432 : decode cL_law 432 = .ok (.iaload, 1) := by decide +kernel
theorem dL_law_433 : decode cL_law 433 = .ok (.aload_n 0, 1) := by decide +kernel
theorem dL_law_434 : decode cL_law 434 = .ok (.iload 4, 2) := by decide +kernel
theorem dL_law_436 : decode cL_law 436 = .ok (.iconst 2, 1) := by decide +kernel
theorem dL_law_437 : decode cL_law 437 = .ok (.iadd, 1) := by decide +kernel
theorem dL_law_438 : decode cL_law 438 = .ok (.iaload, 1) := by decide +kernel
theorem dL_law_439 : decode cL_law 439 = .ok (.invokevirtual 66, 3) := by decide +kernel
theorem dL_law_442 : decode cL_law 442 = .ok (.if_icmp .eq 261, 3) := by decide +kernel
theorem dL_law_445 : decode cL_law 445 = .ok (.iconst 0, 1) := by decide +kernel
theorem dL_law_446 : decode cL_law 446 = .ok (.ireturn, 1) := by decide +kernel
theorem dL_law_447 : decode cL_law 447 = .ok (.aload_n 1, 1) := by decide +kernel
theorem dL_law_448 : decode cL_law 448 = .ok (.aload_n 0, 1) := by decide +kernel
theorem dL_law_449 : decode cL_law 449 = .ok (.iload 4, 2) := by decide +kernel
theorem dL_law_451 : decode cL_law 451 = .ok (.iconst 1, 1) := by decide +kernel
theorem dL_law_452 : decode cL_law 452 = .ok (.iadd, 1) := by decide +kernel
theorem dL_law_453 : decode cL_law 453 = .ok (.iaload, 1) := by decide +kernel
theorem dL_law_454 : decode cL_law 454 = .ok (.invokevirtual 67, 3) := by decide +kernel
theorem dL_law_457 : decode cL_law 457 = .ok (.aload_n 2, 1) := by decide +kernel
theorem dL_law_458 : decode cL_law 458 = .ok (.aload_n 0, 1) := by decide +kernel
theorem dL_law_459 : decode cL_law 459 = .ok (.iload 4, 2) := by decide +kernel
theorem dL_law_461 : decode cL_law 461 = .ok (.iconst 1, 1) := by decide +kernel
theorem dL_law_462 : decode cL_law 462 = .ok (.iadd, 1) := by decide +kernel
theorem dL_law_463 : decode cL_law 463 = .ok (.iaload, 1) := by decide +kernel
theorem dL_law_464 : decode cL_law 464 = .ok (.invokevirtual 70, 3) := by decide +kernel
theorem dL_law_467 : decode cL_law 467 = .ok (.if_icmp .eq 236, 3) := by decide +kernel
theorem dL_law_470 : decode cL_law 470 = .ok (.iconst 0, 1) := by decide +kernel
theorem dL_law_471 : decode cL_law 471 = .ok (.ireturn, 1) := by decide +kernel
theorem dL_law_472 : decode cL_law 472 = .ok (.aload_n 1, 1) := by decide +kernel
theorem dL_law_473 : decode cL_law 473 = .ok (.invokevirtual 71, 3) := by decide +kernel
theorem dL_law_476 : decode cL_law 476 = .ok (.aload_n 2, 1) := by decide +kernel
theorem dL_law_477 : decode cL_law 477 = .ok (.invokevirtual 74, 3) := by decide +kernel
theorem dL_law_480 : decode cL_law 480 = .ok (.if_icmp .eq 223, 3) := by decide +kernel
theorem dL_law_483 : decode cL_law 483 = .ok (.iconst 0, 1) := by decide +kernel
theorem dL_law_484 : decode cL_law 484 = .ok (.ireturn, 1) := by decide +kernel
theorem dL_law_485 : decode cL_law 485 = .ok (.aload_n 1, 1) := by decide +kernel
theorem dL_law_486 : decode cL_law 486 = .ok (.invokevirtual 75, 3) := by decide +kernel
theorem dL_law_489 : decode cL_law 489 = .ok (.aload_n 2, 1) := by decide +kernel
theorem dL_law_490 : decode cL_law 490 = .ok (.invokevirtual 78, 3) := by decide +kernel
theorem dL_law_493 : decode cL_law 493 = .ok (.if_icmp .eq 210, 3) := by decide +kernel
theorem dL_law_496 : decode cL_law 496 = .ok (.iconst 0, 1) := by decide +kernel
theorem dL_law_497 : decode cL_law 497 = .ok (.ireturn, 1) := by decide +kernel
theorem dL_law_498 : decode cL_law 498 = .ok (.aload_n 1, 1) := by decide +kernel
theorem dL_law_499 : decode cL_law 499 = .ok (.aload_n 0, 1) := by decide +kernel
theorem dL_law_500 : decode cL_law 500 = .ok (.iload 4, 2) := by decide +kernel
theorem dL_law_502 : decode cL_law 502 = .ok (.iconst 1, 1) := by decide +kernel
theorem dL_law_503 : decode cL_law 503 = .ok (.iadd, 1) := by decide +kernel
theorem dL_law_504 : decode cL_law 504 = .ok (.iaload, 1) := by decide +kernel
theorem dL_law_505 : decode cL_law 505 = .ok (.invokevirtual 79, 3) := by decide +kernel
theorem dL_law_508 : decode cL_law 508 = .ok (.aload_n 2, 1) := by decide +kernel
theorem dL_law_509 : decode cL_law 509 = .ok (.aload_n 0, 1) := by decide +kernel
theorem dL_law_510 : decode cL_law 510 = .ok (.iload 4, 2) := by decide +kernel
theorem dL_law_512 : decode cL_law 512 = .ok (.iconst 1, 1) := by decide +kernel
theorem dL_law_513 : decode cL_law 513 = .ok (.iadd, 1) := by decide +kernel
theorem dL_law_514 : decode cL_law 514 = .ok (.iaload, 1) := by decide +kernel
theorem dL_law_515 : decode cL_law 515 = .ok (.invokevirtual 82, 3) := by decide +kernel
theorem dL_law_518 : decode cL_law 518 = .ok (.if_icmp .eq 185, 3) := by decide +kernel
theorem dL_law_521 : decode cL_law 521 = .ok (.iconst 0, 1) := by decide +kernel
theorem dL_law_522 : decode cL_law 522 = .ok (.ireturn, 1) := by decide +kernel
theorem dL_law_523 : decode cL_law 523 = .ok (.aload_n 1, 1) := by decide +kernel
theorem dL_law_524 : decode cL_law 524 = .ok (.aload_n 0, 1) := by decide +kernel
theorem dL_law_525 : decode cL_law 525 = .ok (.iload 4, 2) := by decide +kernel
theorem dL_law_527 : decode cL_law 527 = .ok (.iconst 1, 1) := by decide +kernel
theorem dL_law_528 : decode cL_law 528 = .ok (.iadd, 1) := by decide +kernel
theorem dL_law_529 : decode cL_law 529 = .ok (.iaload, 1) := by decide +kernel
theorem dL_law_530 : decode cL_law 530 = .ok (.aload_n 0, 1) := by decide +kernel
theorem dL_law_531 : decode cL_law 531 = .ok (.iload 4, 2) := by decide +kernel
theorem dL_law_533 : decode cL_law 533 = .ok (.iconst 2, 1) := by decide +kernel
theorem dL_law_534 : decode cL_law 534 = .ok (.iadd, 1) := by decide +kernel
theorem dL_law_535 : decode cL_law 535 = .ok (.iaload, 1) := by decide +kernel
theorem dL_law_536 : decode cL_law 536 = .ok (.aload_n 3, 1) := by decide +kernel
theorem dL_law_537 : decode cL_law 537 = .ok (.invokestatic 83, 3) := by decide +kernel
theorem dL_law_540 : decode cL_law 540 = .ok (.istore 5, 2) := by decide +kernel
theorem dL_law_542 : decode cL_law 542 = .ok (.aload_n 2, 1) := by decide +kernel
theorem dL_law_543 : decode cL_law 543 = .ok (.aload_n 0, 1) := by decide +kernel
theorem dL_law_544 : decode cL_law 544 = .ok (.iload 4, 2) := by decide +kernel
theorem dL_law_546 : decode cL_law 546 = .ok (.iconst 1, 1) := by decide +kernel
theorem dL_law_547 : decode cL_law 547 = .ok (.iadd, 1) := by decide +kernel
theorem dL_law_548 : decode cL_law 548 = .ok (.iaload, 1) := by decide +kernel
theorem dL_law_549 : decode cL_law 549 = .ok (.aload_n 0, 1) := by decide +kernel
theorem dL_law_550 : decode cL_law 550 = .ok (.iload 4, 2) := by decide +kernel
theorem dL_law_552 : decode cL_law 552 = .ok (.iconst 2, 1) := by decide +kernel
theorem dL_law_553 : decode cL_law 553 = .ok (.iadd, 1) := by decide +kernel
theorem dL_law_554 : decode cL_law 554 = .ok (.iaload, 1) := by decide +kernel
theorem dL_law_555 : decode cL_law 555 = .ok (.invokevirtual 88, 3) := by decide +kernel
theorem dL_law_558 : decode cL_law 558 = .ok (.lstore 6, 2) := by decide +kernel
theorem dL_law_560 : decode cL_law 560 = .ok (.aload_n 2, 1) := by decide +kernel
theorem dL_law_561 : decode cL_law 561 = .ok (.invokevirtual 89, 3) := by decide +kernel
theorem dL_law_564 : decode cL_law 564 = .ok (.iload 5, 2) := by decide +kernel
theorem dL_law_566 : decode cL_law 566 = .ok (.if_icmp .eq 5, 3) := by decide +kernel
theorem dL_law_569 : decode cL_law 569 = .ok (.iconst 0, 1) := by decide +kernel
theorem dL_law_570 : decode cL_law 570 = .ok (.ireturn, 1) := by decide +kernel
theorem dL_law_571 : decode cL_law 571 = .ok (.iload 5, 2) := by decide +kernel
theorem dL_law_573 : decode cL_law 573 = .ok (.ifCond .ne 14, 3) := by decide +kernel
theorem dL_law_576 : decode cL_law 576 = .ok (.aload_n 3, 1) := by decide +kernel
theorem dL_law_577 : decode cL_law 577 = .ok (.iconst 0, 1) := by decide +kernel
theorem dL_law_578 : decode cL_law 578 = .ok (.laload, 1) := by decide +kernel
theorem dL_law_579 : decode cL_law 579 = .ok (.lload 6, 2) := by decide +kernel
theorem dL_law_581 : decode cL_law 581 = .ok (.lcmp, 1) := by decide +kernel
theorem dL_law_582 : decode cL_law 582 = .ok (.ifCond .eq 5, 3) := by decide +kernel
theorem dL_law_585 : decode cL_law 585 = .ok (.iconst 0, 1) := by decide +kernel
theorem dL_law_586 : decode cL_law 586 = .ok (.ireturn, 1) := by decide +kernel
theorem dL_law_587 : decode cL_law 587 = .ok (.goto 116, 3) := by decide +kernel
theorem dL_law_590 : decode cL_law 590 = .ok (.aload_n 1, 1) := by decide +kernel
theorem dL_law_591 : decode cL_law 591 = .ok (.aload_n 0, 1) := by decide +kernel
theorem dL_law_592 : decode cL_law 592 = .ok (.iload 4, 2) := by decide +kernel
theorem dL_law_594 : decode cL_law 594 = .ok (.iconst 1, 1) := by decide +kernel
theorem dL_law_595 : decode cL_law 595 = .ok (.iadd, 1) := by decide +kernel
theorem dL_law_596 : decode cL_law 596 = .ok (.iaload, 1) := by decide +kernel
theorem dL_law_597 : decode cL_law 597 = .ok (.invokevirtual 92, 3) := by decide +kernel
theorem dL_law_600 : decode cL_law 600 = .ok (.aload_n 2, 1) := by decide +kernel
theorem dL_law_601 : decode cL_law 601 = .ok (.aload_n 0, 1) := by decide +kernel
theorem dL_law_602 : decode cL_law 602 = .ok (.iload 4, 2) := by decide +kernel
theorem dL_law_604 : decode cL_law 604 = .ok (.iconst 1, 1) := by decide +kernel
theorem dL_law_605 : decode cL_law 605 = .ok (.iadd, 1) := by decide +kernel
theorem dL_law_606 : decode cL_law 606 = .ok (.iaload, 1) := by decide +kernel
theorem dL_law_607 : decode cL_law 607 = .ok (.invokevirtual 95, 3) := by decide +kernel
theorem dL_law_610 : decode cL_law 610 = .ok (.if_icmp .eq 93, 3) := by decide +kernel
theorem dL_law_613 : decode cL_law 613 = .ok (.iconst 0, 1) := by decide +kernel
theorem dL_law_614 : decode cL_law 614 = .ok (.ireturn, 1) := by decide +kernel
theorem dL_law_615 : decode cL_law 615 = .ok (.aload_n 1, 1) := by decide +kernel
theorem dL_law_616 : decode cL_law 616 = .ok (.aload_n 0, 1) := by decide +kernel
theorem dL_law_617 : decode cL_law 617 = .ok (.iload 4, 2) := by decide +kernel
theorem dL_law_619 : decode cL_law 619 = .ok (.iconst 1, 1) := by decide +kernel
theorem dL_law_620 : decode cL_law 620 = .ok (.iadd, 1) := by decide +kernel
theorem dL_law_621 : decode cL_law 621 = .ok (.iaload, 1) := by decide +kernel
theorem dL_law_622 : decode cL_law 622 = .ok (.aload_n 0, 1) := by decide +kernel
theorem dL_law_623 : decode cL_law 623 = .ok (.iload 4, 2) := by decide +kernel
theorem dL_law_625 : decode cL_law 625 = .ok (.iconst 2, 1) := by decide +kernel
theorem dL_law_626 : decode cL_law 626 = .ok (.iadd, 1) := by decide +kernel
theorem dL_law_627 : decode cL_law 627 = .ok (.iaload, 1) := by decide +kernel
theorem dL_law_628 : decode cL_law 628 = .ok (.invokevirtual 96, 3) := by decide +kernel
theorem dL_law_631 : decode cL_law 631 = .ok (.aload_n 2, 1) := by decide +kernel
theorem dL_law_632 : decode cL_law 632 = .ok (.aload_n 0, 1) := by decide +kernel
theorem dL_law_633 : decode cL_law 633 = .ok (.iload 4, 2) := by decide +kernel
theorem dL_law_635 : decode cL_law 635 = .ok (.iconst 1, 1) := by decide +kernel
theorem dL_law_636 : decode cL_law 636 = .ok (.iadd, 1) := by decide +kernel
theorem dL_law_637 : decode cL_law 637 = .ok (.iaload, 1) := by decide +kernel
theorem dL_law_638 : decode cL_law 638 = .ok (.aload_n 0, 1) := by decide +kernel
theorem dL_law_639 : decode cL_law 639 = .ok (.iload 4, 2) := by decide +kernel
theorem dL_law_641 : decode cL_law 641 = .ok (.iconst 2, 1) := by decide +kernel
theorem dL_law_642 : decode cL_law 642 = .ok (.iadd, 1) := by decide +kernel
theorem dL_law_643 : decode cL_law 643 = .ok (.iaload, 1) := by decide +kernel
theorem dL_law_644 : decode cL_law 644 = .ok (.invokevirtual 99, 3) := by decide +kernel
theorem dL_law_647 : decode cL_law 647 = .ok (.if_icmp .eq 56, 3) := by decide +kernel
theorem dL_law_650 : decode cL_law 650 = .ok (.iconst 0, 1) := by decide +kernel
theorem dL_law_651 : decode cL_law 651 = .ok (.ireturn, 1) := by decide +kernel
theorem dL_law_652 : decode cL_law 652 = .ok (.aload_n 1, 1) := by decide +kernel
theorem dL_law_653 : decode cL_law 653 = .ok (.aload_n 0, 1) := by decide +kernel
theorem dL_law_654 : decode cL_law 654 = .ok (.iload 4, 2) := by decide +kernel
theorem dL_law_656 : decode cL_law 656 = .ok (.iconst 1, 1) := by decide +kernel
theorem dL_law_657 : decode cL_law 657 = .ok (.iadd, 1) := by decide +kernel
theorem dL_law_658 : decode cL_law 658 = .ok (.iaload, 1) := by decide +kernel
theorem dL_law_659 : decode cL_law 659 = .ok (.invokevirtual 100, 3) := by decide +kernel
theorem dL_law_662 : decode cL_law 662 = .ok (.aload_n 2, 1) := by decide +kernel
theorem dL_law_663 : decode cL_law 663 = .ok (.aload_n 0, 1) := by decide +kernel
theorem dL_law_664 : decode cL_law 664 = .ok (.iload 4, 2) := by decide +kernel
theorem dL_law_666 : decode cL_law 666 = .ok (.iconst 1, 1) := by decide +kernel
theorem dL_law_667 : decode cL_law 667 = .ok (.iadd, 1) := by decide +kernel
theorem dL_law_668 : decode cL_law 668 = .ok (.iaload, 1) := by decide +kernel
theorem dL_law_669 : decode cL_law 669 = .ok (.invokevirtual 103, 3) := by decide +kernel
theorem dL_law_672 : decode cL_law 672 = .ok (.if_icmp .eq 31, 3) := by decide +kernel
theorem dL_law_675 : decode cL_law 675 = .ok (.iconst 0, 1) := by decide +kernel
theorem dL_law_676 : decode cL_law 676 = .ok (.ireturn, 1) := by decide +kernel
theorem dL_law_677 : decode cL_law 677 = .ok (.aload_n 1, 1) := by decide +kernel
theorem dL_law_678 : decode cL_law 678 = .ok (.invokevirtual 104, 3) := by decide +kernel
theorem dL_law_681 : decode cL_law 681 = .ok (.aload_n 2, 1) := by decide +kernel
theorem dL_law_682 : decode cL_law 682 = .ok (.invokevirtual 107, 3) := by decide +kernel
theorem dL_law_685 : decode cL_law 685 = .ok (.if_icmp .eq 18, 3) := by decide +kernel
theorem dL_law_688 : decode cL_law 688 = .ok (.iconst 0, 1) := by decide +kernel
theorem dL_law_689 : decode cL_law 689 = .ok (.ireturn, 1) := by decide +kernel
theorem dL_law_690 : decode cL_law 690 = .ok (.aload_n 1, 1) := by decide +kernel
theorem dL_law_691 : decode cL_law 691 = .ok (.invokevirtual 108, 3) := by decide +kernel
theorem dL_law_694 : decode cL_law 694 = .ok (.aload_n 2, 1) := by decide +kernel
theorem dL_law_695 : decode cL_law 695 = .ok (.invokevirtual 111, 3) := by decide +kernel
theorem dL_law_698 : decode cL_law 698 = .ok (.if_icmp .eq 5, 3) := by decide +kernel
theorem dL_law_701 : decode cL_law 701 = .ok (.iconst 0, 1) := by decide +kernel
theorem dL_law_702 : decode cL_law 702 = .ok (.ireturn, 1) := by decide +kernel
