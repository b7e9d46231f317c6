theorem dX9_readFilters_19 : decode cX9_readFilters 19 = .ok (.aload_n 0, 1) := by decide +kernel
theorem dX9_readFilters_20 : decode cX9_readFilters 20 = .ok (.getfield 12, 3) := by decide +kernel
theorem dX9_readFilters_23 : decode cX9_readFilters 23 = .ok (.iconst 1, 1) := by decide +kernel
theorem dX9_readFilters_24 : decode cX9_readFilters 24 = .ok (.invokevirtual 81, 3) := by decide +kernel
theorem dX9_readFilters_27 : decode cX9_readFilters 27 = .ok (.iconst 0, 1) := by decide +kernel
theorem dX9_readFilters_28 : decode cX9_readFilters 28 = .ok (.istore_n 1, 1) := by decide +kernel
theorem dX9_readFilters_29 : decode cX9_readFilters 29 = .ok (.iload_n 1, 1) := by decide +kernel
theorem dX9_readFilters_30 : decode cX9_readFilters 30 = .ok (.aload_n 0, 1) := by decide +kernel
theorem dX9_readFilters_31 : decode cX9_readFilters 31 = .ok (.getfield 54, 3) := by decide +kernel
theorem dX9_readFilters_34 : decode cX9_readFilters 34 = .ok (.if_icmp .ge 86, 3) := by decide +kernel
theorem dX9_readFilters_37 : decode cX9_readFilters 37 = .ok (.iload_n 1, 1) := by decide +kernel
theorem dX9_readFilters_38 : decode cX9_readFilters 38 = .ok (.iconst 2, 1) := by decide +kernel
theorem dX9_readFilters_39 : decode cX9_readFilters 39 = .ok (.if_icmp .ge 81, 3) := by decide +kernel
theorem dX9_readFilters_42 : decode cX9_readFilters 42 = .ok (.aload_n 0, 1) := by decide +kernel
theorem dX9_readFilters_43 : decode cX9_readFilters 43 = .ok (.getfield 18, 3) := by decide +kernel
theorem dX9_readFilters_46 : decode cX9_readFilters 46 = .ok (.iload_n 1, 1) := by decide +kernel
theorem dX9_readFilters_47 : decode cX9_readFilters 47 = .ok (.aload_n 0, 1) := by decide +kernel
theorem dX9_readFilters_48 : decode cX9_readFilters 48 = .ok (.getfield 12, 3) := by decide +kernel
theorem dX9_readFilters_51 : decode cX9_readFilters 51 = .ok (.invokevirtual 78, 3) := by decide +kernel
theorem dX9_readFilters_54 : decode cX9_readFilters 54 = .ok (.iastore, 1) := by decide +kernel
theorem dX9_readFilters_55 : decode cX9_readFilters 55 = .ok (.aload_n 0, 1) := by decide +kernel
theorem dX9_readFilters_56 : decode cX9_readFilters 56 = .ok (.getfield 18, 3) := by decide +kernel
theorem dX9_readFilters_59 : decode cX9_readFilters 59 = .ok (.iload_n 1, 1) := by decide +kernel
theorem dX9_readFilters_60 : decode cX9_readFilters 60 = .ok (.iaload, 1) := by decide +kernel
theorem dX9_readFilters_61 : decode cX9_readFilters 61 = .ok (.invokestatic 84, 3) := by decide +kernel
theorem dX9_readFilters_64 : decode cX9_readFilters 64 = .ok (.ifCond .ne 11, 3) := by decide +kernel
theorem dX9_readFilters_67 : decode cX9_readFilters 67 = .ok (.aload_n 0, 1) := by decide +kernel
theorem dX9_readFilters_68 : decode cX9_readFilters 68 = .ok (.getfield 12, 3) := by decide +kernel
theorem dX9_readFilters_71 : decode cX9_readFilters 71 = .ok (.iconst 1, 1) := by decide +kernel
theorem dX9_readFilters_72 : decode cX9_readFilters 72 = .ok (.invokevirtual 81, 3) := by decide +kernel
theorem dX9_readFilters_75 : decode cX9_readFilters 75 = .ok (.aload_n 0, 1) := by decide +kernel
theorem dX9_readFilters_76 : decode cX9_readFilters 76 = .ok (.getfield 22, 3) := by decide +kernel
theorem dX9_readFilters_79 : decode cX9_readFilters 79 = .ok (.iload_n 1, 1) := by decide +kernel
theorem dX9_readFilters_80 : decode cX9_readFilters 80 = .ok (.aload_n 0, 1) := by decide +kernel
theorem dX9_readFilters_81 : decode cX9_readFilters 81 = .ok (.getfield 12, 3) := by decide +kernel
theorem dX9_readFilters_84 : decode cX9_readFilters 84 = .ok (.invokevirtual 78, 3) := by decide +kernel
theorem dX9_readFilters_87 : decode cX9_readFilters 87 = .ok (.iastore, 1) := by decide +kernel
theorem dX9_readFilters_88 : decode cX9_readFilters 88 = .ok (.aload_n 0, 1) := by decide +kernel
theorem dX9_readFilters_89 : decode cX9_readFilters 89 = .ok (.getfield 18, 3) := by decide +kernel
theorem dX9_readFilters_92 : decode cX9_readFilters 92 = .ok (.iload_n 1, 1) := by decide +kernel
theorem dX9_readFilters_93 : decode cX9_readFilters 93 = .ok (.iaload, 1) := by decide +kernel
theorem dX9_readFilters_94 : decode cX9_readFilters 94 = .ok (.aload_n 0, 1) := by decide +kernel
theorem dX9_readFilters_95 : decode cX9_readFilters 95 = .ok (.getfield 22, 3) := by decide +kernel
theorem dX9_readFilters_98 : decode cX9_readFilters 98 = .ok (.iload_n 1, 1) := by decide +kernel
theorem dX9_readFilters_99 : decode cX9_readFilters 99 = .ok (.iaload, 1) := by decide +kernel
theorem dX9_readFilters_100 : decode cX9_readFilters 100 = .ok (.invokestatic 88, 3) := by decide +kernel
theorem dX9_readFilters_103 : decode cX9_readFilters 103 = .ok (.ifCond .ne 11, 3) := by decide +kernel
theorem dX9_readFilters_106 : decode cX9_readFilters 106 = .ok (.aload_n 0, 1) := by decide +kernel
theorem dX9_readFilters_107 : decode cX9_readFilters 107 = .ok (.getfield 12, 3) := by decide +kernel
theorem dX9_readFilters_110 : decode cX9_readFilters 110 = .ok (.iconst 1, 1) := by decide +kernel
theorem dX9_readFilters_111 : decode cX9_readFilters 111 = .ok (.invokevirtual 81, 3) := by decide +kernel
theorem dX9_readFilters_114 : decode cX9_readFilters 114 = .ok (.iinc 1 1, 3) := by decide +kernel
theorem dX9_readFilters_117 : decode cX9_readFilters 117 = .ok (.goto (-88), 3) := by decide +kernel
theorem dX9_readFilters_120 : decode cX9_readFilters 120 = .ok (.return_, 1) := by decide +kernel
theorem dX9_readBody_0 : decode cX9_readBody 0 = .ok (.aload_n 0, 1) := by decide +kernel
theorem dX9_readBody_1 : decode cX9_readBody 1 = .ok (.getfield 12, 3) := by decide +kernel
theorem dX9_readBody_4 : decode cX9_readBody 4 = .ok (.invokevirtual 92, 3) := by decide +kernel
theorem dX9_readBody_7 : decode cX9_readBody 7 = .ok (.ifCond .eq 10, 3) := by decide +kernel
theorem dX9_readBody_10 : decode cX9_readBody 10 = .ok (.aload_n 0, 1) := by decide +kernel
theorem dX9_readBody_11 : decode cX9_readBody 11 = .ok (.getfield 61, 3) := by decide +kernel
theorem dX9_readBody_14 : decode cX9_readBody 14 = .ok (.ifCond .ne 4, 3) := by decide +kernel
theorem dX9_readBody_17 : decode cX9_readBody 17 = .ok (.return_, 1) := by decide +kernel
theorem dX9_readBody_18 : decode cX9_readBody 18 = .ok (.aload_n 0, 1) := by decide +kernel
theorem dX9_readBody_19 : decode cX9_readBody 19 = .ok (.getfield 58, 3) := by decide +kernel
theorem dX9_readBody_22 : decode cX9_readBody 22 = .ok (.tableswitch 51 1 4 #[30, 37, 44, 30], 30) := by decide +kernel
theorem dX9_readBody_52 : decode cX9_readBody 52 = .ok (.aload_n 0, 1) := by decide +kernel
theorem dX9_readBody_53 : decode cX9_readBody 53 = .ok (.invokevirtual 96, 3) := by decide +kernel
theorem dX9_readBody_56 : decode cX9_readBody 56 = .ok (.goto 25, 3) := by decide +kernel
theorem dX9_readBody_59 : decode cX9_readBody 59 = .ok (.aload_n 0, 1) := by decide +kernel
theorem dX9_readBody_60 : decode cX9_readBody 60 = .ok (.invokevirtual 99, 3) := by decide +kernel
theorem dX9_readBody_63 : decode cX9_readBody 63 = .ok (.goto 18, 3) := by decide +kernel
theorem dX9_readBody_66 : decode cX9_readBody 66 = .ok (.aload_n 0, 1) := by decide +kernel
theorem dX9_readBody_67 : decode cX9_readBody 67 = .ok (.invokevirtual 102, 3) := by decide +kernel
theorem dX9_readBody_70 : decode cX9_readBody 70 = .ok (.goto 11, 3) := by decide +kernel
theorem dX9_readBody_73 : decode cX9_readBody 73 = .ok (.aload_n 0, 1) := by decide +kernel
theorem dX9_readBody_74 : decode cX9_readBody 74 = .ok (.aload_n 0, 1) := by decide +kernel
theorem dX9_readBody_75 : decode cX9_readBody 75 = .ok (.getfield 61, 3) := by decide +kernel
theorem dX9_readBody_78 : decode cX9_readBody 78 = .ok (.invokevirtual 105, 3) := by decide +kernel
theorem dX9_readBody_81 : decode cX9_readBody 81 = .ok (.return_, 1) := by decide +kernel
theorem dX9_finish_0 : decode cX9_finish 0 = .ok (.aload_n 0, 1) := by decide +kernel
theorem dX9_finish_1 : decode cX9_finish 1 = .ok (.getfield 12, 3) := by decide +kernel
theorem dX9_finish_4 : decode cX9_finish 4 = .ok (.invokevirtual 108, 3) := by decide +kernel
theorem dX9_finish_7 : decode cX9_finish 7 = .ok (.aload_n 0, 1) := by decide +kernel
theorem dX9_finish_8 : decode cX9_finish 8 = .ok (.getfield 12, 3) := by decide +kernel
theorem dX9_finish_11 : decode cX9_finish 11 = .ok (.invokevirtual 92, 3) := by decide +kernel
theorem dX9_finish_14 : decode cX9_finish 14 = .ok (.ifCond .eq 15, 3) := by decide +kernel
theorem dX9_finish_17 : decode cX9_finish 17 = .ok (.aload_n 0, 1) := by decide +kernel
theorem dX9_finish_18 : decode cX9_finish 18 = .ok (.invokevirtual 111, 3) := by decide +kernel
theorem dX9_finish_21 : decode cX9_finish 21 = .ok (.aload_n 1, 1) := by decide +kernel
theorem dX9_finish_22 : decode cX9_finish 22 = .ok (.aload_n 0, 1) := by decide +kernel
theorem dX9_finish_23 : decode cX9_finish 23 = .ok (.getfield 47, 3) := by decide +kernel
theorem dX9_finish_26 : decode cX9_finish 26 = .ok (.invokevirtual 114, 3) := by decide +kernel
theorem dX9_finish_29 : decode cX9_finish 29 = .ok (.aload_n 0, 1) := by decide +kernel
theorem dX9_finish_30 : decode cX9_finish 30 = .ok (.getfield 12, 3) := by decide +kernel
theorem dX9_finish_33 : decode cX9_finish 33 = .ok (.invokevirtual 117, 3) := by decide +kernel
theorem dX9_finish_36 : decode cX9_finish 36 = .ok (.ireturn, 1) := by decide +kernel
theorem dX9_copy_0 : decode cX9_copy 0 = .ok (.iconst 0, 1) := by decide +kernel
theorem dX9_copy_1 : decode cX9_copy 1 = .ok (.istore_n 2, 1) := by decide +kernel
theorem dX9_copy_2 : decode cX9_copy 2 = .ok (.iload_n 2, 1) := by decide +kernel
theorem dX9_copy_3 : decode cX9_copy 3 = .ok (.iload_n 1, 1) := by decide +kernel
theorem dX9_copy_4 : decode cX9_copy 4 = .ok (.if_icmp .ge 33, 3) := by decide +kernel
theorem dX9_copy_7 : decode cX9_copy 7 = .ok (.aload_n 0, 1) := by decide +kernel
theorem dX9_copy_8 : decode cX9_copy 8 = .ok (.getfield 12, 3) := by decide +kernel
theorem dX9_copy_11 : decode cX9_copy 11 = .ok (.invokevirtual 92, 3) := by decide +kernel
theorem dX9_copy_14 : decode cX9_copy 14 = .ok (.ifCond .eq 23, 3) := by decide +kernel
theorem dX9_copy_17 : decode cX9_copy 17 = .ok (.aload_n 0, 1) := by decide +kernel
theorem dX9_copy_18 : decode cX9_copy 18 = .ok (.getfield 47, 3) := by decide +kernel
theorem dX9_copy_21 : decode cX9_copy 21 = .ok (.aload_n 0, 1) := by decide +kernel
theorem dX9_copy_22 : decode cX9_copy 22 = .ok (.getfield 12, 3) := by decide +kernel
theorem dX9_copy_25 : decode cX9_copy 25 = .ok (.invokevirtual 78, 3) := by decide +kernel
theorem dX9_copy_28 : decode cX9_copy 28 = .ok (.invokevirtual 120, 3) := by decide +kernel
theorem dX9_copy_31 : decode cX9_copy 31 = .ok (.iinc 2 1, 3) := by decide +kernel
theorem dX9_copy_34 : decode cX9_copy 34 = .ok (.goto (-32), 3) := by decide +kernel
theorem dX9_copy_37 : decode cX9_copy 37 = .ok (.return_, 1) := by decide +kernel
theorem dX9_readItems_0 : decode cX9_readItems 0 = .ok (.aload_n 0, 1) := by decide +kernel
theorem dX9_readItems_1 : decode cX9_readItems 1 = .ok (.getfield 58, 3) := by decide +kernel
theorem dX9_readItems_4 : decode cX9_readItems 4 = .ok (.iconst 1, 1) := by decide +kernel
theorem dX9_readItems_5 : decode cX9_readItems 5 = .ok (.if_icmp .ne 8, 3) := by decide +kernel
theorem dX9_readItems_8 : decode cX9_readItems 8 = .ok (.bipush 126, 2) := by decide +kernel
theorem dX9_readItems_10 : decode cX9_readItems 10 = .ok (.goto 5, 3) := by decide +kernel
theorem dX9_readItems_13 : decode cX9_readItems 13 = .ok (.bipush 125, 2) := by decide +kernel
theorem dX9_readItems_15 : decode cX9_readItems 15 = .ok (.istore_n 1, 1) := by decide +kernel
theorem dX9_readItems_16 : decode cX9_readItems 16 = .ok (.iconst 0, 1) := by decide +kernel
theorem dX9_readItems_17 : decode cX9_readItems 17 = .ok (.istore_n 2, 1) := by decide +kernel
theorem dX9_readItems_18 : decode cX9_readItems 18 = .ok (.iload_n 2, 1) := by decide +kernel
theorem dX9_readItems_19 : decode cX9_readItems 19 = .ok (.aload_n 0, 1) := by decide +kernel
theorem dX9_readItems_20 : decode cX9_readItems 20 = .ok (.getfield 61, 3) := by decide +kernel
theorem dX9_readItems_23 : decode cX9_readItems 23 = .ok (.if_icmp .ge 123, 3) := by decide +kernel
theorem dX9_readItems_26 : decode cX9_readItems 26 = .ok (.aload_n 0, 1) := by decide +kernel
theorem dX9_readItems_27 : decode cX9_readItems 27 = .ok (.getfield 47, 3) := by decide +kernel
theorem dX9_readItems_30 : decode cX9_readItems 30 = .ok (.invokevirtual 123, 3) := by decide +kernel
theorem dX9_readItems_33 : decode cX9_readItems 33 = .ok (.aload_n 0, 1) := by decide +kernel
theorem dX9_readItems_34 : decode cX9_readItems 34 = .ok (.getfield 61, 3) := by decide +kernel
theorem dX9_readItems_37 : decode cX9_readItems 37 = .ok (.if_icmp .ge 109, 3) := by decide +kernel
theorem dX9_readItems_40 : decode cX9_readItems 40 = .ok (.aload_n 0, 1) := by decide +kernel
theorem dX9_readItems_41 : decode cX9_readItems 41 = .ok (.getfield 12, 3) := by decide +kernel
theorem dX9_readItems_44 : decode cX9_readItems 44 = .ok (.invokevirtual 92, 3) := by decide +kernel
theorem dX9_readItems_47 : decode cX9_readItems 47 = .ok (.ifCond .eq 99, 3) := by decide +kernel
theorem dX9_readItems_50 : decode cX9_readItems 50 = .ok (.aload_n 0, 1) := by decide +kernel
theorem dX9_readItems_51 : decode cX9_readItems 51 = .ok (.getfield 12, 3) := by decide +kernel
theorem dX9_readItems_54 : decode cX9_readItems 54 = .ok (.invokevirtual 78, 3) := by decide +kernel
theorem dX9_readItems_57 : decode cX9_readItems 57 = .ok (.istore_n 3, 1) := by decide +kernel
theorem dX9_readItems_58 : decode cX9_readItems 58 = .ok (.iload_n 3, 1) := by decide +kernel
theorem dX9_readItems_59 : decode cX9_readItems 59 = .ok (.sipush 128, 3) := by decide +kernel
theorem dX9_readItems_62 : decode cX9_readItems 62 = .ok (.if_icmp .ge 9, 3) := by decide +kernel
theorem dX9_readItems_65 : decode cX9_readItems 65 = .ok (.iload_n 3, 1) := by decide +kernel
theorem dX9_readItems_66 : decode cX9_readItems 66 = .ok (.iconst 1, 1) := by decide +kernel
theorem dX9_readItems_67 : decode cX9_readItems 67 = .ok (.iadd, 1) := by decide +kernel
theorem dX9_readItems_68 : decode cX9_readItems 68 = .ok (.goto 6, 3) := by decide +kernel
theorem dX9_readItems_71 : decode cX9_readItems 71 = .ok (.iload_n 3, 1) := by decide +kernel
theorem dX9_readItems_72 : decode cX9_readItems 72 = .ok (.iload_n 1, 1) := by decide +kernel
theorem dX9_readItems_73 : decode cX9_readItems 73 = .ok (.isub, 1) := by decide +kernel
theorem dX9_readItems_74 : decode cX9_readItems 74 = .ok (.istore 4, 2) := by decide +kernel
theorem dX9_readItems_76 : decode cX9_readItems 76 = .ok (.iload 4, 2) := by decide +kernel
theorem dX9_readItems_78 : decode cX9_readItems 78 = .ok (.aload_n 0, 1) := by decide +kernel
theorem dX9_readItems_79 : decode cX9_readItems 79 = .ok (.getfield 61, 3) := by decide +kernel
theorem dX9_readItems_82 : decode cX9_readItems 82 = .ok (.aload_n 0, 1) := by decide +kernel
theorem dX9_readItems_83 : decode cX9_readItems 83 = .ok (.getfield 47, 3) := by decide +kernel
theorem dX9_readItems_86 : decode cX9_readItems 86 = .ok (.invokevirtual 123, 3) := by decide +kernel
theorem dX9_readItems_89 : decode cX9_readItems 89 = .ok (.isub, 1) := by decide +kernel
theorem dX9_readItems_90 : decode cX9_readItems 90 = .ok (.if_icmp .le 11, 3) := by decide +kernel
theorem dX9_readItems_93 : decode cX9_readItems 93 = .ok (.aload_n 0, 1) := by decide +kernel
theorem dX9_readItems_94 : decode cX9_readItems 94 = .ok (.getfield 12, 3) := by decide +kernel
theorem dX9_readItems_97 : decode cX9_readItems 97 = .ok (.iconst 4, 1) := by decide +kernel
theorem dX9_readItems_98 : decode cX9_readItems 98 = .ok (.invokevirtual 81, 3) := by decide +kernel
theorem dX9_readItems_101 : decode cX9_readItems 101 = .ok (.iload_n 3, 1) := by decide +kernel
theorem dX9_readItems_102 : decode cX9_readItems 102 = .ok (.sipush 128, 3) := by decide +kernel
theorem dX9_readItems_105 : decode cX9_readItems 105 = .ok (.if_icmp .ge 12, 3) := by decide +kernel
theorem dX9_readItems_108 : decode cX9_readItems 108 = .ok (.aload_n 0, 1) := by decide +kernel
theorem dX9_readItems_109 : decode cX9_readItems 109 = .ok (.iload 4, 2) := by decide +kernel
theorem dX9_readItems_111 : decode cX9_readItems 111 = .ok (.invokevirtual 105, 3) := by decide +kernel
theorem dX9_readItems_114 : decode cX9_readItems 114 = .ok (.goto 26, 3) := by decide +kernel
theorem dX9_readItems_117 : decode cX9_readItems 117 = .ok (.aload_n 0, 1) := by decide +kernel
theorem dX9_readItems_118 : decode cX9_readItems 118 = .ok (.getfield 58, 3) := by decide +kernel
theorem dX9_readItems_121 : decode cX9_readItems 121 = .ok (.iconst 1, 1) := by decide +kernel
theorem dX9_readItems_122 : decode cX9_readItems 122 = .ok (.if_icmp .ne 12, 3) := by decide +kernel
theorem dX9_readItems_125 : decode cX9_readItems 125 = .ok (.aload_n 0, 1) := by decide +kernel
theorem dX9_readItems_126 : decode cX9_readItems 126 = .ok (.iload 4, 2) := by decide +kernel
theorem dX9_readItems_128 : decode cX9_readItems 128 = .ok (.invokevirtual 125, 3) := by decide +kernel
theorem dX9_readItems_131 : decode cX9_readItems 131 = .ok (.goto 9, 3) := by decide +kernel
theorem dX9_readItems_134 : decode cX9_readItems 134 = .ok (.aload_n 0, 1) := by decide +kernel
theorem dX9_readItems_135 : decode cX9_readItems 135 = .ok (.iload 4, 2) := by decide +kernel
theorem dX9_readItems_137 : decode cX9_readItems 137 = .ok (.invokevirtual 128, 3) := by decide +kernel
theorem dX9_readItems_140 : decode cX9_readItems 140 = .ok (.iinc 2 1, 3) := by decide +kernel
theorem dX9_readItems_143 : decode cX9_readItems 143 = .ok (.goto (-125), 3) := by decide +kernel
theorem dX9_readItems_146 : decode cX9_readItems 146 = .ok (.return_, 1) := by decide +kernel
theorem dX9_repeat_0 : decode cX9_repeat 0 = .ok (.aload_n 0, 1) := by decide +kernel
theorem dX9_repeat_1 : decode cX9_repeat 1 = .ok (.getfield 12, 3) := by decide +kernel
theorem dX9_repeat_4 : decode cX9_repeat 4 = .ok (.invokevirtual 78, 3) := by decide +kernel
theorem dX9_repeat_7 : decode cX9_repeat 7 = .ok (.istore_n 2, 1) := by decide +kernel
theorem dX9_repeat_8 : decode cX9_repeat 8 = .ok (.iconst 0, 1) := by decide +kernel
theorem dX9_repeat_9 : decode cX9_repeat 9 = .ok (.istore_n 3, 1) := by decide +kernel
theorem dX9_repeat_10 : decode cX9_repeat 10 = .ok (.iload_n 3, 1) := by decide +kernel
theorem dX9_repeat_11 : decode cX9_repeat 11 = .ok (.iload_n 1, 1) := by decide +kernel
theorem dX9_repeat_12 : decode cX9_repeat 12 = .ok (.if_icmp .ge 27, 3) := by decide +kernel
theorem dX9_repeat_15 : decode cX9_repeat 15 = .ok (.aload_n 0, 1) := by decide +kernel
theorem dX9_repeat_16 : decode cX9_repeat 16 = .ok (.getfield 12, 3) := by decide +kernel
theorem dX9_repeat_19 : decode cX9_repeat 19 = .ok (.invokevirtual 92, 3) := by decide +kernel
theorem dX9_repeat_22 : decode cX9_repeat 22 = .ok (.ifCond .eq 17, 3) := by decide +kernel
theorem dX9_repeat_25 : decode cX9_repeat 25 = .ok (.aload_n 0, 1) := by decide +kernel
theorem dX9_repeat_26 : decode cX9_repeat 26 = .ok (.getfield 47, 3) := by decide +kernel
theorem dX9_repeat_29 : decode cX9_repeat 29 = .ok (.iload_n 2, 1) := by decide +kernel
theorem dX9_repeat_30 : decode cX9_repeat 30 = .ok (.invokevirtual 120, 3) := by decide +kernel
theorem dX9_repeat_33 : decode cX9_repeat 33 = .ok (.iinc 3 1, 3) := by decide +kernel
theorem dX9_repeat_36 : decode cX9_repeat 36 = .ok (.goto (-26), 3) := by decide +kernel
theorem dX9_repeat_39 : decode cX9_repeat 39 = .ok (.return_, 1) := by decide +kernel
theorem dX9_copyBack_0 : decode cX9_copyBack 0 = .ok (.aload_n 0, 1) := by decide +kernel
theorem dX9_copyBack_1 : decode cX9_copyBack 1 = .ok (.getfield 12, 3) := by decide +kernel
theorem dX9_copyBack_4 : decode cX9_copyBack 4 = .ok (.invokevirtual 78, 3) := by decide +kernel
theorem dX9_copyBack_7 : decode cX9_copyBack 7 = .ok (.istore_n 2, 1) := by decide +kernel
theorem dX9_copyBack_8 : decode cX9_copyBack 8 = .ok (.iload_n 2, 1) := by decide +kernel
theorem dX9_copyBack_9 : decode cX9_copyBack 9 = .ok (.ifCond .eq 14, 3) := by decide +kernel
theorem dX9_copyBack_12 : decode cX9_copyBack 12 = .ok (.iload_n 2, 1) := by decide +kernel
theorem dX9_copyBack_13 : decode cX9_copyBack 13 = .ok (.aload_n 0, 1) := by decide +kernel
theorem dX9_copyBack_14 : decode cX9_copyBack 14 = .ok (.getfield 47, 3) := by decide +kernel
theorem dX9_copyBack_17 : decode cX9_copyBack 17 = .ok (.invokevirtual 123, 3) := by decide +kernel
theorem dX9_copyBack_20 : decode cX9_copyBack 20 = .ok (.if_icmp .le 11, 3) := by decide +kernel
theorem dX9_copyBack_23 : decode cX9_copyBack 23 = .ok (.aload_n 0, 1) := by decide +kernel
theorem dX9_copyBack_24 : decode cX9_copyBack 24 = .ok (.getfield 12, 3) := by decide +kernel
theorem dX9_copyBack_27 : decode cX9_copyBack 27 = .ok (.iconst 4, 1) := by decide +kernel
theorem dX9_copyBack_28 : decode cX9_copyBack 28 = .ok (.invokevirtual 81, 3) := by decide +kernel
theorem dX9_copyBack_31 : decode cX9_copyBack 31 = .ok (.iconst 0, 1) := by decide +kernel
theorem dX9_copyBack_32 : decode cX9_copyBack 32 = .ok (.istore_n 3, 1) := by decide +kernel
theorem dX9_copyBack_33 : decode cX9_copyBack 33 = .ok (.iload_n 3, 1) := by decide +kernel
theorem dX9_copyBack_34 : decode cX9_copyBack 34 = .ok (.iload_n 1, 1) := by decide +kernel
theorem dX9_copyBack_35 : decode cX9_copyBack 35 = .ok (.if_icmp .ge 42, 3) := by decide +kernel
theorem dX9_copyBack_38 : decode cX9_copyBack 38 = .ok (.aload_n 0, 1) := by decide +kernel
theorem dX9_copyBack_39 : decode cX9_copyBack 39 = .ok (.getfield 12, 3) := by decide +kernel
theorem dX9_copyBack_42 : decode cX9_copyBack 42 = .ok (.invokevirtual 92, 3) := by decide +kernel
theorem dX9_copyBack_45 : decode cX9_copyBack 45 = .ok (.ifCond .eq 32, 3) := by decide +kernel
theorem dX9_copyBack_48 : decode cX9_copyBack 48 = .ok (.aload_n 0, 1) := by decide +kernel
theorem dX9_copyBack_49 : decode cX9_copyBack 49 = .ok (.getfield 47, 3) := by decide +kernel
theorem dX9_copyBack_52 : decode cX9_copyBack 52 = .ok (.aload_n 0, 1) := by decide +kernel
theorem dX9_copyBack_53 : decode cX9_copyBack 53 = .ok (.getfield 47, 3) := by decide +kernel
theorem dX9_copyBack_56 : decode cX9_copyBack 56 = .ok (.aload_n 0, 1) := by decide +kernel
theorem dX9_copyBack_57 : decode cX9_copyBack 57 = .ok (.getfield 47, 3) := by decide +kernel
theorem dX9_copyBack_60 : decode cX9_copyBack 60 = .ok (.invokevirtual 123, 3) := by decide +kernel
theorem dX9_copyBack_63 : decode cX9_copyBack 63 = .ok (.iload_n 2, 1) := by decide +kernel
theorem dX9_copyBack_64 : decode cX9_copyBack 64 = .ok (.isub, 1) := by decide +kernel
theorem dX9_copyBack_65 : decode cX9_copyBack 65 = .ok (.invokevirtual 131, 3) := by decide +kernel
theorem dX9_copyBack_68 : decode cX9_copyBack 68 = .ok (.invokevirtual 120, 3) := by decide +kernel
theorem dX9_copyBack_71 : decode cX9_copyBack 71 = .ok (.iinc 3 1, 3) := by decide +kernel
theorem dX9_copyBack_74 : decode cX9_copyBack 74 = .ok (.goto (-41), 3) := by decide +kernel
theorem dX9_copyBack_77 : decode cX9_copyBack 77 = .ok (.return_, 1) := by decide +kernel
theorem dX9_readBits_0 : decode cX9_readBits 0 = .ok (.aload_n 0, 1) := by decide +kernel
theorem dX9_readBits_1 : decode cX9_readBits 1 = .ok (.getfield 12, 3) := by decide +kernel
theorem dX9_readBits_4 : decode cX9_readBits 4 = .ok (.invokevirtual 78, 3) := by decide +kernel
theorem dX9_readBits_7 : decode cX9_readBits 7 = .ok (.iconst 1, 1) := by decide +kernel
theorem dX9_readBits_8 : decode cX9_readBits 8 = .ok (.iadd, 1) := by decide +kernel
theorem dX9_readBits_9 : decode cX9_readBits 9 = .ok (.istore_n 1, 1) := by decide +kernel
theorem dX9_readBits_10 : decode cX9_readBits 10 = .ok (.iconst (-1), 1) := by decide +kernel
theorem dX9_readBits_11 : decode cX9_readBits 11 = .ok (.istore_n 2, 1) := by decide +kernel
theorem dX9_readBits_12 : decode cX9_readBits 12 = .ok (.iconst 0, 1) := by decide +kernel
theorem dX9_readBits_13 : decode cX9_readBits 13 = .ok (.istore_n 3, 1) := by decide +kernel
theorem dX9_readBits_14 : decode cX9_readBits 14 = .ok (.iload_n 3, 1) := by decide +kernel
theorem dX9_readBits_15 : decode cX9_readBits 15 = .ok (.iload_n 1, 1) := by decide +kernel
theorem dX9_readBits_16 : decode cX9_readBits 16 = .ok (.if_icmp .ge 39, 3) := by decide +kernel
theorem dX9_readBits_19 : decode cX9_readBits 19 = .ok (.iload_n 3, 1) := by decide +kernel
theorem dX9_readBits_20 : decode cX9_readBits 20 = .ok (.sipush 256, 3) := by decide +kernel
theorem dX9_readBits_23 : decode cX9_readBits 23 = .ok (.if_icmp .ge 32, 3) := by decide +kernel
theorem dX9_readBits_26 : decode cX9_readBits 26 = .ok (.aload_n 0, 1) := by decide +kernel
theorem dX9_readBits_27 : decode cX9_readBits 27 = .ok (.getfield 12, 3) := by decide +kernel
theorem dX9_readBits_30 : decode cX9_readBits 30 = .ok (.invokevirtual 92, 3) := by decide +kernel
theorem dX9_readBits_33 : decode cX9_readBits 33 = .ok (.ifCond .eq 22, 3) := by decide +kernel
theorem dX9_readBits_36 : decode cX9_readBits 36 = .ok (.aload_n 0, 1) := by decide +kernel
theorem dX9_readBits_37 : decode cX9_readBits 37 = .ok (.iload_n 2, 1) := by decide +kernel
theorem dX9_readBits_38 : decode cX9_readBits 38 = .ok (.invokevirtual 135, 3) := by decide +kernel
theorem dX9_readBits_41 : decode cX9_readBits 41 = .ok (.istore_n 2, 1) := by decide +kernel
theorem dX9_readBits_42 : decode cX9_readBits 42 = .ok (.aload_n 0, 1) := by decide +kernel
theorem dX9_readBits_43 : decode cX9_readBits 43 = .ok (.getfield 25, 3) := by decide +kernel
theorem dX9_readBits_46 : decode cX9_readBits 46 = .ok (.iload_n 3, 1) := by decide +kernel
theorem dX9_readBits_47 : decode cX9_readBits 47 = .ok (.iload_n 2, 1) := by decide +kernel
theorem dX9_readBits_48 : decode cX9_readBits 48 = .ok (.iastore, 1) := by decide +kernel
theorem dX9_readBits_49 : decode cX9_readBits 49 = .ok (.iinc 3 1, 3) := by decide +kernel
theorem dX9_readBits_52 : decode cX9_readBits 52 = .ok (.goto (-38), 3) := by decide +kernel
theorem dX9_readBits_55 : decode cX9_readBits 55 = .ok (.iload_n 1, 1) := by decide +kernel
theorem dX9_readBits_56 : decode cX9_readBits 56 = .ok (.iconst 1, 1) := by decide +kernel
theorem dX9_readBits_57 : decode cX9_readBits 57 = .ok (.isub, 1) := by decide +kernel
theorem dX9_readBits_58 : decode cX9_readBits 58 = .ok (.invokestatic 138, 3) := by decide +kernel
theorem dX9_readBits_61 : decode cX9_readBits 61 = .ok (.istore_n 3, 1) := by decide +kernel
theorem dX9_readBits_62 : decode cX9_readBits 62 = .ok (.iconst 0, 1) := by decide +kernel
theorem dX9_readBits_63 : decode cX9_readBits 63 = .ok (.istore 4, 2) := by decide +kernel
theorem dX9_readBits_65 : decode cX9_readBits 65 = .ok (.iload 4, 2) := by decide +kernel
theorem dX9_readBits_67 : decode cX9_readBits 67 = .ok (.aload_n 0, 1) := by decide +kernel
theorem dX9_readBits_68 : decode cX9_readBits 68 = .ok (.getfield 61, 3) := by decide +kernel
theorem dX9_readBits_71 : decode cX9_readBits 71 = .ok (.if_icmp .ge 83, 3) := by decide +kernel
theorem dX9_readBits_74 : decode cX9_readBits 74 = .ok (.aload_n 0, 1) := by decide +kernel
theorem dX9_readBits_75 : decode cX9_readBits 75 = .ok (.getfield 12, 3) := by decide +kernel
theorem dX9_readBits_78 : decode cX9_readBits 78 = .ok (.invokevirtual 92, 3) := by decide +kernel
theorem dX9_readBits_81 : decode cX9_readBits 81 = .ok (.ifCond .eq 73, 3) := by decide +kernel
theorem dX9_readBits_84 : decode cX9_readBits 84 = .ok (.iconst 0, 1) := by decide +kernel
theorem dX9_readBits_85 : decode cX9_readBits 85 = .ok (.istore 5, 2) := by decide +kernel
theorem dX9_readBits_87 : decode cX9_readBits 87 = .ok (.iconst 0, 1) := by decide +kernel
theorem dX9_readBits_88 : decode cX9_readBits 88 = .ok (.istore 6, 2) := by decide +kernel
theorem dX9_readBits_90 : decode cX9_readBits 90 = .ok (.iload 6, 2) := by decide +kernel
theorem dX9_readBits_92 : decode cX9_readBits 92 = .ok (.iload_n 3, 1) := by decide +kernel
theorem dX9_readBits_93 : decode cX9_readBits 93 = .ok (.if_icmp .ge 23, 3) := by decide +kernel
theorem dX9_readBits_96 : decode cX9_readBits 96 = .ok (.iload 5, 2) := by decide +kernel
theorem dX9_readBits_98 : decode cX9_readBits 98 = .ok (.iconst 1, 1) := by decide +kernel
theorem dX9_readBits_99 : decode cX9_readBits 99 = .ok (.ishl, 1) := by decide +kernel
theorem dX9_readBits_100 : decode cX9_readBits 100 = .ok (.aload_n 0, 1) := by decide +kernel
theorem dX9_readBits_101 : decode cX9_readBits 101 = .ok (.getfield 12, 3) := by decide +kernel
theorem dX9_readBits_104 : decode cX9_readBits 104 = .ok (.invokevirtual 143, 3) := by decide +kernel
theorem dX9_readBits_107 : decode cX9_readBits 107 = .ok (.ior, 1) := by decide +kernel
theorem dX9_readBits_108 : decode cX9_readBits 108 = .ok (.istore 5, 2) := by decide +kernel
theorem dX9_readBits_110 : decode cX9_readBits 110 = .ok (.iinc 6 1, 3) := by decide +kernel
theorem dX9_readBits_113 : decode cX9_readBits 113 = .ok (.goto (-23), 3) := by decide +kernel
theorem dX9_readBits_116 : decode cX9_readBits 116 = .ok (.iload 5, 2) := by decide +kernel
theorem dX9_readBits_118 : decode cX9_readBits 118 = .ok (.iload_n 1, 1) := by decide +kernel
theorem dX9_readBits_119 : decode cX9_readBits 119 = .ok (.if_icmp .lt 11, 3) := by decide +kernel
theorem dX9_readBits_122 : decode cX9_readBits 122 = .ok (.aload_n 0, 1) := by decide +kernel
theorem dX9_readBits_123 : decode cX9_readBits 123 = .ok (.getfield 12, 3) := by decide +kernel
theorem dX9_readBits_126 : decode cX9_readBits 126 = .ok (.iconst 4, 1) := by decide +kernel
theorem dX9_readBits_127 : decode cX9_readBits 127 = .ok (.invokevirtual 81, 3) := by decide +kernel
theorem dX9_readBits_130 : decode cX9_readBits 130 = .ok (.aload_n 0, 1) := by decide +kernel
theorem dX9_readBits_131 : decode cX9_readBits 131 = .ok (.getfield 47, 3) := by decide +kernel
theorem dX9_readBits_134 : decode cX9_readBits 134 = .ok (.aload_n 0, 1) := by decide +kernel
theorem dX9_readBits_135 : decode cX9_readBits 135 = .ok (.getfield 25, 3) := by decide +kernel
theorem dX9_readBits_138 : decode cX9_readBits 138 = .ok (.iload 5, 2) := by decide +kernel
theorem dX9_readBits_140 : decode cX9_readBits 140 = .ok (.sipush 255, 3) := by decide +kernel
theorem dX9_readBits_143 : decode cX9_readBits 143 = .ok (.iand, 1) := by decide +kernel
theorem dX9_readBits_144 : decode cX9_readBits 144 = .ok (.iaload, 1) := by decide +kernel
theorem dX9_readBits_145 : decode cX9_readBits 145 = .ok (.invokevirtual 120, 3) := by decide +kernel
theorem dX9_readBits_148 : decode cX9_readBits 148 = .ok (.iinc 4 1, 3) := by decide +kernel
theorem dX9_readBits_151 : decode cX9_readBits 151 = .ok (.goto (-86), 3) := by decide +kernel
theorem dX9_readBits_154 : decode cX9_readBits 154 = .ok (.aload_n 0, 1) := by decide +kernel
theorem dX9_readBits_155 : decode cX9_readBits 155 = .ok (.getfield 12, 3) := by decide +kernel
theorem dX9_readBits_158 : decode cX9_readBits 158 = .ok (.invokevirtual 146, 3) := by decide +kernel
theorem dX9_readBits_161 : decode cX9_readBits 161 = .ok (.return_, 1) := by decide +kernel
theorem dX9_readRising_0 : decode cX9_readRising 0 = .ok (.aload_n 0, 1) := by decide +kernel
theorem dX9_readRising_1 : decode cX9_readRising 1 = .ok (.getfield 12, 3) := by decide +kernel
theorem dX9_readRising_4 : decode cX9_readRising 4 = .ok (.invokevirtual 78, 3) := by decide +kernel
theorem dX9_readRising_7 : decode cX9_readRising 7 = .ok (.istore_n 2, 1) := by decide +kernel
theorem dX9_readRising_8 : decode cX9_readRising 8 = .ok (.iload_n 2, 1) := by decide +kernel
theorem dX9_readRising_9 : decode cX9_readRising 9 = .ok (.iload_n 1, 1) := by decide +kernel
theorem dX9_readRising_10 : decode cX9_readRising 10 = .ok (.if_icmp .gt 11, 3) := by decide +kernel
theorem dX9_readRising_13 : decode cX9_readRising 13 = .ok (.aload_n 0, 1) := by decide +kernel
theorem dX9_readRising_14 : decode cX9_readRising 14 = .ok (.getfield 12, 3) := by decide +kernel
theorem dX9_readRising_17 : decode cX9_readRising 17 = .ok (.iconst 4, 1) := by decide +kernel
theorem dX9_readRising_18 : decode cX9_readRising 18 = .ok (.invokevirtual 81, 3) := by decide +kernel
theorem dX9_readRising_21 : decode cX9_readRising 21 = .ok (.iload_n 2, 1) := by decide +kernel
theorem dX9_readRising_22 : decode cX9_readRising 22 = .ok (.ireturn, 1) := by decide +kernel
theorem dX9_readPrefix_0 : decode cX9_readPrefix 0 = .ok (.aload_n 0, 1) := by decide +kernel
theorem dX9_readPrefix_1 : decode cX9_readPrefix 1 = .ok (.invokevirtual 149, 3) := by decide +kernel
theorem dX9_readPrefix_4 : decode cX9_readPrefix 4 = .ok (.iconst 0, 1) := by decide +kernel
theorem dX9_readPrefix_5 : decode cX9_readPrefix 5 = .ok (.istore_n 1, 1) := by decide +kernel
theorem dX9_readPrefix_6 : decode cX9_readPrefix 6 = .ok (.iload_n 1, 1) := by decide +kernel
theorem dX9_readPrefix_7 : decode cX9_readPrefix 7 = .ok (.aload_n 0, 1) := by decide +kernel
theorem dX9_readPrefix_8 : decode cX9_readPrefix 8 = .ok (.getfield 61, 3) := by decide +kernel
theorem dX9_readPrefix_11 : decode cX9_readPrefix 11 = .ok (.if_icmp .ge 37, 3) := by decide +kernel
theorem dX9_readPrefix_14 : decode cX9_readPrefix 14 = .ok (.aload_n 0, 1) := by decide +kernel
theorem dX9_readPrefix_15 : decode cX9_readPrefix 15 = .ok (.getfield 12, 3) := by decide +kernel
theorem dX9_readPrefix_18 : decode cX9_readPrefix 18 = .ok (.invokevirtual 92, 3) := by decide +kernel
theorem dX9_readPrefix_21 : decode cX9_readPrefix 21 = .ok (.ifCond .eq 27, 3) := by decide +kernel
theorem dX9_readPrefix_24 : decode cX9_readPrefix 24 = .ok (.aload_n 0, 1) := by decide +kernel
theorem dX9_readPrefix_25 : decode cX9_readPrefix 25 = .ok (.getfield 47, 3) := by decide +kernel
theorem dX9_readPrefix_28 : decode cX9_readPrefix 28 = .ok (.aload_n 0, 1) := by decide +kernel
theorem dX9_readPrefix_29 : decode cX9_readPrefix 29 = .ok (.getfield 31, 3) := by decide +kernel
theorem dX9_readPrefix_32 : decode cX9_readPrefix 32 = .ok (.aload_n 0, 1) := by decide +kernel
theorem dX9_readPrefix_33 : decode cX9_readPrefix 33 = .ok (.getfield 12, 3) := by decide +kernel
theorem dX9_readPrefix_36 : decode cX9_readPrefix 36 = .ok (.invokevirtual 152, 3) := by decide +kernel
theorem dX9_readPrefix_39 : decode cX9_readPrefix 39 = .ok (.invokevirtual 120, 3) := by decide +kernel
theorem dX9_readPrefix_42 : decode cX9_readPrefix 42 = .ok (.iinc 1 1, 3) := by decide +kernel
theorem dX9_readPrefix_45 : decode cX9_readPrefix 45 = .ok (.goto (-39), 3) := by decide +kernel
theorem dX9_readPrefix_48 : decode cX9_readPrefix 48 = .ok (.aload_n 0, 1) := by decide +kernel
theorem dX9_readPrefix_49 : decode cX9_readPrefix 49 = .ok (.getfield 12, 3) := by decide +kernel
theorem dX9_readPrefix_52 : decode cX9_readPrefix 52 = .ok (.invokevirtual 146, 3) := by decide +kernel
theorem dX9_readPrefix_55 : decode cX9_readPrefix 55 = .ok (.return_, 1) := by decide +kernel
theorem dX9_readLengths_0 : decode cX9_readLengths 0 = .ok (.aload_n 0, 1) := by decide +kernel
theorem dX9_readLengths_1 : decode cX9_readLengths 1 = .ok (.getfield 31, 3) := by decide +kernel
theorem dX9_readLengths_4 : decode cX9_readLengths 4 = .ok (.invokevirtual 156, 3) := by decide +kernel
theorem dX9_readLengths_7 : decode cX9_readLengths 7 = .ok (.aload_n 0, 1) := by decide +kernel
theorem dX9_readLengths_8 : decode cX9_readLengths 8 = .ok (.getfield 12, 3) := by decide +kernel
theorem dX9_readLengths_11 : decode cX9_readLengths 11 = .ok (.invokevirtual 78, 3) := by decide +kernel
theorem dX9_readLengths_14 : decode cX9_readLengths 14 = .ok (.iconst 1, 1) := by decide +kernel
theorem dX9_readLengths_15 : decode cX9_readLengths 15 = .ok (.iadd, 1) := by decide +kernel
theorem dX9_readLengths_16 : decode cX9_readLengths 16 = .ok (.istore_n 1, 1) := by decide +kernel
theorem dX9_readLengths_17 : decode cX9_readLengths 17 = .ok (.iconst (-1), 1) := by decide +kernel
theorem dX9_readLengths_18 : decode cX9_readLengths 18 = .ok (.istore_n 2, 1) := by decide +kernel
theorem dX9_readLengths_19 : decode cX9_readLengths 19 = .ok (.iconst 0, 1) := by decide +kernel
theorem dX9_readLengths_20 : decode cX9_readLengths 20 = .ok (.istore_n 3, 1) := by decide +kernel
theorem dX9_readLengths_21 : decode cX9_readLengths 21 = .ok (.iload_n 3, 1) := by decide +kernel
theorem dX9_readLengths_22 : decode cX9_readLengths 22 = .ok (.iload_n 1, 1) := by decide +kernel
theorem dX9_readLengths_23 : decode cX9_readLengths 23 = .ok (.if_icmp .ge 65, 3) := by decide +kernel
theorem dX9_readLengths_26 : decode cX9_readLengths 26 = .ok (.aload_n 0, 1) := by decide +kernel
theorem dX9_readLengths_27 : decode cX9_readLengths 27 = .ok (.getfield 12, 3) := by decide +kernel
theorem dX9_readLengths_30 : decode cX9_readLengths 30 = .ok (.invokevirtual 92, 3) := by decide +kernel
theorem dX9_readLengths_33 : decode cX9_readLengths 33 = .ok (.ifCond .eq 55, 3) := by decide +kernel
theorem dX9_readLengths_36 : decode cX9_readLengths 36 = .ok (.aload_n 0, 1) := by decide +kernel
theorem dX9_readLengths_37 : decode cX9_readLengths 37 = .ok (.iload_n 2, 1) := by decide +kernel
theorem dX9_readLengths_38 : decode cX9_readLengths 38 = .ok (.invokevirtual 135, 3) := by decide +kernel
theorem dX9_readLengths_41 : decode cX9_readLengths 41 = .ok (.istore_n 2, 1) := by decide +kernel
theorem dX9_readLengths_42 : decode cX9_readLengths 42 = .ok (.aload_n 0, 1) := by decide +kernel
theorem dX9_readLengths_43 : decode cX9_readLengths 43 = .ok (.getfield 12, 3) := by decide +kernel
theorem dX9_readLengths_46 : decode cX9_readLengths 46 = .ok (.invokevirtual 78, 3) := by decide +kernel
theorem dX9_readLengths_49 : decode cX9_readLengths 49 = .ok (.istore 4, 2) := by decide +kernel
theorem dX9_readLengths_51 : decode cX9_readLengths 51 = .ok (.iload 4, 2) := by decide +kernel
theorem dX9_readLengths_53 : decode cX9_readLengths 53 = .ok (.iconst 1, 1) := by decide +kernel
theorem dX9_readLengths_54 : decode cX9_readLengths 54 = .ok (.if_icmp .lt 10, 3) := by decide +kernel
theorem dX9_readLengths_57 : decode cX9_readLengths 57 = .ok (.iload 4, 2) := by decide +kernel
theorem dX9_readLengths_59 : decode cX9_readLengths 59 = .ok (.bipush 15, 2) := by decide +kernel
theorem dX9_readLengths_61 : decode cX9_readLengths 61 = .ok (.if_icmp .le 11, 3) := by decide +kernel
theorem dX9_readLengths_64 : decode cX9_readLengths 64 = .ok (.aload_n 0, 1) := by decide +kernel
theorem dX9_readLengths_65 : decode cX9_readLengths 65 = .ok (.getfield 12, 3) := by decide +kernel
theorem dX9_readLengths_68 : decode cX9_readLengths 68 = .ok (.iconst 4, 1) := by decide +kernel
theorem dX9_readLengths_69 : decode cX9_readLengths 69 = .ok (.invokevirtual 81, 3) := by decide +kernel
theorem dX9_readLengths_72 : decode cX9_readLengths 72 = .ok (.aload_n 0, 1) := by decide +kernel
theorem dX9_readLengths_73 : decode cX9_readLengths 73 = .ok (.getfield 31, 3) := by decide +kernel
theorem dX9_readLengths_76 : decode cX9_readLengths 76 = .ok (.iload_n 2, 1) := by decide +kernel
theorem dX9_readLengths_77 : decode cX9_readLengths 77 = .ok (.iload 4, 2) := by decide +kernel
theorem dX9_readLengths_79 : decode cX9_readLengths 79 = .ok (.invokevirtual 158, 3) := by decide +kernel
theorem dX9_readLengths_82 : decode cX9_readLengths 82 = .ok (.iinc 3 1, 3) := by decide +kernel
theorem dX9_readLengths_85 : decode cX9_readLengths 85 = .ok (.goto (-64), 3) := by decide +kernel
theorem dX9_readLengths_88 : decode cX9_readLengths 88 = .ok (.aload_n 0, 1) := by decide +kernel
theorem dX9_readLengths_89 : decode cX9_readLengths 89 = .ok (.getfield 31, 3) := by decide +kernel
theorem dX9_readLengths_92 : decode cX9_readLengths 92 = .ok (.invokevirtual 162, 3) := by decide +kernel
theorem dX9_readLengths_95 : decode cX9_readLengths 95 = .ok (.ifCond .ne 11, 3) := by decide +kernel
theorem dX9_readLengths_98 : decode cX9_readLengths 98 = .ok (.aload_n 0, 1) := by decide +kernel
theorem dX9_readLengths_99 : decode cX9_readLengths 99 = .ok (.getfield 12, 3) := by decide +kernel
theorem dX9_readLengths_102 : decode cX9_readLengths 102 = .ok (.iconst 4, 1) := by decide +kernel
theorem dX9_readLengths_103 : decode cX9_readLengths 103 = .ok (.invokevirtual 81, 3) := by decide +kernel
theorem dX9_readLengths_106 : decode cX9_readLengths 106 = .ok (.aload_n 0, 1) := by decide +kernel
theorem dX9_readLengths_107 : decode cX9_readLengths 107 = .ok (.getfield 31, 3) := by decide +kernel
theorem dX9_readLengths_110 : decode cX9_readLengths 110 = .ok (.invokevirtual 165, 3) := by decide +kernel
theorem dX9_readLengths_113 : decode cX9_readLengths 113 = .ok (.return_, 1) := by decide +kernel
theorem dX9_undoFilters_0 : decode cX9_undoFilters 0 = .ok (.aload_n 0, 1) := by decide +kernel
theorem dX9_undoFilters_1 : decode cX9_undoFilters 1 = .ok (.getfield 54, 3) := by decide +kernel
theorem dX9_undoFilters_4 : decode cX9_undoFilters 4 = .ok (.iconst 2, 1) := by decide +kernel
theorem dX9_undoFilters_5 : decode cX9_undoFilters 5 = .ok (.invokestatic 168, 3) := by decide +kernel
theorem dX9_undoFilters_8 : decode cX9_undoFilters 8 = .ok (.iconst 1, 1) := by decide +kernel
theorem dX9_undoFilters_9 : decode cX9_undoFilters 9 = .ok (.isub, 1) := by decide +kernel
theorem dX9_undoFilters_10 : decode cX9_undoFilters 10 = .ok (.istore_n 1, 1) := by decide +kernel
theorem dX9_undoFilters_11 : decode cX9_undoFilters 11 = .ok (.iload_n 1, 1) := by decide +kernel
theorem dX9_undoFilters_12 : decode cX9_undoFilters 12 = .ok (.ifCond .lt 47, 3) := by decide +kernel
theorem dX9_undoFilters_15 : decode cX9_undoFilters 15 = .ok (.aload_n 0, 1) := by decide +kernel
theorem dX9_undoFilters_16 : decode cX9_undoFilters 16 = .ok (.getfield 38, 3) := by decide +kernel
theorem dX9_undoFilters_19 : decode cX9_undoFilters 19 = .ok (.aload_n 0, 1) := by decide +kernel
theorem dX9_undoFilters_20 : decode cX9_undoFilters 20 = .ok (.getfield 18, 3) := by decide +kernel
theorem dX9_undoFilters_23 : decode cX9_undoFilters 23 = .ok (.iload_n 1, 1) := by decide +kernel
theorem dX9_undoFilters_24 : decode cX9_undoFilters 24 = .ok (.iaload, 1) := by decide +kernel
theorem dX9_undoFilters_25 : decode cX9_undoFilters 25 = .ok (.aload_n 0, 1) := by decide +kernel
theorem dX9_undoFilters_26 : decode cX9_undoFilters 26 = .ok (.getfield 22, 3) := by decide +kernel
theorem dX9_undoFilters_29 : decode cX9_undoFilters 29 = .ok (.iload_n 1, 1) := by decide +kernel
theorem dX9_undoFilters_30 : decode cX9_undoFilters 30 = .ok (.iaload, 1) := by decide +kernel
theorem dX9_undoFilters_31 : decode cX9_undoFilters 31 = .ok (.aload_n 0, 1) := by decide +kernel
theorem dX9_undoFilters_32 : decode cX9_undoFilters 32 = .ok (.getfield 47, 3) := by decide +kernel
theorem dX9_undoFilters_35 : decode cX9_undoFilters 35 = .ok (.aload_n 0, 1) := by decide +kernel
theorem dX9_undoFilters_36 : decode cX9_undoFilters 36 = .ok (.getfield 51, 3) := by decide +kernel
theorem dX9_undoFilters_39 : decode cX9_undoFilters 39 = .ok (.invokevirtual 174, 3) := by decide +kernel
theorem dX9_undoFilters_42 : decode cX9_undoFilters 42 = .ok (.aload_n 0, 1) := by decide +kernel
theorem dX9_undoFilters_43 : decode cX9_undoFilters 43 = .ok (.getfield 47, 3) := by decide +kernel
theorem dX9_undoFilters_46 : decode cX9_undoFilters 46 = .ok (.aload_n 0, 1) := by decide +kernel
theorem dX9_undoFilters_47 : decode cX9_undoFilters 47 = .ok (.getfield 51, 3) := by decide +kernel
theorem dX9_undoFilters_50 : decode cX9_undoFilters 50 = .ok (.invokevirtual 114, 3) := by decide +kernel
theorem dX9_undoFilters_53 : decode cX9_undoFilters 53 = .ok (.iinc 1 (-1), 3) := by decide +kernel
theorem dX9_undoFilters_56 : decode cX9_undoFilters 56 = .ok (.goto (-45), 3) := by decide +kernel
theorem dX9_undoFilters_59 : decode cX9_undoFilters 59 = .ok (.return_, 1) := by decide +kernel
theorem dX10_init_0 : decode cX10_init 0 = .ok (.aload_n 0, 1) := by decide +kernel
theorem dX10_init_1 : decode cX10_init 1 = .ok (.invokespecial 1, 3) := by decide +kernel
theorem dX10_init_4 : decode cX10_init 4 = .ok (.aload_n 0, 1) := by decide +kernel
theorem dX10_init_5 : decode cX10_init 5 = .ok (.new 7, 3) := by decide +kernel
theorem dX10_init_8 : decode cX10_init 8 = .ok (.dup, 1) := by decide +kernel
theorem dX10_init_9 : decode cX10_init 9 = .ok (.sipush 300, 3) := by decide +kernel
theorem dX10_init_12 : decode cX10_init 12 = .ok (.invokespecial 11, 3) := by decide +kernel
theorem dX10_init_15 : decode cX10_init 15 = .ok (.putfield 14, 3) := by decide +kernel
theorem dX10_init_18 : decode cX10_init 18 = .ok (.aload_n 0, 1) := by decide +kernel
theorem dX10_init_19 : decode cX10_init 19 = .ok (.new 7, 3) := by decide +kernel
theorem dX10_init_22 : decode cX10_init 22 = .ok (.dup, 1) := by decide +kernel
theorem dX10_init_23 : decode cX10_init 23 = .ok (.sipush 1024, 3) := by decide +kernel
theorem dX10_init_26 : decode cX10_init 26 = .ok (.invokespecial 11, 3) := by decide +kernel
theorem dX10_init_29 : decode cX10_init 29 = .ok (.putfield 18, 3) := by decide +kernel
theorem dX10_init_32 : decode cX10_init 32 = .ok (.aload_n 0, 1) := by decide +kernel
theorem dX10_init_33 : decode cX10_init 33 = .ok (.new 7, 3) := by decide +kernel
theorem dX10_init_36 : decode cX10_init 36 = .ok (.dup, 1) := by decide +kernel
theorem dX10_init_37 : decode cX10_init 37 = .ok (.sipush 1024, 3) := by decide +kernel
theorem dX10_init_40 : decode cX10_init 40 = .ok (.invokespecial 11, 3) := by decide +kernel
theorem dX10_init_43 : decode cX10_init 43 = .ok (.putfield 21, 3) := by decide +kernel
theorem dX10_init_46 : decode cX10_init 46 = .ok (.aload_n 0, 1) := by decide +kernel
theorem dX10_init_47 : decode cX10_init 47 = .ok (.new 7, 3) := by decide +kernel
theorem dX10_init_50 : decode cX10_init 50 = .ok (.dup, 1) := by decide +kernel
theorem dX10_init_51 : decode cX10_init 51 = .ok (.sipush 300, 3) := by decide +kernel
theorem dX10_init_54 : decode cX10_init 54 = .ok (.invokespecial 11, 3) := by decide +kernel
theorem dX10_init_57 : decode cX10_init 57 = .ok (.putfield 24, 3) := by decide +kernel
theorem dX10_init_60 : decode cX10_init 60 = .ok (.aload_n 0, 1) := by decide +kernel
theorem dX10_init_61 : decode cX10_init 61 = .ok (.new 7, 3) := by decide +kernel
theorem dX10_init_64 : decode cX10_init 64 = .ok (.dup, 1) := by decide +kernel
theorem dX10_init_65 : decode cX10_init 65 = .ok (.sipush 300, 3) := by decide +kernel
theorem dX10_init_68 : decode cX10_init 68 = .ok (.invokespecial 11, 3) := by decide +kernel
theorem dX10_init_71 : decode cX10_init 71 = .ok (.putfield 27, 3) := by decide +kernel
theorem dX10_init_74 : decode cX10_init 74 = .ok (.aload_n 0, 1) := by decide +kernel
theorem dX10_init_75 : decode cX10_init 75 = .ok (.new 30, 3) := by decide +kernel
theorem dX10_init_78 : decode cX10_init 78 = .ok (.dup, 1) := by decide +kernel
theorem dX10_init_79 : decode cX10_init 79 = .ok (.invokespecial 32, 3) := by decide +kernel
theorem dX10_init_82 : decode cX10_init 82 = .ok (.putfield 33, 3) := by decide +kernel
theorem dX10_init_85 : decode cX10_init 85 = .ok (.aload_n 0, 1) := by decide +kernel
theorem dX10_init_86 : decode cX10_init 86 = .ok (.new 37, 3) := by decide +kernel
theorem dX10_init_89 : decode cX10_init 89 = .ok (.dup, 1) := by decide +kernel
theorem dX10_init_90 : decode cX10_init 90 = .ok (.invokespecial 39, 3) := by decide +kernel
theorem dX10_init_93 : decode cX10_init 93 = .ok (.putfield 40, 3) := by decide +kernel
theorem dX10_init_96 : decode cX10_init 96 = .ok (.aload_n 0, 1) := by decide +kernel
theorem dX10_init_97 : decode cX10_init 97 = .ok (.new 44, 3) := by decide +kernel
theorem dX10_init_100 : decode cX10_init 100 = .ok (.dup, 1) := by decide +kernel
theorem dX10_init_101 : decode cX10_init 101 = .ok (.invokespecial 46, 3) := by decide +kernel
theorem dX10_init_104 : decode cX10_init 104 = .ok (.putfield 47, 3) := by decide +kernel
theorem dX10_init_107 : decode cX10_init 107 = .ok (.aload_n 0, 1) := by decide +kernel
theorem dX10_init_108 : decode cX10_init 108 = .ok (.new 51, 3) := by decide +kernel
theorem dX10_init_111 : decode cX10_init 111 = .ok (.dup, 1) := by decide +kernel
theorem dX10_init_112 : decode cX10_init 112 = .ok (.invokespecial 53, 3) := by decide +kernel
theorem dX10_init_115 : decode cX10_init 115 = .ok (.putfield 54, 3) := by decide +kernel
theorem dX10_init_118 : decode cX10_init 118 = .ok (.aload_n 0, 1) := by decide +kernel
theorem dX10_init_119 : decode cX10_init 119 = .ok (.new 58, 3) := by decide +kernel
theorem dX10_init_122 : decode cX10_init 122 = .ok (.dup, 1) := by decide +kernel
theorem dX10_init_123 : decode cX10_init 123 = .ok (.invokespecial 60, 3) := by decide +kernel
theorem dX10_init_126 : decode cX10_init 126 = .ok (.putfield 61, 3) := by decide +kernel
theorem dX10_init_129 : decode cX10_init 129 = .ok (.aload_n 0, 1) := by decide +kernel
theorem dX10_init_130 : decode cX10_init 130 = .ok (.bipush 6, 2) := by decide +kernel
theorem dX10_init_132 : decode cX10_init 132 = .ok (.newarray .int, 2) := by decide +kernel
theorem dX10_init_134 : decode cX10_init 134 = .ok (.putfield 65, 3) := by decide +kernel
theorem dX10_init_137 : decode cX10_init 137 = .ok (.aload_n 0, 1) := by decide +kernel
theorem dX10_init_138 : decode cX10_init 138 = .ok (.bipush 64, 2) := by decide +kernel
theorem dX10_init_140 : decode cX10_init 140 = .ok (.newarray .int, 2) := by decide +kernel
theorem dX10_init_142 : decode cX10_init 142 = .ok (.putfield 69, 3) := by decide +kernel
theorem dX10_init_145 : decode cX10_init 145 = .ok (.aload_n 0, 1) := by decide +kernel
theorem dX10_init_146 : decode cX10_init 146 = .ok (.iconst 0, 1) := by decide +kernel
theorem dX10_init_147 : decode cX10_init 147 = .ok (.putfield 72, 3) := by decide +kernel
theorem dX10_init_150 : decode cX10_init 150 = .ok (.aload_n 0, 1) := by decide +kernel
theorem dX10_init_151 : decode cX10_init 151 = .ok (.bipush (-3), 2) := by decide +kernel
theorem dX10_init_153 : decode cX10_init 153 = .ok (.putfield 76, 3) := by decide +kernel
theorem dX10_init_156 : decode cX10_init 156 = .ok (.aload_n 0, 1) := by decide +kernel
theorem dX10_init_157 : decode cX10_init 157 = .ok (.getfield 69, 3) := by decide +kernel
theorem dX10_init_160 : decode cX10_init 160 = .ok (.bipush (-3), 2) := by decide +kernel
theorem dX10_init_162 : decode cX10_init 162 = .ok (.invokestatic 80, 3) := by decide +kernel
theorem dX10_init_165 : decode cX10_init 165 = .ok (.return_, 1) := by decide +kernel
theorem dX10_clear_0 : decode cX10_clear 0 = .ok (.aload_n 0, 1) := by decide +kernel
theorem dX10_clear_1 : decode cX10_clear 1 = .ok (.getfield 14, 3) := by decide +kernel
theorem dX10_clear_4 : decode cX10_clear 4 = .ok (.invokevirtual 86, 3) := by decide +kernel
theorem dX10_clear_7 : decode cX10_clear 7 = .ok (.istore_n 1, 1) := by decide +kernel
theorem dX10_clear_8 : decode cX10_clear 8 = .ok (.aload_n 0, 1) := by decide +kernel
theorem dX10_clear_9 : decode cX10_clear 9 = .ok (.getfield 14, 3) := by decide +kernel
theorem dX10_clear_12 : decode cX10_clear 12 = .ok (.invokevirtual 90, 3) := by decide +kernel
theorem dX10_clear_15 : decode cX10_clear 15 = .ok (.iload_n 1, 1) := by decide +kernel
theorem dX10_clear_16 : decode cX10_clear 16 = .ok (.ireturn, 1) := by decide +kernel
theorem dX10_add_0 : decode cX10_add 0 = .ok (.iload_n 1, 1) := by decide +kernel
theorem dX10_add_1 : decode cX10_add 1 = .ok (.invokestatic 93, 3) := by decide +kernel
theorem dX10_add_4 : decode cX10_add 4 = .ok (.ifCond .ne 5, 3) := by decide +kernel
theorem dX10_add_7 : decode cX10_add 7 = .ok (.iconst (-1), 1) := by decide +kernel
theorem dX10_add_8 : decode cX10_add 8 = .ok (.ireturn, 1) := by decide +kernel
theorem dX10_add_9 : decode cX10_add 9 = .ok (.aload_n 0, 1) := by decide +kernel
theorem dX10_add_10 : decode cX10_add 10 = .ok (.getfield 14, 3) := by decide +kernel
theorem dX10_add_13 : decode cX10_add 13 = .ok (.invokevirtual 86, 3) := by decide +kernel
theorem dX10_add_16 : decode cX10_add 16 = .ok (.sipush 300, 3) := by decide +kernel
theorem dX10_add_19 : decode cX10_add 19 = .ok (.if_icmp .lt 6, 3) := by decide +kernel
theorem dX10_add_22 : decode cX10_add 22 = .ok (.bipush (-2), 2) := by decide +kernel
theorem dX10_add_24 : decode cX10_add 24 = .ok (.ireturn, 1) := by decide +kernel
theorem dX10_add_25 : decode cX10_add 25 = .ok (.aload_n 0, 1) := by decide +kernel
theorem dX10_add_26 : decode cX10_add 26 = .ok (.getfield 14, 3) := by decide +kernel
theorem dX10_add_29 : decode cX10_add 29 = .ok (.iload_n 1, 1) := by decide +kernel
theorem dX10_add_30 : decode cX10_add 30 = .ok (.invokevirtual 97, 3) := by decide +kernel
theorem dX10_add_33 : decode cX10_add 33 = .ok (.aload_n 0, 1) := by decide +kernel
theorem dX10_add_34 : decode cX10_add 34 = .ok (.getfield 14, 3) := by decide +kernel
theorem dX10_add_37 : decode cX10_add 37 = .ok (.invokevirtual 86, 3) := by decide +kernel
theorem dX10_add_40 : decode cX10_add 40 = .ok (.ireturn, 1) := by decide +kernel
theorem dX10_fill_0 : decode cX10_fill 0 = .ok (.iload_n 1, 1) := by decide +kernel
theorem dX10_fill_1 : decode cX10_fill 1 = .ok (.iconst 1, 1) := by decide +kernel
theorem dX10_fill_2 : decode cX10_fill 2 = .ok (.if_icmp .lt 19, 3) := by decide +kernel
theorem dX10_fill_5 : decode cX10_fill 5 = .ok (.iload_n 1, 1) := by decide +kernel
theorem dX10_fill_6 : decode cX10_fill 6 = .ok (.sipush 300, 3) := by decide +kernel
theorem dX10_fill_9 : decode cX10_fill 9 = .ok (.if_icmp .gt 12, 3) := by decide +kernel
theorem dX10_fill_12 : decode cX10_fill 12 = .ok (.iload_n 3, 1) := by decide +kernel
theorem dX10_fill_13 : decode cX10_fill 13 = .ok (.ifCond .lt 8, 3) := by decide +kernel
theorem dX10_fill_16 : decode cX10_fill 16 = .ok (.iload_n 3, 1) := by decide +kernel
theorem dX10_fill_17 : decode cX10_fill 17 = .ok (.iconst 3, 1) := by decide +kernel
theorem dX10_fill_18 : decode cX10_fill 18 = .ok (.if_icmp .le 5, 3) := by decide +kernel
theorem dX10_fill_21 : decode cX10_fill 21 = .ok (.iconst (-1), 1) := by decide +kernel
theorem dX10_fill_22 : decode cX10_fill 22 = .ok (.ireturn, 1) := by decide +kernel
theorem dX10_fill_23 : decode cX10_fill 23 = .ok (.iload_n 1, 1) := by decide +kernel
theorem dX10_fill_24 : decode cX10_fill 24 = .ok (.sipush 300, 3) := by decide +kernel
theorem dX10_fill_27 : decode cX10_fill 27 = .ok (.aload_n 0, 1) := by decide +kernel
theorem dX10_fill_28 : decode cX10_fill 28 = .ok (.getfield 14, 3) := by decide +kernel
theorem dX10_fill_31 : decode cX10_fill 31 = .ok (.invokevirtual 86, 3) := by decide +kernel
theorem dX10_fill_34 : decode cX10_fill 34 = .ok (.isub, 1) := by decide +kernel
theorem dX10_fill_35 : decode cX10_fill 35 = .ok (.if_icmp .le 6, 3) := by decide +kernel
theorem dX10_fill_38 : decode cX10_fill 38 = .ok (.bipush (-2), 2) := by decide +kernel
theorem dX10_fill_40 : decode cX10_fill 40 = .ok (.ireturn, 1) := by decide +kernel
theorem dX10_fill_41 : decode cX10_fill 41 = .ok (.aload_n 0, 1) := by decide +kernel
theorem dX10_fill_42 : decode cX10_fill 42 = .ok (.getfield 14, 3) := by decide +kernel
theorem dX10_fill_45 : decode cX10_fill 45 = .ok (.invokevirtual 86, 3) := by decide +kernel
theorem dX10_fill_48 : decode cX10_fill 48 = .ok (.iload_n 1, 1) := by decide +kernel
theorem dX10_fill_49 : decode cX10_fill 49 = .ok (.iadd, 1) := by decide +kernel
theorem dX10_fill_50 : decode cX10_fill 50 = .ok (.istore 4, 2) := by decide +kernel
theorem dX10_fill_52 : decode cX10_fill 52 = .ok (.iload_n 2, 1) := by decide +kernel
theorem dX10_fill_53 : decode cX10_fill 53 = .ok (.istore 5, 2) := by decide +kernel
theorem dX10_fill_55 : decode cX10_fill 55 = .ok (.iconst 0, 1) := by decide +kernel
theorem dX10_fill_56 : decode cX10_fill 56 = .ok (.istore 6, 2) := by decide +kernel
theorem dX10_fill_58 : decode cX10_fill 58 = .ok (.iconst 0, 1) := by decide +kernel
theorem dX10_fill_59 : decode cX10_fill 59 = .ok (.istore 7, 2) := by decide +kernel
theorem dX10_fill_61 : decode cX10_fill 61 = .ok (.iload 7, 2) := by decide +kernel
theorem dX10_fill_63 : decode cX10_fill 63 = .ok (.iload_n 1, 1) := by decide +kernel
theorem dX10_fill_64 : decode cX10_fill 64 = .ok (.if_icmp .ge 111, 3) := by decide +kernel
theorem dX10_fill_67 : decode cX10_fill 67 = .ok (.aload_n 0, 1) := by decide +kernel
theorem dX10_fill_68 : decode cX10_fill 68 = .ok (.getfield 14, 3) := by decide +kernel
theorem dX10_fill_71 : decode cX10_fill 71 = .ok (.invokevirtual 86, 3) := by decide +kernel
theorem dX10_fill_74 : decode cX10_fill 74 = .ok (.iload 4, 2) := by decide +kernel
theorem dX10_fill_76 : decode cX10_fill 76 = .ok (.if_icmp .ge 99, 3) := by decide +kernel
theorem dX10_fill_79 : decode cX10_fill 79 = .ok (.iload 5, 2) := by decide +kernel
theorem dX10_fill_81 : decode cX10_fill 81 = .ok (.ldc 100, 2) := by decide +kernel
theorem dX10_fill_83 : decode cX10_fill 83 = .ok (.imul, 1) := by decide +kernel
theorem dX10_fill_84 : decode cX10_fill 84 = .ok (.sipush 12345, 3) := by decide +kernel
theorem dX10_fill_87 : decode cX10_fill 87 = .ok (.iadd, 1) := by decide +kernel
theorem dX10_fill_88 : decode cX10_fill 88 = .ok (.istore 5, 2) := by decide +kernel
theorem dX10_fill_90 : decode cX10_fill 90 = .ok (.iload 5, 2) := by decide +kernel
theorem dX10_fill_92 : decode cX10_fill 92 = .ok (.bipush 16, 2) := by decide +kernel
theorem dX10_fill_94 : decode cX10_fill 94 = .ok (.iushr, 1) := by decide +kernel
theorem dX10_fill_95 : decode cX10_fill 95 = .ok (.istore 8, 2) := by decide +kernel
theorem dX10_fill_97 : decode cX10_fill 97 = .ok (.iload 8, 2) := by decide +kernel
theorem dX10_fill_99 : decode cX10_fill 99 = .ok (.iload_n 3, 1) := by decide +kernel
theorem dX10_fill_100 : decode cX10_fill 100 = .ok (.iload 6, 2) := by decide +kernel
theorem dX10_fill_102 : decode cX10_fill 102 = .ok (.invokestatic 101, 3) := by decide +kernel
theorem dX10_fill_105 : decode cX10_fill 105 = .ok (.istore 9, 2) := by decide +kernel
theorem dX10_fill_107 : decode cX10_fill 107 = .ok (.iload_n 3, 1) := by decide +kernel
theorem dX10_fill_108 : decode cX10_fill 108 = .ok (.iconst 2, 1) := by decide +kernel
theorem dX10_fill_109 : decode cX10_fill 109 = .ok (.if_icmp .ne 16, 3) := by decide +kernel
theorem dX10_fill_112 : decode cX10_fill 112 = .ok (.iconst 1, 1) := by decide +kernel
theorem dX10_fill_113 : decode cX10_fill 113 = .ok (.iload 8, 2) := by decide +kernel
theorem dX10_fill_115 : decode cX10_fill 115 = .ok (.bipush 8, 2) := by decide +kernel
theorem dX10_fill_117 : decode cX10_fill 117 = .ok (.idiv, 1) := by decide +kernel
theorem dX10_fill_118 : decode cX10_fill 118 = .ok (.bipush 8, 2) := by decide +kernel
theorem dX10_fill_120 : decode cX10_fill 120 = .ok (.irem, 1) := by decide +kernel
theorem dX10_fill_121 : decode cX10_fill 121 = .ok (.iadd, 1) := by decide +kernel
theorem dX10_fill_122 : decode cX10_fill 122 = .ok (.goto 4, 3) := by decide +kernel
theorem dX10_fill_125 : decode cX10_fill 125 = .ok (.iconst 1, 1) := by decide +kernel
theorem dX10_fill_126 : decode cX10_fill 126 = .ok (.istore 10, 2) := by decide +kernel
theorem dX10_fill_128 : decode cX10_fill 128 = .ok (.iconst 0, 1) := by decide +kernel
theorem dX10_fill_129 : decode cX10_fill 129 = .ok (.istore 11, 2) := by decide +kernel
theorem dX10_fill_131 : decode cX10_fill 131 = .ok (.iload 11, 2) := by decide +kernel
theorem dX10_fill_133 : decode cX10_fill 133 = .ok (.iload 10, 2) := by decide +kernel
theorem dX10_fill_135 : decode cX10_fill 135 = .ok (.if_icmp .ge 30, 3) := by decide +kernel
theorem dX10_fill_138 : decode cX10_fill 138 = .ok (.aload_n 0, 1) := by decide +kernel
theorem dX10_fill_139 : decode cX10_fill 139 = .ok (.getfield 14, 3) := by decide +kernel
theorem dX10_fill_142 : decode cX10_fill 142 = .ok (.invokevirtual 86, 3) := by decide +kernel
theorem dX10_fill_145 : decode cX10_fill 145 = .ok (.iload 4, 2) := by decide +kernel
theorem dX10_fill_147 : decode cX10_fill 147 = .ok (.if_icmp .ge 18, 3) := by decide +kernel
theorem dX10_fill_150 : decode cX10_fill 150 = .ok (.aload_n 0, 1) := by decide +kernel
theorem dX10_fill_151 : decode cX10_fill 151 = .ok (.getfield 14, 3) := by decide +kernel
theorem dX10_fill_154 : decode cX10_fill 154 = .ok (.iload 9, 2) := by decide +kernel
theorem dX10_fill_156 : decode cX10_fill 156 = .ok (.invokevirtual 97, 3) := by decide +kernel
theorem dX10_fill_159 : decode cX10_fill 159 = .ok (.iinc 11 1, 3) := by decide +kernel
theorem dX10_fill_162 : decode cX10_fill 162 = .ok (.goto (-31), 3) := by decide +kernel
theorem dX10_fill_165 : decode cX10_fill 165 = .ok (.iload 9, 2) := by decide +kernel
theorem dX10_fill_167 : decode cX10_fill 167 = .ok (.istore 6, 2) := by decide +kernel
theorem dX10_fill_169 : decode cX10_fill 169 = .ok (.iinc 7 1, 3) := by decide +kernel
theorem dX10_fill_172 : decode cX10_fill 172 = .ok (.goto (-111), 3) := by decide +kernel
theorem dX10_fill_175 : decode cX10_fill 175 = .ok (.aload_n 0, 1) := by decide +kernel
theorem dX10_fill_176 : decode cX10_fill 176 = .ok (.getfield 14, 3) := by decide +kernel
theorem dX10_fill_179 : decode cX10_fill 179 = .ok (.invokevirtual 86, 3) := by decide +kernel
theorem dX10_fill_182 : decode cX10_fill 182 = .ok (.ireturn, 1) := by decide +kernel
theorem dX10_size_0 : decode cX10_size 0 = .ok (.iload_n 1, 1) := by decide +kernel
theorem dX10_size_1 : decode cX10_size 1 = .ok (.ifCond .eq 10, 3) := by decide +kernel
theorem dX10_size_4 : decode cX10_size 4 = .ok (.iload_n 1, 1) := by decide +kernel
theorem dX10_size_5 : decode cX10_size 5 = .ok (.iconst 1, 1) := by decide +kernel
theorem dX10_size_6 : decode cX10_size 6 = .ok (.if_icmp .eq 5, 3) := by decide +kernel
theorem dX10_size_9 : decode cX10_size 9 = .ok (.iconst (-1), 1) := by decide +kernel
theorem dX10_size_10 : decode cX10_size 10 = .ok (.ireturn, 1) := by decide +kernel
theorem dX10_size_11 : decode cX10_size 11 = .ok (.aload_n 0, 1) := by decide +kernel
theorem dX10_size_12 : decode cX10_size 12 = .ok (.iload_n 1, 1) := by decide +kernel
theorem dX10_size_13 : decode cX10_size 13 = .ok (.invokevirtual 105, 3) := by decide +kernel
theorem dX10_size_16 : decode cX10_size 16 = .ok (.invokevirtual 86, 3) := by decide +kernel
theorem dX10_size_19 : decode cX10_size 19 = .ok (.ireturn, 1) := by decide +kernel
theorem dX10_octet_0 : decode cX10_octet 0 = .ok (.iload_n 1, 1) := by decide +kernel
theorem dX10_octet_1 : decode cX10_octet 1 = .ok (.ifCond .eq 10, 3) := by decide +kernel
theorem dX10_octet_4 : decode cX10_octet 4 = .ok (.iload_n 1, 1) := by decide +kernel
theorem dX10_octet_5 : decode cX10_octet 5 = .ok (.iconst 1, 1) := by decide +kernel
theorem dX10_octet_6 : decode cX10_octet 6 = .ok (.if_icmp .eq 5, 3) := by decide +kernel
theorem dX10_octet_9 : decode cX10_octet 9 = .ok (.iconst (-1), 1) := by decide +kernel
theorem dX10_octet_10 : decode cX10_octet 10 = .ok (.ireturn, 1) := by decide +kernel
theorem dX10_octet_11 : decode cX10_octet 11 = .ok (.aload_n 0, 1) := by decide +kernel
theorem dX10_octet_12 : decode cX10_octet 12 = .ok (.iload_n 1, 1) := by decide +kernel
theorem dX10_octet_13 : decode cX10_octet 13 = .ok (.invokevirtual 105, 3) := by decide +kernel
theorem dX10_octet_16 : decode cX10_octet 16 = .ok (.astore_n 3, 1) := by decide +kernel
theorem dX10_octet_17 : decode cX10_octet 17 = .ok (.aload_n 3, 1) := by decide +kernel
theorem dX10_octet_18 : decode cX10_octet 18 = .ok (.iload_n 2, 1) := by decide +kernel
theorem dX10_octet_19 : decode cX10_octet 19 = .ok (.invokevirtual 109, 3) := by decide +kernel
theorem dX10_octet_22 : decode cX10_octet 22 = .ok (.ifCond .eq 11, 3) := by decide +kernel
theorem dX10_octet_25 : decode cX10_octet 25 = .ok (.aload_n 3, 1) := by decide +kernel
theorem dX10_octet_26 : decode cX10_octet 26 = .ok (.iload_n 2, 1) := by decide +kernel
theorem dX10_octet_27 : decode cX10_octet 27 = .ok (.invokevirtual 112, 3) := by decide +kernel
theorem dX10_octet_30 : decode cX10_octet 30 = .ok (.goto 4, 3) := by decide +kernel
theorem dX10_octet_33 : decode cX10_octet 33 = .ok (.iconst (-1), 1) := by decide +kernel
theorem dX10_octet_34 : decode cX10_octet 34 = .ok (.ireturn, 1) := by decide +kernel
theorem dX10_filter_0 : decode cX10_filter 0 = .ok (.iload_n 1, 1) := by decide +kernel
theorem dX10_filter_1 : decode cX10_filter 1 = .ok (.iload_n 2, 1) := by decide +kernel
theorem dX10_filter_2 : decode cX10_filter 2 = .ok (.invokestatic 116, 3) := by decide +kernel
theorem dX10_filter_5 : decode cX10_filter 5 = .ok (.ifCond .ne 5, 3) := by decide +kernel
theorem dX10_filter_8 : decode cX10_filter 8 = .ok (.iconst (-1), 1) := by decide +kernel
theorem dX10_filter_9 : decode cX10_filter 9 = .ok (.ireturn, 1) := by decide +kernel
theorem dX10_filter_10 : decode cX10_filter 10 = .ok (.aload_n 0, 1) := by decide +kernel
theorem dX10_filter_11 : decode cX10_filter 11 = .ok (.getfield 33, 3) := by decide +kernel
theorem dX10_filter_14 : decode cX10_filter 14 = .ok (.invokevirtual 120, 3) := by decide +kernel
theorem dX10_filter_17 : decode cX10_filter 17 = .ok (.iconst 4, 1) := by decide +kernel
theorem dX10_filter_18 : decode cX10_filter 18 = .ok (.if_icmp .lt 6, 3) := by decide +kernel
theorem dX10_filter_21 : decode cX10_filter 21 = .ok (.bipush (-2), 2) := by decide +kernel
theorem dX10_filter_23 : decode cX10_filter 23 = .ok (.ireturn, 1) := by decide +kernel
theorem dX10_filter_24 : decode cX10_filter 24 = .ok (.aload_n 0, 1) := by decide +kernel
theorem dX10_filter_25 : decode cX10_filter 25 = .ok (.getfield 33, 3) := by decide +kernel
theorem dX10_filter_28 : decode cX10_filter 28 = .ok (.iload_n 1, 1) := by decide +kernel
theorem dX10_filter_29 : decode cX10_filter 29 = .ok (.iload_n 2, 1) := by decide +kernel
theorem dX10_filter_30 : decode cX10_filter 30 = .ok (.invokevirtual 123, 3) := by decide +kernel
theorem dX10_filter_33 : decode cX10_filter 33 = .ok (.aload_n 0, 1) := by decide +kernel
theorem dX10_filter_34 : decode cX10_filter 34 = .ok (.invokevirtual 127, 3) := by decide +kernel
theorem dX10_filter_37 : decode cX10_filter 37 = .ok (.aload_n 0, 1) := by decide +kernel
theorem dX10_filter_38 : decode cX10_filter 38 = .ok (.getfield 33, 3) := by decide +kernel
theorem dX10_filter_41 : decode cX10_filter 41 = .ok (.invokevirtual 120, 3) := by decide +kernel
theorem dX10_filter_44 : decode cX10_filter 44 = .ok (.iconst 1, 1) := by decide +kernel
theorem dX10_filter_45 : decode cX10_filter 45 = .ok (.isub, 1) := by decide +kernel
theorem dX10_filter_46 : decode cX10_filter 46 = .ok (.ireturn, 1) := by decide +kernel
theorem dX10_packer_0 : decode cX10_packer 0 = .ok (.iload_n 1, 1) := by decide +kernel
theorem dX10_packer_1 : decode cX10_packer 1 = .ok (.iconst 1, 1) := by decide +kernel
theorem dX10_packer_2 : decode cX10_packer 2 = .ok (.if_icmp .lt 8, 3) := by decide +kernel
theorem dX10_packer_5 : decode cX10_packer 5 = .ok (.iload_n 1, 1) := by decide +kernel
theorem dX10_packer_6 : decode cX10_packer 6 = .ok (.iconst 4, 1) := by decide +kernel
theorem dX10_packer_7 : decode cX10_packer 7 = .ok (.if_icmp .le 5, 3) := by decide +kernel
theorem dX10_packer_10 : decode cX10_packer 10 = .ok (.iconst (-1), 1) := by decide +kernel
theorem dX10_packer_11 : decode cX10_packer 11 = .ok (.ireturn, 1) := by decide +kernel
theorem dX10_packer_12 : decode cX10_packer 12 = .ok (.aload_n 0, 1) := by decide +kernel
theorem dX10_packer_13 : decode cX10_packer 13 = .ok (.getfield 33, 3) := by decide +kernel
theorem dX10_packer_16 : decode cX10_packer 16 = .ok (.iload_n 1, 1) := by decide +kernel
theorem dX10_packer_17 : decode cX10_packer 17 = .ok (.invokevirtual 130, 3) := by decide +kernel
theorem dX10_packer_20 : decode cX10_packer 20 = .ok (.ifCond .eq 6, 3) := by decide +kernel
theorem dX10_packer_23 : decode cX10_packer 23 = .ok (.bipush (-3), 2) := by decide +kernel
theorem dX10_packer_25 : decode cX10_packer 25 = .ok (.ireturn, 1) := by decide +kernel
theorem dX10_packer_26 : decode cX10_packer 26 = .ok (.aload_n 0, 1) := by decide +kernel
theorem dX10_packer_27 : decode cX10_packer 27 = .ok (.getfield 33, 3) := by decide +kernel
theorem dX10_packer_30 : decode cX10_packer 30 = .ok (.iload_n 1, 1) := by decide +kernel
theorem dX10_packer_31 : decode cX10_packer 31 = .ok (.invokevirtual 133, 3) := by decide +kernel
theorem dX10_packer_34 : decode cX10_packer 34 = .ok (.aload_n 0, 1) := by decide +kernel
theorem dX10_packer_35 : decode cX10_packer 35 = .ok (.invokevirtual 127, 3) := by decide +kernel
theorem dX10_packer_38 : decode cX10_packer 38 = .ok (.aload_n 0, 1) := by decide +kernel
theorem dX10_packer_39 : decode cX10_packer 39 = .ok (.getfield 33, 3) := by decide +kernel
theorem dX10_packer_42 : decode cX10_packer 42 = .ok (.invokevirtual 136, 3) := by decide +kernel
theorem dX10_packer_45 : decode cX10_packer 45 = .ok (.iconst 1, 1) := by decide +kernel
theorem dX10_packer_46 : decode cX10_packer 46 = .ok (.isub, 1) := by decide +kernel
theorem dX10_packer_47 : decode cX10_packer 47 = .ok (.ireturn, 1) := by decide +kernel
theorem dX10_forget_0 : decode cX10_forget 0 = .ok (.aload_n 0, 1) := by decide +kernel
theorem dX10_forget_1 : decode cX10_forget 1 = .ok (.getfield 33, 3) := by decide +kernel
theorem dX10_forget_4 : decode cX10_forget 4 = .ok (.invokevirtual 139, 3) := by decide +kernel
theorem dX10_forget_7 : decode cX10_forget 7 = .ok (.istore_n 1, 1) := by decide +kernel
theorem dX10_forget_8 : decode cX10_forget 8 = .ok (.aload_n 0, 1) := by decide +kernel
theorem dX10_forget_9 : decode cX10_forget 9 = .ok (.getfield 33, 3) := by decide +kernel
theorem dX10_forget_12 : decode cX10_forget 12 = .ok (.invokevirtual 142, 3) := by decide +kernel
theorem dX10_forget_15 : decode cX10_forget 15 = .ok (.aload_n 0, 1) := by decide +kernel
theorem dX10_forget_16 : decode cX10_forget 16 = .ok (.invokevirtual 127, 3) := by decide +kernel
theorem dX10_forget_19 : decode cX10_forget 19 = .ok (.iload_n 1, 1) := by decide +kernel
theorem dX10_forget_20 : decode cX10_forget 20 = .ok (.ireturn, 1) := by decide +kernel
theorem dX10_chains_0 : decode cX10_chains 0 = .ok (.aload_n 0, 1) := by decide +kernel
theorem dX10_chains_1 : decode cX10_chains 1 = .ok (.getfield 33, 3) := by decide +kernel
theorem dX10_chains_4 : decode cX10_chains 4 = .ok (.invokevirtual 139, 3) := by decide +kernel
theorem dX10_chains_7 : decode cX10_chains 7 = .ok (.ireturn, 1) := by decide +kernel
theorem dX10_chain_0 : decode cX10_chain 0 = .ok (.aload_n 0, 1) := by decide +kernel
theorem dX10_chain_1 : decode cX10_chain 1 = .ok (.getfield 33, 3) := by decide +kernel
theorem dX10_chain_4 : decode cX10_chain 4 = .ok (.iload_n 1, 1) := by decide +kernel
theorem dX10_chain_5 : decode cX10_chain 5 = .ok (.invokevirtual 145, 3) := by decide +kernel
theorem dX10_chain_8 : decode cX10_chain 8 = .ok (.ifCond .ne 5, 3) := by decide +kernel
theorem dX10_chain_11 : decode cX10_chain 11 = .ok (.iconst (-1), 1) := by decide +kernel
theorem dX10_chain_12 : decode cX10_chain 12 = .ok (.ireturn, 1) := by decide +kernel
theorem dX10_chain_13 : decode cX10_chain 13 = .ok (.iload_n 2, 1) := by decide +kernel
theorem dX10_chain_14 : decode cX10_chain 14 = .ok (.tableswitch 116 0 5 #[38, 38, 48, 57, 66, 75], 38) := by decide +kernel
theorem dX10_chain_52 : decode cX10_chain 52 = .ok (.aload_n 0, 1) := by decide +kernel
theorem dX10_chain_53 : decode cX10_chain 53 = .ok (.getfield 33, 3) := by decide +kernel
theorem dX10_chain_56 : decode cX10_chain 56 = .ok (.iload_n 1, 1) := by decide +kernel
theorem dX10_chain_57 : decode cX10_chain 57 = .ok (.iload_n 2, 1) := by decide +kernel
theorem dX10_chain_58 : decode cX10_chain 58 = .ok (.invokevirtual 146, 3) := by decide +kernel
theorem dX10_chain_61 : decode cX10_chain 61 = .ok (.ireturn, 1) := by decide +kernel
theorem dX10_chain_62 : decode cX10_chain 62 = .ok (.aload_n 0, 1) := by decide +kernel
theorem dX10_chain_63 : decode cX10_chain 63 = .ok (.getfield 33, 3) := by decide +kernel
theorem dX10_chain_66 : decode cX10_chain 66 = .ok (.iload_n 1, 1) := by decide +kernel
theorem dX10_chain_67 : decode cX10_chain 67 = .ok (.invokevirtual 150, 3) := by decide +kernel
theorem dX10_chain_70 : decode cX10_chain 70 = .ok (.ireturn, 1) := by decide +kernel
theorem dX10_chain_71 : decode cX10_chain 71 = .ok (.aload_n 0, 1) := by decide +kernel
theorem dX10_chain_72 : decode cX10_chain 72 = .ok (.getfield 33, 3) := by decide +kernel
theorem dX10_chain_75 : decode cX10_chain 75 = .ok (.iload_n 1, 1) := by decide +kernel
theorem dX10_chain_76 : decode cX10_chain 76 = .ok (.invokevirtual 153, 3) := by decide +kernel
theorem dX10_chain_79 : decode cX10_chain 79 = .ok (.ireturn, 1) := by decide +kernel
theorem dX10_chain_80 : decode cX10_chain 80 = .ok (.aload_n 0, 1) := by decide +kernel
theorem dX10_chain_81 : decode cX10_chain 81 = .ok (.getfield 33, 3) := by decide +kernel
theorem dX10_chain_84 : decode cX10_chain 84 = .ok (.iload_n 1, 1) := by decide +kernel
theorem dX10_chain_85 : decode cX10_chain 85 = .ok (.invokevirtual 156, 3) := by decide +kernel
theorem dX10_chain_88 : decode cX10_chain 88 = .ok (.ireturn, 1) := by decide +kernel
theorem dX10_chain_89 : decode cX10_chain 89 = .ok (.aload_n 0, 1) := by decide +kernel
theorem dX10_chain_90 : decode cX10_chain 90 = .ok (.iload_n 1, 1) := by decide +kernel
theorem dX10_chain_91 : decode cX10_chain 91 = .ok (.aload_n 0, 1) := by decide +kernel
theorem dX10_chain_92 : decode cX10_chain 92 = .ok (.getfield 21, 3) := by decide +kernel
theorem dX10_chain_95 : decode cX10_chain 95 = .ok (.invokevirtual 159, 3) := by decide +kernel
theorem dX10_chain_98 : decode cX10_chain 98 = .ok (.aload_n 0, 1) := by decide +kernel
theorem dX10_chain_99 : decode cX10_chain 99 = .ok (.getfield 47, 3) := by decide +kernel
theorem dX10_chain_102 : decode cX10_chain 102 = .ok (.aload_n 0, 1) := by decide +kernel
theorem dX10_chain_103 : decode cX10_chain 103 = .ok (.getfield 33, 3) := by decide +kernel
theorem dX10_chain_106 : decode cX10_chain 106 = .ok (.iload_n 1, 1) := by decide +kernel
theorem dX10_chain_107 : decode cX10_chain 107 = .ok (.invokevirtual 150, 3) := by decide +kernel
theorem dX10_chain_110 : decode cX10_chain 110 = .ok (.aload_n 0, 1) := by decide +kernel
theorem dX10_chain_111 : decode cX10_chain 111 = .ok (.iload_n 1, 1) := by decide +kernel
theorem dX10_chain_112 : decode cX10_chain 112 = .ok (.invokevirtual 163, 3) := by decide +kernel
theorem dX10_chain_115 : decode cX10_chain 115 = .ok (.aload_n 0, 1) := by decide +kernel
theorem dX10_chain_116 : decode cX10_chain 116 = .ok (.getfield 21, 3) := by decide +kernel
theorem dX10_chain_119 : decode cX10_chain 119 = .ok (.invokevirtual 166, 3) := by decide +kernel
theorem dX10_chain_122 : decode cX10_chain 122 = .ok (.aload_n 0, 1) := by decide +kernel
theorem dX10_chain_123 : decode cX10_chain 123 = .ok (.getfield 21, 3) := by decide +kernel
theorem dX10_chain_126 : decode cX10_chain 126 = .ok (.invokevirtual 86, 3) := by decide +kernel
theorem dX10_chain_129 : decode cX10_chain 129 = .ok (.ireturn, 1) := by decide +kernel
theorem dX10_chain_130 : decode cX10_chain 130 = .ok (.iconst (-1), 1) := by decide +kernel
theorem dX10_chain_131 : decode cX10_chain 131 = .ok (.ireturn, 1) := by decide +kernel
theorem dX10_choose_0 : decode cX10_choose 0 = .ok (.iload_n 1, 1) := by decide +kernel
theorem dX10_choose_1 : decode cX10_choose 1 = .ok (.ifCond .lt 7, 3) := by decide +kernel
theorem dX10_choose_4 : decode cX10_choose 4 = .ok (.iload_n 2, 1) := by decide +kernel
theorem dX10_choose_5 : decode cX10_choose 5 = .ok (.ifCond .ge 5, 3) := by decide +kernel
theorem dX10_choose_8 : decode cX10_choose 8 = .ok (.iconst (-1), 1) := by decide +kernel
theorem dX10_choose_9 : decode cX10_choose 9 = .ok (.ireturn, 1) := by decide +kernel
theorem dX10_choose_10 : decode cX10_choose 10 = .ok (.aload_n 0, 1) := by decide +kernel
theorem dX10_choose_11 : decode cX10_choose 11 = .ok (.getfield 61, 3) := by decide +kernel
theorem dX10_choose_14 : decode cX10_choose 14 = .ok (.aload_n 0, 1) := by decide +kernel
theorem dX10_choose_15 : decode cX10_choose 15 = .ok (.getfield 14, 3) := by decide +kernel
theorem dX10_choose_18 : decode cX10_choose 18 = .ok (.invokevirtual 170, 3) := by decide +kernel
theorem dX10_choose_21 : decode cX10_choose 21 = .ok (.istore_n 3, 1) := by decide +kernel
theorem dX10_choose_22 : decode cX10_choose 22 = .ok (.aload_n 0, 1) := by decide +kernel
theorem dX10_choose_23 : decode cX10_choose 23 = .ok (.getfield 65, 3) := by decide +kernel
theorem dX10_choose_26 : decode cX10_choose 26 = .ok (.iconst 0, 1) := by decide +kernel
theorem dX10_choose_27 : decode cX10_choose 27 = .ok (.invokestatic 80, 3) := by decide +kernel
theorem dX10_choose_30 : decode cX10_choose 30 = .ok (.aload_n 0, 1) := by decide +kernel
theorem dX10_choose_31 : decode cX10_choose 31 = .ok (.iconst 1, 1) := by decide +kernel
theorem dX10_choose_32 : decode cX10_choose 32 = .ok (.putfield 72, 3) := by decide +kernel
theorem dX10_choose_35 : decode cX10_choose 35 = .ok (.aload_n 0, 1) := by decide +kernel
theorem dX10_choose_36 : decode cX10_choose 36 = .ok (.getfield 65, 3) := by decide +kernel
theorem dX10_choose_39 : decode cX10_choose 39 = .ok (.iconst 3, 1) := by decide +kernel
theorem dX10_choose_40 : decode cX10_choose 40 = .ok (.aload_n 0, 1) := by decide +kernel
theorem dX10_choose_41 : decode cX10_choose 41 = .ok (.getfield 14, 3) := by decide +kernel
theorem dX10_choose_44 : decode cX10_choose 44 = .ok (.invokevirtual 86, 3) := by decide +kernel
theorem dX10_choose_47 : decode cX10_choose 47 = .ok (.iconst 4, 1) := by decide +kernel
theorem dX10_choose_48 : decode cX10_choose 48 = .ok (.iadd, 1) := by decide +kernel
theorem dX10_choose_49 : decode cX10_choose 49 = .ok (.iastore, 1) := by decide +kernel
theorem dX10_choose_50 : decode cX10_choose 50 = .ok (.iload_n 3, 1) := by decide +kernel
theorem dX10_choose_51 : decode cX10_choose 51 = .ok (.ifCond .eq 13, 3) := by decide +kernel
theorem dX10_choose_54 : decode cX10_choose 54 = .ok (.aload_n 0, 1) := by decide +kernel
theorem dX10_choose_55 : decode cX10_choose 55 = .ok (.getfield 65, 3) := by decide +kernel
theorem dX10_choose_58 : decode cX10_choose 58 = .ok (.iconst 5, 1) := by decide +kernel
theorem dX10_choose_59 : decode cX10_choose 59 = .ok (.iconst 1, 1) := by decide +kernel
theorem dX10_choose_60 : decode cX10_choose 60 = .ok (.iastore, 1) := by decide +kernel
theorem dX10_choose_61 : decode cX10_choose 61 = .ok (.goto 9, 3) := by decide +kernel
theorem dX10_choose_64 : decode cX10_choose 64 = .ok (.aload_n 0, 1) := by decide +kernel
theorem dX10_choose_65 : decode cX10_choose 65 = .ok (.iload_n 1, 1) := by decide +kernel
theorem dX10_choose_66 : decode cX10_choose 66 = .ok (.iload_n 2, 1) := by decide +kernel
theorem dX10_choose_67 : decode cX10_choose 67 = .ok (.invokevirtual 174, 3) := by decide +kernel
theorem dX10_choose_70 : decode cX10_choose 70 = .ok (.aload_n 0, 1) := by decide +kernel
theorem dX10_choose_71 : decode cX10_choose 71 = .ok (.getfield 65, 3) := by decide +kernel
theorem dX10_choose_74 : decode cX10_choose 74 = .ok (.iconst 2, 1) := by decide +kernel
theorem dX10_choose_75 : decode cX10_choose 75 = .ok (.iaload, 1) := by decide +kernel
theorem dX10_choose_76 : decode cX10_choose 76 = .ok (.ireturn, 1) := by decide +kernel
theorem dX10_told_0 : decode cX10_told 0 = .ok (.iload_n 1, 1) := by decide +kernel
theorem dX10_told_1 : decode cX10_told 1 = .ok (.ifCond .lt 12, 3) := by decide +kernel
theorem dX10_told_4 : decode cX10_told 4 = .ok (.iload_n 1, 1) := by decide +kernel
theorem dX10_told_5 : decode cX10_told 5 = .ok (.aload_n 0, 1) := by decide +kernel
theorem dX10_told_6 : decode cX10_told 6 = .ok (.getfield 65, 3) := by decide +kernel
theorem dX10_told_9 : decode cX10_told 9 = .ok (.arraylength, 1) := by decide +kernel
theorem dX10_told_10 : decode cX10_told 10 = .ok (.if_icmp .lt 5, 3) := by decide +kernel
theorem dX10_told_13 : decode cX10_told 13 = .ok (.iconst (-1), 1) := by decide +kernel
theorem dX10_told_14 : decode cX10_told 14 = .ok (.ireturn, 1) := by decide +kernel
theorem dX10_told_15 : decode cX10_told 15 = .ok (.aload_n 0, 1) := by decide +kernel
theorem dX10_told_16 : decode cX10_told 16 = .ok (.getfield 72, 3) := by decide +kernel
theorem dX10_told_19 : decode cX10_told 19 = .ok (.ifCond .eq 12, 3) := by decide +kernel
theorem dX10_told_22 : decode cX10_told 22 = .ok (.aload_n 0, 1) := by decide +kernel
theorem dX10_told_23 : decode cX10_told 23 = .ok (.getfield 65, 3) := by decide +kernel
theorem dX10_told_26 : decode cX10_told 26 = .ok (.iload_n 1, 1) := by decide +kernel
theorem dX10_told_27 : decode cX10_told 27 = .ok (.iaload, 1) := by decide +kernel
theorem dX10_told_28 : decode cX10_told 28 = .ok (.goto 5, 3) := by decide +kernel
theorem dX10_told_31 : decode cX10_told 31 = .ok (.bipush (-3), 2) := by decide +kernel
theorem dX10_told_33 : decode cX10_told 33 = .ok (.ireturn, 1) := by decide +kernel
theorem dX10_learn_0 : decode cX10_learn 0 = .ok (.aload_n 0, 1) := by decide +kernel
theorem dX10_learn_1 : decode cX10_learn 1 = .ok (.getfield 72, 3) := by decide +kernel
theorem dX10_learn_4 : decode cX10_learn 4 = .ok (.ifCond .ne 6, 3) := by decide +kernel
theorem dX10_learn_7 : decode cX10_learn 7 = .ok (.bipush (-3), 2) := by decide +kernel
theorem dX10_learn_9 : decode cX10_learn 9 = .ok (.ireturn, 1) := by decide +kernel
theorem dX10_learn_10 : decode cX10_learn 10 = .ok (.aload_n 0, 1) := by decide +kernel
theorem dX10_learn_11 : decode cX10_learn 11 = .ok (.getfield 61, 3) := by decide +kernel
theorem dX10_learn_14 : decode cX10_learn 14 = .ok (.aload_n 0, 1) := by decide +kernel
theorem dX10_learn_15 : decode cX10_learn 15 = .ok (.getfield 14, 3) := by decide +kernel
theorem dX10_learn_18 : decode cX10_learn 18 = .ok (.invokevirtual 177, 3) := by decide +kernel
theorem dX10_learn_21 : decode cX10_learn 21 = .ok (.istore_n 1, 1) := by decide +kernel
theorem dX10_learn_22 : decode cX10_learn 22 = .ok (.iload_n 1, 1) := by decide +kernel
theorem dX10_learn_23 : decode cX10_learn 23 = .ok (.ifCond .lt 24, 3) := by decide +kernel
theorem dX10_learn_26 : decode cX10_learn 26 = .ok (.iload_n 1, 1) := by decide +kernel
theorem dX10_learn_27 : decode cX10_learn 27 = .ok (.aload_n 0, 1) := by decide +kernel
theorem dX10_learn_28 : decode cX10_learn 28 = .ok (.getfield 69, 3) := by decide +kernel
theorem dX10_learn_31 : decode cX10_learn 31 = .ok (.arraylength, 1) := by decide +kernel
theorem dX10_learn_32 : decode cX10_learn 32 = .ok (.if_icmp .ge 15, 3) := by decide +kernel
theorem dX10_learn_35 : decode cX10_learn 35 = .ok (.aload_n 0, 1) := by decide +kernel
theorem dX10_learn_36 : decode cX10_learn 36 = .ok (.getfield 69, 3) := by decide +kernel
theorem dX10_learn_39 : decode cX10_learn 39 = .ok (.iload_n 1, 1) := by decide +kernel
theorem dX10_learn_40 : decode cX10_learn 40 = .ok (.aload_n 0, 1) := by decide +kernel
theorem dX10_learn_41 : decode cX10_learn 41 = .ok (.getfield 65, 3) := by decide +kernel
theorem dX10_learn_44 : decode cX10_learn 44 = .ok (.iconst 2, 1) := by decide +kernel
theorem dX10_learn_45 : decode cX10_learn 45 = .ok (.iaload, 1) := by decide +kernel
theorem dX10_learn_46 : decode cX10_learn 46 = .ok (.iastore, 1) := by decide +kernel
theorem dX10_learn_47 : decode cX10_learn 47 = .ok (.iload_n 1, 1) := by decide +kernel
theorem dX10_learn_48 : decode cX10_learn 48 = .ok (.ireturn, 1) := by decide +kernel
theorem dX10_feature_0 : decode cX10_feature 0 = .ok (.aload_n 0, 1) := by decide +kernel
theorem dX10_feature_1 : decode cX10_feature 1 = .ok (.getfield 61, 3) := by decide +kernel
theorem dX10_feature_4 : decode cX10_feature 4 = .ok (.aload_n 0, 1) := by decide +kernel
theorem dX10_feature_5 : decode cX10_feature 5 = .ok (.getfield 14, 3) := by decide +kernel
theorem dX10_feature_8 : decode cX10_feature 8 = .ok (.invokevirtual 177, 3) := by decide +kernel
theorem dX10_feature_11 : decode cX10_feature 11 = .ok (.ireturn, 1) := by decide +kernel
theorem dX10_learned_0 : decode cX10_learned 0 = .ok (.iload_n 1, 1) := by decide +kernel
theorem dX10_learned_1 : decode cX10_learned 1 = .ok (.ifCond .lt 12, 3) := by decide +kernel
theorem dX10_learned_4 : decode cX10_learned 4 = .ok (.iload_n 1, 1) := by decide +kernel
theorem dX10_learned_5 : decode cX10_learned 5 = .ok (.aload_n 0, 1) := by decide +kernel
theorem dX10_learned_6 : decode cX10_learned 6 = .ok (.getfield 69, 3) := by decide +kernel
theorem dX10_learned_9 : decode cX10_learned 9 = .ok (.arraylength, 1) := by decide +kernel
theorem dX10_learned_10 : decode cX10_learned 10 = .ok (.if_icmp .lt 5, 3) := by decide +kernel
theorem dX10_learned_13 : decode cX10_learned 13 = .ok (.iconst (-1), 1) := by decide +kernel
theorem dX10_learned_14 : decode cX10_learned 14 = .ok (.ireturn, 1) := by decide +kernel
theorem dX10_learned_15 : decode cX10_learned 15 = .ok (.aload_n 0, 1) := by decide +kernel
theorem dX10_learned_16 : decode cX10_learned 16 = .ok (.getfield 69, 3) := by decide +kernel
theorem dX10_learned_19 : decode cX10_learned 19 = .ok (.iload_n 1, 1) := by decide +kernel
theorem dX10_learned_20 : decode cX10_learned 20 = .ok (.iaload, 1) := by decide +kernel
theorem dX10_learned_21 : decode cX10_learned 21 = .ok (.ireturn, 1) := by decide +kernel
theorem dX10_share_0 : decode cX10_share 0 = .ok (.iload_n 2, 1) := by decide +kernel
theorem dX10_share_1 : decode cX10_share 1 = .ok (.ifCond .ne 13, 3) := by decide +kernel
theorem dX10_share_4 : decode cX10_share 4 = .ok (.new 181, 3) := by decide +kernel
theorem dX10_share_7 : decode cX10_share 7 = .ok (.dup, 1) := by decide +kernel
theorem dX10_share_8 : decode cX10_share 8 = .ok (.ldc 183, 2) := by decide +kernel
theorem dX10_share_10 : decode cX10_share 10 = .ok (.invokespecial 185, 3) := by decide +kernel
theorem dX10_share_13 : decode cX10_share 13 = .ok (.athrow, 1) := by decide +kernel
theorem dX10_share_14 : decode cX10_share 14 = .ok (.ldc2_w 188, 3) := by decide +kernel
theorem dX10_share_17 : decode cX10_share 17 = .ok (.iload_n 1, 1) := by decide +kernel
theorem dX10_share_18 : decode cX10_share 18 = .ok (.i2l, 1) := by decide +kernel
theorem dX10_share_19 : decode cX10_share 19 = .ok (.lmul, 1) := by decide +kernel
theorem dX10_share_20 : decode cX10_share 20 = .ok (.iload_n 2, 1) := by decide +kernel
theorem dX10_share_21 : decode cX10_share 21 = .ok (.i2l, 1) := by decide +kernel
theorem dX10_share_22 : decode cX10_share 22 = .ok (.ldiv, 1) := by decide +kernel
theorem dX10_share_23 : decode cX10_share 23 = .ok (.lreturn, 1) := by decide +kernel
theorem dX10_pack_0 : decode cX10_pack 0 = .ok (.aload_n 0, 1) := by decide +kernel
theorem dX10_pack_1 : decode cX10_pack 1 = .ok (.getfield 33, 3) := by decide +kernel
theorem dX10_pack_4 : decode cX10_pack 4 = .ok (.iload_n 1, 1) := by decide +kernel
theorem dX10_pack_5 : decode cX10_pack 5 = .ok (.invokevirtual 145, 3) := by decide +kernel
theorem dX10_pack_8 : decode cX10_pack 8 = .ok (.ifCond .ne 5, 3) := by decide +kernel
theorem dX10_pack_11 : decode cX10_pack 11 = .ok (.iconst (-1), 1) := by decide +kernel
theorem dX10_pack_12 : decode cX10_pack 12 = .ok (.ireturn, 1) := by decide +kernel
theorem dX10_pack_13 : decode cX10_pack 13 = .ok (.aload_n 0, 1) := by decide +kernel
theorem dX10_pack_14 : decode cX10_pack 14 = .ok (.iload_n 1, 1) := by decide +kernel
theorem dX10_pack_15 : decode cX10_pack 15 = .ok (.aload_n 0, 1) := by decide +kernel
theorem dX10_pack_16 : decode cX10_pack 16 = .ok (.getfield 18, 3) := by decide +kernel
theorem dX10_pack_19 : decode cX10_pack 19 = .ok (.invokevirtual 159, 3) := by decide +kernel
theorem dX10_pack_22 : decode cX10_pack 22 = .ok (.aload_n 0, 1) := by decide +kernel
theorem dX10_pack_23 : decode cX10_pack 23 = .ok (.getfield 47, 3) := by decide +kernel
theorem dX10_pack_26 : decode cX10_pack 26 = .ok (.aload_n 0, 1) := by decide +kernel
theorem dX10_pack_27 : decode cX10_pack 27 = .ok (.getfield 33, 3) := by decide +kernel
theorem dX10_pack_30 : decode cX10_pack 30 = .ok (.iload_n 1, 1) := by decide +kernel
theorem dX10_pack_31 : decode cX10_pack 31 = .ok (.invokevirtual 150, 3) := by decide +kernel
theorem dX10_pack_34 : decode cX10_pack 34 = .ok (.aload_n 0, 1) := by decide +kernel
theorem dX10_pack_35 : decode cX10_pack 35 = .ok (.iload_n 1, 1) := by decide +kernel
theorem dX10_pack_36 : decode cX10_pack 36 = .ok (.invokevirtual 163, 3) := by decide +kernel
theorem dX10_pack_39 : decode cX10_pack 39 = .ok (.aload_n 0, 1) := by decide +kernel
theorem dX10_pack_40 : decode cX10_pack 40 = .ok (.getfield 18, 3) := by decide +kernel
theorem dX10_pack_43 : decode cX10_pack 43 = .ok (.invokevirtual 166, 3) := by decide +kernel
theorem dX10_pack_46 : decode cX10_pack 46 = .ok (.aload_n 0, 1) := by decide +kernel
theorem dX10_pack_47 : decode cX10_pack 47 = .ok (.getfield 18, 3) := by decide +kernel
theorem dX10_pack_50 : decode cX10_pack 50 = .ok (.invokevirtual 86, 3) := by decide +kernel
theorem dX10_pack_53 : decode cX10_pack 53 = .ok (.ireturn, 1) := by decide +kernel
theorem dX10_alter_0 : decode cX10_alter 0 = .ok (.aload_n 0, 1) := by decide +kernel
theorem dX10_alter_1 : decode cX10_alter 1 = .ok (.getfield 18, 3) := by decide +kernel
theorem dX10_alter_4 : decode cX10_alter 4 = .ok (.iload_n 1, 1) := by decide +kernel
theorem dX10_alter_5 : decode cX10_alter 5 = .ok (.invokevirtual 109, 3) := by decide +kernel
theorem dX10_alter_8 : decode cX10_alter 8 = .ok (.ifCond .eq 10, 3) := by decide +kernel
theorem dX10_alter_11 : decode cX10_alter 11 = .ok (.iload_n 2, 1) := by decide +kernel
theorem dX10_alter_12 : decode cX10_alter 12 = .ok (.invokestatic 93, 3) := by decide +kernel
theorem dX10_alter_15 : decode cX10_alter 15 = .ok (.ifCond .ne 5, 3) := by decide +kernel
theorem dX10_alter_18 : decode cX10_alter 18 = .ok (.iconst (-1), 1) := by decide +kernel
theorem dX10_alter_19 : decode cX10_alter 19 = .ok (.ireturn, 1) := by decide +kernel
theorem dX10_alter_20 : decode cX10_alter 20 = .ok (.aload_n 0, 1) := by decide +kernel
theorem dX10_alter_21 : decode cX10_alter 21 = .ok (.getfield 18, 3) := by decide +kernel
theorem dX10_alter_24 : decode cX10_alter 24 = .ok (.iload_n 1, 1) := by decide +kernel
theorem dX10_alter_25 : decode cX10_alter 25 = .ok (.invokevirtual 112, 3) := by decide +kernel
theorem dX10_alter_28 : decode cX10_alter 28 = .ok (.istore_n 3, 1) := by decide +kernel
theorem dX10_alter_29 : decode cX10_alter 29 = .ok (.aload_n 0, 1) := by decide +kernel
theorem dX10_alter_30 : decode cX10_alter 30 = .ok (.getfield 18, 3) := by decide +kernel
theorem dX10_alter_33 : decode cX10_alter 33 = .ok (.iload_n 1, 1) := by decide +kernel
theorem dX10_alter_34 : decode cX10_alter 34 = .ok (.iload_n 2, 1) := by decide +kernel
theorem dX10_alter_35 : decode cX10_alter 35 = .ok (.invokevirtual 190, 3) := by decide +kernel
theorem dX10_alter_38 : decode cX10_alter 38 = .ok (.iload_n 3, 1) := by decide +kernel
theorem dX10_alter_39 : decode cX10_alter 39 = .ok (.ireturn, 1) := by decide +kernel
theorem dX10_cut_0 : decode cX10_cut 0 = .ok (.iload_n 1, 1) := by decide +kernel
theorem dX10_cut_1 : decode cX10_cut 1 = .ok (.ifCond .lt 14, 3) := by decide +kernel
theorem dX10_cut_4 : decode cX10_cut 4 = .ok (.iload_n 1, 1) := by decide +kernel
theorem dX10_cut_5 : decode cX10_cut 5 = .ok (.aload_n 0, 1) := by decide +kernel
theorem dX10_cut_6 : decode cX10_cut 6 = .ok (.getfield 18, 3) := by decide +kernel
theorem dX10_cut_9 : decode cX10_cut 9 = .ok (.invokevirtual 86, 3) := by decide +kernel
theorem dX10_cut_12 : decode cX10_cut 12 = .ok (.if_icmp .le 5, 3) := by decide +kernel
theorem dX10_cut_15 : decode cX10_cut 15 = .ok (.iconst (-1), 1) := by decide +kernel
theorem dX10_cut_16 : decode cX10_cut 16 = .ok (.ireturn, 1) := by decide +kernel
theorem dX10_cut_17 : decode cX10_cut 17 = .ok (.aload_n 0, 1) := by decide +kernel
theorem dX10_cut_18 : decode cX10_cut 18 = .ok (.getfield 18, 3) := by decide +kernel
theorem dX10_cut_21 : decode cX10_cut 21 = .ok (.invokevirtual 86, 3) := by decide +kernel
theorem dX10_cut_24 : decode cX10_cut 24 = .ok (.iload_n 1, 1) := by decide +kernel
theorem dX10_cut_25 : decode cX10_cut 25 = .ok (.isub, 1) := by decide +kernel
theorem dX10_cut_26 : decode cX10_cut 26 = .ok (.istore_n 2, 1) := by decide +kernel
theorem dX10_cut_27 : decode cX10_cut 27 = .ok (.aload_n 0, 1) := by decide +kernel
theorem dX10_cut_28 : decode cX10_cut 28 = .ok (.getfield 18, 3) := by decide +kernel
theorem dX10_cut_31 : decode cX10_cut 31 = .ok (.iload_n 1, 1) := by decide +kernel
theorem dX10_cut_32 : decode cX10_cut 32 = .ok (.invokevirtual 193, 3) := by decide +kernel
theorem dX10_cut_35 : decode cX10_cut 35 = .ok (.iload_n 2, 1) := by decide +kernel
theorem dX10_cut_36 : decode cX10_cut 36 = .ok (.ireturn, 1) := by decide +kernel
theorem dX10_unpack_0 : decode cX10_unpack 0 = .ok (.aload_n 0, 1) := by decide +kernel
theorem dX10_unpack_1 : decode cX10_unpack 1 = .ok (.getfield 54, 3) := by decide +kernel
theorem dX10_unpack_4 : decode cX10_unpack 4 = .ok (.aload_n 0, 1) := by decide +kernel
theorem dX10_unpack_5 : decode cX10_unpack 5 = .ok (.getfield 18, 3) := by decide +kernel
theorem dX10_unpack_8 : decode cX10_unpack 8 = .ok (.invokevirtual 196, 3) := by decide +kernel
theorem dX10_unpack_11 : decode cX10_unpack 11 = .ok (.aload_n 0, 1) := by decide +kernel
theorem dX10_unpack_12 : decode cX10_unpack 12 = .ok (.getfield 54, 3) := by decide +kernel
theorem dX10_unpack_15 : decode cX10_unpack 15 = .ok (.invokevirtual 200, 3) := by decide +kernel
theorem dX10_unpack_18 : decode cX10_unpack 18 = .ok (.aload_n 0, 1) := by decide +kernel
theorem dX10_unpack_19 : decode cX10_unpack 19 = .ok (.getfield 54, 3) := by decide +kernel
theorem dX10_unpack_22 : decode cX10_unpack 22 = .ok (.aload_n 0, 1) := by decide +kernel
theorem dX10_unpack_23 : decode cX10_unpack 23 = .ok (.getfield 14, 3) := by decide +kernel
theorem dX10_unpack_26 : decode cX10_unpack 26 = .ok (.invokevirtual 203, 3) := by decide +kernel
theorem dX10_unpack_29 : decode cX10_unpack 29 = .ok (.istore_n 1, 1) := by decide +kernel
theorem dX10_unpack_30 : decode cX10_unpack 30 = .ok (.aload_n 0, 1) := by decide +kernel
theorem dX10_unpack_31 : decode cX10_unpack 31 = .ok (.iload_n 1, 1) := by decide +kernel
theorem dX10_unpack_32 : decode cX10_unpack 32 = .ok (.ifCond .ne 8, 3) := by decide +kernel
theorem dX10_unpack_35 : decode cX10_unpack 35 = .ok (.bipush (-3), 2) := by decide +kernel
theorem dX10_unpack_37 : decode cX10_unpack 37 = .ok (.goto 10, 3) := by decide +kernel
theorem dX10_unpack_40 : decode cX10_unpack 40 = .ok (.aload_n 0, 1) := by decide +kernel
theorem dX10_unpack_41 : decode cX10_unpack 41 = .ok (.getfield 54, 3) := by decide +kernel
theorem dX10_unpack_44 : decode cX10_unpack 44 = .ok (.invokevirtual 206, 3) := by decide +kernel
theorem dX10_unpack_47 : decode cX10_unpack 47 = .ok (.putfield 76, 3) := by decide +kernel
theorem dX10_unpack_50 : decode cX10_unpack 50 = .ok (.iload_n 1, 1) := by decide +kernel
theorem dX10_unpack_51 : decode cX10_unpack 51 = .ok (.ifCond .ne 13, 3) := by decide +kernel
theorem dX10_unpack_54 : decode cX10_unpack 54 = .ok (.aload_n 0, 1) := by decide +kernel
theorem dX10_unpack_55 : decode cX10_unpack 55 = .ok (.getfield 14, 3) := by decide +kernel
theorem dX10_unpack_58 : decode cX10_unpack 58 = .ok (.invokevirtual 86, 3) := by decide +kernel
theorem dX10_unpack_61 : decode cX10_unpack 61 = .ok (.goto 7, 3) := by decide +kernel
theorem dX10_unpack_64 : decode cX10_unpack 64 = .ok (.bipush (-10), 2) := by decide +kernel
theorem dX10_unpack_66 : decode cX10_unpack 66 = .ok (.iload_n 1, 1) := by decide +kernel
theorem dX10_unpack_67 : decode cX10_unpack 67 = .ok (.isub, 1) := by decide +kernel
theorem dX10_unpack_68 : decode cX10_unpack 68 = .ok (.ireturn, 1) := by decide +kernel
theorem dX10_place_0 : decode cX10_place 0 = .ok (.aload_n 0, 1) := by decide +kernel
theorem dX10_place_1 : decode cX10_place 1 = .ok (.getfield 76, 3) := by decide +kernel
theorem dX10_place_4 : decode cX10_place 4 = .ok (.ireturn, 1) := by decide +kernel
theorem dX10_isByte_0 : decode cX10_isByte 0 = .ok (.iload_n 0, 1) := by decide +kernel
theorem dX10_isByte_1 : decode cX10_isByte 1 = .ok (.ifCond .lt 14, 3) := by decide +kernel
theorem dX10_isByte_4 : decode cX10_isByte 4 = .ok (.iload_n 0, 1) := by decide +kernel
theorem dX10_isByte_5 : decode cX10_isByte 5 = .ok (.sipush 256, 3) := by decide +kernel
theorem dX10_isByte_8 : decode cX10_isByte 8 = .ok (.if_icmp .ge 7, 3) := by decide +kernel
theorem dX10_isByte_11 : decode cX10_isByte 11 = .ok (.iconst 1, 1) := by decide +kernel
theorem dX10_isByte_12 : decode cX10_isByte 12 = .ok (.goto 4, 3) := by decide +kernel
theorem dX10_isByte_15 : decode cX10_isByte 15 = .ok (.iconst 0, 1) := by decide +kernel
theorem dX10_isByte_16 : decode cX10_isByte 16 = .ok (.ireturn, 1) := by decide +kernel
theorem dX10_drawn_0 : decode cX10_drawn 0 = .ok (.iload_n 1, 1) := by decide +kernel
theorem dX10_drawn_1 : decode cX10_drawn 1 = .ok (.tableswitch 42 0 2 #[27, 33, 37], 27) := by decide +kernel
theorem dX10_drawn_28 : decode cX10_drawn 28 = .ok (.iload_n 0, 1) := by decide +kernel
theorem dX10_drawn_29 : decode cX10_drawn 29 = .ok (.sipush 256, 3) := by decide +kernel
theorem dX10_drawn_32 : decode cX10_drawn 32 = .ok (.irem, 1) := by decide +kernel
theorem dX10_drawn_33 : decode cX10_drawn 33 = .ok (.ireturn, 1) := by decide +kernel
theorem dX10_drawn_34 : decode cX10_drawn 34 = .ok (.iload_n 0, 1) := by decide +kernel
theorem dX10_drawn_35 : decode cX10_drawn 35 = .ok (.iconst 4, 1) := by decide +kernel
theorem dX10_drawn_36 : decode cX10_drawn 36 = .ok (.irem, 1) := by decide +kernel
theorem dX10_drawn_37 : decode cX10_drawn 37 = .ok (.ireturn, 1) := by decide +kernel
theorem dX10_drawn_38 : decode cX10_drawn 38 = .ok (.iload_n 0, 1) := by decide +kernel
theorem dX10_drawn_39 : decode cX10_drawn 39 = .ok (.bipush 8, 2) := by decide +kernel
theorem dX10_drawn_41 : decode cX10_drawn 41 = .ok (.irem, 1) := by decide +kernel
theorem dX10_drawn_42 : decode cX10_drawn 42 = .ok (.ireturn, 1) := by decide +kernel
theorem dX10_drawn_43 : decode cX10_drawn 43 = .ok (.iload_n 2, 1) := by decide +kernel
theorem dX10_drawn_44 : decode cX10_drawn 44 = .ok (.iload_n 0, 1) := by decide +kernel
theorem dX10_drawn_45 : decode cX10_drawn 45 = .ok (.iconst 4, 1) := by decide +kernel
theorem dX10_drawn_46 : decode cX10_drawn 46 = .ok (.irem, 1) := by decide +kernel
theorem dX10_drawn_47 : decode cX10_drawn 47 = .ok (.iadd, 1) := by decide +kernel
theorem dX10_drawn_48 : decode cX10_drawn 48 = .ok (.sipush 256, 3) := by decide +kernel
theorem dX10_drawn_51 : decode cX10_drawn 51 = .ok (.irem, 1) := by decide +kernel
theorem dX10_drawn_52 : decode cX10_drawn 52 = .ok (.ireturn, 1) := by decide +kernel
theorem dX10_rowOf_0 : decode cX10_rowOf 0 = .ok (.iload_n 1, 1) := by decide +kernel
theorem dX10_rowOf_1 : decode cX10_rowOf 1 = .ok (.ifCond .ne 10, 3) := by decide +kernel
theorem dX10_rowOf_4 : decode cX10_rowOf 4 = .ok (.aload_n 0, 1) := by decide +kernel
theorem dX10_rowOf_5 : decode cX10_rowOf 5 = .ok (.getfield 14, 3) := by decide +kernel
theorem dX10_rowOf_8 : decode cX10_rowOf 8 = .ok (.goto 7, 3) := by decide +kernel
theorem dX10_rowOf_11 : decode cX10_rowOf 11 = .ok (.aload_n 0, 1) := by decide +kernel
theorem dX10_rowOf_12 : decode cX10_rowOf 12 = .ok (.getfield 18, 3) := by decide +kernel
theorem dX10_rowOf_15 : decode cX10_rowOf 15 = .ok (.areturn, 1) := by decide +kernel
theorem dX10_dropChoices_0 : decode cX10_dropChoices 0 = .ok (.aload_n 0, 1) := by decide +kernel
theorem dX10_dropChoices_1 : decode cX10_dropChoices 1 = .ok (.iconst 0, 1) := by decide +kernel
theorem dX10_dropChoices_2 : decode cX10_dropChoices 2 = .ok (.putfield 72, 3) := by decide +kernel
theorem dX10_dropChoices_5 : decode cX10_dropChoices 5 = .ok (.aload_n 0, 1) := by decide +kernel
theorem dX10_dropChoices_6 : decode cX10_dropChoices 6 = .ok (.getfield 69, 3) := by decide +kernel
theorem dX10_dropChoices_9 : decode cX10_dropChoices 9 = .ok (.bipush (-3), 2) := by decide +kernel
theorem dX10_dropChoices_11 : decode cX10_dropChoices 11 = .ok (.invokestatic 80, 3) := by decide +kernel
theorem dX10_dropChoices_14 : decode cX10_dropChoices 14 = .ok (.return_, 1) := by decide +kernel
theorem dX10_filtered_0 : decode cX10_filtered 0 = .ok (.aload_n 0, 1) := by decide +kernel
theorem dX10_filtered_1 : decode cX10_filtered 1 = .ok (.getfield 14, 3) := by decide +kernel
theorem dX10_filtered_4 : decode cX10_filtered 4 = .ok (.astore_n 2, 1) := by decide +kernel
theorem dX10_filtered_5 : decode cX10_filtered 5 = .ok (.aload_n 0, 1) := by decide +kernel
theorem dX10_filtered_6 : decode cX10_filtered 6 = .ok (.getfield 33, 3) := by decide +kernel
theorem dX10_filtered_9 : decode cX10_filtered 9 = .ok (.iload_n 1, 1) := by decide +kernel
theorem dX10_filtered_10 : decode cX10_filtered 10 = .ok (.iconst 0, 1) := by decide +kernel
theorem dX10_filtered_11 : decode cX10_filtered 11 = .ok (.invokevirtual 146, 3) := by decide +kernel
theorem dX10_filtered_14 : decode cX10_filtered 14 = .ok (.istore_n 3, 1) := by decide +kernel
theorem dX10_filtered_15 : decode cX10_filtered 15 = .ok (.iload_n 3, 1) := by decide +kernel
theorem dX10_filtered_16 : decode cX10_filtered 16 = .ok (.bipush (-3), 2) := by decide +kernel
theorem dX10_filtered_18 : decode cX10_filtered 18 = .ok (.if_icmp .eq 36, 3) := by decide +kernel
theorem dX10_filtered_21 : decode cX10_filtered 21 = .ok (.aload_n 0, 1) := by decide +kernel
theorem dX10_filtered_22 : decode cX10_filtered 22 = .ok (.getfield 40, 3) := by decide +kernel
theorem dX10_filtered_25 : decode cX10_filtered 25 = .ok (.aload_n 0, 1) := by decide +kernel
theorem dX10_filtered_26 : decode cX10_filtered 26 = .ok (.getfield 33, 3) := by decide +kernel
theorem dX10_filtered_29 : decode cX10_filtered 29 = .ok (.iload_n 3, 1) := by decide +kernel
theorem dX10_filtered_30 : decode cX10_filtered 30 = .ok (.invokevirtual 208, 3) := by decide +kernel
theorem dX10_filtered_33 : decode cX10_filtered 33 = .ok (.aload_n 0, 1) := by decide +kernel
theorem dX10_filtered_34 : decode cX10_filtered 34 = .ok (.getfield 33, 3) := by decide +kernel
theorem dX10_filtered_37 : decode cX10_filtered 37 = .ok (.iload_n 3, 1) := by decide +kernel
theorem dX10_filtered_38 : decode cX10_filtered 38 = .ok (.invokevirtual 211, 3) := by decide +kernel
theorem dX10_filtered_41 : decode cX10_filtered 41 = .ok (.aload_n 2, 1) := by decide +kernel
theorem dX10_filtered_42 : decode cX10_filtered 42 = .ok (.aload_n 0, 1) := by decide +kernel
theorem dX10_filtered_43 : decode cX10_filtered 43 = .ok (.getfield 24, 3) := by decide +kernel
theorem dX10_filtered_46 : decode cX10_filtered 46 = .ok (.invokevirtual 214, 3) := by decide +kernel
theorem dX10_filtered_49 : decode cX10_filtered 49 = .ok (.aload_n 0, 1) := by decide +kernel
theorem dX10_filtered_50 : decode cX10_filtered 50 = .ok (.getfield 24, 3) := by decide +kernel
theorem dX10_filtered_53 : decode cX10_filtered 53 = .ok (.astore_n 2, 1) := by decide +kernel
theorem dX10_filtered_54 : decode cX10_filtered 54 = .ok (.aload_n 0, 1) := by decide +kernel
theorem dX10_filtered_55 : decode cX10_filtered 55 = .ok (.getfield 33, 3) := by decide +kernel
theorem dX10_filtered_58 : decode cX10_filtered 58 = .ok (.iload_n 1, 1) := by decide +kernel
theorem dX10_filtered_59 : decode cX10_filtered 59 = .ok (.iconst 1, 1) := by decide +kernel
theorem dX10_filtered_60 : decode cX10_filtered 60 = .ok (.invokevirtual 146, 3) := by decide +kernel
theorem dX10_filtered_63 : decode cX10_filtered 63 = .ok (.istore 4, 2) := by decide +kernel
theorem dX10_filtered_65 : decode cX10_filtered 65 = .ok (.iload 4, 2) := by decide +kernel
theorem dX10_filtered_67 : decode cX10_filtered 67 = .ok (.bipush (-3), 2) := by decide +kernel
theorem dX10_filtered_69 : decode cX10_filtered 69 = .ok (.if_icmp .eq 38, 3) := by decide +kernel
theorem dX10_filtered_72 : decode cX10_filtered 72 = .ok (.aload_n 0, 1) := by decide +kernel
theorem dX10_filtered_73 : decode cX10_filtered 73 = .ok (.getfield 40, 3) := by decide +kernel
theorem dX10_filtered_76 : decode cX10_filtered 76 = .ok (.aload_n 0, 1) := by decide +kernel
theorem dX10_filtered_77 : decode cX10_filtered 77 = .ok (.getfield 33, 3) := by decide +kernel
theorem dX10_filtered_80 : decode cX10_filtered 80 = .ok (.iload 4, 2) := by decide +kernel
theorem dX10_filtered_82 : decode cX10_filtered 82 = .ok (.invokevirtual 208, 3) := by decide +kernel
theorem dX10_filtered_85 : decode cX10_filtered 85 = .ok (.aload_n 0, 1) := by decide +kernel
theorem dX10_filtered_86 : decode cX10_filtered 86 = .ok (.getfield 33, 3) := by decide +kernel
theorem dX10_filtered_89 : decode cX10_filtered 89 = .ok (.iload 4, 2) := by decide +kernel
theorem dX10_filtered_91 : decode cX10_filtered 91 = .ok (.invokevirtual 211, 3) := by decide +kernel
theorem dX10_filtered_94 : decode cX10_filtered 94 = .ok (.aload_n 2, 1) := by decide +kernel
theorem dX10_filtered_95 : decode cX10_filtered 95 = .ok (.aload_n 0, 1) := by decide +kernel
theorem dX10_filtered_96 : decode cX10_filtered 96 = .ok (.getfield 27, 3) := by decide +kernel
theorem dX10_filtered_99 : decode cX10_filtered 99 = .ok (.invokevirtual 214, 3) := by decide +kernel
theorem dX10_filtered_102 : decode cX10_filtered 102 = .ok (.aload_n 0, 1) := by decide +kernel
theorem dX10_filtered_103 : decode cX10_filtered 103 = .ok (.getfield 27, 3) := by decide +kernel
theorem dX10_filtered_106 : decode cX10_filtered 106 = .ok (.astore_n 2, 1) := by decide +kernel
theorem dX10_filtered_107 : decode cX10_filtered 107 = .ok (.aload_n 2, 1) := by decide +kernel
theorem dX10_filtered_108 : decode cX10_filtered 108 = .ok (.areturn, 1) := by decide +kernel
theorem dX10_writeHead_0 : decode cX10_writeHead 0 = .ok (.aload_n 0, 1) := by decide +kernel
theorem dX10_writeHead_1 : decode cX10_writeHead 1 = .ok (.getfield 33, 3) := by decide +kernel
theorem dX10_writeHead_4 : decode cX10_writeHead 4 = .ok (.iload_n 1, 1) := by decide +kernel
theorem dX10_writeHead_5 : decode cX10_writeHead 5 = .ok (.invokevirtual 218, 3) := by decide +kernel
theorem dX10_writeHead_8 : decode cX10_writeHead 8 = .ok (.istore_n 3, 1) := by decide +kernel
theorem dX10_writeHead_9 : decode cX10_writeHead 9 = .ok (.aload_n 2, 1) := by decide +kernel
theorem dX10_writeHead_10 : decode cX10_writeHead 10 = .ok (.invokevirtual 90, 3) := by decide +kernel
theorem dX10_writeHead_13 : decode cX10_writeHead 13 = .ok (.aload_n 2, 1) := by decide +kernel
theorem dX10_writeHead_14 : decode cX10_writeHead 14 = .ok (.iload_n 3, 1) := by decide +kernel
theorem dX10_writeHead_15 : decode cX10_writeHead 15 = .ok (.invokevirtual 97, 3) := by decide +kernel
theorem dX10_writeHead_18 : decode cX10_writeHead 18 = .ok (.iconst 0, 1) := by decide +kernel
theorem dX10_writeHead_19 : decode cX10_writeHead 19 = .ok (.istore 4, 2) := by decide +kernel
theorem dX10_writeHead_21 : decode cX10_writeHead 21 = .ok (.iload 4, 2) := by decide +kernel
theorem dX10_writeHead_23 : decode cX10_writeHead 23 = .ok (.iload_n 3, 1) := by decide +kernel
theorem dX10_writeHead_24 : decode cX10_writeHead 24 = .ok (.if_icmp .ge 47, 3) := by decide +kernel
theorem dX10_writeHead_27 : decode cX10_writeHead 27 = .ok (.aload_n 0, 1) := by decide +kernel
theorem dX10_writeHead_28 : decode cX10_writeHead 28 = .ok (.getfield 33, 3) := by decide +kernel
theorem dX10_writeHead_31 : decode cX10_writeHead 31 = .ok (.iload_n 1, 1) := by decide +kernel
theorem dX10_writeHead_32 : decode cX10_writeHead 32 = .ok (.iload 4, 2) := by decide +kernel
theorem dX10_writeHead_34 : decode cX10_writeHead 34 = .ok (.invokevirtual 146, 3) := by decide +kernel
theorem dX10_writeHead_37 : decode cX10_writeHead 37 = .ok (.istore 5, 2) := by decide +kernel
theorem dX10_writeHead_39 : decode cX10_writeHead 39 = .ok (.aload_n 2, 1) := by decide +kernel
theorem dX10_writeHead_40 : decode cX10_writeHead 40 = .ok (.aload_n 0, 1) := by decide +kernel
theorem dX10_writeHead_41 : decode cX10_writeHead 41 = .ok (.getfield 33, 3) := by decide +kernel
theorem dX10_writeHead_44 : decode cX10_writeHead 44 = .ok (.iload 5, 2) := by decide +kernel
theorem dX10_writeHead_46 : decode cX10_writeHead 46 = .ok (.invokevirtual 208, 3) := by decide +kernel
theorem dX10_writeHead_49 : decode cX10_writeHead 49 = .ok (.invokevirtual 97, 3) := by decide +kernel
theorem dX10_writeHead_52 : decode cX10_writeHead 52 = .ok (.aload_n 2, 1) := by decide +kernel
theorem dX10_writeHead_53 : decode cX10_writeHead 53 = .ok (.aload_n 0, 1) := by decide +kernel
theorem dX10_writeHead_54 : decode cX10_writeHead 54 = .ok (.getfield 33, 3) := by decide +kernel
theorem dX10_writeHead_57 : decode cX10_writeHead 57 = .ok (.iload 5, 2) := by decide +kernel
theorem dX10_writeHead_59 : decode cX10_writeHead 59 = .ok (.invokevirtual 211, 3) := by decide +kernel
theorem dX10_writeHead_62 : decode cX10_writeHead 62 = .ok (.invokevirtual 97, 3) := by decide +kernel
theorem dX10_writeHead_65 : decode cX10_writeHead 65 = .ok (.iinc 4 1, 3) := by decide +kernel
theorem dX10_writeHead_68 : decode cX10_writeHead 68 = .ok (.goto (-47), 3) := by decide +kernel
theorem dX10_writeHead_71 : decode cX10_writeHead 71 = .ok (.aload_n 2, 1) := by decide +kernel
theorem dX10_writeHead_72 : decode cX10_writeHead 72 = .ok (.aload_n 0, 1) := by decide +kernel
theorem dX10_writeHead_73 : decode cX10_writeHead 73 = .ok (.getfield 33, 3) := by decide +kernel
theorem dX10_writeHead_76 : decode cX10_writeHead 76 = .ok (.iload_n 1, 1) := by decide +kernel
theorem dX10_writeHead_77 : decode cX10_writeHead 77 = .ok (.invokevirtual 150, 3) := by decide +kernel
theorem dX10_writeHead_80 : decode cX10_writeHead 80 = .ok (.invokevirtual 97, 3) := by decide +kernel
theorem dX10_writeHead_83 : decode cX10_writeHead 83 = .ok (.aload_n 2, 1) := by decide +kernel
theorem dX10_writeHead_84 : decode cX10_writeHead 84 = .ok (.aload_n 0, 1) := by decide +kernel
theorem dX10_writeHead_85 : decode cX10_writeHead 85 = .ok (.getfield 14, 3) := by decide +kernel
theorem dX10_writeHead_88 : decode cX10_writeHead 88 = .ok (.invokevirtual 86, 3) := by decide +kernel
theorem dX10_writeHead_91 : decode cX10_writeHead 91 = .ok (.bipush 8, 2) := by decide +kernel
theorem dX10_writeHead_93 : decode cX10_writeHead 93 = .ok (.ishr, 1) := by decide +kernel
theorem dX10_writeHead_94 : decode cX10_writeHead 94 = .ok (.invokevirtual 97, 3) := by decide +kernel
theorem dX10_writeHead_97 : decode cX10_writeHead 97 = .ok (.aload_n 2, 1) := by decide +kernel
theorem dX10_writeHead_98 : decode cX10_writeHead 98 = .ok (.aload_n 0, 1) := by decide +kernel
theorem dX10_writeHead_99 : decode cX10_writeHead 99 = .ok (.getfield 14, 3) := by decide +kernel
theorem dX10_writeHead_102 : decode cX10_writeHead 102 = .ok (.invokevirtual 86, 3) := by decide +kernel
theorem dX10_writeHead_105 : decode cX10_writeHead 105 = .ok (.invokevirtual 97, 3) := by decide +kernel
theorem dX10_writeHead_108 : decode cX10_writeHead 108 = .ok (.return_, 1) := by decide +kernel
theorem dX10_tryChains_0 : decode cX10_tryChains 0 = .ok (.aload_n 0, 1) := by decide +kernel
theorem dX10_tryChains_1 : decode cX10_tryChains 1 = .ok (.getfield 33, 3) := by decide +kernel
theorem dX10_tryChains_4 : decode cX10_tryChains 4 = .ok (.invokevirtual 139, 3) := by decide +kernel
theorem dX10_tryChains_7 : decode cX10_tryChains 7 = .ok (.istore_n 3, 1) := by decide +kernel
theorem dX10_tryChains_8 : decode cX10_tryChains 8 = .ok (.iload_n 1, 1) := by decide +kernel
theorem dX10_tryChains_9 : decode cX10_tryChains 9 = .ok (.istore 4, 2) := by decide +kernel
theorem dX10_tryChains_11 : decode cX10_tryChains 11 = .ok (.iconst (-1), 1) := by decide +kernel
theorem dX10_tryChains_12 : decode cX10_tryChains 12 = .ok (.istore 5, 2) := by decide +kernel
theorem dX10_tryChains_14 : decode cX10_tryChains 14 = .ok (.aload_n 0, 1) := by decide +kernel
theorem dX10_tryChains_15 : decode cX10_tryChains 15 = .ok (.getfield 14, 3) := by decide +kernel
theorem dX10_tryChains_18 : decode cX10_tryChains 18 = .ok (.astore 6, 2) := by decide +kernel
theorem dX10_tryChains_20 : decode cX10_tryChains 20 = .ok (.iconst 0, 1) := by decide +kernel
theorem dX10_tryChains_21 : decode cX10_tryChains 21 = .ok (.istore 7, 2) := by decide +kernel
theorem dX10_tryChains_23 : decode cX10_tryChains 23 = .ok (.iload 7, 2) := by decide +kernel
theorem dX10_tryChains_25 : decode cX10_tryChains 25 = .ok (.iload_n 3, 1) := by decide +kernel
theorem dX10_tryChains_26 : decode cX10_tryChains 26 = .ok (.if_icmp .ge 194, 3) := by decide +kernel
theorem dX10_tryChains_29 : decode cX10_tryChains 29 = .ok (.aload_n 0, 1) := by decide +kernel
theorem dX10_tryChains_30 : decode cX10_tryChains 30 = .ok (.getfield 33, 3) := by decide +kernel
theorem dX10_tryChains_33 : decode cX10_tryChains 33 = .ok (.iload 7, 2) := by decide +kernel
theorem dX10_tryChains_35 : decode cX10_tryChains 35 = .ok (.invokevirtual 156, 3) := by decide +kernel
theorem dX10_tryChains_38 : decode cX10_tryChains 38 = .ok (.iload_n 2, 1) := by decide +kernel
theorem dX10_tryChains_39 : decode cX10_tryChains 39 = .ok (.if_icmp .le 16, 3) := by decide +kernel
theorem dX10_tryChains_42 : decode cX10_tryChains 42 = .ok (.aload_n 0, 1) := by decide +kernel
theorem dX10_tryChains_43 : decode cX10_tryChains 43 = .ok (.getfield 65, 3) := by decide +kernel
theorem dX10_tryChains_46 : decode cX10_tryChains 46 = .ok (.iconst 4, 1) := by decide +kernel
theorem dX10_tryChains_47 : decode cX10_tryChains 47 = .ok (.dup2, 1) := by decide +kernel
theorem dX10_tryChains_48 : decode cX10_tryChains 48 = .ok (.iaload, 1) := by decide +kernel
theorem dX10_tryChains_49 : decode cX10_tryChains 49 = .ok (.iconst 1, 1) := by decide +kernel
theorem dX10_tryChains_50 : decode cX10_tryChains 50 = .ok (.iadd, 1) := by decide +kernel
theorem dX10_tryChains_51 : decode cX10_tryChains 51 = .ok (.iastore, 1) := by decide +kernel
theorem dX10_tryChains_52 : decode cX10_tryChains 52 = .ok (.goto 162, 3) := by decide +kernel
theorem dX10_tryChains_55 : decode cX10_tryChains 55 = .ok (.aload_n 0, 1) := by decide +kernel
theorem dX10_tryChains_56 : decode cX10_tryChains 56 = .ok (.getfield 33, 3) := by decide +kernel
theorem dX10_tryChains_59 : decode cX10_tryChains 59 = .ok (.iload 7, 2) := by decide +kernel
theorem dX10_tryChains_61 : decode cX10_tryChains 61 = .ok (.invokevirtual 153, 3) := by decide +kernel
theorem dX10_tryChains_64 : decode cX10_tryChains 64 = .ok (.aload_n 0, 1) := by decide +kernel
theorem dX10_tryChains_65 : decode cX10_tryChains 65 = .ok (.getfield 14, 3) := by decide +kernel
theorem dX10_tryChains_68 : decode cX10_tryChains 68 = .ok (.invokevirtual 86, 3) := by decide +kernel
theorem dX10_tryChains_71 : decode cX10_tryChains 71 = .ok (.imul, 1) := by decide +kernel
theorem dX10_tryChains_72 : decode cX10_tryChains 72 = .ok (.istore 8, 2) := by decide +kernel
theorem dX10_tryChains_74 : decode cX10_tryChains 74 = .ok (.iload 8, 2) := by decide +kernel
theorem dX10_tryChains_76 : decode cX10_tryChains 76 = .ok (.iload 4, 2) := by decide +kernel
theorem dX10_tryChains_78 : decode cX10_tryChains 78 = .ok (.if_icmp .le 6, 3) := by decide +kernel
theorem dX10_tryChains_81 : decode cX10_tryChains 81 = .ok (.goto 139, 3) := by decide +kernel
theorem dX10_tryChains_84 : decode cX10_tryChains 84 = .ok (.iload 4, 2) := by decide +kernel
theorem dX10_tryChains_86 : decode cX10_tryChains 86 = .ok (.iload 8, 2) := by decide +kernel
theorem dX10_tryChains_88 : decode cX10_tryChains 88 = .ok (.isub, 1) := by decide +kernel
theorem dX10_tryChains_89 : decode cX10_tryChains 89 = .ok (.istore 4, 2) := by decide +kernel
theorem dX10_tryChains_91 : decode cX10_tryChains 91 = .ok (.aload_n 0, 1) := by decide +kernel
theorem dX10_tryChains_92 : decode cX10_tryChains 92 = .ok (.getfield 33, 3) := by decide +kernel
theorem dX10_tryChains_95 : decode cX10_tryChains 95 = .ok (.iload 7, 2) := by decide +kernel
theorem dX10_tryChains_97 : decode cX10_tryChains 97 = .ok (.invokevirtual 221, 3) := by decide +kernel
theorem dX10_tryChains_100 : decode cX10_tryChains 100 = .ok (.iload 5, 2) := by decide +kernel
theorem dX10_tryChains_102 : decode cX10_tryChains 102 = .ok (.if_icmp .eq 22, 3) := by decide +kernel
theorem dX10_tryChains_105 : decode cX10_tryChains 105 = .ok (.aload_n 0, 1) := by decide +kernel
theorem dX10_tryChains_106 : decode cX10_tryChains 106 = .ok (.getfield 33, 3) := by decide +kernel
theorem dX10_tryChains_109 : decode cX10_tryChains 109 = .ok (.iload 7, 2) := by decide +kernel
theorem dX10_tryChains_111 : decode cX10_tryChains 111 = .ok (.invokevirtual 221, 3) := by decide +kernel
theorem dX10_tryChains_114 : decode cX10_tryChains 114 = .ok (.istore 5, 2) := by decide +kernel
theorem dX10_tryChains_116 : decode cX10_tryChains 116 = .ok (.aload_n 0, 1) := by decide +kernel
theorem dX10_tryChains_117 : decode cX10_tryChains 117 = .ok (.iload 7, 2) := by decide +kernel
theorem dX10_tryChains_119 : decode cX10_tryChains 119 = .ok (.invokevirtual 163, 3) := by decide +kernel
theorem dX10_tryChains_122 : decode cX10_tryChains 122 = .ok (.astore 6, 2) := by decide +kernel
theorem dX10_tryChains_124 : decode cX10_tryChains 124 = .ok (.aload_n 0, 1) := by decide +kernel
theorem dX10_tryChains_125 : decode cX10_tryChains 125 = .ok (.iload 7, 2) := by decide +kernel
theorem dX10_tryChains_127 : decode cX10_tryChains 127 = .ok (.aload_n 0, 1) := by decide +kernel
theorem dX10_tryChains_128 : decode cX10_tryChains 128 = .ok (.getfield 21, 3) := by decide +kernel
theorem dX10_tryChains_131 : decode cX10_tryChains 131 = .ok (.invokevirtual 159, 3) := by decide +kernel
theorem dX10_tryChains_134 : decode cX10_tryChains 134 = .ok (.aload_n 0, 1) := by decide +kernel
theorem dX10_tryChains_135 : decode cX10_tryChains 135 = .ok (.getfield 47, 3) := by decide +kernel
theorem dX10_tryChains_138 : decode cX10_tryChains 138 = .ok (.aload_n 0, 1) := by decide +kernel
theorem dX10_tryChains_139 : decode cX10_tryChains 139 = .ok (.getfield 33, 3) := by decide +kernel
theorem dX10_tryChains_142 : decode cX10_tryChains 142 = .ok (.iload 7, 2) := by decide +kernel
theorem dX10_tryChains_144 : decode cX10_tryChains 144 = .ok (.invokevirtual 150, 3) := by decide +kernel
theorem dX10_tryChains_147 : decode cX10_tryChains 147 = .ok (.aload 6, 2) := by decide +kernel
theorem dX10_tryChains_149 : decode cX10_tryChains 149 = .ok (.aload_n 0, 1) := by decide +kernel
theorem dX10_tryChains_150 : decode cX10_tryChains 150 = .ok (.getfield 21, 3) := by decide +kernel
theorem dX10_tryChains_153 : decode cX10_tryChains 153 = .ok (.invokevirtual 166, 3) := by decide +kernel
theorem dX10_tryChains_156 : decode cX10_tryChains 156 = .ok (.aload_n 0, 1) := by decide +kernel
theorem dX10_tryChains_157 : decode cX10_tryChains 157 = .ok (.getfield 65, 3) := by decide +kernel
theorem dX10_tryChains_160 : decode cX10_tryChains 160 = .ok (.iconst 0, 1) := by decide +kernel
theorem dX10_tryChains_161 : decode cX10_tryChains 161 = .ok (.dup2, 1) := by decide +kernel
theorem dX10_tryChains_162 : decode cX10_tryChains 162 = .ok (.iaload, 1) := by decide +kernel
theorem dX10_tryChains_163 : decode cX10_tryChains 163 = .ok (.iconst 1, 1) := by decide +kernel
theorem dX10_tryChains_164 : decode cX10_tryChains 164 = .ok (.iadd, 1) := by decide +kernel
theorem dX10_tryChains_165 : decode cX10_tryChains 165 = .ok (.iastore, 1) := by decide +kernel
theorem dX10_tryChains_166 : decode cX10_tryChains 166 = .ok (.aload_n 0, 1) := by decide +kernel
theorem dX10_tryChains_167 : decode cX10_tryChains 167 = .ok (.getfield 65, 3) := by decide +kernel
theorem dX10_tryChains_170 : decode cX10_tryChains 170 = .ok (.iconst 1, 1) := by decide +kernel
theorem dX10_tryChains_171 : decode cX10_tryChains 171 = .ok (.dup2, 1) := by decide +kernel
theorem dX10_tryChains_172 : decode cX10_tryChains 172 = .ok (.iaload, 1) := by decide +kernel
theorem dX10_tryChains_173 : decode cX10_tryChains 173 = .ok (.iload 8, 2) := by decide +kernel
theorem dX10_tryChains_175 : decode cX10_tryChains 175 = .ok (.iadd, 1) := by decide +kernel
theorem dX10_tryChains_176 : decode cX10_tryChains 176 = .ok (.iastore, 1) := by decide +kernel
theorem dX10_tryChains_177 : decode cX10_tryChains 177 = .ok (.aload_n 0, 1) := by decide +kernel
theorem dX10_tryChains_178 : decode cX10_tryChains 178 = .ok (.iload 7, 2) := by decide +kernel
theorem dX10_tryChains_180 : decode cX10_tryChains 180 = .ok (.aload_n 0, 1) := by decide +kernel
theorem dX10_tryChains_181 : decode cX10_tryChains 181 = .ok (.getfield 21, 3) := by decide +kernel
theorem dX10_tryChains_184 : decode cX10_tryChains 184 = .ok (.invokevirtual 86, 3) := by decide +kernel
theorem dX10_tryChains_187 : decode cX10_tryChains 187 = .ok (.invokevirtual 224, 3) := by decide +kernel
theorem dX10_tryChains_190 : decode cX10_tryChains 190 = .ok (.ifCond .eq 24, 3) := by decide +kernel
theorem dX10_tryChains_193 : decode cX10_tryChains 193 = .ok (.aload_n 0, 1) := by decide +kernel
theorem dX10_tryChains_194 : decode cX10_tryChains 194 = .ok (.getfield 65, 3) := by decide +kernel
theorem dX10_tryChains_197 : decode cX10_tryChains 197 = .ok (.iconst 2, 1) := by decide +kernel
theorem dX10_tryChains_198 : decode cX10_tryChains 198 = .ok (.iload 7, 2) := by decide +kernel
theorem dX10_tryChains_200 : decode cX10_tryChains 200 = .ok (.iastore, 1) := by decide +kernel
theorem dX10_tryChains_201 : decode cX10_tryChains 201 = .ok (.aload_n 0, 1) := by decide +kernel
theorem dX10_tryChains_202 : decode cX10_tryChains 202 = .ok (.getfield 65, 3) := by decide +kernel
theorem dX10_tryChains_205 : decode cX10_tryChains 205 = .ok (.iconst 3, 1) := by decide +kernel
theorem dX10_tryChains_206 : decode cX10_tryChains 206 = .ok (.aload_n 0, 1) := by decide +kernel
theorem dX10_tryChains_207 : decode cX10_tryChains 207 = .ok (.getfield 21, 3) := by decide +kernel
theorem dX10_tryChains_210 : decode cX10_tryChains 210 = .ok (.invokevirtual 86, 3) := by decide +kernel
theorem dX10_tryChains_213 : decode cX10_tryChains 213 = .ok (.iastore, 1) := by decide +kernel
theorem dX10_tryChains_214 : decode cX10_tryChains 214 = .ok (.iinc 7 1, 3) := by decide +kernel
theorem dX10_tryChains_217 : decode cX10_tryChains 217 = .ok (.goto (-194), 3) := by decide +kernel
theorem dX10_tryChains_220 : decode cX10_tryChains 220 = .ok (.return_, 1) := by decide +kernel
theorem dX10_isBetter_0 : decode cX10_isBetter 0 = .ok (.iload_n 2, 1) := by decide +kernel
theorem dX10_isBetter_1 : decode cX10_isBetter 1 = .ok (.aload_n 0, 1) := by decide +kernel
theorem dX10_isBetter_2 : decode cX10_isBetter 2 = .ok (.getfield 65, 3) := by decide +kernel
theorem dX10_isBetter_5 : decode cX10_isBetter 5 = .ok (.iconst 3, 1) := by decide +kernel
theorem dX10_isBetter_6 : decode cX10_isBetter 6 = .ok (.iaload, 1) := by decide +kernel
theorem dX10_isBetter_7 : decode cX10_isBetter 7 = .ok (.if_icmp .eq 19, 3) := by decide +kernel
theorem dX10_isBetter_10 : decode cX10_isBetter 10 = .ok (.iload_n 2, 1) := by decide +kernel
theorem dX10_isBetter_11 : decode cX10_isBetter 11 = .ok (.aload_n 0, 1) := by decide +kernel
theorem dX10_isBetter_12 : decode cX10_isBetter 12 = .ok (.getfield 65, 3) := by decide +kernel
theorem dX10_isBetter_15 : decode cX10_isBetter 15 = .ok (.iconst 3, 1) := by decide +kernel
theorem dX10_isBetter_16 : decode cX10_isBetter 16 = .ok (.iaload, 1) := by decide +kernel
theorem dX10_isBetter_17 : decode cX10_isBetter 17 = .ok (.if_icmp .ge 7, 3) := by decide +kernel
theorem dX10_isBetter_20 : decode cX10_isBetter 20 = .ok (.iconst 1, 1) := by decide +kernel
theorem dX10_isBetter_21 : decode cX10_isBetter 21 = .ok (.goto 4, 3) := by decide +kernel
theorem dX10_isBetter_24 : decode cX10_isBetter 24 = .ok (.iconst 0, 1) := by decide +kernel
theorem dX10_isBetter_25 : decode cX10_isBetter 25 = .ok (.ireturn, 1) := by decide +kernel
theorem dX10_isBetter_26 : decode cX10_isBetter 26 = .ok (.aload_n 0, 1) := by decide +kernel
theorem dX10_isBetter_27 : decode cX10_isBetter 27 = .ok (.getfield 33, 3) := by decide +kernel
theorem dX10_isBetter_30 : decode cX10_isBetter 30 = .ok (.iload_n 1, 1) := by decide +kernel
theorem dX10_isBetter_31 : decode cX10_isBetter 31 = .ok (.invokevirtual 153, 3) := by decide +kernel
theorem dX10_isBetter_34 : decode cX10_isBetter 34 = .ok (.aload_n 0, 1) := by decide +kernel
theorem dX10_isBetter_35 : decode cX10_isBetter 35 = .ok (.getfield 33, 3) := by decide +kernel
theorem dX10_isBetter_38 : decode cX10_isBetter 38 = .ok (.aload_n 0, 1) := by decide +kernel
theorem dX10_isBetter_39 : decode cX10_isBetter 39 = .ok (.getfield 65, 3) := by decide +kernel
theorem dX10_isBetter_42 : decode cX10_isBetter 42 = .ok (.iconst 2, 1) := by decide +kernel
theorem dX10_isBetter_43 : decode cX10_isBetter 43 = .ok (.iaload, 1) := by decide +kernel
theorem dX10_isBetter_44 : decode cX10_isBetter 44 = .ok (.invokevirtual 153, 3) := by decide +kernel
theorem dX10_isBetter_47 : decode cX10_isBetter 47 = .ok (.if_icmp .ge 7, 3) := by decide +kernel
theorem dX10_isBetter_50 : decode cX10_isBetter 50 = .ok (.iconst 1, 1) := by decide +kernel
theorem dX10_isBetter_51 : decode cX10_isBetter 51 = .ok (.goto 4, 3) := by decide +kernel
theorem dX10_isBetter_54 : decode cX10_isBetter 54 = .ok (.iconst 0, 1) := by decide +kernel
theorem dX10_isBetter_55 : decode cX10_isBetter 55 = .ok (.ireturn, 1) := by decide +kernel
theorem dX11_init_0 : decode cX11_init 0 = .ok (.aload_n 0, 1) := by decide +kernel
theorem dX11_init_1 : decode cX11_init 1 = .ok (.invokespecial 1, 3) := by decide +kernel
theorem dX11_init_4 : decode cX11_init 4 = .ok (.aload_n 0, 1) := by decide +kernel
theorem dX11_init_5 : decode cX11_init 5 = .ok (.sipush 300, 3) := by decide +kernel
theorem dX11_init_8 : decode cX11_init 8 = .ok (.newarray .int, 2) := by decide +kernel
theorem dX11_init_10 : decode cX11_init 10 = .ok (.putfield 7, 3) := by decide +kernel
theorem dX11_init_13 : decode cX11_init 13 = .ok (.aload_n 0, 1) := by decide +kernel
theorem dX11_init_14 : decode cX11_init 14 = .ok (.sipush 1400, 3) := by decide +kernel
theorem dX11_init_17 : decode cX11_init 17 = .ok (.newarray .int, 2) := by decide +kernel
theorem dX11_init_19 : decode cX11_init 19 = .ok (.putfield 13, 3) := by decide +kernel
theorem dX11_init_22 : decode cX11_init 22 = .ok (.aload_n 0, 1) := by decide +kernel
theorem dX11_init_23 : decode cX11_init 23 = .ok (.iconst 4, 1) := by decide +kernel
theorem dX11_init_24 : decode cX11_init 24 = .ok (.newarray .int, 2) := by decide +kernel
theorem dX11_init_26 : decode cX11_init 26 = .ok (.putfield 16, 3) := by decide +kernel
theorem dX11_init_29 : decode cX11_init 29 = .ok (.aload_n 0, 1) := by decide +kernel
theorem dX11_init_30 : decode cX11_init 30 = .ok (.iconst 4, 1) := by decide +kernel
theorem dX11_init_31 : decode cX11_init 31 = .ok (.newarray .int, 2) := by decide +kernel
theorem dX11_init_33 : decode cX11_init 33 = .ok (.putfield 19, 3) := by decide +kernel
theorem dX11_init_36 : decode cX11_init 36 = .ok (.aload_n 0, 1) := by decide +kernel
theorem dX11_init_37 : decode cX11_init 37 = .ok (.iconst 4, 1) := by decide +kernel
theorem dX11_init_38 : decode cX11_init 38 = .ok (.newarray .int, 2) := by decide +kernel
theorem dX11_init_40 : decode cX11_init 40 = .ok (.putfield 22, 3) := by decide +kernel
theorem dX11_init_43 : decode cX11_init 43 = .ok (.aload_n 0, 1) := by decide +kernel
theorem dX11_init_44 : decode cX11_init 44 = .ok (.sipush 300, 3) := by decide +kernel
theorem dX11_init_47 : decode cX11_init 47 = .ok (.newarray .int, 2) := by decide +kernel
theorem dX11_init_49 : decode cX11_init 49 = .ok (.putfield 25, 3) := by decide +kernel
theorem dX11_init_52 : decode cX11_init 52 = .ok (.aload_n 0, 1) := by decide +kernel
theorem dX11_init_53 : decode cX11_init 53 = .ok (.sipush 300, 3) := by decide +kernel
theorem dX11_init_56 : decode cX11_init 56 = .ok (.newarray .int, 2) := by decide +kernel
theorem dX11_init_58 : decode cX11_init 58 = .ok (.putfield 28, 3) := by decide +kernel
theorem dX11_init_61 : decode cX11_init 61 = .ok (.aload_n 0, 1) := by decide +kernel
theorem dX11_init_62 : decode cX11_init 62 = .ok (.sipush 1400, 3) := by decide +kernel
theorem dX11_init_65 : decode cX11_init 65 = .ok (.newarray .int, 2) := by decide +kernel
theorem dX11_init_67 : decode cX11_init 67 = .ok (.putfield 31, 3) := by decide +kernel
theorem dX11_init_70 : decode cX11_init 70 = .ok (.aload_n 0, 1) := by decide +kernel
theorem dX11_init_71 : decode cX11_init 71 = .ok (.sipush 256, 3) := by decide +kernel
theorem dX11_init_74 : decode cX11_init 74 = .ok (.newarray .int, 2) := by decide +kernel
theorem dX11_init_76 : decode cX11_init 76 = .ok (.putfield 34, 3) := by decide +kernel
theorem dX11_init_79 : decode cX11_init 79 = .ok (.aload_n 0, 1) := by decide +kernel
theorem dX11_init_80 : decode cX11_init 80 = .ok (.sipush 256, 3) := by decide +kernel
theorem dX11_init_83 : decode cX11_init 83 = .ok (.newarray .int, 2) := by decide +kernel
theorem dX11_init_85 : decode cX11_init 85 = .ok (.putfield 37, 3) := by decide +kernel
theorem dX11_init_88 : decode cX11_init 88 = .ok (.aload_n 0, 1) := by decide +kernel
theorem dX11_init_89 : decode cX11_init 89 = .ok (.sipush 256, 3) := by decide +kernel
theorem dX11_init_92 : decode cX11_init 92 = .ok (.newarray .int, 2) := by decide +kernel
theorem dX11_init_94 : decode cX11_init 94 = .ok (.putfield 40, 3) := by decide +kernel
theorem dX11_init_97 : decode cX11_init 97 = .ok (.aload_n 0, 1) := by decide +kernel
theorem dX11_init_98 : decode cX11_init 98 = .ok (.sipush 512, 3) := by decide +kernel
theorem dX11_init_101 : decode cX11_init 101 = .ok (.newarray .int, 2) := by decide +kernel
theorem dX11_init_103 : decode cX11_init 103 = .ok (.putfield 43, 3) := by decide +kernel
theorem dX11_init_106 : decode cX11_init 106 = .ok (.aload_n 0, 1) := by decide +kernel
theorem dX11_init_107 : decode cX11_init 107 = .ok (.sipush 512, 3) := by decide +kernel
theorem dX11_init_110 : decode cX11_init 110 = .ok (.newarray .int, 2) := by decide +kernel
theorem dX11_init_112 : decode cX11_init 112 = .ok (.putfield 46, 3) := by decide +kernel
theorem dX11_init_115 : decode cX11_init 115 = .ok (.aload_n 0, 1) := by decide +kernel
theorem dX11_init_116 : decode cX11_init 116 = .ok (.sipush 256, 3) := by decide +kernel
theorem dX11_init_119 : decode cX11_init 119 = .ok (.newarray .int, 2) := by decide +kernel
theorem dX11_init_121 : decode cX11_init 121 = .ok (.putfield 49, 3) := by decide +kernel
theorem dX11_init_124 : decode cX11_init 124 = .ok (.aload_n 0, 1) := by decide +kernel
theorem dX11_init_125 : decode cX11_init 125 = .ok (.bipush 6, 2) := by decide +kernel
theorem dX11_init_127 : decode cX11_init 127 = .ok (.newarray .int, 2) := by decide +kernel
theorem dX11_init_129 : decode cX11_init 129 = .ok (.putfield 52, 3) := by decide +kernel
theorem dX11_init_132 : decode cX11_init 132 = .ok (.aload_n 0, 1) := by decide +kernel
theorem dX11_init_133 : decode cX11_init 133 = .ok (.bipush 64, 2) := by decide +kernel
theorem dX11_init_135 : decode cX11_init 135 = .ok (.newarray .int, 2) := by decide +kernel
theorem dX11_init_137 : decode cX11_init 137 = .ok (.putfield 55, 3) := by decide +kernel
theorem dX11_init_140 : decode cX11_init 140 = .ok (.aload_n 0, 1) := by decide +kernel
theorem dX11_init_141 : decode cX11_init 141 = .ok (.bipush (-3), 2) := by decide +kernel
theorem dX11_init_143 : decode cX11_init 143 = .ok (.putfield 58, 3) := by decide +kernel
theorem dX11_init_146 : decode cX11_init 146 = .ok (.aload_n 0, 1) := by decide +kernel
theorem dX11_init_147 : decode cX11_init 147 = .ok (.invokevirtual 62, 3) := by decide +kernel
theorem dX11_init_150 : decode cX11_init 150 = .ok (.return_, 1) := by decide +kernel
theorem dX11_thrown_0 : decode cX11_thrown 0 = .ok (.aload_n 0, 1) := by decide +kernel
theorem dX11_thrown_1 : decode cX11_thrown 1 = .ok (.getfield 65, 3) := by decide +kernel
theorem dX11_thrown_4 : decode cX11_thrown 4 = .ok (.ireturn, 1) := by decide +kernel
theorem dX11_in_0 : decode cX11_in 0 = .ok (.iload_n 0, 1) := by decide +kernel
theorem dX11_in_1 : decode cX11_in 1 = .ok (.iload_n 1, 1) := by decide +kernel
theorem dX11_in_2 : decode cX11_in 2 = .ok (.if_icmp .lt 12, 3) := by decide +kernel
theorem dX11_in_5 : decode cX11_in 5 = .ok (.iload_n 0, 1) := by decide +kernel
theorem dX11_in_6 : decode cX11_in 6 = .ok (.iload_n 2, 1) := by decide +kernel
theorem dX11_in_7 : decode cX11_in 7 = .ok (.if_icmp .gt 7, 3) := by decide +kernel
theorem dX11_in_10 : decode cX11_in 10 = .ok (.iconst 1, 1) := by decide +kernel
theorem dX11_in_11 : decode cX11_in 11 = .ok (.goto 4, 3) := by decide +kernel
theorem dX11_in_14 : decode cX11_in 14 = .ok (.iconst 0, 1) := by decide +kernel
theorem dX11_in_15 : decode cX11_in 15 = .ok (.ireturn, 1) := by decide +kernel
theorem dX11_lose_0 : decode cX11_lose 0 = .ok (.aload_n 0, 1) := by decide +kernel
theorem dX11_lose_1 : decode cX11_lose 1 = .ok (.iconst 0, 1) := by decide +kernel
theorem dX11_lose_2 : decode cX11_lose 2 = .ok (.putfield 68, 3) := by decide +kernel
theorem dX11_lose_5 : decode cX11_lose 5 = .ok (.iconst 0, 1) := by decide +kernel
theorem dX11_lose_6 : decode cX11_lose 6 = .ok (.istore_n 1, 1) := by decide +kernel
theorem dX11_lose_7 : decode cX11_lose 7 = .ok (.iload_n 1, 1) := by decide +kernel
theorem dX11_lose_8 : decode cX11_lose 8 = .ok (.bipush 64, 2) := by decide +kernel
theorem dX11_lose_10 : decode cX11_lose 10 = .ok (.if_icmp .ge 17, 3) := by decide +kernel
theorem dX11_lose_13 : decode cX11_lose 13 = .ok (.aload_n 0, 1) := by decide +kernel
theorem dX11_lose_14 : decode cX11_lose 14 = .ok (.getfield 55, 3) := by decide +kernel
theorem dX11_lose_17 : decode cX11_lose 17 = .ok (.iload_n 1, 1) := by decide +kernel
theorem dX11_lose_18 : decode cX11_lose 18 = .ok (.bipush (-3), 2) := by decide +kernel
theorem dX11_lose_20 : decode cX11_lose 20 = .ok (.iastore, 1) := by decide +kernel
theorem dX11_lose_21 : decode cX11_lose 21 = .ok (.iinc 1 1, 3) := by decide +kernel
theorem dX11_lose_24 : decode cX11_lose 24 = .ok (.goto (-17), 3) := by decide +kernel
theorem dX11_lose_27 : decode cX11_lose 27 = .ok (.return_, 1) := by decide +kernel
theorem dX11_clear_0 : decode cX11_clear 0 = .ok (.aload_n 0, 1) := by decide +kernel
theorem dX11_clear_1 : decode cX11_clear 1 = .ok (.iconst 0, 1) := by decide +kernel
theorem dX11_clear_2 : decode cX11_clear 2 = .ok (.putfield 65, 3) := by decide +kernel
theorem dX11_clear_5 : decode cX11_clear 5 = .ok (.aload_n 0, 1) := by decide +kernel
theorem dX11_clear_6 : decode cX11_clear 6 = .ok (.getfield 72, 3) := by decide +kernel
theorem dX11_clear_9 : decode cX11_clear 9 = .ok (.istore_n 1, 1) := by decide +kernel
theorem dX11_clear_10 : decode cX11_clear 10 = .ok (.aload_n 0, 1) := by decide +kernel
theorem dX11_clear_11 : decode cX11_clear 11 = .ok (.iconst 0, 1) := by decide +kernel
theorem dX11_clear_12 : decode cX11_clear 12 = .ok (.putfield 72, 3) := by decide +kernel
theorem dX11_clear_15 : decode cX11_clear 15 = .ok (.iload_n 1, 1) := by decide +kernel
theorem dX11_clear_16 : decode cX11_clear 16 = .ok (.ireturn, 1) := by decide +kernel
theorem dX11_add_0 : decode cX11_add 0 = .ok (.aload_n 0, 1) := by decide +kernel
theorem dX11_add_1 : decode cX11_add 1 = .ok (.iconst 0, 1) := by decide +kernel
theorem dX11_add_2 : decode cX11_add 2 = .ok (.putfield 65, 3) := by decide +kernel
theorem dX11_add_5 : decode cX11_add 5 = .ok (.iload_n 1, 1) := by decide +kernel
theorem dX11_add_6 : decode cX11_add 6 = .ok (.iconst 0, 1) := by decide +kernel
theorem dX11_add_7 : decode cX11_add 7 = .ok (.sipush 255, 3) := by decide +kernel
theorem dX11_add_10 : decode cX11_add 10 = .ok (.invokestatic 75, 3) := by decide +kernel
theorem dX11_add_13 : decode cX11_add 13 = .ok (.ifCond .ne 5, 3) := by decide +kernel
theorem dX11_add_16 : decode cX11_add 16 = .ok (.iconst (-1), 1) := by decide +kernel
theorem dX11_add_17 : decode cX11_add 17 = .ok (.ireturn, 1) := by decide +kernel
theorem dX11_add_18 : decode cX11_add 18 = .ok (.aload_n 0, 1) := by decide +kernel
theorem dX11_add_19 : decode cX11_add 19 = .ok (.getfield 72, 3) := by decide +kernel
theorem dX11_add_22 : decode cX11_add 22 = .ok (.sipush 300, 3) := by decide +kernel
theorem dX11_add_25 : decode cX11_add 25 = .ok (.if_icmp .ne 6, 3) := by decide +kernel
theorem dX11_add_28 : decode cX11_add 28 = .ok (.bipush (-2), 2) := by decide +kernel
theorem dX11_add_30 : decode cX11_add 30 = .ok (.ireturn, 1) := by decide +kernel
theorem dX11_add_31 : decode cX11_add 31 = .ok (.aload_n 0, 1) := by decide +kernel
theorem dX11_add_32 : decode cX11_add 32 = .ok (.getfield 7, 3) := by decide +kernel
theorem dX11_add_35 : decode cX11_add 35 = .ok (.aload_n 0, 1) := by decide +kernel
theorem dX11_add_36 : decode cX11_add 36 = .ok (.getfield 72, 3) := by decide +kernel
theorem dX11_add_39 : decode cX11_add 39 = .ok (.iload_n 1, 1) := by decide +kernel
theorem dX11_add_40 : decode cX11_add 40 = .ok (.iastore, 1) := by decide +kernel
theorem dX11_add_41 : decode cX11_add 41 = .ok (.aload_n 0, 1) := by decide +kernel
theorem dX11_add_42 : decode cX11_add 42 = .ok (.dup, 1) := by decide +kernel
theorem dX11_add_43 : decode cX11_add 43 = .ok (.getfield 72, 3) := by decide +kernel
theorem dX11_add_46 : decode cX11_add 46 = .ok (.iconst 1, 1) := by decide +kernel
theorem dX11_add_47 : decode cX11_add 47 = .ok (.iadd, 1) := by decide +kernel
theorem dX11_add_48 : decode cX11_add 48 = .ok (.putfield 72, 3) := by decide +kernel
theorem dX11_add_51 : decode cX11_add 51 = .ok (.aload_n 0, 1) := by decide +kernel
theorem dX11_add_52 : decode cX11_add 52 = .ok (.getfield 72, 3) := by decide +kernel
theorem dX11_add_55 : decode cX11_add 55 = .ok (.ireturn, 1) := by decide +kernel
theorem dX11_fill_0 : decode cX11_fill 0 = .ok (.aload_n 0, 1) := by decide +kernel
theorem dX11_fill_1 : decode cX11_fill 1 = .ok (.iconst 0, 1) := by decide +kernel
theorem dX11_fill_2 : decode cX11_fill 2 = .ok (.putfield 65, 3) := by decide +kernel
theorem dX11_fill_5 : decode cX11_fill 5 = .ok (.iload_n 1, 1) := by decide +kernel
theorem dX11_fill_6 : decode cX11_fill 6 = .ok (.iconst 1, 1) := by decide +kernel
theorem dX11_fill_7 : decode cX11_fill 7 = .ok (.sipush 300, 3) := by decide +kernel
theorem dX11_fill_10 : decode cX11_fill 10 = .ok (.invokestatic 75, 3) := by decide +kernel
theorem dX11_fill_13 : decode cX11_fill 13 = .ok (.ifCond .eq 12, 3) := by decide +kernel
theorem dX11_fill_16 : decode cX11_fill 16 = .ok (.iload_n 3, 1) := by decide +kernel
theorem dX11_fill_17 : decode cX11_fill 17 = .ok (.iconst 0, 1) := by decide +kernel
theorem dX11_fill_18 : decode cX11_fill 18 = .ok (.iconst 3, 1) := by decide +kernel
theorem dX11_fill_19 : decode cX11_fill 19 = .ok (.invokestatic 75, 3) := by decide +kernel
theorem dX11_fill_22 : decode cX11_fill 22 = .ok (.ifCond .ne 5, 3) := by decide +kernel
theorem dX11_fill_25 : decode cX11_fill 25 = .ok (.iconst (-1), 1) := by decide +kernel
theorem dX11_fill_26 : decode cX11_fill 26 = .ok (.ireturn, 1) := by decide +kernel
theorem dX11_fill_27 : decode cX11_fill 27 = .ok (.aload_n 0, 1) := by decide +kernel
theorem dX11_fill_28 : decode cX11_fill 28 = .ok (.getfield 72, 3) := by decide +kernel
theorem dX11_fill_31 : decode cX11_fill 31 = .ok (.iload_n 1, 1) := by decide +kernel
theorem dX11_fill_32 : decode cX11_fill 32 = .ok (.iadd, 1) := by decide +kernel
theorem dX11_fill_33 : decode cX11_fill 33 = .ok (.sipush 300, 3) := by decide +kernel
theorem dX11_fill_36 : decode cX11_fill 36 = .ok (.if_icmp .le 6, 3) := by decide +kernel
theorem dX11_fill_39 : decode cX11_fill 39 = .ok (.bipush (-2), 2) := by decide +kernel
theorem dX11_fill_41 : decode cX11_fill 41 = .ok (.ireturn, 1) := by decide +kernel
theorem dX11_fill_42 : decode cX11_fill 42 = .ok (.iload_n 2, 1) := by decide +kernel
theorem dX11_fill_43 : decode cX11_fill 43 = .ok (.istore 4, 2) := by decide +kernel
theorem dX11_fill_45 : decode cX11_fill 45 = .ok (.iconst 0, 1) := by decide +kernel
theorem dX11_fill_46 : decode cX11_fill 46 = .ok (.istore 5, 2) := by decide +kernel
theorem dX11_fill_48 : decode cX11_fill 48 = .ok (.aload_n 0, 1) := by decide +kernel
theorem dX11_fill_49 : decode cX11_fill 49 = .ok (.getfield 72, 3) := by decide +kernel
theorem dX11_fill_52 : decode cX11_fill 52 = .ok (.iload_n 1, 1) := by decide +kernel
theorem dX11_fill_53 : decode cX11_fill 53 = .ok (.iadd, 1) := by decide +kernel
theorem dX11_fill_54 : decode cX11_fill 54 = .ok (.istore 6, 2) := by decide +kernel
theorem dX11_fill_56 : decode cX11_fill 56 = .ok (.aload_n 0, 1) := by decide +kernel
theorem dX11_fill_57 : decode cX11_fill 57 = .ok (.getfield 72, 3) := by decide +kernel
theorem dX11_fill_60 : decode cX11_fill 60 = .ok (.iload 6, 2) := by decide +kernel
theorem dX11_fill_62 : decode cX11_fill 62 = .ok (.if_icmp .ge 146, 3) := by decide +kernel
theorem dX11_fill_65 : decode cX11_fill 65 = .ok (.iload 4, 2) := by decide +kernel
theorem dX11_fill_67 : decode cX11_fill 67 = .ok (.ldc 79, 2) := by decide +kernel
theorem dX11_fill_69 : decode cX11_fill 69 = .ok (.imul, 1) := by decide +kernel
theorem dX11_fill_70 : decode cX11_fill 70 = .ok (.sipush 12345, 3) := by decide +kernel
theorem dX11_fill_73 : decode cX11_fill 73 = .ok (.iadd, 1) := by decide +kernel
theorem dX11_fill_74 : decode cX11_fill 74 = .ok (.istore 4, 2) := by decide +kernel
theorem dX11_fill_76 : decode cX11_fill 76 = .ok (.iload 4, 2) := by decide +kernel
theorem dX11_fill_78 : decode cX11_fill 78 = .ok (.bipush 16, 2) := by decide +kernel
theorem dX11_fill_80 : decode cX11_fill 80 = .ok (.iushr, 1) := by decide +kernel
theorem dX11_fill_81 : decode cX11_fill 81 = .ok (.istore 7, 2) := by decide +kernel
theorem dX11_fill_83 : decode cX11_fill 83 = .ok (.iload_n 3, 1) := by decide +kernel
theorem dX11_fill_84 : decode cX11_fill 84 = .ok (.ifCond .ne 12, 3) := by decide +kernel
theorem dX11_fill_87 : decode cX11_fill 87 = .ok (.iload 7, 2) := by decide +kernel
theorem dX11_fill_89 : decode cX11_fill 89 = .ok (.sipush 256, 3) := by decide +kernel
theorem dX11_fill_92 : decode cX11_fill 92 = .ok (.irem, 1) := by decide +kernel
theorem dX11_fill_93 : decode cX11_fill 93 = .ok (.goto 39, 3) := by decide +kernel
theorem dX11_fill_96 : decode cX11_fill 96 = .ok (.iload_n 3, 1) := by decide +kernel
theorem dX11_fill_97 : decode cX11_fill 97 = .ok (.iconst 1, 1) := by decide +kernel
theorem dX11_fill_98 : decode cX11_fill 98 = .ok (.if_icmp .ne 10, 3) := by decide +kernel
theorem dX11_fill_101 : decode cX11_fill 101 = .ok (.iload 7, 2) := by decide +kernel
theorem dX11_fill_103 : decode cX11_fill 103 = .ok (.iconst 4, 1) := by decide +kernel
theorem dX11_fill_104 : decode cX11_fill 104 = .ok (.irem, 1) := by decide +kernel
theorem dX11_fill_105 : decode cX11_fill 105 = .ok (.goto 27, 3) := by decide +kernel
theorem dX11_fill_108 : decode cX11_fill 108 = .ok (.iload_n 3, 1) := by decide +kernel
theorem dX11_fill_109 : decode cX11_fill 109 = .ok (.iconst 2, 1) := by decide +kernel
theorem dX11_fill_110 : decode cX11_fill 110 = .ok (.if_icmp .ne 11, 3) := by decide +kernel
theorem dX11_fill_113 : decode cX11_fill 113 = .ok (.iload 7, 2) := by decide +kernel
theorem dX11_fill_115 : decode cX11_fill 115 = .ok (.bipush 8, 2) := by decide +kernel
theorem dX11_fill_117 : decode cX11_fill 117 = .ok (.irem, 1) := by decide +kernel
theorem dX11_fill_118 : decode cX11_fill 118 = .ok (.goto 14, 3) := by decide +kernel
theorem dX11_fill_121 : decode cX11_fill 121 = .ok (.iload 5, 2) := by decide +kernel
theorem dX11_fill_123 : decode cX11_fill 123 = .ok (.iload 7, 2) := by decide +kernel
theorem dX11_fill_125 : decode cX11_fill 125 = .ok (.iconst 4, 1) := by decide +kernel
theorem dX11_fill_126 : decode cX11_fill 126 = .ok (.irem, 1) := by decide +kernel
theorem dX11_fill_127 : decode cX11_fill 127 = .ok (.iadd, 1) := by decide +kernel
theorem dX11_fill_128 : decode cX11_fill 128 = .ok (.sipush 256, 3) := by decide +kernel
theorem dX11_fill_131 : decode cX11_fill 131 = .ok (.irem, 1) := by decide +kernel
theorem dX11_fill_132 : decode cX11_fill 132 = .ok (.istore 8, 2) := by decide +kernel
theorem dX11_fill_134 : decode cX11_fill 134 = .ok (.iload_n 3, 1) := by decide +kernel
theorem dX11_fill_135 : decode cX11_fill 135 = .ok (.iconst 2, 1) := by decide +kernel
theorem dX11_fill_136 : decode cX11_fill 136 = .ok (.if_icmp .ne 16, 3) := by decide +kernel
theorem dX11_fill_139 : decode cX11_fill 139 = .ok (.iconst 1, 1) := by decide +kernel
theorem dX11_fill_140 : decode cX11_fill 140 = .ok (.iload 7, 2) := by decide +kernel
theorem dX11_fill_142 : decode cX11_fill 142 = .ok (.bipush 8, 2) := by decide +kernel
theorem dX11_fill_144 : decode cX11_fill 144 = .ok (.idiv, 1) := by decide +kernel
theorem dX11_fill_145 : decode cX11_fill 145 = .ok (.bipush 8, 2) := by decide +kernel
theorem dX11_fill_147 : decode cX11_fill 147 = .ok (.irem, 1) := by decide +kernel
theorem dX11_fill_148 : decode cX11_fill 148 = .ok (.iadd, 1) := by decide +kernel
theorem dX11_fill_149 : decode cX11_fill 149 = .ok (.goto 4, 3) := by decide +kernel
theorem dX11_fill_152 : decode cX11_fill 152 = .ok (.iconst 1, 1) := by decide +kernel
theorem dX11_fill_153 : decode cX11_fill 153 = .ok (.istore 9, 2) := by decide +kernel
theorem dX11_fill_155 : decode cX11_fill 155 = .ok (.iconst 0, 1) := by decide +kernel
theorem dX11_fill_156 : decode cX11_fill 156 = .ok (.istore 10, 2) := by decide +kernel
theorem dX11_fill_158 : decode cX11_fill 158 = .ok (.iload 10, 2) := by decide +kernel
theorem dX11_fill_160 : decode cX11_fill 160 = .ok (.iload 9, 2) := by decide +kernel
theorem dX11_fill_162 : decode cX11_fill 162 = .ok (.if_icmp .ge 39, 3) := by decide +kernel
theorem dX11_fill_165 : decode cX11_fill 165 = .ok (.aload_n 0, 1) := by decide +kernel
theorem dX11_fill_166 : decode cX11_fill 166 = .ok (.getfield 72, 3) := by decide +kernel
theorem dX11_fill_169 : decode cX11_fill 169 = .ok (.iload 6, 2) := by decide +kernel
theorem dX11_fill_171 : decode cX11_fill 171 = .ok (.if_icmp .ge 30, 3) := by decide +kernel
theorem dX11_fill_174 : decode cX11_fill 174 = .ok (.aload_n 0, 1) := by decide +kernel
theorem dX11_fill_175 : decode cX11_fill 175 = .ok (.getfield 7, 3) := by decide +kernel
theorem dX11_fill_178 : decode cX11_fill 178 = .ok (.aload_n 0, 1) := by decide +kernel
theorem dX11_fill_179 : decode cX11_fill 179 = .ok (.getfield 72, 3) := by decide +kernel
theorem dX11_fill_182 : decode cX11_fill 182 = .ok (.iload 8, 2) := by decide +kernel
theorem dX11_fill_184 : decode cX11_fill 184 = .ok (.iastore, 1) := by decide +kernel
theorem dX11_fill_185 : decode cX11_fill 185 = .ok (.aload_n 0, 1) := by decide +kernel
theorem dX11_fill_186 : decode cX11_fill 186 = .ok (.dup, 1) := by decide +kernel
theorem dX11_fill_187 : decode cX11_fill 187 = .ok (.getfield 72, 3) := by decide +kernel
theorem dX11_fill_190 : decode cX11_fill 190 = .ok (.iconst 1, 1) := by decide +kernel
theorem dX11_fill_191 : decode cX11_fill 191 = .ok (.iadd, 1) := by decide +kernel
theorem dX11_fill_192 : decode cX11_fill 192 = .ok (.putfield 72, 3) := by decide +kernel
theorem dX11_fill_195 : decode cX11_fill 195 = .ok (.iinc 10 1, 3) := by decide +kernel
theorem dX11_fill_198 : decode cX11_fill 198 = .ok (.goto (-40), 3) := by decide +kernel
theorem dX11_fill_201 : decode cX11_fill 201 = .ok (.iload 8, 2) := by decide +kernel
theorem dX11_fill_203 : decode cX11_fill 203 = .ok (.istore 5, 2) := by decide +kernel
theorem dX11_fill_205 : decode cX11_fill 205 = .ok (.goto (-149), 3) := by decide +kernel
theorem dX11_fill_208 : decode cX11_fill 208 = .ok (.aload_n 0, 1) := by decide +kernel
theorem dX11_fill_209 : decode cX11_fill 209 = .ok (.getfield 72, 3) := by decide +kernel
theorem dX11_fill_212 : decode cX11_fill 212 = .ok (.ireturn, 1) := by decide +kernel
theorem dX11_size_0 : decode cX11_size 0 = .ok (.aload_n 0, 1) := by decide +kernel
theorem dX11_size_1 : decode cX11_size 1 = .ok (.iconst 0, 1) := by decide +kernel
theorem dX11_size_2 : decode cX11_size 2 = .ok (.putfield 65, 3) := by decide +kernel
theorem dX11_size_5 : decode cX11_size 5 = .ok (.iload_n 1, 1) := by decide +kernel
theorem dX11_size_6 : decode cX11_size 6 = .ok (.ifCond .ne 10, 3) := by decide +kernel
theorem dX11_size_9 : decode cX11_size 9 = .ok (.aload_n 0, 1) := by decide +kernel
theorem dX11_size_10 : decode cX11_size 10 = .ok (.getfield 72, 3) := by decide +kernel
theorem dX11_size_13 : decode cX11_size 13 = .ok (.goto 16, 3) := by decide +kernel
theorem dX11_size_16 : decode cX11_size 16 = .ok (.iload_n 1, 1) := by decide +kernel
theorem dX11_size_17 : decode cX11_size 17 = .ok (.iconst 1, 1) := by decide +kernel
theorem dX11_size_18 : decode cX11_size 18 = .ok (.if_icmp .ne 10, 3) := by decide +kernel
theorem dX11_size_21 : decode cX11_size 21 = .ok (.aload_n 0, 1) := by decide +kernel
theorem dX11_size_22 : decode cX11_size 22 = .ok (.getfield 80, 3) := by decide +kernel
theorem dX11_size_25 : decode cX11_size 25 = .ok (.goto 4, 3) := by decide +kernel
theorem dX11_size_28 : decode cX11_size 28 = .ok (.iconst (-1), 1) := by decide +kernel
theorem dX11_size_29 : decode cX11_size 29 = .ok (.ireturn, 1) := by decide +kernel
theorem dX11_octet_0 : decode cX11_octet 0 = .ok (.aload_n 0, 1) := by decide +kernel
theorem dX11_octet_1 : decode cX11_octet 1 = .ok (.iconst 0, 1) := by decide +kernel
theorem dX11_octet_2 : decode cX11_octet 2 = .ok (.putfield 65, 3) := by decide +kernel
theorem dX11_octet_5 : decode cX11_octet 5 = .ok (.iload_n 1, 1) := by decide +kernel
theorem dX11_octet_6 : decode cX11_octet 6 = .ok (.ifCond .ne 24, 3) := by decide +kernel
theorem dX11_octet_9 : decode cX11_octet 9 = .ok (.iload_n 2, 1) := by decide +kernel
theorem dX11_octet_10 : decode cX11_octet 10 = .ok (.iconst 0, 1) := by decide +kernel
theorem dX11_octet_11 : decode cX11_octet 11 = .ok (.aload_n 0, 1) := by decide +kernel
theorem dX11_octet_12 : decode cX11_octet 12 = .ok (.getfield 72, 3) := by decide +kernel
theorem dX11_octet_15 : decode cX11_octet 15 = .ok (.iconst 1, 1) := by decide +kernel
theorem dX11_octet_16 : decode cX11_octet 16 = .ok (.isub, 1) := by decide +kernel
theorem dX11_octet_17 : decode cX11_octet 17 = .ok (.invokestatic 75, 3) := by decide +kernel
theorem dX11_octet_20 : decode cX11_octet 20 = .ok (.ifCond .eq 10, 3) := by decide +kernel
theorem dX11_octet_23 : decode cX11_octet 23 = .ok (.aload_n 0, 1) := by decide +kernel
theorem dX11_octet_24 : decode cX11_octet 24 = .ok (.getfield 7, 3) := by decide +kernel
theorem dX11_octet_27 : decode cX11_octet 27 = .ok (.iload_n 2, 1) := by decide +kernel
theorem dX11_octet_28 : decode cX11_octet 28 = .ok (.iaload, 1) := by decide +kernel
theorem dX11_octet_29 : decode cX11_octet 29 = .ok (.ireturn, 1) := by decide +kernel
theorem dX11_octet_30 : decode cX11_octet 30 = .ok (.iload_n 1, 1) := by decide +kernel
theorem dX11_octet_31 : decode cX11_octet 31 = .ok (.iconst 1, 1) := by decide +kernel
theorem dX11_octet_32 : decode cX11_octet 32 = .ok (.if_icmp .ne 26, 3) := by decide +kernel
theorem dX11_octet_35 : decode cX11_octet 35 = .ok (.iload_n 2, 1) := by decide +kernel
theorem dX11_octet_36 : decode cX11_octet 36 = .ok (.iconst 0, 1) := by decide +kernel
theorem dX11_octet_37 : decode cX11_octet 37 = .ok (.aload_n 0, 1) := by decide +kernel
theorem dX11_octet_38 : decode cX11_octet 38 = .ok (.getfield 80, 3) := by decide +kernel
theorem dX11_octet_41 : decode cX11_octet 41 = .ok (.iconst 1, 1) := by decide +kernel
theorem dX11_octet_42 : decode cX11_octet 42 = .ok (.isub, 1) := by decide +kernel
theorem dX11_octet_43 : decode cX11_octet 43 = .ok (.invokestatic 75, 3) := by decide +kernel
theorem dX11_octet_46 : decode cX11_octet 46 = .ok (.ifCond .eq 12, 3) := by decide +kernel
theorem dX11_octet_49 : decode cX11_octet 49 = .ok (.aload_n 0, 1) := by decide +kernel
theorem dX11_octet_50 : decode cX11_octet 50 = .ok (.getfield 13, 3) := by decide +kernel
theorem dX11_octet_53 : decode cX11_octet 53 = .ok (.iload_n 2, 1) := by decide +kernel
theorem dX11_octet_54 : decode cX11_octet 54 = .ok (.iaload, 1) := by decide +kernel
theorem dX11_octet_55 : decode cX11_octet 55 = .ok (.goto 4, 3) := by decide +kernel
theorem dX11_octet_58 : decode cX11_octet 58 = .ok (.iconst (-1), 1) := by decide +kernel
theorem dX11_octet_59 : decode cX11_octet 59 = .ok (.ireturn, 1) := by decide +kernel
theorem dX11_isFilter_0 : decode cX11_isFilter 0 = .ok (.iload_n 0, 1) := by decide +kernel
theorem dX11_isFilter_1 : decode cX11_isFilter 1 = .ok (.iconst 1, 1) := by decide +kernel
theorem dX11_isFilter_2 : decode cX11_isFilter 2 = .ok (.if_icmp .ne 13, 3) := by decide +kernel
theorem dX11_isFilter_5 : decode cX11_isFilter 5 = .ok (.iload_n 1, 1) := by decide +kernel
theorem dX11_isFilter_6 : decode cX11_isFilter 6 = .ok (.iconst 1, 1) := by decide +kernel
theorem dX11_isFilter_7 : decode cX11_isFilter 7 = .ok (.bipush 8, 2) := by decide +kernel
theorem dX11_isFilter_9 : decode cX11_isFilter 9 = .ok (.invokestatic 75, 3) := by decide +kernel
theorem dX11_isFilter_12 : decode cX11_isFilter 12 = .ok (.goto 56, 3) := by decide +kernel
theorem dX11_isFilter_15 : decode cX11_isFilter 15 = .ok (.iload_n 0, 1) := by decide +kernel
theorem dX11_isFilter_16 : decode cX11_isFilter 16 = .ok (.iconst 2, 1) := by decide +kernel
theorem dX11_isFilter_17 : decode cX11_isFilter 17 = .ok (.if_icmp .ne 15, 3) := by decide +kernel
theorem dX11_isFilter_20 : decode cX11_isFilter 20 = .ok (.iload_n 1, 1) := by decide +kernel
theorem dX11_isFilter_21 : decode cX11_isFilter 21 = .ok (.ifCond .ne 7, 3) := by decide +kernel
theorem dX11_isFilter_24 : decode cX11_isFilter 24 = .ok (.iconst 1, 1) := by decide +kernel
theorem dX11_isFilter_25 : decode cX11_isFilter 25 = .ok (.goto 43, 3) := by decide +kernel
theorem dX11_isFilter_28 : decode cX11_isFilter 28 = .ok (.iconst 0, 1) := by decide +kernel
theorem dX11_isFilter_29 : decode cX11_isFilter 29 = .ok (.goto 39, 3) := by decide +kernel
theorem dX11_isFilter_32 : decode cX11_isFilter 32 = .ok (.iload_n 0, 1) := by decide +kernel
theorem dX11_isFilter_33 : decode cX11_isFilter 33 = .ok (.iconst 3, 1) := by decide +kernel
theorem dX11_isFilter_34 : decode cX11_isFilter 34 = .ok (.if_icmp .ne 13, 3) := by decide +kernel
theorem dX11_isFilter_37 : decode cX11_isFilter 37 = .ok (.iload_n 1, 1) := by decide +kernel
theorem dX11_isFilter_38 : decode cX11_isFilter 38 = .ok (.iconst 2, 1) := by decide +kernel
theorem dX11_isFilter_39 : decode cX11_isFilter 39 = .ok (.bipush 8, 2) := by decide +kernel
theorem dX11_isFilter_41 : decode cX11_isFilter 41 = .ok (.invokestatic 75, 3) := by decide +kernel
theorem dX11_isFilter_44 : decode cX11_isFilter 44 = .ok (.goto 24, 3) := by decide +kernel
theorem dX11_isFilter_47 : decode cX11_isFilter 47 = .ok (.iload_n 0, 1) := by decide +kernel
theorem dX11_isFilter_48 : decode cX11_isFilter 48 = .ok (.iconst 4, 1) := by decide +kernel
theorem dX11_isFilter_49 : decode cX11_isFilter 49 = .ok (.if_icmp .ne 18, 3) := by decide +kernel
theorem dX11_isFilter_52 : decode cX11_isFilter 52 = .ok (.iload_n 1, 1) := by decide +kernel
theorem dX11_isFilter_53 : decode cX11_isFilter 53 = .ok (.iconst 1, 1) := by decide +kernel
theorem dX11_isFilter_54 : decode cX11_isFilter 54 = .ok (.sipush 255, 3) := by decide +kernel
theorem dX11_isFilter_57 : decode cX11_isFilter 57 = .ok (.invokestatic 75, 3) := by decide +kernel
theorem dX11_isFilter_60 : decode cX11_isFilter 60 = .ok (.ifCond .eq 7, 3) := by decide +kernel
theorem dX11_isFilter_63 : decode cX11_isFilter 63 = .ok (.iconst 1, 1) := by decide +kernel
theorem dX11_isFilter_64 : decode cX11_isFilter 64 = .ok (.goto 4, 3) := by decide +kernel
theorem dX11_isFilter_67 : decode cX11_isFilter 67 = .ok (.iconst 0, 1) := by decide +kernel
theorem dX11_isFilter_68 : decode cX11_isFilter 68 = .ok (.ireturn, 1) := by decide +kernel
theorem dX11_filter_0 : decode cX11_filter 0 = .ok (.aload_n 0, 1) := by decide +kernel
theorem dX11_filter_1 : decode cX11_filter 1 = .ok (.iconst 0, 1) := by decide +kernel
theorem dX11_filter_2 : decode cX11_filter 2 = .ok (.putfield 65, 3) := by decide +kernel
theorem dX11_filter_5 : decode cX11_filter 5 = .ok (.iload_n 1, 1) := by decide +kernel
theorem dX11_filter_6 : decode cX11_filter 6 = .ok (.iload_n 2, 1) := by decide +kernel
theorem dX11_filter_7 : decode cX11_filter 7 = .ok (.invokestatic 83, 3) := by decide +kernel
theorem dX11_filter_10 : decode cX11_filter 10 = .ok (.ifCond .ne 5, 3) := by decide +kernel
theorem dX11_filter_13 : decode cX11_filter 13 = .ok (.iconst (-1), 1) := by decide +kernel
theorem dX11_filter_14 : decode cX11_filter 14 = .ok (.ireturn, 1) := by decide +kernel
theorem dX11_filter_15 : decode cX11_filter 15 = .ok (.aload_n 0, 1) := by decide +kernel
theorem dX11_filter_16 : decode cX11_filter 16 = .ok (.getfield 87, 3) := by decide +kernel
theorem dX11_filter_19 : decode cX11_filter 19 = .ok (.iconst 4, 1) := by decide +kernel
theorem dX11_filter_20 : decode cX11_filter 20 = .ok (.if_icmp .ne 6, 3) := by decide +kernel
theorem dX11_filter_23 : decode cX11_filter 23 = .ok (.bipush (-2), 2) := by decide +kernel
theorem dX11_filter_25 : decode cX11_filter 25 = .ok (.ireturn, 1) := by decide +kernel
theorem dX11_filter_26 : decode cX11_filter 26 = .ok (.aload_n 0, 1) := by decide +kernel
theorem dX11_filter_27 : decode cX11_filter 27 = .ok (.getfield 16, 3) := by decide +kernel
theorem dX11_filter_30 : decode cX11_filter 30 = .ok (.aload_n 0, 1) := by decide +kernel
theorem dX11_filter_31 : decode cX11_filter 31 = .ok (.getfield 87, 3) := by decide +kernel
theorem dX11_filter_34 : decode cX11_filter 34 = .ok (.iload_n 1, 1) := by decide +kernel
theorem dX11_filter_35 : decode cX11_filter 35 = .ok (.iastore, 1) := by decide +kernel
theorem dX11_filter_36 : decode cX11_filter 36 = .ok (.aload_n 0, 1) := by decide +kernel
theorem dX11_filter_37 : decode cX11_filter 37 = .ok (.getfield 19, 3) := by decide +kernel
theorem dX11_filter_40 : decode cX11_filter 40 = .ok (.aload_n 0, 1) := by decide +kernel
theorem dX11_filter_41 : decode cX11_filter 41 = .ok (.getfield 87, 3) := by decide +kernel
theorem dX11_filter_44 : decode cX11_filter 44 = .ok (.iload_n 2, 1) := by decide +kernel
theorem dX11_filter_45 : decode cX11_filter 45 = .ok (.iastore, 1) := by decide +kernel
theorem dX11_filter_46 : decode cX11_filter 46 = .ok (.aload_n 0, 1) := by decide +kernel
theorem dX11_filter_47 : decode cX11_filter 47 = .ok (.dup, 1) := by decide +kernel
theorem dX11_filter_48 : decode cX11_filter 48 = .ok (.getfield 87, 3) := by decide +kernel
theorem dX11_filter_51 : decode cX11_filter 51 = .ok (.iconst 1, 1) := by decide +kernel
theorem dX11_filter_52 : decode cX11_filter 52 = .ok (.iadd, 1) := by decide +kernel
theorem dX11_filter_53 : decode cX11_filter 53 = .ok (.putfield 87, 3) := by decide +kernel
theorem dX11_filter_56 : decode cX11_filter 56 = .ok (.aload_n 0, 1) := by decide +kernel
theorem dX11_filter_57 : decode cX11_filter 57 = .ok (.invokevirtual 62, 3) := by decide +kernel
theorem dX11_filter_60 : decode cX11_filter 60 = .ok (.aload_n 0, 1) := by decide +kernel
theorem dX11_filter_61 : decode cX11_filter 61 = .ok (.getfield 87, 3) := by decide +kernel
theorem dX11_filter_64 : decode cX11_filter 64 = .ok (.iconst 1, 1) := by decide +kernel
theorem dX11_filter_65 : decode cX11_filter 65 = .ok (.isub, 1) := by decide +kernel
theorem dX11_filter_66 : decode cX11_filter 66 = .ok (.ireturn, 1) := by decide +kernel
theorem dX11_packer_0 : decode cX11_packer 0 = .ok (.aload_n 0, 1) := by decide +kernel
theorem dX11_packer_1 : decode cX11_packer 1 = .ok (.iconst 0, 1) := by decide +kernel
theorem dX11_packer_2 : decode cX11_packer 2 = .ok (.putfield 65, 3) := by decide +kernel
theorem dX11_packer_5 : decode cX11_packer 5 = .ok (.iload_n 1, 1) := by decide +kernel
theorem dX11_packer_6 : decode cX11_packer 6 = .ok (.iconst 1, 1) := by decide +kernel
theorem dX11_packer_7 : decode cX11_packer 7 = .ok (.iconst 4, 1) := by decide +kernel
theorem dX11_packer_8 : decode cX11_packer 8 = .ok (.invokestatic 75, 3) := by decide +kernel
theorem dX11_packer_11 : decode cX11_packer 11 = .ok (.ifCond .ne 5, 3) := by decide +kernel
theorem dX11_packer_14 : decode cX11_packer 14 = .ok (.iconst (-1), 1) := by decide +kernel
theorem dX11_packer_15 : decode cX11_packer 15 = .ok (.ireturn, 1) := by decide +kernel
theorem dX11_packer_16 : decode cX11_packer 16 = .ok (.iconst 0, 1) := by decide +kernel
theorem dX11_packer_17 : decode cX11_packer 17 = .ok (.istore_n 2, 1) := by decide +kernel
theorem dX11_packer_18 : decode cX11_packer 18 = .ok (.iload_n 2, 1) := by decide +kernel
theorem dX11_packer_19 : decode cX11_packer 19 = .ok (.aload_n 0, 1) := by decide +kernel
theorem dX11_packer_20 : decode cX11_packer 20 = .ok (.getfield 90, 3) := by decide +kernel
theorem dX11_packer_23 : decode cX11_packer 23 = .ok (.if_icmp .ge 22, 3) := by decide +kernel
theorem dX11_packer_26 : decode cX11_packer 26 = .ok (.aload_n 0, 1) := by decide +kernel
theorem dX11_packer_27 : decode cX11_packer 27 = .ok (.getfield 22, 3) := by decide +kernel
theorem dX11_packer_30 : decode cX11_packer 30 = .ok (.iload_n 2, 1) := by decide +kernel
theorem dX11_packer_31 : decode cX11_packer 31 = .ok (.iaload, 1) := by decide +kernel
theorem dX11_packer_32 : decode cX11_packer 32 = .ok (.iload_n 1, 1) := by decide +kernel
theorem dX11_packer_33 : decode cX11_packer 33 = .ok (.if_icmp .ne 6, 3) := by decide +kernel
theorem dX11_packer_36 : decode cX11_packer 36 = .ok (.bipush (-3), 2) := by decide +kernel
theorem dX11_packer_38 : decode cX11_packer 38 = .ok (.ireturn, 1) := by decide +kernel
theorem dX11_packer_39 : decode cX11_packer 39 = .ok (.iinc 2 1, 3) := by decide +kernel
theorem dX11_packer_42 : decode cX11_packer 42 = .ok (.goto (-24), 3) := by decide +kernel
theorem dX11_packer_45 : decode cX11_packer 45 = .ok (.aload_n 0, 1) := by decide +kernel
theorem dX11_packer_46 : decode cX11_packer 46 = .ok (.getfield 22, 3) := by decide +kernel
theorem dX11_packer_49 : decode cX11_packer 49 = .ok (.aload_n 0, 1) := by decide +kernel
theorem dX11_packer_50 : decode cX11_packer 50 = .ok (.getfield 90, 3) := by decide +kernel
theorem dX11_packer_53 : decode cX11_packer 53 = .ok (.iload_n 1, 1) := by decide +kernel
theorem dX11_packer_54 : decode cX11_packer 54 = .ok (.iastore, 1) := by decide +kernel
theorem dX11_packer_55 : decode cX11_packer 55 = .ok (.aload_n 0, 1) := by decide +kernel
theorem dX11_packer_56 : decode cX11_packer 56 = .ok (.dup, 1) := by decide +kernel
theorem dX11_packer_57 : decode cX11_packer 57 = .ok (.getfield 90, 3) := by decide +kernel
theorem dX11_packer_60 : decode cX11_packer 60 = .ok (.iconst 1, 1) := by decide +kernel
theorem dX11_packer_61 : decode cX11_packer 61 = .ok (.iadd, 1) := by decide +kernel
theorem dX11_packer_62 : decode cX11_packer 62 = .ok (.putfield 90, 3) := by decide +kernel
theorem dX11_packer_65 : decode cX11_packer 65 = .ok (.aload_n 0, 1) := by decide +kernel
theorem dX11_packer_66 : decode cX11_packer 66 = .ok (.invokevirtual 62, 3) := by decide +kernel
theorem dX11_packer_69 : decode cX11_packer 69 = .ok (.aload_n 0, 1) := by decide +kernel
theorem dX11_packer_70 : decode cX11_packer 70 = .ok (.getfield 90, 3) := by decide +kernel
theorem dX11_packer_73 : decode cX11_packer 73 = .ok (.ireturn, 1) := by decide +kernel
theorem dX11_chains_0 : decode cX11_chains 0 = .ok (.aload_n 0, 1) := by decide +kernel
theorem dX11_chains_1 : decode cX11_chains 1 = .ok (.iconst 0, 1) := by decide +kernel
theorem dX11_chains_2 : decode cX11_chains 2 = .ok (.putfield 65, 3) := by decide +kernel
theorem dX11_chains_5 : decode cX11_chains 5 = .ok (.iconst 1, 1) := by decide +kernel
theorem dX11_chains_6 : decode cX11_chains 6 = .ok (.aload_n 0, 1) := by decide +kernel
theorem dX11_chains_7 : decode cX11_chains 7 = .ok (.getfield 87, 3) := by decide +kernel
theorem dX11_chains_10 : decode cX11_chains 10 = .ok (.iadd, 1) := by decide +kernel
theorem dX11_chains_11 : decode cX11_chains 11 = .ok (.aload_n 0, 1) := by decide +kernel
theorem dX11_chains_12 : decode cX11_chains 12 = .ok (.getfield 87, 3) := by decide +kernel
theorem dX11_chains_15 : decode cX11_chains 15 = .ok (.aload_n 0, 1) := by decide +kernel
theorem dX11_chains_16 : decode cX11_chains 16 = .ok (.getfield 87, 3) := by decide +kernel
theorem dX11_chains_19 : decode cX11_chains 19 = .ok (.iconst 1, 1) := by decide +kernel
theorem dX11_chains_20 : decode cX11_chains 20 = .ok (.isub, 1) := by decide +kernel
theorem dX11_chains_21 : decode cX11_chains 21 = .ok (.imul, 1) := by decide +kernel
theorem dX11_chains_22 : decode cX11_chains 22 = .ok (.iadd, 1) := by decide +kernel
theorem dX11_chains_23 : decode cX11_chains 23 = .ok (.iconst 1, 1) := by decide +kernel
theorem dX11_chains_24 : decode cX11_chains 24 = .ok (.aload_n 0, 1) := by decide +kernel
theorem dX11_chains_25 : decode cX11_chains 25 = .ok (.getfield 90, 3) := by decide +kernel
theorem dX11_chains_28 : decode cX11_chains 28 = .ok (.iadd, 1) := by decide +kernel
theorem dX11_chains_29 : decode cX11_chains 29 = .ok (.imul, 1) := by decide +kernel
theorem dX11_chains_30 : decode cX11_chains 30 = .ok (.ireturn, 1) := by decide +kernel
theorem dX11_forget_0 : decode cX11_forget 0 = .ok (.aload_n 0, 1) := by decide +kernel
theorem dX11_forget_1 : decode cX11_forget 1 = .ok (.invokevirtual 93, 3) := by decide +kernel
theorem dX11_forget_4 : decode cX11_forget 4 = .ok (.istore_n 1, 1) := by decide +kernel
theorem dX11_forget_5 : decode cX11_forget 5 = .ok (.aload_n 0, 1) := by decide +kernel
theorem dX11_forget_6 : decode cX11_forget 6 = .ok (.iconst 0, 1) := by decide +kernel
theorem dX11_forget_7 : decode cX11_forget 7 = .ok (.putfield 87, 3) := by decide +kernel
theorem dX11_forget_10 : decode cX11_forget 10 = .ok (.aload_n 0, 1) := by decide +kernel
theorem dX11_forget_11 : decode cX11_forget 11 = .ok (.iconst 0, 1) := by decide +kernel
theorem dX11_forget_12 : decode cX11_forget 12 = .ok (.putfield 90, 3) := by decide +kernel
theorem dX11_forget_15 : decode cX11_forget 15 = .ok (.aload_n 0, 1) := by decide +kernel
theorem dX11_forget_16 : decode cX11_forget 16 = .ok (.invokevirtual 62, 3) := by decide +kernel
theorem dX11_forget_19 : decode cX11_forget 19 = .ok (.iload_n 1, 1) := by decide +kernel
theorem dX11_forget_20 : decode cX11_forget 20 = .ok (.ireturn, 1) := by decide +kernel
theorem dX11_part_0 : decode cX11_part 0 = .ok (.iload_n 1, 1) := by decide +kernel
theorem dX11_part_1 : decode cX11_part 1 = .ok (.iconst 1, 1) := by decide +kernel
theorem dX11_part_2 : decode cX11_part 2 = .ok (.aload_n 0, 1) := by decide +kernel
theorem dX11_part_3 : decode cX11_part 3 = .ok (.getfield 90, 3) := by decide +kernel
theorem dX11_part_6 : decode cX11_part 6 = .ok (.iadd, 1) := by decide +kernel
theorem dX11_part_7 : decode cX11_part 7 = .ok (.irem, 1) := by decide +kernel
theorem dX11_part_8 : decode cX11_part 8 = .ok (.istore_n 2, 1) := by decide +kernel
theorem dX11_part_9 : decode cX11_part 9 = .ok (.iload_n 1, 1) := by decide +kernel
theorem dX11_part_10 : decode cX11_part 10 = .ok (.iconst 1, 1) := by decide +kernel
theorem dX11_part_11 : decode cX11_part 11 = .ok (.aload_n 0, 1) := by decide +kernel
theorem dX11_part_12 : decode cX11_part 12 = .ok (.getfield 90, 3) := by decide +kernel
theorem dX11_part_15 : decode cX11_part 15 = .ok (.iadd, 1) := by decide +kernel
theorem dX11_part_16 : decode cX11_part 16 = .ok (.idiv, 1) := by decide +kernel
theorem dX11_part_17 : decode cX11_part 17 = .ok (.istore_n 3, 1) := by decide +kernel
theorem dX11_part_18 : decode cX11_part 18 = .ok (.aload_n 0, 1) := by decide +kernel
theorem dX11_part_19 : decode cX11_part 19 = .ok (.iload_n 2, 1) := by decide +kernel
theorem dX11_part_20 : decode cX11_part 20 = .ok (.ifCond .ne 7, 3) := by decide +kernel
theorem dX11_part_23 : decode cX11_part 23 = .ok (.iconst 0, 1) := by decide +kernel
theorem dX11_part_24 : decode cX11_part 24 = .ok (.goto 11, 3) := by decide +kernel
theorem dX11_part_27 : decode cX11_part 27 = .ok (.aload_n 0, 1) := by decide +kernel
theorem dX11_part_28 : decode cX11_part 28 = .ok (.getfield 22, 3) := by decide +kernel
theorem dX11_part_31 : decode cX11_part 31 = .ok (.iload_n 2, 1) := by decide +kernel
theorem dX11_part_32 : decode cX11_part 32 = .ok (.iconst 1, 1) := by decide +kernel
theorem dX11_part_33 : decode cX11_part 33 = .ok (.isub, 1) := by decide +kernel
theorem dX11_part_34 : decode cX11_part 34 = .ok (.iaload, 1) := by decide +kernel
theorem dX11_part_35 : decode cX11_part 35 = .ok (.putfield 97, 3) := by decide +kernel
theorem dX11_part_38 : decode cX11_part 38 = .ok (.aload_n 0, 1) := by decide +kernel
theorem dX11_part_39 : decode cX11_part 39 = .ok (.bipush (-3), 2) := by decide +kernel
theorem dX11_part_41 : decode cX11_part 41 = .ok (.putfield 100, 3) := by decide +kernel
theorem dX11_part_44 : decode cX11_part 44 = .ok (.aload_n 0, 1) := by decide +kernel
theorem dX11_part_45 : decode cX11_part 45 = .ok (.bipush (-3), 2) := by decide +kernel
theorem dX11_part_47 : decode cX11_part 47 = .ok (.putfield 103, 3) := by decide +kernel
theorem dX11_part_50 : decode cX11_part 50 = .ok (.iload_n 3, 1) := by decide +kernel
theorem dX11_part_51 : decode cX11_part 51 = .ok (.aload_n 0, 1) := by decide +kernel
theorem dX11_part_52 : decode cX11_part 52 = .ok (.getfield 87, 3) := by decide +kernel
theorem dX11_part_55 : decode cX11_part 55 = .ok (.if_icmp .le 67, 3) := by decide +kernel
theorem dX11_part_58 : decode cX11_part 58 = .ok (.iload_n 3, 1) := by decide +kernel
theorem dX11_part_59 : decode cX11_part 59 = .ok (.aload_n 0, 1) := by decide +kernel
theorem dX11_part_60 : decode cX11_part 60 = .ok (.getfield 87, 3) := by decide +kernel
theorem dX11_part_63 : decode cX11_part 63 = .ok (.isub, 1) := by decide +kernel
theorem dX11_part_64 : decode cX11_part 64 = .ok (.iconst 1, 1) := by decide +kernel
theorem dX11_part_65 : decode cX11_part 65 = .ok (.isub, 1) := by decide +kernel
theorem dX11_part_66 : decode cX11_part 66 = .ok (.istore 4, 2) := by decide +kernel
theorem dX11_part_68 : decode cX11_part 68 = .ok (.aload_n 0, 1) := by decide +kernel
theorem dX11_part_69 : decode cX11_part 69 = .ok (.iload 4, 2) := by decide +kernel
theorem dX11_part_71 : decode cX11_part 71 = .ok (.aload_n 0, 1) := by decide +kernel
theorem dX11_part_72 : decode cX11_part 72 = .ok (.getfield 87, 3) := by decide +kernel
theorem dX11_part_75 : decode cX11_part 75 = .ok (.iconst 1, 1) := by decide +kernel
theorem dX11_part_76 : decode cX11_part 76 = .ok (.isub, 1) := by decide +kernel
theorem dX11_part_77 : decode cX11_part 77 = .ok (.idiv, 1) := by decide +kernel
theorem dX11_part_78 : decode cX11_part 78 = .ok (.putfield 100, 3) := by decide +kernel
theorem dX11_part_81 : decode cX11_part 81 = .ok (.aload_n 0, 1) := by decide +kernel
theorem dX11_part_82 : decode cX11_part 82 = .ok (.iload 4, 2) := by decide +kernel
theorem dX11_part_84 : decode cX11_part 84 = .ok (.aload_n 0, 1) := by decide +kernel
theorem dX11_part_85 : decode cX11_part 85 = .ok (.getfield 87, 3) := by decide +kernel
theorem dX11_part_88 : decode cX11_part 88 = .ok (.iconst 1, 1) := by decide +kernel
theorem dX11_part_89 : decode cX11_part 89 = .ok (.isub, 1) := by decide +kernel
theorem dX11_part_90 : decode cX11_part 90 = .ok (.irem, 1) := by decide +kernel
theorem dX11_part_91 : decode cX11_part 91 = .ok (.putfield 103, 3) := by decide +kernel
theorem dX11_part_94 : decode cX11_part 94 = .ok (.aload_n 0, 1) := by decide +kernel
theorem dX11_part_95 : decode cX11_part 95 = .ok (.dup, 1) := by decide +kernel
theorem dX11_part_96 : decode cX11_part 96 = .ok (.getfield 103, 3) := by decide +kernel
theorem dX11_part_99 : decode cX11_part 99 = .ok (.aload_n 0, 1) := by decide +kernel
theorem dX11_part_100 : decode cX11_part 100 = .ok (.getfield 103, 3) := by decide +kernel
theorem dX11_part_103 : decode cX11_part 103 = .ok (.aload_n 0, 1) := by decide +kernel
theorem dX11_part_104 : decode cX11_part 104 = .ok (.getfield 100, 3) := by decide +kernel
theorem dX11_part_107 : decode cX11_part 107 = .ok (.if_icmp .lt 7, 3) := by decide +kernel
theorem dX11_part_110 : decode cX11_part 110 = .ok (.iconst 1, 1) := by decide +kernel
theorem dX11_part_111 : decode cX11_part 111 = .ok (.goto 4, 3) := by decide +kernel
theorem dX11_part_114 : decode cX11_part 114 = .ok (.iconst 0, 1) := by decide +kernel
theorem dX11_part_115 : decode cX11_part 115 = .ok (.iadd, 1) := by decide +kernel
theorem dX11_part_116 : decode cX11_part 116 = .ok (.putfield 103, 3) := by decide +kernel
theorem dX11_part_119 : decode cX11_part 119 = .ok (.goto 14, 3) := by decide +kernel
theorem dX11_part_122 : decode cX11_part 122 = .ok (.iload_n 3, 1) := by decide +kernel
theorem dX11_part_123 : decode cX11_part 123 = .ok (.ifCond .le 10, 3) := by decide +kernel
theorem dX11_part_126 : decode cX11_part 126 = .ok (.aload_n 0, 1) := by decide +kernel
theorem dX11_part_127 : decode cX11_part 127 = .ok (.iload_n 3, 1) := by decide +kernel
theorem dX11_part_128 : decode cX11_part 128 = .ok (.iconst 1, 1) := by decide +kernel
theorem dX11_part_129 : decode cX11_part 129 = .ok (.isub, 1) := by decide +kernel
theorem dX11_part_130 : decode cX11_part 130 = .ok (.putfield 100, 3) := by decide +kernel
theorem dX11_part_133 : decode cX11_part 133 = .ok (.return_, 1) := by decide +kernel
theorem dX11_stepsOf_0 : decode cX11_stepsOf 0 = .ok (.aload_n 0, 1) := by decide +kernel
theorem dX11_stepsOf_1 : decode cX11_stepsOf 1 = .ok (.getfield 97, 3) := by decide +kernel
theorem dX11_stepsOf_4 : decode cX11_stepsOf 4 = .ok (.ifCond .ne 7, 3) := by decide +kernel
theorem dX11_stepsOf_7 : decode cX11_stepsOf 7 = .ok (.iconst 1, 1) := by decide +kernel
theorem dX11_stepsOf_8 : decode cX11_stepsOf 8 = .ok (.goto 29, 3) := by decide +kernel
theorem dX11_stepsOf_11 : decode cX11_stepsOf 11 = .ok (.aload_n 0, 1) := by decide +kernel
theorem dX11_stepsOf_12 : decode cX11_stepsOf 12 = .ok (.getfield 97, 3) := by decide +kernel
theorem dX11_stepsOf_15 : decode cX11_stepsOf 15 = .ok (.iconst 3, 1) := by decide +kernel
theorem dX11_stepsOf_16 : decode cX11_stepsOf 16 = .ok (.if_icmp .ge 7, 3) := by decide +kernel
theorem dX11_stepsOf_19 : decode cX11_stepsOf 19 = .ok (.iconst 2, 1) := by decide +kernel
theorem dX11_stepsOf_20 : decode cX11_stepsOf 20 = .ok (.goto 17, 3) := by decide +kernel
theorem dX11_stepsOf_23 : decode cX11_stepsOf 23 = .ok (.aload_n 0, 1) := by decide +kernel
theorem dX11_stepsOf_24 : decode cX11_stepsOf 24 = .ok (.getfield 97, 3) := by decide +kernel
theorem dX11_stepsOf_27 : decode cX11_stepsOf 27 = .ok (.iconst 3, 1) := by decide +kernel
theorem dX11_stepsOf_28 : decode cX11_stepsOf 28 = .ok (.if_icmp .ne 7, 3) := by decide +kernel
theorem dX11_stepsOf_31 : decode cX11_stepsOf 31 = .ok (.iconst 4, 1) := by decide +kernel
theorem dX11_stepsOf_32 : decode cX11_stepsOf 32 = .ok (.goto 5, 3) := by decide +kernel
theorem dX11_stepsOf_35 : decode cX11_stepsOf 35 = .ok (.bipush 64, 2) := by decide +kernel
theorem dX11_stepsOf_37 : decode cX11_stepsOf 37 = .ok (.istore_n 1, 1) := by decide +kernel
theorem dX11_stepsOf_38 : decode cX11_stepsOf 38 = .ok (.iload_n 1, 1) := by decide +kernel
theorem dX11_stepsOf_39 : decode cX11_stepsOf 39 = .ok (.aload_n 0, 1) := by decide +kernel
theorem dX11_stepsOf_40 : decode cX11_stepsOf 40 = .ok (.getfield 100, 3) := by decide +kernel
theorem dX11_stepsOf_43 : decode cX11_stepsOf 43 = .ok (.ifCond .ge 7, 3) := by decide +kernel
theorem dX11_stepsOf_46 : decode cX11_stepsOf 46 = .ok (.iconst 0, 1) := by decide +kernel
theorem dX11_stepsOf_47 : decode cX11_stepsOf 47 = .ok (.goto 22, 3) := by decide +kernel
theorem dX11_stepsOf_50 : decode cX11_stepsOf 50 = .ok (.aload_n 0, 1) := by decide +kernel
theorem dX11_stepsOf_51 : decode cX11_stepsOf 51 = .ok (.getfield 16, 3) := by decide +kernel
theorem dX11_stepsOf_54 : decode cX11_stepsOf 54 = .ok (.aload_n 0, 1) := by decide +kernel
theorem dX11_stepsOf_55 : decode cX11_stepsOf 55 = .ok (.getfield 100, 3) := by decide +kernel
theorem dX11_stepsOf_58 : decode cX11_stepsOf 58 = .ok (.iaload, 1) := by decide +kernel
theorem dX11_stepsOf_59 : decode cX11_stepsOf 59 = .ok (.iconst 2, 1) := by decide +kernel
theorem dX11_stepsOf_60 : decode cX11_stepsOf 60 = .ok (.if_icmp .ne 8, 3) := by decide +kernel
theorem dX11_stepsOf_63 : decode cX11_stepsOf 63 = .ok (.bipush 16, 2) := by decide +kernel
theorem dX11_stepsOf_65 : decode cX11_stepsOf 65 = .ok (.goto 4, 3) := by decide +kernel
theorem dX11_stepsOf_68 : decode cX11_stepsOf 68 = .ok (.iconst 1, 1) := by decide +kernel
theorem dX11_stepsOf_69 : decode cX11_stepsOf 69 = .ok (.iadd, 1) := by decide +kernel
theorem dX11_stepsOf_70 : decode cX11_stepsOf 70 = .ok (.istore_n 1, 1) := by decide +kernel
theorem dX11_stepsOf_71 : decode cX11_stepsOf 71 = .ok (.iload_n 1, 1) := by decide +kernel
theorem dX11_stepsOf_72 : decode cX11_stepsOf 72 = .ok (.aload_n 0, 1) := by decide +kernel
theorem dX11_stepsOf_73 : decode cX11_stepsOf 73 = .ok (.getfield 103, 3) := by decide +kernel
theorem dX11_stepsOf_76 : decode cX11_stepsOf 76 = .ok (.ifCond .ge 7, 3) := by decide +kernel
theorem dX11_stepsOf_79 : decode cX11_stepsOf 79 = .ok (.iconst 0, 1) := by decide +kernel
theorem dX11_stepsOf_80 : decode cX11_stepsOf 80 = .ok (.goto 22, 3) := by decide +kernel
theorem dX11_stepsOf_83 : decode cX11_stepsOf 83 = .ok (.aload_n 0, 1) := by decide +kernel
theorem dX11_stepsOf_84 : decode cX11_stepsOf 84 = .ok (.getfield 16, 3) := by decide +kernel
theorem dX11_stepsOf_87 : decode cX11_stepsOf 87 = .ok (.aload_n 0, 1) := by decide +kernel
theorem dX11_stepsOf_88 : decode cX11_stepsOf 88 = .ok (.getfield 103, 3) := by decide +kernel
theorem dX11_stepsOf_91 : decode cX11_stepsOf 91 = .ok (.iaload, 1) := by decide +kernel
theorem dX11_stepsOf_92 : decode cX11_stepsOf 92 = .ok (.iconst 2, 1) := by decide +kernel
theorem dX11_stepsOf_93 : decode cX11_stepsOf 93 = .ok (.if_icmp .ne 8, 3) := by decide +kernel
theorem dX11_stepsOf_96 : decode cX11_stepsOf 96 = .ok (.bipush 16, 2) := by decide +kernel
theorem dX11_stepsOf_98 : decode cX11_stepsOf 98 = .ok (.goto 4, 3) := by decide +kernel
theorem dX11_stepsOf_101 : decode cX11_stepsOf 101 = .ok (.iconst 1, 1) := by decide +kernel
theorem dX11_stepsOf_102 : decode cX11_stepsOf 102 = .ok (.iadd, 1) := by decide +kernel
theorem dX11_stepsOf_103 : decode cX11_stepsOf 103 = .ok (.ireturn, 1) := by decide +kernel
theorem dX11_memoryOf_0 : decode cX11_memoryOf 0 = .ok (.aload_n 0, 1) := by decide +kernel
theorem dX11_memoryOf_1 : decode cX11_memoryOf 1 = .ok (.getfield 97, 3) := by decide +kernel
theorem dX11_memoryOf_4 : decode cX11_memoryOf 4 = .ok (.iconst 2, 1) := by decide +kernel
theorem dX11_memoryOf_5 : decode cX11_memoryOf 5 = .ok (.if_icmp .ne 9, 3) := by decide +kernel
theorem dX11_memoryOf_8 : decode cX11_memoryOf 8 = .ok (.sipush 256, 3) := by decide +kernel
theorem dX11_memoryOf_11 : decode cX11_memoryOf 11 = .ok (.goto 32, 3) := by decide +kernel
theorem dX11_memoryOf_14 : decode cX11_memoryOf 14 = .ok (.aload_n 0, 1) := by decide +kernel
theorem dX11_memoryOf_15 : decode cX11_memoryOf 15 = .ok (.getfield 97, 3) := by decide +kernel
theorem dX11_memoryOf_18 : decode cX11_memoryOf 18 = .ok (.iconst 3, 1) := by decide +kernel
theorem dX11_memoryOf_19 : decode cX11_memoryOf 19 = .ok (.if_icmp .ne 9, 3) := by decide +kernel
theorem dX11_memoryOf_22 : decode cX11_memoryOf 22 = .ok (.sipush 1024, 3) := by decide +kernel
theorem dX11_memoryOf_25 : decode cX11_memoryOf 25 = .ok (.goto 18, 3) := by decide +kernel
theorem dX11_memoryOf_28 : decode cX11_memoryOf 28 = .ok (.aload_n 0, 1) := by decide +kernel
theorem dX11_memoryOf_29 : decode cX11_memoryOf 29 = .ok (.getfield 97, 3) := by decide +kernel
theorem dX11_memoryOf_32 : decode cX11_memoryOf 32 = .ok (.iconst 4, 1) := by decide +kernel
theorem dX11_memoryOf_33 : decode cX11_memoryOf 33 = .ok (.if_icmp .ne 9, 3) := by decide +kernel
theorem dX11_memoryOf_36 : decode cX11_memoryOf 36 = .ok (.sipush 512, 3) := by decide +kernel
theorem dX11_memoryOf_39 : decode cX11_memoryOf 39 = .ok (.goto 4, 3) := by decide +kernel
theorem dX11_memoryOf_42 : decode cX11_memoryOf 42 = .ok (.iconst 0, 1) := by decide +kernel
theorem dX11_memoryOf_43 : decode cX11_memoryOf 43 = .ok (.istore_n 1, 1) := by decide +kernel
theorem dX11_memoryOf_44 : decode cX11_memoryOf 44 = .ok (.aload_n 0, 1) := by decide +kernel
theorem dX11_memoryOf_45 : decode cX11_memoryOf 45 = .ok (.getfield 100, 3) := by decide +kernel
theorem dX11_memoryOf_48 : decode cX11_memoryOf 48 = .ok (.ifCond .lt 16, 3) := by decide +kernel
theorem dX11_memoryOf_51 : decode cX11_memoryOf 51 = .ok (.aload_n 0, 1) := by decide +kernel
theorem dX11_memoryOf_52 : decode cX11_memoryOf 52 = .ok (.getfield 16, 3) := by decide +kernel
theorem dX11_memoryOf_55 : decode cX11_memoryOf 55 = .ok (.aload_n 0, 1) := by decide +kernel
theorem dX11_memoryOf_56 : decode cX11_memoryOf 56 = .ok (.getfield 100, 3) := by decide +kernel
theorem dX11_memoryOf_59 : decode cX11_memoryOf 59 = .ok (.iaload, 1) := by decide +kernel
theorem dX11_memoryOf_60 : decode cX11_memoryOf 60 = .ok (.iconst 2, 1) := by decide +kernel
theorem dX11_memoryOf_61 : decode cX11_memoryOf 61 = .ok (.if_icmp .eq 23, 3) := by decide +kernel
theorem dX11_memoryOf_64 : decode cX11_memoryOf 64 = .ok (.aload_n 0, 1) := by decide +kernel
theorem dX11_memoryOf_65 : decode cX11_memoryOf 65 = .ok (.getfield 103, 3) := by decide +kernel
theorem dX11_memoryOf_68 : decode cX11_memoryOf 68 = .ok (.ifCond .lt 20, 3) := by decide +kernel
theorem dX11_memoryOf_71 : decode cX11_memoryOf 71 = .ok (.aload_n 0, 1) := by decide +kernel
theorem dX11_memoryOf_72 : decode cX11_memoryOf 72 = .ok (.getfield 16, 3) := by decide +kernel
theorem dX11_memoryOf_75 : decode cX11_memoryOf 75 = .ok (.aload_n 0, 1) := by decide +kernel
theorem dX11_memoryOf_76 : decode cX11_memoryOf 76 = .ok (.getfield 103, 3) := by decide +kernel
theorem dX11_memoryOf_79 : decode cX11_memoryOf 79 = .ok (.iaload, 1) := by decide +kernel
theorem dX11_memoryOf_80 : decode cX11_memoryOf 80 = .ok (.iconst 2, 1) := by decide +kernel
theorem dX11_memoryOf_81 : decode cX11_memoryOf 81 = .ok (.if_icmp .ne 7, 3) := by decide +kernel
theorem dX11_memoryOf_84 : decode cX11_memoryOf 84 = .ok (.iconst 1, 1) := by decide +kernel
theorem dX11_memoryOf_85 : decode cX11_memoryOf 85 = .ok (.goto 4, 3) := by decide +kernel
theorem dX11_memoryOf_88 : decode cX11_memoryOf 88 = .ok (.iconst 0, 1) := by decide +kernel
theorem dX11_memoryOf_89 : decode cX11_memoryOf 89 = .ok (.istore_n 2, 1) := by decide +kernel
theorem dX11_memoryOf_90 : decode cX11_memoryOf 90 = .ok (.iload_n 2, 1) := by decide +kernel
theorem dX11_memoryOf_91 : decode cX11_memoryOf 91 = .ok (.ifCond .eq 16, 3) := by decide +kernel
theorem dX11_memoryOf_94 : decode cX11_memoryOf 94 = .ok (.iload_n 1, 1) := by decide +kernel
theorem dX11_memoryOf_95 : decode cX11_memoryOf 95 = .ok (.sipush 256, 3) := by decide +kernel
theorem dX11_memoryOf_98 : decode cX11_memoryOf 98 = .ok (.if_icmp .ge 9, 3) := by decide +kernel
theorem dX11_memoryOf_101 : decode cX11_memoryOf 101 = .ok (.sipush 256, 3) := by decide +kernel
theorem dX11_memoryOf_104 : decode cX11_memoryOf 104 = .ok (.goto 4, 3) := by decide +kernel
theorem dX11_memoryOf_107 : decode cX11_memoryOf 107 = .ok (.iload_n 1, 1) := by decide +kernel
theorem dX11_memoryOf_108 : decode cX11_memoryOf 108 = .ok (.ireturn, 1) := by decide +kernel
theorem dX11_beginList_0 : decode cX11_beginList 0 = .ok (.iconst 0, 1) := by decide +kernel
theorem dX11_beginList_1 : decode cX11_beginList 1 = .ok (.istore_n 1, 1) := by decide +kernel
theorem dX11_beginList_2 : decode cX11_beginList 2 = .ok (.iload_n 1, 1) := by decide +kernel
theorem dX11_beginList_3 : decode cX11_beginList 3 = .ok (.sipush 256, 3) := by decide +kernel
theorem dX11_beginList_6 : decode cX11_beginList 6 = .ok (.if_icmp .ge 16, 3) := by decide +kernel
theorem dX11_beginList_9 : decode cX11_beginList 9 = .ok (.aload_n 0, 1) := by decide +kernel
theorem dX11_beginList_10 : decode cX11_beginList 10 = .ok (.getfield 49, 3) := by decide +kernel
theorem dX11_beginList_13 : decode cX11_beginList 13 = .ok (.iload_n 1, 1) := by decide +kernel
theorem dX11_beginList_14 : decode cX11_beginList 14 = .ok (.iload_n 1, 1) := by decide +kernel
theorem dX11_beginList_15 : decode cX11_beginList 15 = .ok (.iastore, 1) := by decide +kernel
theorem dX11_beginList_16 : decode cX11_beginList 16 = .ok (.iinc 1 1, 3) := by decide +kernel
theorem dX11_beginList_19 : decode cX11_beginList 19 = .ok (.goto (-17), 3) := by decide +kernel
theorem dX11_beginList_22 : decode cX11_beginList 22 = .ok (.return_, 1) := by decide +kernel
theorem dX11_front_0 : decode cX11_front 0 = .ok (.aload_n 0, 1) := by decide +kernel
theorem dX11_front_1 : decode cX11_front 1 = .ok (.getfield 49, 3) := by decide +kernel
theorem dX11_front_4 : decode cX11_front 4 = .ok (.iload_n 1, 1) := by decide +kernel
theorem dX11_front_5 : decode cX11_front 5 = .ok (.iaload, 1) := by decide +kernel
theorem dX11_front_6 : decode cX11_front 6 = .ok (.istore_n 2, 1) := by decide +kernel
theorem dX11_front_7 : decode cX11_front 7 = .ok (.iload_n 1, 1) := by decide +kernel
theorem dX11_front_8 : decode cX11_front 8 = .ok (.istore_n 3, 1) := by decide +kernel
theorem dX11_front_9 : decode cX11_front 9 = .ok (.iload_n 3, 1) := by decide +kernel
theorem dX11_front_10 : decode cX11_front 10 = .ok (.ifCond .le 23, 3) := by decide +kernel
theorem dX11_front_13 : decode cX11_front 13 = .ok (.aload_n 0, 1) := by decide +kernel
theorem dX11_front_14 : decode cX11_front 14 = .ok (.getfield 49, 3) := by decide +kernel
theorem dX11_front_17 : decode cX11_front 17 = .ok (.iload_n 3, 1) := by decide +kernel
theorem dX11_front_18 : decode cX11_front 18 = .ok (.aload_n 0, 1) := by decide +kernel
theorem dX11_front_19 : decode cX11_front 19 = .ok (.getfield 49, 3) := by decide +kernel
theorem dX11_front_22 : decode cX11_front 22 = .ok (.iload_n 3, 1) := by decide +kernel
theorem dX11_front_23 : decode cX11_front 23 = .ok (.iconst 1, 1) := by decide +kernel
theorem dX11_front_24 : decode cX11_front 24 = .ok (.isub, 1) := by decide +kernel
theorem dX11_front_25 : decode cX11_front 25 = .ok (.iaload, 1) := by decide +kernel
theorem dX11_front_26 : decode cX11_front 26 = .ok (.iastore, 1) := by decide +kernel
theorem dX11_front_27 : decode cX11_front 27 = .ok (.iinc 3 (-1), 3) := by decide +kernel
theorem dX11_front_30 : decode cX11_front 30 = .ok (.goto (-21), 3) := by decide +kernel
theorem dX11_front_33 : decode cX11_front 33 = .ok (.aload_n 0, 1) := by decide +kernel
theorem dX11_front_34 : decode cX11_front 34 = .ok (.getfield 49, 3) := by decide +kernel
theorem dX11_front_37 : decode cX11_front 37 = .ok (.iconst 0, 1) := by decide +kernel
theorem dX11_front_38 : decode cX11_front 38 = .ok (.iload_n 2, 1) := by decide +kernel
theorem dX11_front_39 : decode cX11_front 39 = .ok (.iastore, 1) := by decide +kernel
theorem dX11_front_40 : decode cX11_front 40 = .ok (.return_, 1) := by decide +kernel
theorem dX11_placeOf_0 : decode cX11_placeOf 0 = .ok (.iconst 0, 1) := by decide +kernel
theorem dX11_placeOf_1 : decode cX11_placeOf 1 = .ok (.istore_n 2, 1) := by decide +kernel
theorem dX11_placeOf_2 : decode cX11_placeOf 2 = .ok (.aload_n 0, 1) := by decide +kernel
theorem dX11_placeOf_3 : decode cX11_placeOf 3 = .ok (.getfield 49, 3) := by decide +kernel
theorem dX11_placeOf_6 : decode cX11_placeOf 6 = .ok (.iload_n 2, 1) := by decide +kernel
theorem dX11_placeOf_7 : decode cX11_placeOf 7 = .ok (.iaload, 1) := by decide +kernel
theorem dX11_placeOf_8 : decode cX11_placeOf 8 = .ok (.iload_n 1, 1) := by decide +kernel
theorem dX11_placeOf_9 : decode cX11_placeOf 9 = .ok (.if_icmp .eq 9, 3) := by decide +kernel
theorem dX11_placeOf_12 : decode cX11_placeOf 12 = .ok (.iinc 2 1, 3) := by decide +kernel
theorem dX11_placeOf_15 : decode cX11_placeOf 15 = .ok (.goto (-13), 3) := by decide +kernel
theorem dX11_placeOf_18 : decode cX11_placeOf 18 = .ok (.iload_n 2, 1) := by decide +kernel
theorem dX11_placeOf_19 : decode cX11_placeOf 19 = .ok (.ireturn, 1) := by decide +kernel
theorem dX11_apply_0 : decode cX11_apply 0 = .ok (.aload_n 0, 1) := by decide +kernel
theorem dX11_apply_1 : decode cX11_apply 1 = .ok (.invokevirtual 106, 3) := by decide +kernel
theorem dX11_apply_4 : decode cX11_apply 4 = .ok (.iconst 0, 1) := by decide +kernel
theorem dX11_apply_5 : decode cX11_apply 5 = .ok (.istore 5, 2) := by decide +kernel
theorem dX11_apply_7 : decode cX11_apply 7 = .ok (.iconst 0, 1) := by decide +kernel
theorem dX11_apply_8 : decode cX11_apply 8 = .ok (.istore 6, 2) := by decide +kernel
theorem dX11_apply_10 : decode cX11_apply 10 = .ok (.iconst 0, 1) := by decide +kernel
theorem dX11_apply_11 : decode cX11_apply 11 = .ok (.istore 7, 2) := by decide +kernel
theorem dX11_apply_13 : decode cX11_apply 13 = .ok (.iload 7, 2) := by decide +kernel
theorem dX11_apply_15 : decode cX11_apply 15 = .ok (.iload_n 3, 1) := by decide +kernel
theorem dX11_apply_16 : decode cX11_apply 16 = .ok (.if_icmp .ge 238, 3) := by decide +kernel
theorem dX11_apply_19 : decode cX11_apply 19 = .ok (.iload_n 1, 1) := by decide +kernel
theorem dX11_apply_20 : decode cX11_apply 20 = .ok (.iconst 1, 1) := by decide +kernel
theorem dX11_apply_21 : decode cX11_apply 21 = .ok (.if_icmp .ne 79, 3) := by decide +kernel
theorem dX11_apply_24 : decode cX11_apply 24 = .ok (.iload 7, 2) := by decide +kernel
theorem dX11_apply_26 : decode cX11_apply 26 = .ok (.iload_n 2, 1) := by decide +kernel
theorem dX11_apply_27 : decode cX11_apply 27 = .ok (.if_icmp .ge 7, 3) := by decide +kernel
theorem dX11_apply_30 : decode cX11_apply 30 = .ok (.iconst 0, 1) := by decide +kernel
theorem dX11_apply_31 : decode cX11_apply 31 = .ok (.goto 29, 3) := by decide +kernel
theorem dX11_apply_34 : decode cX11_apply 34 = .ok (.iload 4, 2) := by decide +kernel
theorem dX11_apply_36 : decode cX11_apply 36 = .ok (.ifCond .eq 15, 3) := by decide +kernel
theorem dX11_apply_39 : decode cX11_apply 39 = .ok (.aload_n 0, 1) := by decide +kernel
theorem dX11_apply_40 : decode cX11_apply 40 = .ok (.getfield 28, 3) := by decide +kernel
theorem dX11_apply_43 : decode cX11_apply 43 = .ok (.iload 7, 2) := by decide +kernel
theorem dX11_apply_45 : decode cX11_apply 45 = .ok (.iload_n 2, 1) := by decide +kernel
theorem dX11_apply_46 : decode cX11_apply 46 = .ok (.isub, 1) := by decide +kernel
theorem dX11_apply_47 : decode cX11_apply 47 = .ok (.iaload, 1) := by decide +kernel
theorem dX11_apply_48 : decode cX11_apply 48 = .ok (.goto 12, 3) := by decide +kernel
theorem dX11_apply_51 : decode cX11_apply 51 = .ok (.aload_n 0, 1) := by decide +kernel
theorem dX11_apply_52 : decode cX11_apply 52 = .ok (.getfield 25, 3) := by decide +kernel
theorem dX11_apply_55 : decode cX11_apply 55 = .ok (.iload 7, 2) := by decide +kernel
theorem dX11_apply_57 : decode cX11_apply 57 = .ok (.iload_n 2, 1) := by decide +kernel
theorem dX11_apply_58 : decode cX11_apply 58 = .ok (.isub, 1) := by decide +kernel
theorem dX11_apply_59 : decode cX11_apply 59 = .ok (.iaload, 1) := by decide +kernel
theorem dX11_apply_60 : decode cX11_apply 60 = .ok (.istore 8, 2) := by decide +kernel
theorem dX11_apply_62 : decode cX11_apply 62 = .ok (.aload_n 0, 1) := by decide +kernel
theorem dX11_apply_63 : decode cX11_apply 63 = .ok (.getfield 28, 3) := by decide +kernel
theorem dX11_apply_66 : decode cX11_apply 66 = .ok (.iload 7, 2) := by decide +kernel
theorem dX11_apply_68 : decode cX11_apply 68 = .ok (.aload_n 0, 1) := by decide +kernel
theorem dX11_apply_69 : decode cX11_apply 69 = .ok (.getfield 25, 3) := by decide +kernel
theorem dX11_apply_72 : decode cX11_apply 72 = .ok (.iload 7, 2) := by decide +kernel
theorem dX11_apply_74 : decode cX11_apply 74 = .ok (.iaload, 1) := by decide +kernel
theorem dX11_apply_75 : decode cX11_apply 75 = .ok (.iload 4, 2) := by decide +kernel
theorem dX11_apply_77 : decode cX11_apply 77 = .ok (.ifCond .eq 8, 3) := by decide +kernel
theorem dX11_apply_80 : decode cX11_apply 80 = .ok (.iload 8, 2) := by decide +kernel
theorem dX11_apply_82 : decode cX11_apply 82 = .ok (.goto 9, 3) := by decide +kernel
theorem dX11_apply_85 : decode cX11_apply 85 = .ok (.sipush 256, 3) := by decide +kernel
theorem dX11_apply_88 : decode cX11_apply 88 = .ok (.iload 8, 2) := by decide +kernel
theorem dX11_apply_90 : decode cX11_apply 90 = .ok (.isub, 1) := by decide +kernel
theorem dX11_apply_91 : decode cX11_apply 91 = .ok (.iadd, 1) := by decide +kernel
theorem dX11_apply_92 : decode cX11_apply 92 = .ok (.sipush 256, 3) := by decide +kernel
theorem dX11_apply_95 : decode cX11_apply 95 = .ok (.irem, 1) := by decide +kernel
theorem dX11_apply_96 : decode cX11_apply 96 = .ok (.iastore, 1) := by decide +kernel
theorem dX11_apply_97 : decode cX11_apply 97 = .ok (.goto 151, 3) := by decide +kernel
theorem dX11_apply_100 : decode cX11_apply 100 = .ok (.iload_n 1, 1) := by decide +kernel
theorem dX11_apply_101 : decode cX11_apply 101 = .ok (.iconst 2, 1) := by decide +kernel
theorem dX11_apply_102 : decode cX11_apply 102 = .ok (.if_icmp .ne 64, 3) := by decide +kernel
theorem dX11_apply_105 : decode cX11_apply 105 = .ok (.iload 4, 2) := by decide +kernel
theorem dX11_apply_107 : decode cX11_apply 107 = .ok (.ifCond .eq 13, 3) := by decide +kernel
theorem dX11_apply_110 : decode cX11_apply 110 = .ok (.aload_n 0, 1) := by decide +kernel
theorem dX11_apply_111 : decode cX11_apply 111 = .ok (.getfield 25, 3) := by decide +kernel
theorem dX11_apply_114 : decode cX11_apply 114 = .ok (.iload 7, 2) := by decide +kernel
theorem dX11_apply_116 : decode cX11_apply 116 = .ok (.iaload, 1) := by decide +kernel
theorem dX11_apply_117 : decode cX11_apply 117 = .ok (.goto 14, 3) := by decide +kernel
theorem dX11_apply_120 : decode cX11_apply 120 = .ok (.aload_n 0, 1) := by decide +kernel
theorem dX11_apply_121 : decode cX11_apply 121 = .ok (.aload_n 0, 1) := by decide +kernel
theorem dX11_apply_122 : decode cX11_apply 122 = .ok (.getfield 25, 3) := by decide +kernel
theorem dX11_apply_125 : decode cX11_apply 125 = .ok (.iload 7, 2) := by decide +kernel
theorem dX11_apply_127 : decode cX11_apply 127 = .ok (.iaload, 1) := by decide +kernel
theorem dX11_apply_128 : decode cX11_apply 128 = .ok (.invokevirtual 109, 3) := by decide +kernel
theorem dX11_apply_131 : decode cX11_apply 131 = .ok (.istore 8, 2) := by decide +kernel
theorem dX11_apply_133 : decode cX11_apply 133 = .ok (.aload_n 0, 1) := by decide +kernel
theorem dX11_apply_134 : decode cX11_apply 134 = .ok (.getfield 28, 3) := by decide +kernel
theorem dX11_apply_137 : decode cX11_apply 137 = .ok (.iload 7, 2) := by decide +kernel
theorem dX11_apply_139 : decode cX11_apply 139 = .ok (.iload 4, 2) := by decide +kernel
theorem dX11_apply_141 : decode cX11_apply 141 = .ok (.ifCond .eq 13, 3) := by decide +kernel
theorem dX11_apply_144 : decode cX11_apply 144 = .ok (.aload_n 0, 1) := by decide +kernel
theorem dX11_apply_145 : decode cX11_apply 145 = .ok (.getfield 49, 3) := by decide +kernel
theorem dX11_apply_148 : decode cX11_apply 148 = .ok (.iload 8, 2) := by decide +kernel
theorem dX11_apply_150 : decode cX11_apply 150 = .ok (.iaload, 1) := by decide +kernel
theorem dX11_apply_151 : decode cX11_apply 151 = .ok (.goto 5, 3) := by decide +kernel
theorem dX11_apply_154 : decode cX11_apply 154 = .ok (.iload 8, 2) := by decide +kernel
theorem dX11_apply_156 : decode cX11_apply 156 = .ok (.iastore, 1) := by decide +kernel
theorem dX11_apply_157 : decode cX11_apply 157 = .ok (.aload_n 0, 1) := by decide +kernel
theorem dX11_apply_158 : decode cX11_apply 158 = .ok (.iload 8, 2) := by decide +kernel
theorem dX11_apply_160 : decode cX11_apply 160 = .ok (.invokevirtual 113, 3) := by decide +kernel
theorem dX11_apply_163 : decode cX11_apply 163 = .ok (.goto 85, 3) := by decide +kernel
theorem dX11_apply_166 : decode cX11_apply 166 = .ok (.iload_n 1, 1) := by decide +kernel
theorem dX11_apply_167 : decode cX11_apply 167 = .ok (.iconst 3, 1) := by decide +kernel
theorem dX11_apply_168 : decode cX11_apply 168 = .ok (.if_icmp .ne 64, 3) := by decide +kernel
theorem dX11_apply_171 : decode cX11_apply 171 = .ok (.iload 5, 2) := by decide +kernel
theorem dX11_apply_173 : decode cX11_apply 173 = .ok (.iload_n 3, 1) := by decide +kernel
theorem dX11_apply_174 : decode cX11_apply 174 = .ok (.if_icmp .lt 13, 3) := by decide +kernel
theorem dX11_apply_177 : decode cX11_apply 177 = .ok (.iinc 6 1, 3) := by decide +kernel
theorem dX11_apply_180 : decode cX11_apply 180 = .ok (.iload 6, 2) := by decide +kernel
theorem dX11_apply_182 : decode cX11_apply 182 = .ok (.istore 5, 2) := by decide +kernel
theorem dX11_apply_184 : decode cX11_apply 184 = .ok (.goto (-13), 3) := by decide +kernel
theorem dX11_apply_187 : decode cX11_apply 187 = .ok (.iload 4, 2) := by decide +kernel
theorem dX11_apply_189 : decode cX11_apply 189 = .ok (.ifCond .eq 20, 3) := by decide +kernel
theorem dX11_apply_192 : decode cX11_apply 192 = .ok (.aload_n 0, 1) := by decide +kernel
theorem dX11_apply_193 : decode cX11_apply 193 = .ok (.getfield 28, 3) := by decide +kernel
theorem dX11_apply_196 : decode cX11_apply 196 = .ok (.iload 5, 2) := by decide +kernel
theorem dX11_apply_198 : decode cX11_apply 198 = .ok (.aload_n 0, 1) := by decide +kernel
theorem dX11_apply_199 : decode cX11_apply 199 = .ok (.getfield 25, 3) := by decide +kernel
theorem dX11_apply_202 : decode cX11_apply 202 = .ok (.iload 7, 2) := by decide +kernel
theorem dX11_apply_204 : decode cX11_apply 204 = .ok (.iaload, 1) := by decide +kernel
theorem dX11_apply_205 : decode cX11_apply 205 = .ok (.iastore, 1) := by decide +kernel
theorem dX11_apply_206 : decode cX11_apply 206 = .ok (.goto 17, 3) := by decide +kernel
theorem dX11_apply_209 : decode cX11_apply 209 = .ok (.aload_n 0, 1) := by decide +kernel
theorem dX11_apply_210 : decode cX11_apply 210 = .ok (.getfield 28, 3) := by decide +kernel
theorem dX11_apply_213 : decode cX11_apply 213 = .ok (.iload 7, 2) := by decide +kernel
theorem dX11_apply_215 : decode cX11_apply 215 = .ok (.aload_n 0, 1) := by decide +kernel
theorem dX11_apply_216 : decode cX11_apply 216 = .ok (.getfield 25, 3) := by decide +kernel
theorem dX11_apply_219 : decode cX11_apply 219 = .ok (.iload 5, 2) := by decide +kernel
theorem dX11_apply_221 : decode cX11_apply 221 = .ok (.iaload, 1) := by decide +kernel
theorem dX11_apply_222 : decode cX11_apply 222 = .ok (.iastore, 1) := by decide +kernel
theorem dX11_apply_223 : decode cX11_apply 223 = .ok (.iload 5, 2) := by decide +kernel
theorem dX11_apply_225 : decode cX11_apply 225 = .ok (.iload_n 2, 1) := by decide +kernel
theorem dX11_apply_226 : decode cX11_apply 226 = .ok (.iadd, 1) := by decide +kernel
theorem dX11_apply_227 : decode cX11_apply 227 = .ok (.istore 5, 2) := by decide +kernel
theorem dX11_apply_229 : decode cX11_apply 229 = .ok (.goto 19, 3) := by decide +kernel
theorem dX11_apply_232 : decode cX11_apply 232 = .ok (.aload_n 0, 1) := by decide +kernel
theorem dX11_apply_233 : decode cX11_apply 233 = .ok (.getfield 28, 3) := by decide +kernel
theorem dX11_apply_236 : decode cX11_apply 236 = .ok (.iload 7, 2) := by decide +kernel
theorem dX11_apply_238 : decode cX11_apply 238 = .ok (.aload_n 0, 1) := by decide +kernel
theorem dX11_apply_239 : decode cX11_apply 239 = .ok (.getfield 25, 3) := by decide +kernel
theorem dX11_apply_242 : decode cX11_apply 242 = .ok (.iload 7, 2) := by decide +kernel
theorem dX11_apply_244 : decode cX11_apply 244 = .ok (.iaload, 1) := by decide +kernel
theorem dX11_apply_245 : decode cX11_apply 245 = .ok (.iload_n 2, 1) := by decide +kernel
theorem dX11_apply_246 : decode cX11_apply 246 = .ok (.ixor, 1) := by decide +kernel
theorem dX11_apply_247 : decode cX11_apply 247 = .ok (.iastore, 1) := by decide +kernel
theorem dX11_apply_248 : decode cX11_apply 248 = .ok (.iinc 7 1, 3) := by decide +kernel
theorem dX11_apply_251 : decode cX11_apply 251 = .ok (.goto (-238), 3) := by decide +kernel
theorem dX11_apply_254 : decode cX11_apply 254 = .ok (.iconst 0, 1) := by decide +kernel
theorem dX11_apply_255 : decode cX11_apply 255 = .ok (.istore 7, 2) := by decide +kernel
theorem dX11_apply_257 : decode cX11_apply 257 = .ok (.iload 7, 2) := by decide +kernel
theorem dX11_apply_259 : decode cX11_apply 259 = .ok (.iload_n 3, 1) := by decide +kernel
theorem dX11_apply_260 : decode cX11_apply 260 = .ok (.if_icmp .ge 23, 3) := by decide +kernel
theorem dX11_apply_263 : decode cX11_apply 263 = .ok (.aload_n 0, 1) := by decide +kernel
theorem dX11_apply_264 : decode cX11_apply 264 = .ok (.getfield 25, 3) := by decide +kernel
theorem dX11_apply_267 : decode cX11_apply 267 = .ok (.iload 7, 2) := by decide +kernel
theorem dX11_apply_269 : decode cX11_apply 269 = .ok (.aload_n 0, 1) := by decide +kernel
theorem dX11_apply_270 : decode cX11_apply 270 = .ok (.getfield 28, 3) := by decide +kernel
theorem dX11_apply_273 : decode cX11_apply 273 = .ok (.iload 7, 2) := by decide +kernel
theorem dX11_apply_275 : decode cX11_apply 275 = .ok (.iaload, 1) := by decide +kernel
theorem dX11_apply_276 : decode cX11_apply 276 = .ok (.iastore, 1) := by decide +kernel
theorem dX11_apply_277 : decode cX11_apply 277 = .ok (.iinc 7 1, 3) := by decide +kernel
theorem dX11_apply_280 : decode cX11_apply 280 = .ok (.goto (-23), 3) := by decide +kernel
theorem dX11_apply_283 : decode cX11_apply 283 = .ok (.return_, 1) := by decide +kernel
theorem dX11_put_0 : decode cX11_put 0 = .ok (.aload_n 0, 1) := by decide +kernel
theorem dX11_put_1 : decode cX11_put 1 = .ok (.getfield 31, 3) := by decide +kernel
theorem dX11_put_4 : decode cX11_put 4 = .ok (.aload_n 0, 1) := by decide +kernel
theorem dX11_put_5 : decode cX11_put 5 = .ok (.getfield 117, 3) := by decide +kernel
theorem dX11_put_8 : decode cX11_put 8 = .ok (.iload_n 1, 1) := by decide +kernel
theorem dX11_put_9 : decode cX11_put 9 = .ok (.iastore, 1) := by decide +kernel
theorem dX11_put_10 : decode cX11_put 10 = .ok (.aload_n 0, 1) := by decide +kernel
theorem dX11_put_11 : decode cX11_put 11 = .ok (.dup, 1) := by decide +kernel
theorem dX11_put_12 : decode cX11_put 12 = .ok (.getfield 117, 3) := by decide +kernel
theorem dX11_put_15 : decode cX11_put 15 = .ok (.iconst 1, 1) := by decide +kernel
theorem dX11_put_16 : decode cX11_put 16 = .ok (.iadd, 1) := by decide +kernel
theorem dX11_put_17 : decode cX11_put 17 = .ok (.putfield 117, 3) := by decide +kernel
theorem dX11_put_20 : decode cX11_put 20 = .ok (.aload_n 0, 1) := by decide +kernel
theorem dX11_put_21 : decode cX11_put 21 = .ok (.bipush 8, 2) := by decide +kernel
theorem dX11_put_23 : decode cX11_put 23 = .ok (.putfield 120, 3) := by decide +kernel
theorem dX11_put_26 : decode cX11_put 26 = .ok (.return_, 1) := by decide +kernel
theorem dX11_bits_0 : decode cX11_bits 0 = .ok (.iload_n 2, 1) := by decide +kernel
theorem dX11_bits_1 : decode cX11_bits 1 = .ok (.iconst 1, 1) := by decide +kernel
theorem dX11_bits_2 : decode cX11_bits 2 = .ok (.isub, 1) := by decide +kernel
theorem dX11_bits_3 : decode cX11_bits 3 = .ok (.istore_n 3, 1) := by decide +kernel
theorem dX11_bits_4 : decode cX11_bits 4 = .ok (.iload_n 3, 1) := by decide +kernel
theorem dX11_bits_5 : decode cX11_bits 5 = .ok (.ifCond .lt 65, 3) := by decide +kernel
theorem dX11_bits_8 : decode cX11_bits 8 = .ok (.aload_n 0, 1) := by decide +kernel
theorem dX11_bits_9 : decode cX11_bits 9 = .ok (.getfield 120, 3) := by decide +kernel
theorem dX11_bits_12 : decode cX11_bits 12 = .ok (.bipush 8, 2) := by decide +kernel
theorem dX11_bits_14 : decode cX11_bits 14 = .ok (.if_icmp .ne 13, 3) := by decide +kernel
theorem dX11_bits_17 : decode cX11_bits 17 = .ok (.aload_n 0, 1) := by decide +kernel
theorem dX11_bits_18 : decode cX11_bits 18 = .ok (.iconst 0, 1) := by decide +kernel
theorem dX11_bits_19 : decode cX11_bits 19 = .ok (.invokevirtual 123, 3) := by decide +kernel
theorem dX11_bits_22 : decode cX11_bits 22 = .ok (.aload_n 0, 1) := by decide +kernel
theorem dX11_bits_23 : decode cX11_bits 23 = .ok (.iconst 0, 1) := by decide +kernel
theorem dX11_bits_24 : decode cX11_bits 24 = .ok (.putfield 120, 3) := by decide +kernel
theorem dX11_bits_27 : decode cX11_bits 27 = .ok (.aload_n 0, 1) := by decide +kernel
theorem dX11_bits_28 : decode cX11_bits 28 = .ok (.getfield 31, 3) := by decide +kernel
theorem dX11_bits_31 : decode cX11_bits 31 = .ok (.aload_n 0, 1) := by decide +kernel
theorem dX11_bits_32 : decode cX11_bits 32 = .ok (.getfield 117, 3) := by decide +kernel
theorem dX11_bits_35 : decode cX11_bits 35 = .ok (.iconst 1, 1) := by decide +kernel
theorem dX11_bits_36 : decode cX11_bits 36 = .ok (.isub, 1) := by decide +kernel
theorem dX11_bits_37 : decode cX11_bits 37 = .ok (.dup2, 1) := by decide +kernel
theorem dX11_bits_38 : decode cX11_bits 38 = .ok (.iaload, 1) := by decide +kernel
theorem dX11_bits_39 : decode cX11_bits 39 = .ok (.iload_n 1, 1) := by decide +kernel
theorem dX11_bits_40 : decode cX11_bits 40 = .ok (.iload_n 3, 1) := by decide +kernel
theorem dX11_bits_41 : decode cX11_bits 41 = .ok (.ishr, 1) := by decide +kernel
theorem dX11_bits_42 : decode cX11_bits 42 = .ok (.iconst 1, 1) := by decide +kernel
theorem dX11_bits_43 : decode cX11_bits 43 = .ok (.iand, 1) := by decide +kernel
theorem dX11_bits_44 : decode cX11_bits 44 = .ok (.bipush 7, 2) := by decide +kernel
theorem dX11_bits_46 : decode cX11_bits 46 = .ok (.aload_n 0, 1) := by decide +kernel
theorem dX11_bits_47 : decode cX11_bits 47 = .ok (.getfield 120, 3) := by decide +kernel
theorem dX11_bits_50 : decode cX11_bits 50 = .ok (.isub, 1) := by decide +kernel
theorem dX11_bits_51 : decode cX11_bits 51 = .ok (.ishl, 1) := by decide +kernel
theorem dX11_bits_52 : decode cX11_bits 52 = .ok (.ior, 1) := by decide +kernel
theorem dX11_bits_53 : decode cX11_bits 53 = .ok (.iastore, 1) := by decide +kernel
theorem dX11_bits_54 : decode cX11_bits 54 = .ok (.aload_n 0, 1) := by decide +kernel
theorem dX11_bits_55 : decode cX11_bits 55 = .ok (.dup, 1) := by decide +kernel
theorem dX11_bits_56 : decode cX11_bits 56 = .ok (.getfield 120, 3) := by decide +kernel
theorem dX11_bits_59 : decode cX11_bits 59 = .ok (.iconst 1, 1) := by decide +kernel
theorem dX11_bits_60 : decode cX11_bits 60 = .ok (.iadd, 1) := by decide +kernel
theorem dX11_bits_61 : decode cX11_bits 61 = .ok (.putfield 120, 3) := by decide +kernel
theorem dX11_bits_64 : decode cX11_bits 64 = .ok (.iinc 3 (-1), 3) := by decide +kernel
theorem dX11_bits_67 : decode cX11_bits 67 = .ok (.goto (-63), 3) := by decide +kernel
theorem dX11_bits_70 : decode cX11_bits 70 = .ok (.return_, 1) := by decide +kernel
theorem dX11_widthOf_0 : decode cX11_widthOf 0 = .ok (.iconst 0, 1) := by decide +kernel
theorem dX11_widthOf_1 : decode cX11_widthOf 1 = .ok (.istore_n 1, 1) := by decide +kernel
theorem dX11_widthOf_2 : decode cX11_widthOf 2 = .ok (.iload_n 0, 1) := by decide +kernel
theorem dX11_widthOf_3 : decode cX11_widthOf 3 = .ok (.iconst 1, 1) := by decide +kernel
theorem dX11_widthOf_4 : decode cX11_widthOf 4 = .ok (.isub, 1) := by decide +kernel
theorem dX11_widthOf_5 : decode cX11_widthOf 5 = .ok (.iload_n 1, 1) := by decide +kernel
theorem dX11_widthOf_6 : decode cX11_widthOf 6 = .ok (.ishr, 1) := by decide +kernel
theorem dX11_widthOf_7 : decode cX11_widthOf 7 = .ok (.ifCond .le 9, 3) := by decide +kernel
theorem dX11_widthOf_10 : decode cX11_widthOf 10 = .ok (.iinc 1 1, 3) := by decide +kernel
theorem dX11_widthOf_13 : decode cX11_widthOf 13 = .ok (.goto (-11), 3) := by decide +kernel
theorem dX11_widthOf_16 : decode cX11_widthOf 16 = .ok (.iload_n 1, 1) := by decide +kernel
theorem dX11_widthOf_17 : decode cX11_widthOf 17 = .ok (.ireturn, 1) := by decide +kernel
theorem dX11_like_0 : decode cX11_like 0 = .ok (.iconst 1, 1) := by decide +kernel
theorem dX11_like_1 : decode cX11_like 1 = .ok (.istore_n 3, 1) := by decide +kernel
theorem dX11_like_2 : decode cX11_like 2 = .ok (.iload_n 1, 1) := by decide +kernel
theorem dX11_like_3 : decode cX11_like 3 = .ok (.iload_n 3, 1) := by decide +kernel
theorem dX11_like_4 : decode cX11_like 4 = .ok (.iadd, 1) := by decide +kernel
theorem dX11_like_5 : decode cX11_like 5 = .ok (.iload_n 2, 1) := by decide +kernel
theorem dX11_like_6 : decode cX11_like 6 = .ok (.if_icmp .ge 33, 3) := by decide +kernel
theorem dX11_like_9 : decode cX11_like 9 = .ok (.aload_n 0, 1) := by decide +kernel
theorem dX11_like_10 : decode cX11_like 10 = .ok (.getfield 25, 3) := by decide +kernel
theorem dX11_like_13 : decode cX11_like 13 = .ok (.iload_n 1, 1) := by decide +kernel
theorem dX11_like_14 : decode cX11_like 14 = .ok (.iload_n 3, 1) := by decide +kernel
theorem dX11_like_15 : decode cX11_like 15 = .ok (.iadd, 1) := by decide +kernel
theorem dX11_like_16 : decode cX11_like 16 = .ok (.iaload, 1) := by decide +kernel
theorem dX11_like_17 : decode cX11_like 17 = .ok (.aload_n 0, 1) := by decide +kernel
theorem dX11_like_18 : decode cX11_like 18 = .ok (.getfield 25, 3) := by decide +kernel
theorem dX11_like_21 : decode cX11_like 21 = .ok (.iload_n 1, 1) := by decide +kernel
theorem dX11_like_22 : decode cX11_like 22 = .ok (.iaload, 1) := by decide +kernel
theorem dX11_like_23 : decode cX11_like 23 = .ok (.if_icmp .ne 16, 3) := by decide +kernel
theorem dX11_like_26 : decode cX11_like 26 = .ok (.iload_n 3, 1) := by decide +kernel
theorem dX11_like_27 : decode cX11_like 27 = .ok (.sipush 129, 3) := by decide +kernel
theorem dX11_like_30 : decode cX11_like 30 = .ok (.if_icmp .ge 9, 3) := by decide +kernel
theorem dX11_like_33 : decode cX11_like 33 = .ok (.iinc 3 1, 3) := by decide +kernel
theorem dX11_like_36 : decode cX11_like 36 = .ok (.goto (-34), 3) := by decide +kernel
theorem dX11_like_39 : decode cX11_like 39 = .ok (.iload_n 3, 1) := by decide +kernel
theorem dX11_like_40 : decode cX11_like 40 = .ok (.ireturn, 1) := by decide +kernel
theorem dX11_putRow_0 : decode cX11_putRow 0 = .ok (.aload_n 0, 1) := by decide +kernel
theorem dX11_putRow_1 : decode cX11_putRow 1 = .ok (.iload_n 2, 1) := by decide +kernel
theorem dX11_putRow_2 : decode cX11_putRow 2 = .ok (.iload_n 1, 1) := by decide +kernel
theorem dX11_putRow_3 : decode cX11_putRow 3 = .ok (.isub, 1) := by decide +kernel
theorem dX11_putRow_4 : decode cX11_putRow 4 = .ok (.iconst 1, 1) := by decide +kernel
theorem dX11_putRow_5 : decode cX11_putRow 5 = .ok (.isub, 1) := by decide +kernel
theorem dX11_putRow_6 : decode cX11_putRow 6 = .ok (.invokevirtual 123, 3) := by decide +kernel
theorem dX11_putRow_9 : decode cX11_putRow 9 = .ok (.iload_n 1, 1) := by decide +kernel
theorem dX11_putRow_10 : decode cX11_putRow 10 = .ok (.istore_n 3, 1) := by decide +kernel
theorem dX11_putRow_11 : decode cX11_putRow 11 = .ok (.iload_n 3, 1) := by decide +kernel
theorem dX11_putRow_12 : decode cX11_putRow 12 = .ok (.iload_n 2, 1) := by decide +kernel
theorem dX11_putRow_13 : decode cX11_putRow 13 = .ok (.if_icmp .ge 19, 3) := by decide +kernel
theorem dX11_putRow_16 : decode cX11_putRow 16 = .ok (.aload_n 0, 1) := by decide +kernel
theorem dX11_putRow_17 : decode cX11_putRow 17 = .ok (.aload_n 0, 1) := by decide +kernel
theorem dX11_putRow_18 : decode cX11_putRow 18 = .ok (.getfield 25, 3) := by decide +kernel
theorem dX11_putRow_21 : decode cX11_putRow 21 = .ok (.iload_n 3, 1) := by decide +kernel
theorem dX11_putRow_22 : decode cX11_putRow 22 = .ok (.iaload, 1) := by decide +kernel
theorem dX11_putRow_23 : decode cX11_putRow 23 = .ok (.invokevirtual 123, 3) := by decide +kernel
theorem dX11_putRow_26 : decode cX11_putRow 26 = .ok (.iinc 3 1, 3) := by decide +kernel
theorem dX11_putRow_29 : decode cX11_putRow 29 = .ok (.goto (-18), 3) := by decide +kernel
theorem dX11_putRow_32 : decode cX11_putRow 32 = .ok (.return_, 1) := by decide +kernel
theorem dX11_packRuns_0 : decode cX11_packRuns 0 = .ok (.iconst 0, 1) := by decide +kernel
theorem dX11_packRuns_1 : decode cX11_packRuns 1 = .ok (.istore_n 2, 1) := by decide +kernel
theorem dX11_packRuns_2 : decode cX11_packRuns 2 = .ok (.iload_n 2, 1) := by decide +kernel
theorem dX11_packRuns_3 : decode cX11_packRuns 3 = .ok (.iload_n 1, 1) := by decide +kernel
theorem dX11_packRuns_4 : decode cX11_packRuns 4 = .ok (.if_icmp .ge 91, 3) := by decide +kernel
theorem dX11_packRuns_7 : decode cX11_packRuns 7 = .ok (.aload_n 0, 1) := by decide +kernel
theorem dX11_packRuns_8 : decode cX11_packRuns 8 = .ok (.iload_n 2, 1) := by decide +kernel
theorem dX11_packRuns_9 : decode cX11_packRuns 9 = .ok (.iload_n 1, 1) := by decide +kernel
theorem dX11_packRuns_10 : decode cX11_packRuns 10 = .ok (.invokevirtual 126, 3) := by decide +kernel
theorem dX11_packRuns_13 : decode cX11_packRuns 13 = .ok (.istore_n 3, 1) := by decide +kernel
theorem dX11_packRuns_14 : decode cX11_packRuns 14 = .ok (.iload_n 3, 1) := by decide +kernel
theorem dX11_packRuns_15 : decode cX11_packRuns 15 = .ok (.iconst 1, 1) := by decide +kernel
theorem dX11_packRuns_16 : decode cX11_packRuns 16 = .ok (.if_icmp .le 28, 3) := by decide +kernel
theorem dX11_packRuns_19 : decode cX11_packRuns 19 = .ok (.aload_n 0, 1) := by decide +kernel
theorem dX11_packRuns_20 : decode cX11_packRuns 20 = .ok (.bipush 126, 2) := by decide +kernel
theorem dX11_packRuns_22 : decode cX11_packRuns 22 = .ok (.iload_n 3, 1) := by decide +kernel
theorem dX11_packRuns_23 : decode cX11_packRuns 23 = .ok (.iadd, 1) := by decide +kernel
theorem dX11_packRuns_24 : decode cX11_packRuns 24 = .ok (.invokevirtual 123, 3) := by decide +kernel
theorem dX11_packRuns_27 : decode cX11_packRuns 27 = .ok (.aload_n 0, 1) := by decide +kernel
theorem dX11_packRuns_28 : decode cX11_packRuns 28 = .ok (.aload_n 0, 1) := by decide +kernel
theorem dX11_packRuns_29 : decode cX11_packRuns 29 = .ok (.getfield 25, 3) := by decide +kernel
theorem dX11_packRuns_32 : decode cX11_packRuns 32 = .ok (.iload_n 2, 1) := by decide +kernel
theorem dX11_packRuns_33 : decode cX11_packRuns 33 = .ok (.iaload, 1) := by decide +kernel
theorem dX11_packRuns_34 : decode cX11_packRuns 34 = .ok (.invokevirtual 123, 3) := by decide +kernel
theorem dX11_packRuns_37 : decode cX11_packRuns 37 = .ok (.iload_n 2, 1) := by decide +kernel
theorem dX11_packRuns_38 : decode cX11_packRuns 38 = .ok (.iload_n 3, 1) := by decide +kernel
theorem dX11_packRuns_39 : decode cX11_packRuns 39 = .ok (.iadd, 1) := by decide +kernel
theorem dX11_packRuns_40 : decode cX11_packRuns 40 = .ok (.istore_n 2, 1) := by decide +kernel
theorem dX11_packRuns_41 : decode cX11_packRuns 41 = .ok (.goto 51, 3) := by decide +kernel
theorem dX11_packRuns_44 : decode cX11_packRuns 44 = .ok (.iload_n 2, 1) := by decide +kernel
theorem dX11_packRuns_45 : decode cX11_packRuns 45 = .ok (.iconst 1, 1) := by decide +kernel
theorem dX11_packRuns_46 : decode cX11_packRuns 46 = .ok (.iadd, 1) := by decide +kernel
theorem dX11_packRuns_47 : decode cX11_packRuns 47 = .ok (.istore 4, 2) := by decide +kernel
theorem dX11_packRuns_49 : decode cX11_packRuns 49 = .ok (.iload 4, 2) := by decide +kernel
theorem dX11_packRuns_51 : decode cX11_packRuns 51 = .ok (.iload_n 1, 1) := by decide +kernel
theorem dX11_packRuns_52 : decode cX11_packRuns 52 = .ok (.if_icmp .ge 30, 3) := by decide +kernel
theorem dX11_packRuns_55 : decode cX11_packRuns 55 = .ok (.iload 4, 2) := by decide +kernel
theorem dX11_packRuns_57 : decode cX11_packRuns 57 = .ok (.iload_n 2, 1) := by decide +kernel
theorem dX11_packRuns_58 : decode cX11_packRuns 58 = .ok (.isub, 1) := by decide +kernel
theorem dX11_packRuns_59 : decode cX11_packRuns 59 = .ok (.sipush 128, 3) := by decide +kernel
theorem dX11_packRuns_62 : decode cX11_packRuns 62 = .ok (.if_icmp .ge 20, 3) := by decide +kernel
theorem dX11_packRuns_65 : decode cX11_packRuns 65 = .ok (.aload_n 0, 1) := by decide +kernel
theorem dX11_packRuns_66 : decode cX11_packRuns 66 = .ok (.iload 4, 2) := by decide +kernel
theorem dX11_packRuns_68 : decode cX11_packRuns 68 = .ok (.iload_n 1, 1) := by decide +kernel
theorem dX11_packRuns_69 : decode cX11_packRuns 69 = .ok (.invokevirtual 126, 3) := by decide +kernel
theorem dX11_packRuns_72 : decode cX11_packRuns 72 = .ok (.iconst 3, 1) := by decide +kernel
theorem dX11_packRuns_73 : decode cX11_packRuns 73 = .ok (.if_icmp .ge 9, 3) := by decide +kernel
theorem dX11_packRuns_76 : decode cX11_packRuns 76 = .ok (.iinc 4 1, 3) := by decide +kernel
theorem dX11_packRuns_79 : decode cX11_packRuns 79 = .ok (.goto (-30), 3) := by decide +kernel
theorem dX11_packRuns_82 : decode cX11_packRuns 82 = .ok (.aload_n 0, 1) := by decide +kernel
theorem dX11_packRuns_83 : decode cX11_packRuns 83 = .ok (.iload_n 2, 1) := by decide +kernel
theorem dX11_packRuns_84 : decode cX11_packRuns 84 = .ok (.iload 4, 2) := by decide +kernel
theorem dX11_packRuns_86 : decode cX11_packRuns 86 = .ok (.invokevirtual 130, 3) := by decide +kernel
theorem dX11_packRuns_89 : decode cX11_packRuns 89 = .ok (.iload 4, 2) := by decide +kernel
theorem dX11_packRuns_91 : decode cX11_packRuns 91 = .ok (.istore_n 2, 1) := by decide +kernel
theorem dX11_packRuns_92 : decode cX11_packRuns 92 = .ok (.goto (-90), 3) := by decide +kernel
theorem dX11_packRuns_95 : decode cX11_packRuns 95 = .ok (.return_, 1) := by decide +kernel
theorem dX11_match_0 : decode cX11_match 0 = .ok (.aload_n 0, 1) := by decide +kernel
theorem dX11_match_1 : decode cX11_match 1 = .ok (.iconst 0, 1) := by decide +kernel
theorem dX11_match_2 : decode cX11_match 2 = .ok (.putfield 134, 3) := by decide +kernel
theorem dX11_match_5 : decode cX11_match 5 = .ok (.iconst 1, 1) := by decide +kernel
theorem dX11_match_6 : decode cX11_match 6 = .ok (.istore_n 3, 1) := by decide +kernel
theorem dX11_match_7 : decode cX11_match 7 = .ok (.iload_n 3, 1) := by decide +kernel
theorem dX11_match_8 : decode cX11_match 8 = .ok (.iload_n 1, 1) := by decide +kernel
theorem dX11_match_9 : decode cX11_match 9 = .ok (.if_icmp .gt 84, 3) := by decide +kernel
theorem dX11_match_12 : decode cX11_match 12 = .ok (.iload_n 3, 1) := by decide +kernel
theorem dX11_match_13 : decode cX11_match 13 = .ok (.sipush 256, 3) := by decide +kernel
theorem dX11_match_16 : decode cX11_match 16 = .ok (.if_icmp .ge 77, 3) := by decide +kernel
theorem dX11_match_19 : decode cX11_match 19 = .ok (.iconst 0, 1) := by decide +kernel
theorem dX11_match_20 : decode cX11_match 20 = .ok (.istore 4, 2) := by decide +kernel
theorem dX11_match_22 : decode cX11_match 22 = .ok (.iload_n 1, 1) := by decide +kernel
theorem dX11_match_23 : decode cX11_match 23 = .ok (.iload 4, 2) := by decide +kernel
theorem dX11_match_25 : decode cX11_match 25 = .ok (.iadd, 1) := by decide +kernel
theorem dX11_match_26 : decode cX11_match 26 = .ok (.iload_n 2, 1) := by decide +kernel
theorem dX11_match_27 : decode cX11_match 27 = .ok (.if_icmp .ge 40, 3) := by decide +kernel
theorem dX11_match_30 : decode cX11_match 30 = .ok (.iload 4, 2) := by decide +kernel
