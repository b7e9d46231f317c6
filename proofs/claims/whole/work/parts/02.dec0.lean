theorem dX0_init_0 : decode cX0_init 0 = .ok (.aload_n 0, 1) := by decide +kernel
theorem dX0_init_1 : decode cX0_init 1 = .ok (.invokespecial 1, 3) := by decide +kernel
theorem dX0_init_4 : decode cX0_init 4 = .ok (.aload_n 0, 1) := by decide +kernel
theorem dX0_init_5 : decode cX0_init 5 = .ok (.iconst 0, 1) := by decide +kernel
theorem dX0_init_6 : decode cX0_init 6 = .ok (.putfield 7, 3) := by decide +kernel
theorem dX0_init_9 : decode cX0_init 9 = .ok (.aload_n 0, 1) := by decide +kernel
theorem dX0_init_10 : decode cX0_init 10 = .ok (.iconst 0, 1) := by decide +kernel
theorem dX0_init_11 : decode cX0_init 11 = .ok (.putfield 13, 3) := by decide +kernel
theorem dX0_init_14 : decode cX0_init 14 = .ok (.return_, 1) := by decide +kernel
theorem dX0_put_0 : decode cX0_put 0 = .ok (.iload_n 2, 1) := by decide +kernel
theorem dX0_put_1 : decode cX0_put 1 = .ok (.iconst 1, 1) := by decide +kernel
theorem dX0_put_2 : decode cX0_put 2 = .ok (.isub, 1) := by decide +kernel
theorem dX0_put_3 : decode cX0_put 3 = .ok (.istore 4, 2) := by decide +kernel
theorem dX0_put_5 : decode cX0_put 5 = .ok (.iload 4, 2) := by decide +kernel
theorem dX0_put_7 : decode cX0_put 7 = .ok (.ifCond .lt 63, 3) := by decide +kernel
theorem dX0_put_10 : decode cX0_put 10 = .ok (.aload_n 0, 1) := by decide +kernel
theorem dX0_put_11 : decode cX0_put 11 = .ok (.aload_n 0, 1) := by decide +kernel
theorem dX0_put_12 : decode cX0_put 12 = .ok (.getfield 7, 3) := by decide +kernel
theorem dX0_put_15 : decode cX0_put 15 = .ok (.iconst 1, 1) := by decide +kernel
theorem dX0_put_16 : decode cX0_put 16 = .ok (.ishl, 1) := by decide +kernel
theorem dX0_put_17 : decode cX0_put 17 = .ok (.iload_n 1, 1) := by decide +kernel
theorem dX0_put_18 : decode cX0_put 18 = .ok (.iload 4, 2) := by decide +kernel
theorem dX0_put_20 : decode cX0_put 20 = .ok (.ishr, 1) := by decide +kernel
theorem dX0_put_21 : decode cX0_put 21 = .ok (.iconst 1, 1) := by decide +kernel
theorem dX0_put_22 : decode cX0_put 22 = .ok (.iand, 1) := by decide +kernel
theorem dX0_put_23 : decode cX0_put 23 = .ok (.ior, 1) := by decide +kernel
theorem dX0_put_24 : decode cX0_put 24 = .ok (.putfield 7, 3) := by decide +kernel
theorem dX0_put_27 : decode cX0_put 27 = .ok (.aload_n 0, 1) := by decide +kernel
theorem dX0_put_28 : decode cX0_put 28 = .ok (.dup, 1) := by decide +kernel
theorem dX0_put_29 : decode cX0_put 29 = .ok (.getfield 13, 3) := by decide +kernel
theorem dX0_put_32 : decode cX0_put 32 = .ok (.iconst 1, 1) := by decide +kernel
theorem dX0_put_33 : decode cX0_put 33 = .ok (.iadd, 1) := by decide +kernel
theorem dX0_put_34 : decode cX0_put 34 = .ok (.putfield 13, 3) := by decide +kernel
theorem dX0_put_37 : decode cX0_put 37 = .ok (.aload_n 0, 1) := by decide +kernel
theorem dX0_put_38 : decode cX0_put 38 = .ok (.getfield 13, 3) := by decide +kernel
theorem dX0_put_41 : decode cX0_put 41 = .ok (.bipush 8, 2) := by decide +kernel
theorem dX0_put_43 : decode cX0_put 43 = .ok (.if_icmp .ne 21, 3) := by decide +kernel
theorem dX0_put_46 : decode cX0_put 46 = .ok (.aload_n 3, 1) := by decide +kernel
theorem dX0_put_47 : decode cX0_put 47 = .ok (.aload_n 0, 1) := by decide +kernel
theorem dX0_put_48 : decode cX0_put 48 = .ok (.getfield 7, 3) := by decide +kernel
theorem dX0_put_51 : decode cX0_put 51 = .ok (.invokevirtual 16, 3) := by decide +kernel
theorem dX0_put_54 : decode cX0_put 54 = .ok (.aload_n 0, 1) := by decide +kernel
theorem dX0_put_55 : decode cX0_put 55 = .ok (.iconst 0, 1) := by decide +kernel
theorem dX0_put_56 : decode cX0_put 56 = .ok (.putfield 7, 3) := by decide +kernel
theorem dX0_put_59 : decode cX0_put 59 = .ok (.aload_n 0, 1) := by decide +kernel
theorem dX0_put_60 : decode cX0_put 60 = .ok (.iconst 0, 1) := by decide +kernel
theorem dX0_put_61 : decode cX0_put 61 = .ok (.putfield 13, 3) := by decide +kernel
theorem dX0_put_64 : decode cX0_put 64 = .ok (.iinc 4 (-1), 3) := by decide +kernel
theorem dX0_put_67 : decode cX0_put 67 = .ok (.goto (-62), 3) := by decide +kernel
theorem dX0_put_70 : decode cX0_put 70 = .ok (.return_, 1) := by decide +kernel
theorem dX0_finish_0 : decode cX0_finish 0 = .ok (.aload_n 0, 1) := by decide +kernel
theorem dX0_finish_1 : decode cX0_finish 1 = .ok (.getfield 13, 3) := by decide +kernel
theorem dX0_finish_4 : decode cX0_finish 4 = .ok (.ifCond .le 19, 3) := by decide +kernel
theorem dX0_finish_7 : decode cX0_finish 7 = .ok (.aload_n 1, 1) := by decide +kernel
theorem dX0_finish_8 : decode cX0_finish 8 = .ok (.aload_n 0, 1) := by decide +kernel
theorem dX0_finish_9 : decode cX0_finish 9 = .ok (.getfield 7, 3) := by decide +kernel
theorem dX0_finish_12 : decode cX0_finish 12 = .ok (.bipush 8, 2) := by decide +kernel
theorem dX0_finish_14 : decode cX0_finish 14 = .ok (.aload_n 0, 1) := by decide +kernel
theorem dX0_finish_15 : decode cX0_finish 15 = .ok (.getfield 13, 3) := by decide +kernel
theorem dX0_finish_18 : decode cX0_finish 18 = .ok (.isub, 1) := by decide +kernel
theorem dX0_finish_19 : decode cX0_finish 19 = .ok (.ishl, 1) := by decide +kernel
theorem dX0_finish_20 : decode cX0_finish 20 = .ok (.invokevirtual 16, 3) := by decide +kernel
theorem dX0_finish_23 : decode cX0_finish 23 = .ok (.aload_n 0, 1) := by decide +kernel
theorem dX0_finish_24 : decode cX0_finish 24 = .ok (.iconst 0, 1) := by decide +kernel
theorem dX0_finish_25 : decode cX0_finish 25 = .ok (.putfield 7, 3) := by decide +kernel
theorem dX0_finish_28 : decode cX0_finish 28 = .ok (.aload_n 0, 1) := by decide +kernel
theorem dX0_finish_29 : decode cX0_finish 29 = .ok (.iconst 0, 1) := by decide +kernel
theorem dX0_finish_30 : decode cX0_finish 30 = .ok (.putfield 13, 3) := by decide +kernel
theorem dX0_finish_33 : decode cX0_finish 33 = .ok (.return_, 1) := by decide +kernel
theorem dX1_init_0 : decode cX1_init 0 = .ok (.aload_n 0, 1) := by decide +kernel
theorem dX1_init_1 : decode cX1_init 1 = .ok (.invokespecial 3, 3) := by decide +kernel
theorem dX1_init_4 : decode cX1_init 4 = .ok (.aload_n 0, 1) := by decide +kernel
theorem dX1_init_5 : decode cX1_init 5 = .ok (.iconst 4, 1) := by decide +kernel
theorem dX1_init_6 : decode cX1_init 6 = .ok (.newarray .int, 2) := by decide +kernel
theorem dX1_init_8 : decode cX1_init 8 = .ok (.putfield 9, 3) := by decide +kernel
theorem dX1_init_11 : decode cX1_init 11 = .ok (.aload_n 0, 1) := by decide +kernel
theorem dX1_init_12 : decode cX1_init 12 = .ok (.iconst 4, 1) := by decide +kernel
theorem dX1_init_13 : decode cX1_init 13 = .ok (.newarray .int, 2) := by decide +kernel
theorem dX1_init_15 : decode cX1_init 15 = .ok (.putfield 15, 3) := by decide +kernel
theorem dX1_init_18 : decode cX1_init 18 = .ok (.aload_n 0, 1) := by decide +kernel
theorem dX1_init_19 : decode cX1_init 19 = .ok (.iconst 0, 1) := by decide +kernel
theorem dX1_init_20 : decode cX1_init 20 = .ok (.putfield 18, 3) := by decide +kernel
theorem dX1_init_23 : decode cX1_init 23 = .ok (.aload_n 0, 1) := by decide +kernel
theorem dX1_init_24 : decode cX1_init 24 = .ok (.iconst 5, 1) := by decide +kernel
theorem dX1_init_25 : decode cX1_init 25 = .ok (.newarray .int, 2) := by decide +kernel
theorem dX1_init_27 : decode cX1_init 27 = .ok (.putfield 22, 3) := by decide +kernel
theorem dX1_init_30 : decode cX1_init 30 = .ok (.aload_n 0, 1) := by decide +kernel
theorem dX1_init_31 : decode cX1_init 31 = .ok (.iconst 1, 1) := by decide +kernel
theorem dX1_init_32 : decode cX1_init 32 = .ok (.putfield 25, 3) := by decide +kernel
theorem dX1_init_35 : decode cX1_init 35 = .ok (.return_, 1) := by decide +kernel
theorem dX1_filterCount_0 : decode cX1_filterCount 0 = .ok (.aload_n 0, 1) := by decide +kernel
theorem dX1_filterCount_1 : decode cX1_filterCount 1 = .ok (.getfield 18, 3) := by decide +kernel
theorem dX1_filterCount_4 : decode cX1_filterCount 4 = .ok (.ireturn, 1) := by decide +kernel
theorem dX1_packerCount_0 : decode cX1_packerCount 0 = .ok (.aload_n 0, 1) := by decide +kernel
theorem dX1_packerCount_1 : decode cX1_packerCount 1 = .ok (.getfield 25, 3) := by decide +kernel
theorem dX1_packerCount_4 : decode cX1_packerCount 4 = .ok (.ireturn, 1) := by decide +kernel
theorem dX1_tellFilter_0 : decode cX1_tellFilter 0 = .ok (.aload_n 0, 1) := by decide +kernel
theorem dX1_tellFilter_1 : decode cX1_tellFilter 1 = .ok (.getfield 18, 3) := by decide +kernel
theorem dX1_tellFilter_4 : decode cX1_tellFilter 4 = .ok (.aload_n 0, 1) := by decide +kernel
theorem dX1_tellFilter_5 : decode cX1_tellFilter 5 = .ok (.getfield 9, 3) := by decide +kernel
theorem dX1_tellFilter_8 : decode cX1_tellFilter 8 = .ok (.arraylength, 1) := by decide +kernel
theorem dX1_tellFilter_9 : decode cX1_tellFilter 9 = .ok (.if_icmp .ge 33, 3) := by decide +kernel
theorem dX1_tellFilter_12 : decode cX1_tellFilter 12 = .ok (.aload_n 0, 1) := by decide +kernel
theorem dX1_tellFilter_13 : decode cX1_tellFilter 13 = .ok (.getfield 9, 3) := by decide +kernel
theorem dX1_tellFilter_16 : decode cX1_tellFilter 16 = .ok (.aload_n 0, 1) := by decide +kernel
theorem dX1_tellFilter_17 : decode cX1_tellFilter 17 = .ok (.getfield 18, 3) := by decide +kernel
theorem dX1_tellFilter_20 : decode cX1_tellFilter 20 = .ok (.iload_n 1, 1) := by decide +kernel
theorem dX1_tellFilter_21 : decode cX1_tellFilter 21 = .ok (.iastore, 1) := by decide +kernel
theorem dX1_tellFilter_22 : decode cX1_tellFilter 22 = .ok (.aload_n 0, 1) := by decide +kernel
theorem dX1_tellFilter_23 : decode cX1_tellFilter 23 = .ok (.getfield 15, 3) := by decide +kernel
theorem dX1_tellFilter_26 : decode cX1_tellFilter 26 = .ok (.aload_n 0, 1) := by decide +kernel
theorem dX1_tellFilter_27 : decode cX1_tellFilter 27 = .ok (.getfield 18, 3) := by decide +kernel
theorem dX1_tellFilter_30 : decode cX1_tellFilter 30 = .ok (.iload_n 2, 1) := by decide +kernel
theorem dX1_tellFilter_31 : decode cX1_tellFilter 31 = .ok (.iastore, 1) := by decide +kernel
theorem dX1_tellFilter_32 : decode cX1_tellFilter 32 = .ok (.aload_n 0, 1) := by decide +kernel
theorem dX1_tellFilter_33 : decode cX1_tellFilter 33 = .ok (.dup, 1) := by decide +kernel
theorem dX1_tellFilter_34 : decode cX1_tellFilter 34 = .ok (.getfield 18, 3) := by decide +kernel
theorem dX1_tellFilter_37 : decode cX1_tellFilter 37 = .ok (.iconst 1, 1) := by decide +kernel
theorem dX1_tellFilter_38 : decode cX1_tellFilter 38 = .ok (.iadd, 1) := by decide +kernel
theorem dX1_tellFilter_39 : decode cX1_tellFilter 39 = .ok (.putfield 18, 3) := by decide +kernel
theorem dX1_tellFilter_42 : decode cX1_tellFilter 42 = .ok (.return_, 1) := by decide +kernel
theorem dX1_tellPacker_0 : decode cX1_tellPacker 0 = .ok (.aload_n 0, 1) := by decide +kernel
theorem dX1_tellPacker_1 : decode cX1_tellPacker 1 = .ok (.getfield 25, 3) := by decide +kernel
theorem dX1_tellPacker_4 : decode cX1_tellPacker 4 = .ok (.aload_n 0, 1) := by decide +kernel
theorem dX1_tellPacker_5 : decode cX1_tellPacker 5 = .ok (.getfield 22, 3) := by decide +kernel
theorem dX1_tellPacker_8 : decode cX1_tellPacker 8 = .ok (.arraylength, 1) := by decide +kernel
theorem dX1_tellPacker_9 : decode cX1_tellPacker 9 = .ok (.if_icmp .ge 23, 3) := by decide +kernel
theorem dX1_tellPacker_12 : decode cX1_tellPacker 12 = .ok (.aload_n 0, 1) := by decide +kernel
theorem dX1_tellPacker_13 : decode cX1_tellPacker 13 = .ok (.getfield 22, 3) := by decide +kernel
theorem dX1_tellPacker_16 : decode cX1_tellPacker 16 = .ok (.aload_n 0, 1) := by decide +kernel
theorem dX1_tellPacker_17 : decode cX1_tellPacker 17 = .ok (.getfield 25, 3) := by decide +kernel
theorem dX1_tellPacker_20 : decode cX1_tellPacker 20 = .ok (.iload_n 1, 1) := by decide +kernel
theorem dX1_tellPacker_21 : decode cX1_tellPacker 21 = .ok (.iastore, 1) := by decide +kernel
theorem dX1_tellPacker_22 : decode cX1_tellPacker 22 = .ok (.aload_n 0, 1) := by decide +kernel
theorem dX1_tellPacker_23 : decode cX1_tellPacker 23 = .ok (.dup, 1) := by decide +kernel
theorem dX1_tellPacker_24 : decode cX1_tellPacker 24 = .ok (.getfield 25, 3) := by decide +kernel
theorem dX1_tellPacker_27 : decode cX1_tellPacker 27 = .ok (.iconst 1, 1) := by decide +kernel
theorem dX1_tellPacker_28 : decode cX1_tellPacker 28 = .ok (.iadd, 1) := by decide +kernel
theorem dX1_tellPacker_29 : decode cX1_tellPacker 29 = .ok (.putfield 25, 3) := by decide +kernel
theorem dX1_tellPacker_32 : decode cX1_tellPacker 32 = .ok (.return_, 1) := by decide +kernel
theorem dX1_tellNothing_0 : decode cX1_tellNothing 0 = .ok (.aload_n 0, 1) := by decide +kernel
theorem dX1_tellNothing_1 : decode cX1_tellNothing 1 = .ok (.iconst 0, 1) := by decide +kernel
theorem dX1_tellNothing_2 : decode cX1_tellNothing 2 = .ok (.putfield 18, 3) := by decide +kernel
theorem dX1_tellNothing_5 : decode cX1_tellNothing 5 = .ok (.aload_n 0, 1) := by decide +kernel
theorem dX1_tellNothing_6 : decode cX1_tellNothing 6 = .ok (.iconst 1, 1) := by decide +kernel
theorem dX1_tellNothing_7 : decode cX1_tellNothing 7 = .ok (.putfield 25, 3) := by decide +kernel
theorem dX1_tellNothing_10 : decode cX1_tellNothing 10 = .ok (.return_, 1) := by decide +kernel
theorem dX1_hasPacker_0 : decode cX1_hasPacker 0 = .ok (.iconst 0, 1) := by decide +kernel
theorem dX1_hasPacker_1 : decode cX1_hasPacker 1 = .ok (.istore_n 2, 1) := by decide +kernel
theorem dX1_hasPacker_2 : decode cX1_hasPacker 2 = .ok (.iload_n 2, 1) := by decide +kernel
theorem dX1_hasPacker_3 : decode cX1_hasPacker 3 = .ok (.aload_n 0, 1) := by decide +kernel
theorem dX1_hasPacker_4 : decode cX1_hasPacker 4 = .ok (.getfield 25, 3) := by decide +kernel
theorem dX1_hasPacker_7 : decode cX1_hasPacker 7 = .ok (.if_icmp .ge 21, 3) := by decide +kernel
theorem dX1_hasPacker_10 : decode cX1_hasPacker 10 = .ok (.aload_n 0, 1) := by decide +kernel
theorem dX1_hasPacker_11 : decode cX1_hasPacker 11 = .ok (.getfield 22, 3) := by decide +kernel
theorem dX1_hasPacker_14 : decode cX1_hasPacker 14 = .ok (.iload_n 2, 1) := by decide +kernel
theorem dX1_hasPacker_15 : decode cX1_hasPacker 15 = .ok (.iaload, 1) := by decide +kernel
theorem dX1_hasPacker_16 : decode cX1_hasPacker 16 = .ok (.iload_n 1, 1) := by decide +kernel
theorem dX1_hasPacker_17 : decode cX1_hasPacker 17 = .ok (.if_icmp .ne 5, 3) := by decide +kernel
theorem dX1_hasPacker_20 : decode cX1_hasPacker 20 = .ok (.iconst 1, 1) := by decide +kernel
theorem dX1_hasPacker_21 : decode cX1_hasPacker 21 = .ok (.ireturn, 1) := by decide +kernel
theorem dX1_hasPacker_22 : decode cX1_hasPacker 22 = .ok (.iinc 2 1, 3) := by decide +kernel
theorem dX1_hasPacker_25 : decode cX1_hasPacker 25 = .ok (.goto (-23), 3) := by decide +kernel
theorem dX1_hasPacker_28 : decode cX1_hasPacker 28 = .ok (.iconst 0, 1) := by decide +kernel
theorem dX1_hasPacker_29 : decode cX1_hasPacker 29 = .ok (.ireturn, 1) := by decide +kernel
theorem dX1_many_0 : decode cX1_many 0 = .ok (.aload_n 0, 1) := by decide +kernel
theorem dX1_many_1 : decode cX1_many 1 = .ok (.getfield 18, 3) := by decide +kernel
theorem dX1_many_4 : decode cX1_many 4 = .ok (.aload_n 0, 1) := by decide +kernel
theorem dX1_many_5 : decode cX1_many 5 = .ok (.getfield 18, 3) := by decide +kernel
theorem dX1_many_8 : decode cX1_many 8 = .ok (.iconst 1, 1) := by decide +kernel
theorem dX1_many_9 : decode cX1_many 9 = .ok (.isub, 1) := by decide +kernel
theorem dX1_many_10 : decode cX1_many 10 = .ok (.imul, 1) := by decide +kernel
theorem dX1_many_11 : decode cX1_many 11 = .ok (.istore_n 1, 1) := by decide +kernel
theorem dX1_many_12 : decode cX1_many 12 = .ok (.iconst 1, 1) := by decide +kernel
theorem dX1_many_13 : decode cX1_many 13 = .ok (.aload_n 0, 1) := by decide +kernel
theorem dX1_many_14 : decode cX1_many 14 = .ok (.getfield 18, 3) := by decide +kernel
theorem dX1_many_17 : decode cX1_many 17 = .ok (.iadd, 1) := by decide +kernel
theorem dX1_many_18 : decode cX1_many 18 = .ok (.iload_n 1, 1) := by decide +kernel
theorem dX1_many_19 : decode cX1_many 19 = .ok (.iadd, 1) := by decide +kernel
theorem dX1_many_20 : decode cX1_many 20 = .ok (.aload_n 0, 1) := by decide +kernel
theorem dX1_many_21 : decode cX1_many 21 = .ok (.getfield 25, 3) := by decide +kernel
theorem dX1_many_24 : decode cX1_many 24 = .ok (.imul, 1) := by decide +kernel
theorem dX1_many_25 : decode cX1_many 25 = .ok (.ireturn, 1) := by decide +kernel
theorem dX1_has_0 : decode cX1_has 0 = .ok (.iload_n 1, 1) := by decide +kernel
theorem dX1_has_1 : decode cX1_has 1 = .ok (.ifCond .lt 15, 3) := by decide +kernel
theorem dX1_has_4 : decode cX1_has 4 = .ok (.iload_n 1, 1) := by decide +kernel
theorem dX1_has_5 : decode cX1_has 5 = .ok (.aload_n 0, 1) := by decide +kernel
theorem dX1_has_6 : decode cX1_has 6 = .ok (.invokevirtual 28, 3) := by decide +kernel
theorem dX1_has_9 : decode cX1_has 9 = .ok (.if_icmp .ge 7, 3) := by decide +kernel
theorem dX1_has_12 : decode cX1_has 12 = .ok (.iconst 1, 1) := by decide +kernel
theorem dX1_has_13 : decode cX1_has 13 = .ok (.goto 4, 3) := by decide +kernel
theorem dX1_has_16 : decode cX1_has 16 = .ok (.iconst 0, 1) := by decide +kernel
theorem dX1_has_17 : decode cX1_has 17 = .ok (.ireturn, 1) := by decide +kernel
theorem dX1_groupOf_0 : decode cX1_groupOf 0 = .ok (.aload_n 0, 1) := by decide +kernel
theorem dX1_groupOf_1 : decode cX1_groupOf 1 = .ok (.getfield 25, 3) := by decide +kernel
theorem dX1_groupOf_4 : decode cX1_groupOf 4 = .ok (.ifCond .le 12, 3) := by decide +kernel
theorem dX1_groupOf_7 : decode cX1_groupOf 7 = .ok (.iload_n 1, 1) := by decide +kernel
theorem dX1_groupOf_8 : decode cX1_groupOf 8 = .ok (.aload_n 0, 1) := by decide +kernel
theorem dX1_groupOf_9 : decode cX1_groupOf 9 = .ok (.getfield 25, 3) := by decide +kernel
theorem dX1_groupOf_12 : decode cX1_groupOf 12 = .ok (.idiv, 1) := by decide +kernel
theorem dX1_groupOf_13 : decode cX1_groupOf 13 = .ok (.goto 4, 3) := by decide +kernel
theorem dX1_groupOf_16 : decode cX1_groupOf 16 = .ok (.iconst 0, 1) := by decide +kernel
theorem dX1_groupOf_17 : decode cX1_groupOf 17 = .ok (.ireturn, 1) := by decide +kernel
theorem dX1_packerOf_0 : decode cX1_packerOf 0 = .ok (.aload_n 0, 1) := by decide +kernel
theorem dX1_packerOf_1 : decode cX1_packerOf 1 = .ok (.iload_n 1, 1) := by decide +kernel
theorem dX1_packerOf_2 : decode cX1_packerOf 2 = .ok (.invokevirtual 32, 3) := by decide +kernel
theorem dX1_packerOf_5 : decode cX1_packerOf 5 = .ok (.ifCond .eq 10, 3) := by decide +kernel
theorem dX1_packerOf_8 : decode cX1_packerOf 8 = .ok (.aload_n 0, 1) := by decide +kernel
theorem dX1_packerOf_9 : decode cX1_packerOf 9 = .ok (.getfield 25, 3) := by decide +kernel
theorem dX1_packerOf_12 : decode cX1_packerOf 12 = .ok (.ifCond .gt 5, 3) := by decide +kernel
theorem dX1_packerOf_15 : decode cX1_packerOf 15 = .ok (.iconst 0, 1) := by decide +kernel
theorem dX1_packerOf_16 : decode cX1_packerOf 16 = .ok (.ireturn, 1) := by decide +kernel
theorem dX1_packerOf_17 : decode cX1_packerOf 17 = .ok (.aload_n 0, 1) := by decide +kernel
theorem dX1_packerOf_18 : decode cX1_packerOf 18 = .ok (.getfield 22, 3) := by decide +kernel
theorem dX1_packerOf_21 : decode cX1_packerOf 21 = .ok (.iload_n 1, 1) := by decide +kernel
theorem dX1_packerOf_22 : decode cX1_packerOf 22 = .ok (.aload_n 0, 1) := by decide +kernel
theorem dX1_packerOf_23 : decode cX1_packerOf 23 = .ok (.getfield 25, 3) := by decide +kernel
theorem dX1_packerOf_26 : decode cX1_packerOf 26 = .ok (.irem, 1) := by decide +kernel
theorem dX1_packerOf_27 : decode cX1_packerOf 27 = .ok (.iaload, 1) := by decide +kernel
theorem dX1_packerOf_28 : decode cX1_packerOf 28 = .ok (.ireturn, 1) := by decide +kernel
theorem dX1_filterOf_0 : decode cX1_filterOf 0 = .ok (.aload_n 0, 1) := by decide +kernel
theorem dX1_filterOf_1 : decode cX1_filterOf 1 = .ok (.iload_n 1, 1) := by decide +kernel
theorem dX1_filterOf_2 : decode cX1_filterOf 2 = .ok (.invokevirtual 36, 3) := by decide +kernel
theorem dX1_filterOf_5 : decode cX1_filterOf 5 = .ok (.istore_n 3, 1) := by decide +kernel
theorem dX1_filterOf_6 : decode cX1_filterOf 6 = .ok (.iload_n 3, 1) := by decide +kernel
theorem dX1_filterOf_7 : decode cX1_filterOf 7 = .ok (.aload_n 0, 1) := by decide +kernel
theorem dX1_filterOf_8 : decode cX1_filterOf 8 = .ok (.getfield 18, 3) := by decide +kernel
theorem dX1_filterOf_11 : decode cX1_filterOf 11 = .ok (.if_icmp .gt 20, 3) := by decide +kernel
theorem dX1_filterOf_14 : decode cX1_filterOf 14 = .ok (.iload_n 2, 1) := by decide +kernel
theorem dX1_filterOf_15 : decode cX1_filterOf 15 = .ok (.ifCond .ne 13, 3) := by decide +kernel
theorem dX1_filterOf_18 : decode cX1_filterOf 18 = .ok (.iload_n 3, 1) := by decide +kernel
theorem dX1_filterOf_19 : decode cX1_filterOf 19 = .ok (.ifCond .le 9, 3) := by decide +kernel
theorem dX1_filterOf_22 : decode cX1_filterOf 22 = .ok (.iload_n 3, 1) := by decide +kernel
theorem dX1_filterOf_23 : decode cX1_filterOf 23 = .ok (.iconst 1, 1) := by decide +kernel
theorem dX1_filterOf_24 : decode cX1_filterOf 24 = .ok (.isub, 1) := by decide +kernel
theorem dX1_filterOf_25 : decode cX1_filterOf 25 = .ok (.goto 5, 3) := by decide +kernel
theorem dX1_filterOf_28 : decode cX1_filterOf 28 = .ok (.bipush (-3), 2) := by decide +kernel
theorem dX1_filterOf_30 : decode cX1_filterOf 30 = .ok (.ireturn, 1) := by decide +kernel
theorem dX1_filterOf_31 : decode cX1_filterOf 31 = .ok (.iload_n 3, 1) := by decide +kernel
theorem dX1_filterOf_32 : decode cX1_filterOf 32 = .ok (.iconst 1, 1) := by decide +kernel
theorem dX1_filterOf_33 : decode cX1_filterOf 33 = .ok (.isub, 1) := by decide +kernel
theorem dX1_filterOf_34 : decode cX1_filterOf 34 = .ok (.aload_n 0, 1) := by decide +kernel
theorem dX1_filterOf_35 : decode cX1_filterOf 35 = .ok (.getfield 18, 3) := by decide +kernel
theorem dX1_filterOf_38 : decode cX1_filterOf 38 = .ok (.isub, 1) := by decide +kernel
theorem dX1_filterOf_39 : decode cX1_filterOf 39 = .ok (.istore 4, 2) := by decide +kernel
theorem dX1_filterOf_41 : decode cX1_filterOf 41 = .ok (.aload_n 0, 1) := by decide +kernel
theorem dX1_filterOf_42 : decode cX1_filterOf 42 = .ok (.getfield 18, 3) := by decide +kernel
theorem dX1_filterOf_45 : decode cX1_filterOf 45 = .ok (.iconst 1, 1) := by decide +kernel
theorem dX1_filterOf_46 : decode cX1_filterOf 46 = .ok (.isub, 1) := by decide +kernel
theorem dX1_filterOf_47 : decode cX1_filterOf 47 = .ok (.istore 5, 2) := by decide +kernel
theorem dX1_filterOf_49 : decode cX1_filterOf 49 = .ok (.iload 5, 2) := by decide +kernel
theorem dX1_filterOf_51 : decode cX1_filterOf 51 = .ok (.iconst 1, 1) := by decide +kernel
theorem dX1_filterOf_52 : decode cX1_filterOf 52 = .ok (.if_icmp .ge 6, 3) := by decide +kernel
theorem dX1_filterOf_55 : decode cX1_filterOf 55 = .ok (.bipush (-3), 2) := by decide +kernel
theorem dX1_filterOf_57 : decode cX1_filterOf 57 = .ok (.ireturn, 1) := by decide +kernel
theorem dX1_filterOf_58 : decode cX1_filterOf 58 = .ok (.iload 4, 2) := by decide +kernel
theorem dX1_filterOf_60 : decode cX1_filterOf 60 = .ok (.iload 5, 2) := by decide +kernel
theorem dX1_filterOf_62 : decode cX1_filterOf 62 = .ok (.idiv, 1) := by decide +kernel
theorem dX1_filterOf_63 : decode cX1_filterOf 63 = .ok (.istore 6, 2) := by decide +kernel
theorem dX1_filterOf_65 : decode cX1_filterOf 65 = .ok (.iload_n 2, 1) := by decide +kernel
theorem dX1_filterOf_66 : decode cX1_filterOf 66 = .ok (.ifCond .ne 6, 3) := by decide +kernel
theorem dX1_filterOf_69 : decode cX1_filterOf 69 = .ok (.iload 6, 2) := by decide +kernel
theorem dX1_filterOf_71 : decode cX1_filterOf 71 = .ok (.ireturn, 1) := by decide +kernel
theorem dX1_filterOf_72 : decode cX1_filterOf 72 = .ok (.iload 4, 2) := by decide +kernel
theorem dX1_filterOf_74 : decode cX1_filterOf 74 = .ok (.iload 5, 2) := by decide +kernel
theorem dX1_filterOf_76 : decode cX1_filterOf 76 = .ok (.irem, 1) := by decide +kernel
theorem dX1_filterOf_77 : decode cX1_filterOf 77 = .ok (.istore 7, 2) := by decide +kernel
theorem dX1_filterOf_79 : decode cX1_filterOf 79 = .ok (.iload 7, 2) := by decide +kernel
theorem dX1_filterOf_81 : decode cX1_filterOf 81 = .ok (.iload 6, 2) := by decide +kernel
theorem dX1_filterOf_83 : decode cX1_filterOf 83 = .ok (.if_icmp .ge 8, 3) := by decide +kernel
theorem dX1_filterOf_86 : decode cX1_filterOf 86 = .ok (.iload 7, 2) := by decide +kernel
theorem dX1_filterOf_88 : decode cX1_filterOf 88 = .ok (.goto 7, 3) := by decide +kernel
theorem dX1_filterOf_91 : decode cX1_filterOf 91 = .ok (.iload 7, 2) := by decide +kernel
theorem dX1_filterOf_93 : decode cX1_filterOf 93 = .ok (.iconst 1, 1) := by decide +kernel
theorem dX1_filterOf_94 : decode cX1_filterOf 94 = .ok (.iadd, 1) := by decide +kernel
theorem dX1_filterOf_95 : decode cX1_filterOf 95 = .ok (.ireturn, 1) := by decide +kernel
theorem dX1_filtersIn_0 : decode cX1_filtersIn 0 = .ok (.aload_n 0, 1) := by decide +kernel
theorem dX1_filtersIn_1 : decode cX1_filtersIn 1 = .ok (.iload_n 1, 1) := by decide +kernel
theorem dX1_filtersIn_2 : decode cX1_filtersIn 2 = .ok (.iconst 0, 1) := by decide +kernel
theorem dX1_filtersIn_3 : decode cX1_filtersIn 3 = .ok (.invokevirtual 40, 3) := by decide +kernel
theorem dX1_filtersIn_6 : decode cX1_filtersIn 6 = .ok (.bipush (-3), 2) := by decide +kernel
theorem dX1_filtersIn_8 : decode cX1_filtersIn 8 = .ok (.if_icmp .ne 5, 3) := by decide +kernel
theorem dX1_filtersIn_11 : decode cX1_filtersIn 11 = .ok (.iconst 0, 1) := by decide +kernel
theorem dX1_filtersIn_12 : decode cX1_filtersIn 12 = .ok (.ireturn, 1) := by decide +kernel
theorem dX1_filtersIn_13 : decode cX1_filtersIn 13 = .ok (.aload_n 0, 1) := by decide +kernel
theorem dX1_filtersIn_14 : decode cX1_filtersIn 14 = .ok (.iload_n 1, 1) := by decide +kernel
theorem dX1_filtersIn_15 : decode cX1_filtersIn 15 = .ok (.iconst 1, 1) := by decide +kernel
theorem dX1_filtersIn_16 : decode cX1_filtersIn 16 = .ok (.invokevirtual 40, 3) := by decide +kernel
theorem dX1_filtersIn_19 : decode cX1_filtersIn 19 = .ok (.bipush (-3), 2) := by decide +kernel
theorem dX1_filtersIn_21 : decode cX1_filtersIn 21 = .ok (.if_icmp .ne 7, 3) := by decide +kernel
theorem dX1_filtersIn_24 : decode cX1_filtersIn 24 = .ok (.iconst 1, 1) := by decide +kernel
theorem dX1_filtersIn_25 : decode cX1_filtersIn 25 = .ok (.goto 4, 3) := by decide +kernel
theorem dX1_filtersIn_28 : decode cX1_filtersIn 28 = .ok (.iconst 2, 1) := by decide +kernel
theorem dX1_filtersIn_29 : decode cX1_filtersIn 29 = .ok (.ireturn, 1) := by decide +kernel
theorem dX1_kindOf_0 : decode cX1_kindOf 0 = .ok (.iload_n 1, 1) := by decide +kernel
theorem dX1_kindOf_1 : decode cX1_kindOf 1 = .ok (.ifCond .lt 21, 3) := by decide +kernel
theorem dX1_kindOf_4 : decode cX1_kindOf 4 = .ok (.iload_n 1, 1) := by decide +kernel
theorem dX1_kindOf_5 : decode cX1_kindOf 5 = .ok (.aload_n 0, 1) := by decide +kernel
theorem dX1_kindOf_6 : decode cX1_kindOf 6 = .ok (.getfield 9, 3) := by decide +kernel
theorem dX1_kindOf_9 : decode cX1_kindOf 9 = .ok (.arraylength, 1) := by decide +kernel
theorem dX1_kindOf_10 : decode cX1_kindOf 10 = .ok (.if_icmp .ge 12, 3) := by decide +kernel
theorem dX1_kindOf_13 : decode cX1_kindOf 13 = .ok (.aload_n 0, 1) := by decide +kernel
theorem dX1_kindOf_14 : decode cX1_kindOf 14 = .ok (.getfield 9, 3) := by decide +kernel
theorem dX1_kindOf_17 : decode cX1_kindOf 17 = .ok (.iload_n 1, 1) := by decide +kernel
theorem dX1_kindOf_18 : decode cX1_kindOf 18 = .ok (.iaload, 1) := by decide +kernel
theorem dX1_kindOf_19 : decode cX1_kindOf 19 = .ok (.goto 4, 3) := by decide +kernel
theorem dX1_kindOf_22 : decode cX1_kindOf 22 = .ok (.iconst 0, 1) := by decide +kernel
theorem dX1_kindOf_23 : decode cX1_kindOf 23 = .ok (.ireturn, 1) := by decide +kernel
theorem dX1_valueOf_0 : decode cX1_valueOf 0 = .ok (.iload_n 1, 1) := by decide +kernel
theorem dX1_valueOf_1 : decode cX1_valueOf 1 = .ok (.ifCond .lt 21, 3) := by decide +kernel
theorem dX1_valueOf_4 : decode cX1_valueOf 4 = .ok (.iload_n 1, 1) := by decide +kernel
theorem dX1_valueOf_5 : decode cX1_valueOf 5 = .ok (.aload_n 0, 1) := by decide +kernel
theorem dX1_valueOf_6 : decode cX1_valueOf 6 = .ok (.getfield 15, 3) := by decide +kernel
theorem dX1_valueOf_9 : decode cX1_valueOf 9 = .ok (.arraylength, 1) := by decide +kernel
theorem dX1_valueOf_10 : decode cX1_valueOf 10 = .ok (.if_icmp .ge 12, 3) := by decide +kernel
theorem dX1_valueOf_13 : decode cX1_valueOf 13 = .ok (.aload_n 0, 1) := by decide +kernel
theorem dX1_valueOf_14 : decode cX1_valueOf 14 = .ok (.getfield 15, 3) := by decide +kernel
theorem dX1_valueOf_17 : decode cX1_valueOf 17 = .ok (.iload_n 1, 1) := by decide +kernel
theorem dX1_valueOf_18 : decode cX1_valueOf 18 = .ok (.iaload, 1) := by decide +kernel
theorem dX1_valueOf_19 : decode cX1_valueOf 19 = .ok (.goto 4, 3) := by decide +kernel
theorem dX1_valueOf_22 : decode cX1_valueOf 22 = .ok (.iconst 0, 1) := by decide +kernel
theorem dX1_valueOf_23 : decode cX1_valueOf 23 = .ok (.ireturn, 1) := by decide +kernel
theorem dX1_stepsOf_0 : decode cX1_stepsOf 0 = .ok (.getstatic 44, 3) := by decide +kernel
theorem dX1_stepsOf_3 : decode cX1_stepsOf 3 = .ok (.aload_n 0, 1) := by decide +kernel
theorem dX1_stepsOf_4 : decode cX1_stepsOf 4 = .ok (.iload_n 1, 1) := by decide +kernel
theorem dX1_stepsOf_5 : decode cX1_stepsOf 5 = .ok (.invokevirtual 47, 3) := by decide +kernel
theorem dX1_stepsOf_8 : decode cX1_stepsOf 8 = .ok (.invokestatic 50, 3) := by decide +kernel
theorem dX1_stepsOf_11 : decode cX1_stepsOf 11 = .ok (.istore_n 2, 1) := by decide +kernel
theorem dX1_stepsOf_12 : decode cX1_stepsOf 12 = .ok (.iconst 0, 1) := by decide +kernel
theorem dX1_stepsOf_13 : decode cX1_stepsOf 13 = .ok (.istore_n 3, 1) := by decide +kernel
theorem dX1_stepsOf_14 : decode cX1_stepsOf 14 = .ok (.iload_n 3, 1) := by decide +kernel
theorem dX1_stepsOf_15 : decode cX1_stepsOf 15 = .ok (.aload_n 0, 1) := by decide +kernel
theorem dX1_stepsOf_16 : decode cX1_stepsOf 16 = .ok (.iload_n 1, 1) := by decide +kernel
theorem dX1_stepsOf_17 : decode cX1_stepsOf 17 = .ok (.invokevirtual 54, 3) := by decide +kernel
theorem dX1_stepsOf_20 : decode cX1_stepsOf 20 = .ok (.if_icmp .ge 28, 3) := by decide +kernel
theorem dX1_stepsOf_23 : decode cX1_stepsOf 23 = .ok (.iload_n 2, 1) := by decide +kernel
theorem dX1_stepsOf_24 : decode cX1_stepsOf 24 = .ok (.getstatic 57, 3) := by decide +kernel
theorem dX1_stepsOf_27 : decode cX1_stepsOf 27 = .ok (.aload_n 0, 1) := by decide +kernel
theorem dX1_stepsOf_28 : decode cX1_stepsOf 28 = .ok (.aload_n 0, 1) := by decide +kernel
theorem dX1_stepsOf_29 : decode cX1_stepsOf 29 = .ok (.iload_n 1, 1) := by decide +kernel
theorem dX1_stepsOf_30 : decode cX1_stepsOf 30 = .ok (.iload_n 3, 1) := by decide +kernel
theorem dX1_stepsOf_31 : decode cX1_stepsOf 31 = .ok (.invokevirtual 40, 3) := by decide +kernel
theorem dX1_stepsOf_34 : decode cX1_stepsOf 34 = .ok (.invokevirtual 60, 3) := by decide +kernel
theorem dX1_stepsOf_37 : decode cX1_stepsOf 37 = .ok (.invokestatic 50, 3) := by decide +kernel
theorem dX1_stepsOf_40 : decode cX1_stepsOf 40 = .ok (.iadd, 1) := by decide +kernel
theorem dX1_stepsOf_41 : decode cX1_stepsOf 41 = .ok (.istore_n 2, 1) := by decide +kernel
theorem dX1_stepsOf_42 : decode cX1_stepsOf 42 = .ok (.iinc 3 1, 3) := by decide +kernel
theorem dX1_stepsOf_45 : decode cX1_stepsOf 45 = .ok (.goto (-31), 3) := by decide +kernel
theorem dX1_stepsOf_48 : decode cX1_stepsOf 48 = .ok (.iload_n 2, 1) := by decide +kernel
theorem dX1_stepsOf_49 : decode cX1_stepsOf 49 = .ok (.ireturn, 1) := by decide +kernel
theorem dX1_memoryOf_0 : decode cX1_memoryOf 0 = .ok (.getstatic 63, 3) := by decide +kernel
theorem dX1_memoryOf_3 : decode cX1_memoryOf 3 = .ok (.aload_n 0, 1) := by decide +kernel
theorem dX1_memoryOf_4 : decode cX1_memoryOf 4 = .ok (.iload_n 1, 1) := by decide +kernel
theorem dX1_memoryOf_5 : decode cX1_memoryOf 5 = .ok (.invokevirtual 47, 3) := by decide +kernel
theorem dX1_memoryOf_8 : decode cX1_memoryOf 8 = .ok (.invokestatic 50, 3) := by decide +kernel
theorem dX1_memoryOf_11 : decode cX1_memoryOf 11 = .ok (.istore_n 2, 1) := by decide +kernel
theorem dX1_memoryOf_12 : decode cX1_memoryOf 12 = .ok (.iconst 0, 1) := by decide +kernel
theorem dX1_memoryOf_13 : decode cX1_memoryOf 13 = .ok (.istore_n 3, 1) := by decide +kernel
theorem dX1_memoryOf_14 : decode cX1_memoryOf 14 = .ok (.iload_n 3, 1) := by decide +kernel
theorem dX1_memoryOf_15 : decode cX1_memoryOf 15 = .ok (.aload_n 0, 1) := by decide +kernel
theorem dX1_memoryOf_16 : decode cX1_memoryOf 16 = .ok (.iload_n 1, 1) := by decide +kernel
theorem dX1_memoryOf_17 : decode cX1_memoryOf 17 = .ok (.invokevirtual 54, 3) := by decide +kernel
theorem dX1_memoryOf_20 : decode cX1_memoryOf 20 = .ok (.if_icmp .ge 30, 3) := by decide +kernel
theorem dX1_memoryOf_23 : decode cX1_memoryOf 23 = .ok (.iload_n 2, 1) := by decide +kernel
theorem dX1_memoryOf_24 : decode cX1_memoryOf 24 = .ok (.getstatic 66, 3) := by decide +kernel
theorem dX1_memoryOf_27 : decode cX1_memoryOf 27 = .ok (.aload_n 0, 1) := by decide +kernel
theorem dX1_memoryOf_28 : decode cX1_memoryOf 28 = .ok (.aload_n 0, 1) := by decide +kernel
theorem dX1_memoryOf_29 : decode cX1_memoryOf 29 = .ok (.iload_n 1, 1) := by decide +kernel
theorem dX1_memoryOf_30 : decode cX1_memoryOf 30 = .ok (.iload_n 3, 1) := by decide +kernel
theorem dX1_memoryOf_31 : decode cX1_memoryOf 31 = .ok (.invokevirtual 40, 3) := by decide +kernel
theorem dX1_memoryOf_34 : decode cX1_memoryOf 34 = .ok (.invokevirtual 60, 3) := by decide +kernel
theorem dX1_memoryOf_37 : decode cX1_memoryOf 37 = .ok (.invokestatic 50, 3) := by decide +kernel
theorem dX1_memoryOf_40 : decode cX1_memoryOf 40 = .ok (.invokestatic 69, 3) := by decide +kernel
theorem dX1_memoryOf_43 : decode cX1_memoryOf 43 = .ok (.istore_n 2, 1) := by decide +kernel
theorem dX1_memoryOf_44 : decode cX1_memoryOf 44 = .ok (.iinc 3 1, 3) := by decide +kernel
theorem dX1_memoryOf_47 : decode cX1_memoryOf 47 = .ok (.goto (-33), 3) := by decide +kernel
theorem dX1_memoryOf_50 : decode cX1_memoryOf 50 = .ok (.iload_n 2, 1) := by decide +kernel
theorem dX1_memoryOf_51 : decode cX1_memoryOf 51 = .ok (.ireturn, 1) := by decide +kernel
theorem dX1_valueIn_0 : decode cX1_valueIn 0 = .ok (.iload_n 1, 1) := by decide +kernel
theorem dX1_valueIn_1 : decode cX1_valueIn 1 = .ok (.ifCond .lt 15, 3) := by decide +kernel
theorem dX1_valueIn_4 : decode cX1_valueIn 4 = .ok (.iload_n 1, 1) := by decide +kernel
theorem dX1_valueIn_5 : decode cX1_valueIn 5 = .ok (.aload_n 0, 1) := by decide +kernel
theorem dX1_valueIn_6 : decode cX1_valueIn 6 = .ok (.arraylength, 1) := by decide +kernel
theorem dX1_valueIn_7 : decode cX1_valueIn 7 = .ok (.if_icmp .ge 9, 3) := by decide +kernel
theorem dX1_valueIn_10 : decode cX1_valueIn 10 = .ok (.aload_n 0, 1) := by decide +kernel
theorem dX1_valueIn_11 : decode cX1_valueIn 11 = .ok (.iload_n 1, 1) := by decide +kernel
theorem dX1_valueIn_12 : decode cX1_valueIn 12 = .ok (.iaload, 1) := by decide +kernel
theorem dX1_valueIn_13 : decode cX1_valueIn 13 = .ok (.goto 4, 3) := by decide +kernel
theorem dX1_valueIn_16 : decode cX1_valueIn 16 = .ok (.iconst 0, 1) := by decide +kernel
theorem dX1_valueIn_17 : decode cX1_valueIn 17 = .ok (.ireturn, 1) := by decide +kernel
theorem dX2_init_0 : decode cX2_init 0 = .ok (.aload_n 0, 1) := by decide +kernel
theorem dX2_init_1 : decode cX2_init 1 = .ok (.invokespecial 3, 3) := by decide +kernel
theorem dX2_init_4 : decode cX2_init 4 = .ok (.aload_n 0, 1) := by decide +kernel
theorem dX2_init_5 : decode cX2_init 5 = .ok (.sipush 256, 3) := by decide +kernel
theorem dX2_init_8 : decode cX2_init 8 = .ok (.newarray .int, 2) := by decide +kernel
theorem dX2_init_10 : decode cX2_init 10 = .ok (.putfield 9, 3) := by decide +kernel
theorem dX2_init_13 : decode cX2_init 13 = .ok (.return_, 1) := by decide +kernel
theorem dX2_isKind_0 : decode cX2_isKind 0 = .ok (.iload_n 0, 1) := by decide +kernel
theorem dX2_isKind_1 : decode cX2_isKind 1 = .ok (.iconst 1, 1) := by decide +kernel
theorem dX2_isKind_2 : decode cX2_isKind 2 = .ok (.if_icmp .lt 12, 3) := by decide +kernel
theorem dX2_isKind_5 : decode cX2_isKind 5 = .ok (.iload_n 0, 1) := by decide +kernel
theorem dX2_isKind_6 : decode cX2_isKind 6 = .ok (.iconst 4, 1) := by decide +kernel
theorem dX2_isKind_7 : decode cX2_isKind 7 = .ok (.if_icmp .gt 7, 3) := by decide +kernel
theorem dX2_isKind_10 : decode cX2_isKind 10 = .ok (.iconst 1, 1) := by decide +kernel
theorem dX2_isKind_11 : decode cX2_isKind 11 = .ok (.goto 4, 3) := by decide +kernel
theorem dX2_isKind_14 : decode cX2_isKind 14 = .ok (.iconst 0, 1) := by decide +kernel
theorem dX2_isKind_15 : decode cX2_isKind 15 = .ok (.ireturn, 1) := by decide +kernel
theorem dX2_takes_0 : decode cX2_takes 0 = .ok (.iload_n 0, 1) := by decide +kernel
theorem dX2_takes_1 : decode cX2_takes 1 = .ok (.tableswitch 93 1 4 #[31, 48, 58, 75], 31) := by decide +kernel
theorem dX2_takes_32 : decode cX2_takes 32 = .ok (.iload_n 1, 1) := by decide +kernel
theorem dX2_takes_33 : decode cX2_takes 33 = .ok (.iconst 1, 1) := by decide +kernel
theorem dX2_takes_34 : decode cX2_takes 34 = .ok (.if_icmp .lt 13, 3) := by decide +kernel
theorem dX2_takes_37 : decode cX2_takes 37 = .ok (.iload_n 1, 1) := by decide +kernel
theorem dX2_takes_38 : decode cX2_takes 38 = .ok (.bipush 8, 2) := by decide +kernel
theorem dX2_takes_40 : decode cX2_takes 40 = .ok (.if_icmp .gt 7, 3) := by decide +kernel
theorem dX2_takes_43 : decode cX2_takes 43 = .ok (.iconst 1, 1) := by decide +kernel
theorem dX2_takes_44 : decode cX2_takes 44 = .ok (.goto 4, 3) := by decide +kernel
theorem dX2_takes_47 : decode cX2_takes 47 = .ok (.iconst 0, 1) := by decide +kernel
theorem dX2_takes_48 : decode cX2_takes 48 = .ok (.ireturn, 1) := by decide +kernel
theorem dX2_takes_49 : decode cX2_takes 49 = .ok (.iload_n 1, 1) := by decide +kernel
theorem dX2_takes_50 : decode cX2_takes 50 = .ok (.ifCond .ne 7, 3) := by decide +kernel
theorem dX2_takes_53 : decode cX2_takes 53 = .ok (.iconst 1, 1) := by decide +kernel
theorem dX2_takes_54 : decode cX2_takes 54 = .ok (.goto 4, 3) := by decide +kernel
theorem dX2_takes_57 : decode cX2_takes 57 = .ok (.iconst 0, 1) := by decide +kernel
theorem dX2_takes_58 : decode cX2_takes 58 = .ok (.ireturn, 1) := by decide +kernel
theorem dX2_takes_59 : decode cX2_takes 59 = .ok (.iload_n 1, 1) := by decide +kernel
theorem dX2_takes_60 : decode cX2_takes 60 = .ok (.iconst 2, 1) := by decide +kernel
theorem dX2_takes_61 : decode cX2_takes 61 = .ok (.if_icmp .lt 13, 3) := by decide +kernel
theorem dX2_takes_64 : decode cX2_takes 64 = .ok (.iload_n 1, 1) := by decide +kernel
theorem dX2_takes_65 : decode cX2_takes 65 = .ok (.bipush 8, 2) := by decide +kernel
theorem dX2_takes_67 : decode cX2_takes 67 = .ok (.if_icmp .gt 7, 3) := by decide +kernel
theorem dX2_takes_70 : decode cX2_takes 70 = .ok (.iconst 1, 1) := by decide +kernel
theorem dX2_takes_71 : decode cX2_takes 71 = .ok (.goto 4, 3) := by decide +kernel
theorem dX2_takes_74 : decode cX2_takes 74 = .ok (.iconst 0, 1) := by decide +kernel
theorem dX2_takes_75 : decode cX2_takes 75 = .ok (.ireturn, 1) := by decide +kernel
theorem dX2_takes_76 : decode cX2_takes 76 = .ok (.iload_n 1, 1) := by decide +kernel
theorem dX2_takes_77 : decode cX2_takes 77 = .ok (.iconst 1, 1) := by decide +kernel
theorem dX2_takes_78 : decode cX2_takes 78 = .ok (.if_icmp .lt 14, 3) := by decide +kernel
theorem dX2_takes_81 : decode cX2_takes 81 = .ok (.iload_n 1, 1) := by decide +kernel
theorem dX2_takes_82 : decode cX2_takes 82 = .ok (.sipush 255, 3) := by decide +kernel
theorem dX2_takes_85 : decode cX2_takes 85 = .ok (.if_icmp .gt 7, 3) := by decide +kernel
theorem dX2_takes_88 : decode cX2_takes 88 = .ok (.iconst 1, 1) := by decide +kernel
theorem dX2_takes_89 : decode cX2_takes 89 = .ok (.goto 4, 3) := by decide +kernel
theorem dX2_takes_92 : decode cX2_takes 92 = .ok (.iconst 0, 1) := by decide +kernel
theorem dX2_takes_93 : decode cX2_takes 93 = .ok (.ireturn, 1) := by decide +kernel
theorem dX2_takes_94 : decode cX2_takes 94 = .ok (.iconst 0, 1) := by decide +kernel
theorem dX2_takes_95 : decode cX2_takes 95 = .ok (.ireturn, 1) := by decide +kernel
theorem dX2_make_0 : decode cX2_make 0 = .ok (.aload 4, 2) := by decide +kernel
theorem dX2_make_2 : decode cX2_make 2 = .ok (.aload_n 3, 1) := by decide +kernel
theorem dX2_make_3 : decode cX2_make 3 = .ok (.invokevirtual 15, 3) := by decide +kernel
theorem dX2_make_6 : decode cX2_make 6 = .ok (.iload_n 1, 1) := by decide +kernel
theorem dX2_make_7 : decode cX2_make 7 = .ok (.tableswitch 124 1 3 #[25, 72, 114], 25) := by decide +kernel
theorem dX2_make_32 : decode cX2_make 32 = .ok (.iload_n 2, 1) := by decide +kernel
theorem dX2_make_33 : decode cX2_make 33 = .ok (.iconst 0, 1) := by decide +kernel
theorem dX2_make_34 : decode cX2_make 34 = .ok (.invokestatic 21, 3) := by decide +kernel
theorem dX2_make_37 : decode cX2_make 37 = .ok (.istore 5, 2) := by decide +kernel
theorem dX2_make_39 : decode cX2_make 39 = .ok (.iload 5, 2) := by decide +kernel
theorem dX2_make_41 : decode cX2_make 41 = .ok (.aload_n 3, 1) := by decide +kernel
theorem dX2_make_42 : decode cX2_make 42 = .ok (.invokevirtual 27, 3) := by decide +kernel
theorem dX2_make_45 : decode cX2_make 45 = .ok (.if_icmp .ge 31, 3) := by decide +kernel
theorem dX2_make_48 : decode cX2_make 48 = .ok (.aload 4, 2) := by decide +kernel
theorem dX2_make_50 : decode cX2_make 50 = .ok (.iload 5, 2) := by decide +kernel
theorem dX2_make_52 : decode cX2_make 52 = .ok (.aload_n 3, 1) := by decide +kernel
theorem dX2_make_53 : decode cX2_make 53 = .ok (.iload 5, 2) := by decide +kernel
theorem dX2_make_55 : decode cX2_make 55 = .ok (.invokevirtual 31, 3) := by decide +kernel
theorem dX2_make_58 : decode cX2_make 58 = .ok (.aload_n 3, 1) := by decide +kernel
theorem dX2_make_59 : decode cX2_make 59 = .ok (.iload 5, 2) := by decide +kernel
theorem dX2_make_61 : decode cX2_make 61 = .ok (.iload_n 2, 1) := by decide +kernel
theorem dX2_make_62 : decode cX2_make 62 = .ok (.isub, 1) := by decide +kernel
theorem dX2_make_63 : decode cX2_make 63 = .ok (.invokevirtual 31, 3) := by decide +kernel
theorem dX2_make_66 : decode cX2_make 66 = .ok (.isub, 1) := by decide +kernel
theorem dX2_make_67 : decode cX2_make 67 = .ok (.invokevirtual 35, 3) := by decide +kernel
theorem dX2_make_70 : decode cX2_make 70 = .ok (.iinc 5 1, 3) := by decide +kernel
theorem dX2_make_73 : decode cX2_make 73 = .ok (.goto (-34), 3) := by decide +kernel
theorem dX2_make_76 : decode cX2_make 76 = .ok (.goto 62, 3) := by decide +kernel
theorem dX2_make_79 : decode cX2_make 79 = .ok (.aload_n 0, 1) := by decide +kernel
theorem dX2_make_80 : decode cX2_make 80 = .ok (.invokevirtual 39, 3) := by decide +kernel
theorem dX2_make_83 : decode cX2_make 83 = .ok (.iconst 0, 1) := by decide +kernel
theorem dX2_make_84 : decode cX2_make 84 = .ok (.istore 5, 2) := by decide +kernel
theorem dX2_make_86 : decode cX2_make 86 = .ok (.iload 5, 2) := by decide +kernel
theorem dX2_make_88 : decode cX2_make 88 = .ok (.aload_n 3, 1) := by decide +kernel
theorem dX2_make_89 : decode cX2_make 89 = .ok (.invokevirtual 27, 3) := by decide +kernel
theorem dX2_make_92 : decode cX2_make 92 = .ok (.if_icmp .ge 26, 3) := by decide +kernel
theorem dX2_make_95 : decode cX2_make 95 = .ok (.aload 4, 2) := by decide +kernel
theorem dX2_make_97 : decode cX2_make 97 = .ok (.iload 5, 2) := by decide +kernel
theorem dX2_make_99 : decode cX2_make 99 = .ok (.aload_n 0, 1) := by decide +kernel
theorem dX2_make_100 : decode cX2_make 100 = .ok (.aload_n 3, 1) := by decide +kernel
theorem dX2_make_101 : decode cX2_make 101 = .ok (.iload 5, 2) := by decide +kernel
theorem dX2_make_103 : decode cX2_make 103 = .ok (.invokevirtual 31, 3) := by decide +kernel
theorem dX2_make_106 : decode cX2_make 106 = .ok (.invokevirtual 42, 3) := by decide +kernel
theorem dX2_make_109 : decode cX2_make 109 = .ok (.invokevirtual 35, 3) := by decide +kernel
theorem dX2_make_112 : decode cX2_make 112 = .ok (.iinc 5 1, 3) := by decide +kernel
theorem dX2_make_115 : decode cX2_make 115 = .ok (.goto (-29), 3) := by decide +kernel
theorem dX2_make_118 : decode cX2_make 118 = .ok (.goto 20, 3) := by decide +kernel
theorem dX2_make_121 : decode cX2_make 121 = .ok (.iload_n 2, 1) := by decide +kernel
theorem dX2_make_122 : decode cX2_make 122 = .ok (.aload_n 3, 1) := by decide +kernel
theorem dX2_make_123 : decode cX2_make 123 = .ok (.aload 4, 2) := by decide +kernel
theorem dX2_make_125 : decode cX2_make 125 = .ok (.invokestatic 45, 3) := by decide +kernel
theorem dX2_make_128 : decode cX2_make 128 = .ok (.goto 10, 3) := by decide +kernel
theorem dX2_make_131 : decode cX2_make 131 = .ok (.iload_n 2, 1) := by decide +kernel
theorem dX2_make_132 : decode cX2_make 132 = .ok (.aload_n 3, 1) := by decide +kernel
theorem dX2_make_133 : decode cX2_make 133 = .ok (.aload 4, 2) := by decide +kernel
theorem dX2_make_135 : decode cX2_make 135 = .ok (.invokestatic 49, 3) := by decide +kernel
theorem dX2_make_138 : decode cX2_make 138 = .ok (.return_, 1) := by decide +kernel
theorem dX2_undo_0 : decode cX2_undo 0 = .ok (.aload 4, 2) := by decide +kernel
theorem dX2_undo_2 : decode cX2_undo 2 = .ok (.aload_n 3, 1) := by decide +kernel
theorem dX2_undo_3 : decode cX2_undo 3 = .ok (.invokevirtual 15, 3) := by decide +kernel
theorem dX2_undo_6 : decode cX2_undo 6 = .ok (.iload_n 1, 1) := by decide +kernel
theorem dX2_undo_7 : decode cX2_undo 7 = .ok (.tableswitch 125 1 3 #[25, 73, 115], 25) := by decide +kernel
theorem dX2_undo_32 : decode cX2_undo 32 = .ok (.iload_n 2, 1) := by decide +kernel
theorem dX2_undo_33 : decode cX2_undo 33 = .ok (.iconst 0, 1) := by decide +kernel
theorem dX2_undo_34 : decode cX2_undo 34 = .ok (.invokestatic 21, 3) := by decide +kernel
theorem dX2_undo_37 : decode cX2_undo 37 = .ok (.istore 5, 2) := by decide +kernel
theorem dX2_undo_39 : decode cX2_undo 39 = .ok (.iload 5, 2) := by decide +kernel
theorem dX2_undo_41 : decode cX2_undo 41 = .ok (.aload_n 3, 1) := by decide +kernel
theorem dX2_undo_42 : decode cX2_undo 42 = .ok (.invokevirtual 27, 3) := by decide +kernel
theorem dX2_undo_45 : decode cX2_undo 45 = .ok (.if_icmp .ge 32, 3) := by decide +kernel
theorem dX2_undo_48 : decode cX2_undo 48 = .ok (.aload 4, 2) := by decide +kernel
theorem dX2_undo_50 : decode cX2_undo 50 = .ok (.iload 5, 2) := by decide +kernel
theorem dX2_undo_52 : decode cX2_undo 52 = .ok (.aload_n 3, 1) := by decide +kernel
theorem dX2_undo_53 : decode cX2_undo 53 = .ok (.iload 5, 2) := by decide +kernel
theorem dX2_undo_55 : decode cX2_undo 55 = .ok (.invokevirtual 31, 3) := by decide +kernel
theorem dX2_undo_58 : decode cX2_undo 58 = .ok (.aload 4, 2) := by decide +kernel
theorem dX2_undo_60 : decode cX2_undo 60 = .ok (.iload 5, 2) := by decide +kernel
theorem dX2_undo_62 : decode cX2_undo 62 = .ok (.iload_n 2, 1) := by decide +kernel
theorem dX2_undo_63 : decode cX2_undo 63 = .ok (.isub, 1) := by decide +kernel
theorem dX2_undo_64 : decode cX2_undo 64 = .ok (.invokevirtual 31, 3) := by decide +kernel
theorem dX2_undo_67 : decode cX2_undo 67 = .ok (.iadd, 1) := by decide +kernel
theorem dX2_undo_68 : decode cX2_undo 68 = .ok (.invokevirtual 35, 3) := by decide +kernel
theorem dX2_undo_71 : decode cX2_undo 71 = .ok (.iinc 5 1, 3) := by decide +kernel
theorem dX2_undo_74 : decode cX2_undo 74 = .ok (.goto (-35), 3) := by decide +kernel
theorem dX2_undo_77 : decode cX2_undo 77 = .ok (.goto 62, 3) := by decide +kernel
theorem dX2_undo_80 : decode cX2_undo 80 = .ok (.aload_n 0, 1) := by decide +kernel
theorem dX2_undo_81 : decode cX2_undo 81 = .ok (.invokevirtual 39, 3) := by decide +kernel
theorem dX2_undo_84 : decode cX2_undo 84 = .ok (.iconst 0, 1) := by decide +kernel
theorem dX2_undo_85 : decode cX2_undo 85 = .ok (.istore 5, 2) := by decide +kernel
theorem dX2_undo_87 : decode cX2_undo 87 = .ok (.iload 5, 2) := by decide +kernel
theorem dX2_undo_89 : decode cX2_undo 89 = .ok (.aload_n 3, 1) := by decide +kernel
theorem dX2_undo_90 : decode cX2_undo 90 = .ok (.invokevirtual 27, 3) := by decide +kernel
theorem dX2_undo_93 : decode cX2_undo 93 = .ok (.if_icmp .ge 26, 3) := by decide +kernel
theorem dX2_undo_96 : decode cX2_undo 96 = .ok (.aload 4, 2) := by decide +kernel
theorem dX2_undo_98 : decode cX2_undo 98 = .ok (.iload 5, 2) := by decide +kernel
theorem dX2_undo_100 : decode cX2_undo 100 = .ok (.aload_n 0, 1) := by decide +kernel
theorem dX2_undo_101 : decode cX2_undo 101 = .ok (.aload_n 3, 1) := by decide +kernel
theorem dX2_undo_102 : decode cX2_undo 102 = .ok (.iload 5, 2) := by decide +kernel
theorem dX2_undo_104 : decode cX2_undo 104 = .ok (.invokevirtual 31, 3) := by decide +kernel
theorem dX2_undo_107 : decode cX2_undo 107 = .ok (.invokevirtual 52, 3) := by decide +kernel
theorem dX2_undo_110 : decode cX2_undo 110 = .ok (.invokevirtual 35, 3) := by decide +kernel
theorem dX2_undo_113 : decode cX2_undo 113 = .ok (.iinc 5 1, 3) := by decide +kernel
theorem dX2_undo_116 : decode cX2_undo 116 = .ok (.goto (-29), 3) := by decide +kernel
theorem dX2_undo_119 : decode cX2_undo 119 = .ok (.goto 20, 3) := by decide +kernel
theorem dX2_undo_122 : decode cX2_undo 122 = .ok (.iload_n 2, 1) := by decide +kernel
theorem dX2_undo_123 : decode cX2_undo 123 = .ok (.aload_n 3, 1) := by decide +kernel
theorem dX2_undo_124 : decode cX2_undo 124 = .ok (.aload 4, 2) := by decide +kernel
theorem dX2_undo_126 : decode cX2_undo 126 = .ok (.invokestatic 55, 3) := by decide +kernel
theorem dX2_undo_129 : decode cX2_undo 129 = .ok (.goto 10, 3) := by decide +kernel
theorem dX2_undo_132 : decode cX2_undo 132 = .ok (.iload_n 2, 1) := by decide +kernel
theorem dX2_undo_133 : decode cX2_undo 133 = .ok (.aload_n 3, 1) := by decide +kernel
theorem dX2_undo_134 : decode cX2_undo 134 = .ok (.aload 4, 2) := by decide +kernel
theorem dX2_undo_136 : decode cX2_undo 136 = .ok (.invokestatic 49, 3) := by decide +kernel
theorem dX2_undo_139 : decode cX2_undo 139 = .ok (.return_, 1) := by decide +kernel
theorem dX2_mask_0 : decode cX2_mask 0 = .ok (.iconst 0, 1) := by decide +kernel
theorem dX2_mask_1 : decode cX2_mask 1 = .ok (.istore_n 3, 1) := by decide +kernel
theorem dX2_mask_2 : decode cX2_mask 2 = .ok (.iload_n 3, 1) := by decide +kernel
theorem dX2_mask_3 : decode cX2_mask 3 = .ok (.aload_n 1, 1) := by decide +kernel
theorem dX2_mask_4 : decode cX2_mask 4 = .ok (.invokevirtual 27, 3) := by decide +kernel
theorem dX2_mask_7 : decode cX2_mask 7 = .ok (.if_icmp .ge 21, 3) := by decide +kernel
theorem dX2_mask_10 : decode cX2_mask 10 = .ok (.aload_n 2, 1) := by decide +kernel
theorem dX2_mask_11 : decode cX2_mask 11 = .ok (.iload_n 3, 1) := by decide +kernel
theorem dX2_mask_12 : decode cX2_mask 12 = .ok (.aload_n 1, 1) := by decide +kernel
theorem dX2_mask_13 : decode cX2_mask 13 = .ok (.iload_n 3, 1) := by decide +kernel
theorem dX2_mask_14 : decode cX2_mask 14 = .ok (.invokevirtual 31, 3) := by decide +kernel
theorem dX2_mask_17 : decode cX2_mask 17 = .ok (.iload_n 0, 1) := by decide +kernel
theorem dX2_mask_18 : decode cX2_mask 18 = .ok (.ixor, 1) := by decide +kernel
theorem dX2_mask_19 : decode cX2_mask 19 = .ok (.invokevirtual 35, 3) := by decide +kernel
theorem dX2_mask_22 : decode cX2_mask 22 = .ok (.iinc 3 1, 3) := by decide +kernel
theorem dX2_mask_25 : decode cX2_mask 25 = .ok (.goto (-23), 3) := by decide +kernel
theorem dX2_mask_28 : decode cX2_mask 28 = .ok (.return_, 1) := by decide +kernel
theorem dX2_gatherPlanes_0 : decode cX2_gatherPlanes 0 = .ok (.iload_n 0, 1) := by decide +kernel
theorem dX2_gatherPlanes_1 : decode cX2_gatherPlanes 1 = .ok (.iconst 1, 1) := by decide +kernel
theorem dX2_gatherPlanes_2 : decode cX2_gatherPlanes 2 = .ok (.invokestatic 21, 3) := by decide +kernel
theorem dX2_gatherPlanes_5 : decode cX2_gatherPlanes 5 = .ok (.istore_n 3, 1) := by decide +kernel
theorem dX2_gatherPlanes_6 : decode cX2_gatherPlanes 6 = .ok (.iconst 0, 1) := by decide +kernel
theorem dX2_gatherPlanes_7 : decode cX2_gatherPlanes 7 = .ok (.istore 4, 2) := by decide +kernel
theorem dX2_gatherPlanes_9 : decode cX2_gatherPlanes 9 = .ok (.iconst 0, 1) := by decide +kernel
theorem dX2_gatherPlanes_10 : decode cX2_gatherPlanes 10 = .ok (.istore 5, 2) := by decide +kernel
theorem dX2_gatherPlanes_12 : decode cX2_gatherPlanes 12 = .ok (.iload 5, 2) := by decide +kernel
theorem dX2_gatherPlanes_14 : decode cX2_gatherPlanes 14 = .ok (.iload_n 3, 1) := by decide +kernel
theorem dX2_gatherPlanes_15 : decode cX2_gatherPlanes 15 = .ok (.if_icmp .ge 46, 3) := by decide +kernel
theorem dX2_gatherPlanes_18 : decode cX2_gatherPlanes 18 = .ok (.iload 5, 2) := by decide +kernel
theorem dX2_gatherPlanes_20 : decode cX2_gatherPlanes 20 = .ok (.istore 6, 2) := by decide +kernel
theorem dX2_gatherPlanes_22 : decode cX2_gatherPlanes 22 = .ok (.iload 6, 2) := by decide +kernel
theorem dX2_gatherPlanes_24 : decode cX2_gatherPlanes 24 = .ok (.aload_n 1, 1) := by decide +kernel
theorem dX2_gatherPlanes_25 : decode cX2_gatherPlanes 25 = .ok (.invokevirtual 27, 3) := by decide +kernel
theorem dX2_gatherPlanes_28 : decode cX2_gatherPlanes 28 = .ok (.if_icmp .ge 27, 3) := by decide +kernel
theorem dX2_gatherPlanes_31 : decode cX2_gatherPlanes 31 = .ok (.aload_n 2, 1) := by decide +kernel
theorem dX2_gatherPlanes_32 : decode cX2_gatherPlanes 32 = .ok (.iload 4, 2) := by decide +kernel
theorem dX2_gatherPlanes_34 : decode cX2_gatherPlanes 34 = .ok (.aload_n 1, 1) := by decide +kernel
theorem dX2_gatherPlanes_35 : decode cX2_gatherPlanes 35 = .ok (.iload 6, 2) := by decide +kernel
theorem dX2_gatherPlanes_37 : decode cX2_gatherPlanes 37 = .ok (.invokevirtual 31, 3) := by decide +kernel
theorem dX2_gatherPlanes_40 : decode cX2_gatherPlanes 40 = .ok (.invokevirtual 35, 3) := by decide +kernel
theorem dX2_gatherPlanes_43 : decode cX2_gatherPlanes 43 = .ok (.iinc 4 1, 3) := by decide +kernel
theorem dX2_gatherPlanes_46 : decode cX2_gatherPlanes 46 = .ok (.iload 6, 2) := by decide +kernel
theorem dX2_gatherPlanes_48 : decode cX2_gatherPlanes 48 = .ok (.iload_n 3, 1) := by decide +kernel
theorem dX2_gatherPlanes_49 : decode cX2_gatherPlanes 49 = .ok (.iadd, 1) := by decide +kernel
theorem dX2_gatherPlanes_50 : decode cX2_gatherPlanes 50 = .ok (.istore 6, 2) := by decide +kernel
theorem dX2_gatherPlanes_52 : decode cX2_gatherPlanes 52 = .ok (.goto (-30), 3) := by decide +kernel
theorem dX2_gatherPlanes_55 : decode cX2_gatherPlanes 55 = .ok (.iinc 5 1, 3) := by decide +kernel
theorem dX2_gatherPlanes_58 : decode cX2_gatherPlanes 58 = .ok (.goto (-46), 3) := by decide +kernel
theorem dX2_gatherPlanes_61 : decode cX2_gatherPlanes 61 = .ok (.return_, 1) := by decide +kernel
theorem dX2_spreadPlanes_0 : decode cX2_spreadPlanes 0 = .ok (.iload_n 0, 1) := by decide +kernel
theorem dX2_spreadPlanes_1 : decode cX2_spreadPlanes 1 = .ok (.iconst 1, 1) := by decide +kernel
theorem dX2_spreadPlanes_2 : decode cX2_spreadPlanes 2 = .ok (.invokestatic 21, 3) := by decide +kernel
theorem dX2_spreadPlanes_5 : decode cX2_spreadPlanes 5 = .ok (.istore_n 3, 1) := by decide +kernel
theorem dX2_spreadPlanes_6 : decode cX2_spreadPlanes 6 = .ok (.iconst 0, 1) := by decide +kernel
theorem dX2_spreadPlanes_7 : decode cX2_spreadPlanes 7 = .ok (.istore 4, 2) := by decide +kernel
theorem dX2_spreadPlanes_9 : decode cX2_spreadPlanes 9 = .ok (.iconst 0, 1) := by decide +kernel
theorem dX2_spreadPlanes_10 : decode cX2_spreadPlanes 10 = .ok (.istore 5, 2) := by decide +kernel
theorem dX2_spreadPlanes_12 : decode cX2_spreadPlanes 12 = .ok (.iload 5, 2) := by decide +kernel
theorem dX2_spreadPlanes_14 : decode cX2_spreadPlanes 14 = .ok (.iload_n 3, 1) := by decide +kernel
theorem dX2_spreadPlanes_15 : decode cX2_spreadPlanes 15 = .ok (.if_icmp .ge 46, 3) := by decide +kernel
theorem dX2_spreadPlanes_18 : decode cX2_spreadPlanes 18 = .ok (.iload 5, 2) := by decide +kernel
theorem dX2_spreadPlanes_20 : decode cX2_spreadPlanes 20 = .ok (.istore 6, 2) := by decide +kernel
theorem dX2_spreadPlanes_22 : decode cX2_spreadPlanes 22 = .ok (.iload 6, 2) := by decide +kernel
theorem dX2_spreadPlanes_24 : decode cX2_spreadPlanes 24 = .ok (.aload_n 1, 1) := by decide +kernel
theorem dX2_spreadPlanes_25 : decode cX2_spreadPlanes 25 = .ok (.invokevirtual 27, 3) := by decide +kernel
theorem dX2_spreadPlanes_28 : decode cX2_spreadPlanes 28 = .ok (.if_icmp .ge 27, 3) := by decide +kernel
theorem dX2_spreadPlanes_31 : decode cX2_spreadPlanes 31 = .ok (.aload_n 2, 1) := by decide +kernel
theorem dX2_spreadPlanes_32 : decode cX2_spreadPlanes 32 = .ok (.iload 6, 2) := by decide +kernel
theorem dX2_spreadPlanes_34 : decode cX2_spreadPlanes 34 = .ok (.aload_n 1, 1) := by decide +kernel
theorem dX2_spreadPlanes_35 : decode cX2_spreadPlanes 35 = .ok (.iload 4, 2) := by decide +kernel
theorem dX2_spreadPlanes_37 : decode cX2_spreadPlanes 37 = .ok (.invokevirtual 31, 3) := by decide +kernel
theorem dX2_spreadPlanes_40 : decode cX2_spreadPlanes 40 = .ok (.invokevirtual 35, 3) := by decide +kernel
theorem dX2_spreadPlanes_43 : decode cX2_spreadPlanes 43 = .ok (.iinc 4 1, 3) := by decide +kernel
theorem dX2_spreadPlanes_46 : decode cX2_spreadPlanes 46 = .ok (.iload 6, 2) := by decide +kernel
theorem dX2_spreadPlanes_48 : decode cX2_spreadPlanes 48 = .ok (.iload_n 3, 1) := by decide +kernel
theorem dX2_spreadPlanes_49 : decode cX2_spreadPlanes 49 = .ok (.iadd, 1) := by decide +kernel
theorem dX2_spreadPlanes_50 : decode cX2_spreadPlanes 50 = .ok (.istore 6, 2) := by decide +kernel
theorem dX2_spreadPlanes_52 : decode cX2_spreadPlanes 52 = .ok (.goto (-30), 3) := by decide +kernel
theorem dX2_spreadPlanes_55 : decode cX2_spreadPlanes 55 = .ok (.iinc 5 1, 3) := by decide +kernel
theorem dX2_spreadPlanes_58 : decode cX2_spreadPlanes 58 = .ok (.goto (-46), 3) := by decide +kernel
theorem dX2_spreadPlanes_61 : decode cX2_spreadPlanes 61 = .ok (.return_, 1) := by decide +kernel
theorem dX2_startOrder_0 : decode cX2_startOrder 0 = .ok (.iconst 0, 1) := by decide +kernel
theorem dX2_startOrder_1 : decode cX2_startOrder 1 = .ok (.istore_n 1, 1) := by decide +kernel
theorem dX2_startOrder_2 : decode cX2_startOrder 2 = .ok (.iload_n 1, 1) := by decide +kernel
theorem dX2_startOrder_3 : decode cX2_startOrder 3 = .ok (.sipush 256, 3) := by decide +kernel
theorem dX2_startOrder_6 : decode cX2_startOrder 6 = .ok (.if_icmp .ge 16, 3) := by decide +kernel
theorem dX2_startOrder_9 : decode cX2_startOrder 9 = .ok (.aload_n 0, 1) := by decide +kernel
theorem dX2_startOrder_10 : decode cX2_startOrder 10 = .ok (.getfield 9, 3) := by decide +kernel
theorem dX2_startOrder_13 : decode cX2_startOrder 13 = .ok (.iload_n 1, 1) := by decide +kernel
theorem dX2_startOrder_14 : decode cX2_startOrder 14 = .ok (.iload_n 1, 1) := by decide +kernel
theorem dX2_startOrder_15 : decode cX2_startOrder 15 = .ok (.iastore, 1) := by decide +kernel
theorem dX2_startOrder_16 : decode cX2_startOrder 16 = .ok (.iinc 1 1, 3) := by decide +kernel
theorem dX2_startOrder_19 : decode cX2_startOrder 19 = .ok (.goto (-17), 3) := by decide +kernel
theorem dX2_startOrder_22 : decode cX2_startOrder 22 = .ok (.return_, 1) := by decide +kernel
theorem dX2_bringToFront_0 : decode cX2_bringToFront 0 = .ok (.iload_n 1, 1) := by decide +kernel
theorem dX2_bringToFront_1 : decode cX2_bringToFront 1 = .ok (.istore_n 2, 1) := by decide +kernel
theorem dX2_bringToFront_2 : decode cX2_bringToFront 2 = .ok (.iconst 0, 1) := by decide +kernel
theorem dX2_bringToFront_3 : decode cX2_bringToFront 3 = .ok (.istore_n 3, 1) := by decide +kernel
theorem dX2_bringToFront_4 : decode cX2_bringToFront 4 = .ok (.iload_n 3, 1) := by decide +kernel
theorem dX2_bringToFront_5 : decode cX2_bringToFront 5 = .ok (.sipush 256, 3) := by decide +kernel
theorem dX2_bringToFront_8 : decode cX2_bringToFront 8 = .ok (.if_icmp .ge 35, 3) := by decide +kernel
theorem dX2_bringToFront_11 : decode cX2_bringToFront 11 = .ok (.aload_n 0, 1) := by decide +kernel
theorem dX2_bringToFront_12 : decode cX2_bringToFront 12 = .ok (.getfield 9, 3) := by decide +kernel
theorem dX2_bringToFront_15 : decode cX2_bringToFront 15 = .ok (.iload_n 3, 1) := by decide +kernel
theorem dX2_bringToFront_16 : decode cX2_bringToFront 16 = .ok (.iaload, 1) := by decide +kernel
theorem dX2_bringToFront_17 : decode cX2_bringToFront 17 = .ok (.istore 4, 2) := by decide +kernel
theorem dX2_bringToFront_19 : decode cX2_bringToFront 19 = .ok (.aload_n 0, 1) := by decide +kernel
theorem dX2_bringToFront_20 : decode cX2_bringToFront 20 = .ok (.getfield 9, 3) := by decide +kernel
theorem dX2_bringToFront_23 : decode cX2_bringToFront 23 = .ok (.iload_n 3, 1) := by decide +kernel
theorem dX2_bringToFront_24 : decode cX2_bringToFront 24 = .ok (.iload_n 2, 1) := by decide +kernel
theorem dX2_bringToFront_25 : decode cX2_bringToFront 25 = .ok (.iastore, 1) := by decide +kernel
theorem dX2_bringToFront_26 : decode cX2_bringToFront 26 = .ok (.iload 4, 2) := by decide +kernel
theorem dX2_bringToFront_28 : decode cX2_bringToFront 28 = .ok (.iload_n 1, 1) := by decide +kernel
theorem dX2_bringToFront_29 : decode cX2_bringToFront 29 = .ok (.if_icmp .ne 5, 3) := by decide +kernel
theorem dX2_bringToFront_32 : decode cX2_bringToFront 32 = .ok (.iload_n 3, 1) := by decide +kernel
theorem dX2_bringToFront_33 : decode cX2_bringToFront 33 = .ok (.ireturn, 1) := by decide +kernel
theorem dX2_bringToFront_34 : decode cX2_bringToFront 34 = .ok (.iload 4, 2) := by decide +kernel
theorem dX2_bringToFront_36 : decode cX2_bringToFront 36 = .ok (.istore_n 2, 1) := by decide +kernel
theorem dX2_bringToFront_37 : decode cX2_bringToFront 37 = .ok (.iinc 3 1, 3) := by decide +kernel
theorem dX2_bringToFront_40 : decode cX2_bringToFront 40 = .ok (.goto (-36), 3) := by decide +kernel
theorem dX2_bringToFront_43 : decode cX2_bringToFront 43 = .ok (.iconst 0, 1) := by decide +kernel
theorem dX2_bringToFront_44 : decode cX2_bringToFront 44 = .ok (.ireturn, 1) := by decide +kernel
theorem dX2_takeToFront_0 : decode cX2_takeToFront 0 = .ok (.iload_n 1, 1) := by decide +kernel
theorem dX2_takeToFront_1 : decode cX2_takeToFront 1 = .ok (.sipush 255, 3) := by decide +kernel
theorem dX2_takeToFront_4 : decode cX2_takeToFront 4 = .ok (.iand, 1) := by decide +kernel
theorem dX2_takeToFront_5 : decode cX2_takeToFront 5 = .ok (.istore_n 2, 1) := by decide +kernel
theorem dX2_takeToFront_6 : decode cX2_takeToFront 6 = .ok (.aload_n 0, 1) := by decide +kernel
theorem dX2_takeToFront_7 : decode cX2_takeToFront 7 = .ok (.getfield 9, 3) := by decide +kernel
theorem dX2_takeToFront_10 : decode cX2_takeToFront 10 = .ok (.iload_n 2, 1) := by decide +kernel
theorem dX2_takeToFront_11 : decode cX2_takeToFront 11 = .ok (.iaload, 1) := by decide +kernel
theorem dX2_takeToFront_12 : decode cX2_takeToFront 12 = .ok (.istore_n 3, 1) := by decide +kernel
theorem dX2_takeToFront_13 : decode cX2_takeToFront 13 = .ok (.aload_n 0, 1) := by decide +kernel
theorem dX2_takeToFront_14 : decode cX2_takeToFront 14 = .ok (.getfield 9, 3) := by decide +kernel
theorem dX2_takeToFront_17 : decode cX2_takeToFront 17 = .ok (.iconst 0, 1) := by decide +kernel
theorem dX2_takeToFront_18 : decode cX2_takeToFront 18 = .ok (.aload_n 0, 1) := by decide +kernel
theorem dX2_takeToFront_19 : decode cX2_takeToFront 19 = .ok (.getfield 9, 3) := by decide +kernel
theorem dX2_takeToFront_22 : decode cX2_takeToFront 22 = .ok (.iconst 1, 1) := by decide +kernel
theorem dX2_takeToFront_23 : decode cX2_takeToFront 23 = .ok (.iload_n 2, 1) := by decide +kernel
theorem dX2_takeToFront_24 : decode cX2_takeToFront 24 = .ok (.invokestatic 58, 3) := by decide +kernel
theorem dX2_takeToFront_27 : decode cX2_takeToFront 27 = .ok (.aload_n 0, 1) := by decide +kernel
theorem dX2_takeToFront_28 : decode cX2_takeToFront 28 = .ok (.getfield 9, 3) := by decide +kernel
theorem dX2_takeToFront_31 : decode cX2_takeToFront 31 = .ok (.iconst 0, 1) := by decide +kernel
theorem dX2_takeToFront_32 : decode cX2_takeToFront 32 = .ok (.iload_n 3, 1) := by decide +kernel
theorem dX2_takeToFront_33 : decode cX2_takeToFront 33 = .ok (.iastore, 1) := by decide +kernel
theorem dX2_takeToFront_34 : decode cX2_takeToFront 34 = .ok (.iload_n 3, 1) := by decide +kernel
theorem dX2_takeToFront_35 : decode cX2_takeToFront 35 = .ok (.ireturn, 1) := by decide +kernel
theorem dX3_init_0 : decode cX3_init 0 = .ok (.aload_n 0, 1) := by decide +kernel
theorem dX3_init_1 : decode cX3_init 1 = .ok (.invokespecial 3, 3) := by decide +kernel
theorem dX3_init_4 : decode cX3_init 4 = .ok (.aload_n 0, 1) := by decide +kernel
theorem dX3_init_5 : decode cX3_init 5 = .ok (.sipush 256, 3) := by decide +kernel
theorem dX3_init_8 : decode cX3_init 8 = .ok (.newarray .int, 2) := by decide +kernel
theorem dX3_init_10 : decode cX3_init 10 = .ok (.putfield 9, 3) := by decide +kernel
theorem dX3_init_13 : decode cX3_init 13 = .ok (.aload_n 0, 1) := by decide +kernel
theorem dX3_init_14 : decode cX3_init 14 = .ok (.sipush 256, 3) := by decide +kernel
theorem dX3_init_17 : decode cX3_init 17 = .ok (.newarray .int, 2) := by decide +kernel
theorem dX3_init_19 : decode cX3_init 19 = .ok (.putfield 15, 3) := by decide +kernel
theorem dX3_init_22 : decode cX3_init 22 = .ok (.aload_n 0, 1) := by decide +kernel
theorem dX3_init_23 : decode cX3_init 23 = .ok (.sipush 256, 3) := by decide +kernel
theorem dX3_init_26 : decode cX3_init 26 = .ok (.newarray .int, 2) := by decide +kernel
theorem dX3_init_28 : decode cX3_init 28 = .ok (.putfield 18, 3) := by decide +kernel
theorem dX3_init_31 : decode cX3_init 31 = .ok (.aload_n 0, 1) := by decide +kernel
theorem dX3_init_32 : decode cX3_init 32 = .ok (.sipush 300, 3) := by decide +kernel
theorem dX3_init_35 : decode cX3_init 35 = .ok (.newarray .int, 2) := by decide +kernel
theorem dX3_init_37 : decode cX3_init 37 = .ok (.putfield 21, 3) := by decide +kernel
theorem dX3_init_40 : decode cX3_init 40 = .ok (.aload_n 0, 1) := by decide +kernel
theorem dX3_init_41 : decode cX3_init 41 = .ok (.new 24, 3) := by decide +kernel
theorem dX3_init_44 : decode cX3_init 44 = .ok (.dup, 1) := by decide +kernel
theorem dX3_init_45 : decode cX3_init 45 = .ok (.invokespecial 26, 3) := by decide +kernel
theorem dX3_init_48 : decode cX3_init 48 = .ok (.putfield 27, 3) := by decide +kernel
theorem dX3_init_51 : decode cX3_init 51 = .ok (.aload_n 0, 1) := by decide +kernel
theorem dX3_init_52 : decode cX3_init 52 = .ok (.new 31, 3) := by decide +kernel
theorem dX3_init_55 : decode cX3_init 55 = .ok (.dup, 1) := by decide +kernel
theorem dX3_init_56 : decode cX3_init 56 = .ok (.invokespecial 33, 3) := by decide +kernel
theorem dX3_init_59 : decode cX3_init 59 = .ok (.putfield 34, 3) := by decide +kernel
theorem dX3_init_62 : decode cX3_init 62 = .ok (.aload_n 0, 1) := by decide +kernel
theorem dX3_init_63 : decode cX3_init 63 = .ok (.new 38, 3) := by decide +kernel
theorem dX3_init_66 : decode cX3_init 66 = .ok (.dup, 1) := by decide +kernel
theorem dX3_init_67 : decode cX3_init 67 = .ok (.invokespecial 40, 3) := by decide +kernel
theorem dX3_init_70 : decode cX3_init 70 = .ok (.putfield 41, 3) := by decide +kernel
theorem dX3_init_73 : decode cX3_init 73 = .ok (.aload_n 0, 1) := by decide +kernel
theorem dX3_init_74 : decode cX3_init 74 = .ok (.iconst 0, 1) := by decide +kernel
theorem dX3_init_75 : decode cX3_init 75 = .ok (.putfield 45, 3) := by decide +kernel
theorem dX3_init_78 : decode cX3_init 78 = .ok (.aload_n 0, 1) := by decide +kernel
theorem dX3_init_79 : decode cX3_init 79 = .ok (.iconst 0, 1) := by decide +kernel
theorem dX3_init_80 : decode cX3_init 80 = .ok (.putfield 49, 3) := by decide +kernel
theorem dX3_init_83 : decode cX3_init 83 = .ok (.return_, 1) := by decide +kernel
theorem dX3_write_0 : decode cX3_write 0 = .ok (.aload_n 2, 1) := by decide +kernel
theorem dX3_write_1 : decode cX3_write 1 = .ok (.invokevirtual 52, 3) := by decide +kernel
theorem dX3_write_4 : decode cX3_write 4 = .ok (.ifCond .ne 4, 3) := by decide +kernel
theorem dX3_write_7 : decode cX3_write 7 = .ok (.return_, 1) := by decide +kernel
theorem dX3_write_8 : decode cX3_write 8 = .ok (.iload_n 1, 1) := by decide +kernel
theorem dX3_write_9 : decode cX3_write 9 = .ok (.tableswitch 66 1 4 #[31, 39, 48, 57], 31) := by decide +kernel
theorem dX3_write_40 : decode cX3_write 40 = .ok (.aload_n 2, 1) := by decide +kernel
theorem dX3_write_41 : decode cX3_write 41 = .ok (.aload_n 3, 1) := by decide +kernel
theorem dX3_write_42 : decode cX3_write 42 = .ok (.invokestatic 58, 3) := by decide +kernel
theorem dX3_write_45 : decode cX3_write 45 = .ok (.goto 40, 3) := by decide +kernel
theorem dX3_write_48 : decode cX3_write 48 = .ok (.aload_n 0, 1) := by decide +kernel
theorem dX3_write_49 : decode cX3_write 49 = .ok (.aload_n 2, 1) := by decide +kernel
theorem dX3_write_50 : decode cX3_write 50 = .ok (.aload_n 3, 1) := by decide +kernel
theorem dX3_write_51 : decode cX3_write 51 = .ok (.invokevirtual 62, 3) := by decide +kernel
theorem dX3_write_54 : decode cX3_write 54 = .ok (.goto 31, 3) := by decide +kernel
theorem dX3_write_57 : decode cX3_write 57 = .ok (.aload_n 0, 1) := by decide +kernel
theorem dX3_write_58 : decode cX3_write 58 = .ok (.aload_n 2, 1) := by decide +kernel
theorem dX3_write_59 : decode cX3_write 59 = .ok (.aload_n 3, 1) := by decide +kernel
theorem dX3_write_60 : decode cX3_write 60 = .ok (.invokevirtual 65, 3) := by decide +kernel
theorem dX3_write_63 : decode cX3_write 63 = .ok (.goto 22, 3) := by decide +kernel
theorem dX3_write_66 : decode cX3_write 66 = .ok (.aload_n 0, 1) := by decide +kernel
theorem dX3_write_67 : decode cX3_write 67 = .ok (.aload_n 2, 1) := by decide +kernel
theorem dX3_write_68 : decode cX3_write 68 = .ok (.aload_n 3, 1) := by decide +kernel
theorem dX3_write_69 : decode cX3_write 69 = .ok (.invokevirtual 68, 3) := by decide +kernel
theorem dX3_write_72 : decode cX3_write 72 = .ok (.goto 13, 3) := by decide +kernel
theorem dX3_write_75 : decode cX3_write 75 = .ok (.aload_n 2, 1) := by decide +kernel
theorem dX3_write_76 : decode cX3_write 76 = .ok (.iconst 0, 1) := by decide +kernel
theorem dX3_write_77 : decode cX3_write 77 = .ok (.aload_n 2, 1) := by decide +kernel
theorem dX3_write_78 : decode cX3_write 78 = .ok (.invokevirtual 52, 3) := by decide +kernel
theorem dX3_write_81 : decode cX3_write 81 = .ok (.aload_n 3, 1) := by decide +kernel
theorem dX3_write_82 : decode cX3_write 82 = .ok (.invokestatic 71, 3) := by decide +kernel
theorem dX3_write_85 : decode cX3_write 85 = .ok (.return_, 1) := by decide +kernel
theorem dX3_copy_0 : decode cX3_copy 0 = .ok (.iload_n 1, 1) := by decide +kernel
theorem dX3_copy_1 : decode cX3_copy 1 = .ok (.istore 4, 2) := by decide +kernel
theorem dX3_copy_3 : decode cX3_copy 3 = .ok (.iload 4, 2) := by decide +kernel
theorem dX3_copy_5 : decode cX3_copy 5 = .ok (.iload_n 2, 1) := by decide +kernel
theorem dX3_copy_6 : decode cX3_copy 6 = .ok (.if_icmp .ge 19, 3) := by decide +kernel
theorem dX3_copy_9 : decode cX3_copy 9 = .ok (.aload_n 3, 1) := by decide +kernel
theorem dX3_copy_10 : decode cX3_copy 10 = .ok (.aload_n 0, 1) := by decide +kernel
theorem dX3_copy_11 : decode cX3_copy 11 = .ok (.iload 4, 2) := by decide +kernel
theorem dX3_copy_13 : decode cX3_copy 13 = .ok (.invokevirtual 75, 3) := by decide +kernel
theorem dX3_copy_16 : decode cX3_copy 16 = .ok (.invokevirtual 79, 3) := by decide +kernel
theorem dX3_copy_19 : decode cX3_copy 19 = .ok (.iinc 4 1, 3) := by decide +kernel
theorem dX3_copy_22 : decode cX3_copy 22 = .ok (.goto (-19), 3) := by decide +kernel
theorem dX3_copy_25 : decode cX3_copy 25 = .ok (.return_, 1) := by decide +kernel
theorem dX3_writePlain_0 : decode cX3_writePlain 0 = .ok (.aload_n 3, 1) := by decide +kernel
theorem dX3_writePlain_1 : decode cX3_writePlain 1 = .ok (.iload_n 2, 1) := by decide +kernel
theorem dX3_writePlain_2 : decode cX3_writePlain 2 = .ok (.iload_n 1, 1) := by decide +kernel
theorem dX3_writePlain_3 : decode cX3_writePlain 3 = .ok (.isub, 1) := by decide +kernel
theorem dX3_writePlain_4 : decode cX3_writePlain 4 = .ok (.iconst 1, 1) := by decide +kernel
theorem dX3_writePlain_5 : decode cX3_writePlain 5 = .ok (.isub, 1) := by decide +kernel
theorem dX3_writePlain_6 : decode cX3_writePlain 6 = .ok (.invokevirtual 79, 3) := by decide +kernel
theorem dX3_writePlain_9 : decode cX3_writePlain 9 = .ok (.aload_n 0, 1) := by decide +kernel
theorem dX3_writePlain_10 : decode cX3_writePlain 10 = .ok (.iload_n 1, 1) := by decide +kernel
theorem dX3_writePlain_11 : decode cX3_writePlain 11 = .ok (.iload_n 2, 1) := by decide +kernel
theorem dX3_writePlain_12 : decode cX3_writePlain 12 = .ok (.aload_n 3, 1) := by decide +kernel
theorem dX3_writePlain_13 : decode cX3_writePlain 13 = .ok (.invokestatic 71, 3) := by decide +kernel
theorem dX3_writePlain_16 : decode cX3_writePlain 16 = .ok (.return_, 1) := by decide +kernel
theorem dX3_writeRuns_0 : decode cX3_writeRuns 0 = .ok (.aload_n 0, 1) := by decide +kernel
theorem dX3_writeRuns_1 : decode cX3_writeRuns 1 = .ok (.invokevirtual 52, 3) := by decide +kernel
theorem dX3_writeRuns_4 : decode cX3_writeRuns 4 = .ok (.istore_n 2, 1) := by decide +kernel
theorem dX3_writeRuns_5 : decode cX3_writeRuns 5 = .ok (.iconst 0, 1) := by decide +kernel
theorem dX3_writeRuns_6 : decode cX3_writeRuns 6 = .ok (.istore_n 3, 1) := by decide +kernel
theorem dX3_writeRuns_7 : decode cX3_writeRuns 7 = .ok (.iconst 0, 1) := by decide +kernel
theorem dX3_writeRuns_8 : decode cX3_writeRuns 8 = .ok (.istore 4, 2) := by decide +kernel
theorem dX3_writeRuns_10 : decode cX3_writeRuns 10 = .ok (.iload 4, 2) := by decide +kernel
theorem dX3_writeRuns_12 : decode cX3_writeRuns 12 = .ok (.iload_n 2, 1) := by decide +kernel
theorem dX3_writeRuns_13 : decode cX3_writeRuns 13 = .ok (.if_icmp .ge 103, 3) := by decide +kernel
theorem dX3_writeRuns_16 : decode cX3_writeRuns 16 = .ok (.iload_n 3, 1) := by decide +kernel
theorem dX3_writeRuns_17 : decode cX3_writeRuns 17 = .ok (.iload_n 2, 1) := by decide +kernel
theorem dX3_writeRuns_18 : decode cX3_writeRuns 18 = .ok (.if_icmp .ge 98, 3) := by decide +kernel
theorem dX3_writeRuns_21 : decode cX3_writeRuns 21 = .ok (.aload_n 0, 1) := by decide +kernel
theorem dX3_writeRuns_22 : decode cX3_writeRuns 22 = .ok (.iload_n 3, 1) := by decide +kernel
theorem dX3_writeRuns_23 : decode cX3_writeRuns 23 = .ok (.sipush 129, 3) := by decide +kernel
theorem dX3_writeRuns_26 : decode cX3_writeRuns 26 = .ok (.invokestatic 83, 3) := by decide +kernel
theorem dX3_writeRuns_29 : decode cX3_writeRuns 29 = .ok (.istore 5, 2) := by decide +kernel
theorem dX3_writeRuns_31 : decode cX3_writeRuns 31 = .ok (.iload_n 3, 1) := by decide +kernel
theorem dX3_writeRuns_32 : decode cX3_writeRuns 32 = .ok (.iload 5, 2) := by decide +kernel
theorem dX3_writeRuns_34 : decode cX3_writeRuns 34 = .ok (.iadd, 1) := by decide +kernel
theorem dX3_writeRuns_35 : decode cX3_writeRuns 35 = .ok (.istore 6, 2) := by decide +kernel
theorem dX3_writeRuns_37 : decode cX3_writeRuns 37 = .ok (.iload 5, 2) := by decide +kernel
theorem dX3_writeRuns_39 : decode cX3_writeRuns 39 = .ok (.iconst 2, 1) := by decide +kernel
theorem dX3_writeRuns_40 : decode cX3_writeRuns 40 = .ok (.if_icmp .lt 24, 3) := by decide +kernel
theorem dX3_writeRuns_43 : decode cX3_writeRuns 43 = .ok (.aload_n 1, 1) := by decide +kernel
theorem dX3_writeRuns_44 : decode cX3_writeRuns 44 = .ok (.iload 5, 2) := by decide +kernel
theorem dX3_writeRuns_46 : decode cX3_writeRuns 46 = .ok (.bipush 126, 2) := by decide +kernel
theorem dX3_writeRuns_48 : decode cX3_writeRuns 48 = .ok (.iadd, 1) := by decide +kernel
theorem dX3_writeRuns_49 : decode cX3_writeRuns 49 = .ok (.invokevirtual 79, 3) := by decide +kernel
theorem dX3_writeRuns_52 : decode cX3_writeRuns 52 = .ok (.aload_n 1, 1) := by decide +kernel
theorem dX3_writeRuns_53 : decode cX3_writeRuns 53 = .ok (.aload_n 0, 1) := by decide +kernel
theorem dX3_writeRuns_54 : decode cX3_writeRuns 54 = .ok (.iload_n 3, 1) := by decide +kernel
theorem dX3_writeRuns_55 : decode cX3_writeRuns 55 = .ok (.invokevirtual 75, 3) := by decide +kernel
theorem dX3_writeRuns_58 : decode cX3_writeRuns 58 = .ok (.invokevirtual 79, 3) := by decide +kernel
theorem dX3_writeRuns_61 : decode cX3_writeRuns 61 = .ok (.goto 46, 3) := by decide +kernel
theorem dX3_writeRuns_64 : decode cX3_writeRuns 64 = .ok (.iload_n 2, 1) := by decide +kernel
theorem dX3_writeRuns_65 : decode cX3_writeRuns 65 = .ok (.iload_n 3, 1) := by decide +kernel
theorem dX3_writeRuns_66 : decode cX3_writeRuns 66 = .ok (.sipush 128, 3) := by decide +kernel
theorem dX3_writeRuns_69 : decode cX3_writeRuns 69 = .ok (.iadd, 1) := by decide +kernel
theorem dX3_writeRuns_70 : decode cX3_writeRuns 70 = .ok (.invokestatic 87, 3) := by decide +kernel
theorem dX3_writeRuns_73 : decode cX3_writeRuns 73 = .ok (.istore 7, 2) := by decide +kernel
theorem dX3_writeRuns_75 : decode cX3_writeRuns 75 = .ok (.iload 6, 2) := by decide +kernel
theorem dX3_writeRuns_77 : decode cX3_writeRuns 77 = .ok (.iload 7, 2) := by decide +kernel
theorem dX3_writeRuns_79 : decode cX3_writeRuns 79 = .ok (.if_icmp .ge 20, 3) := by decide +kernel
theorem dX3_writeRuns_82 : decode cX3_writeRuns 82 = .ok (.aload_n 0, 1) := by decide +kernel
theorem dX3_writeRuns_83 : decode cX3_writeRuns 83 = .ok (.iload 6, 2) := by decide +kernel
theorem dX3_writeRuns_85 : decode cX3_writeRuns 85 = .ok (.iconst 3, 1) := by decide +kernel
theorem dX3_writeRuns_86 : decode cX3_writeRuns 86 = .ok (.invokestatic 83, 3) := by decide +kernel
theorem dX3_writeRuns_89 : decode cX3_writeRuns 89 = .ok (.iconst 3, 1) := by decide +kernel
theorem dX3_writeRuns_90 : decode cX3_writeRuns 90 = .ok (.if_icmp .ge 9, 3) := by decide +kernel
theorem dX3_writeRuns_93 : decode cX3_writeRuns 93 = .ok (.iinc 6 1, 3) := by decide +kernel
theorem dX3_writeRuns_96 : decode cX3_writeRuns 96 = .ok (.goto (-21), 3) := by decide +kernel
theorem dX3_writeRuns_99 : decode cX3_writeRuns 99 = .ok (.aload_n 0, 1) := by decide +kernel
theorem dX3_writeRuns_100 : decode cX3_writeRuns 100 = .ok (.iload_n 3, 1) := by decide +kernel
theorem dX3_writeRuns_101 : decode cX3_writeRuns 101 = .ok (.iload 6, 2) := by decide +kernel
theorem dX3_writeRuns_103 : decode cX3_writeRuns 103 = .ok (.aload_n 1, 1) := by decide +kernel
theorem dX3_writeRuns_104 : decode cX3_writeRuns 104 = .ok (.invokestatic 93, 3) := by decide +kernel
theorem dX3_writeRuns_107 : decode cX3_writeRuns 107 = .ok (.iload 6, 2) := by decide +kernel
theorem dX3_writeRuns_109 : decode cX3_writeRuns 109 = .ok (.istore_n 3, 1) := by decide +kernel
theorem dX3_writeRuns_110 : decode cX3_writeRuns 110 = .ok (.iinc 4 1, 3) := by decide +kernel
theorem dX3_writeRuns_113 : decode cX3_writeRuns 113 = .ok (.goto (-103), 3) := by decide +kernel
theorem dX3_writeRuns_116 : decode cX3_writeRuns 116 = .ok (.return_, 1) := by decide +kernel
theorem dX3_runAt_0 : decode cX3_runAt 0 = .ok (.aload_n 0, 1) := by decide +kernel
theorem dX3_runAt_1 : decode cX3_runAt 1 = .ok (.invokevirtual 52, 3) := by decide +kernel
theorem dX3_runAt_4 : decode cX3_runAt 4 = .ok (.iload_n 1, 1) := by decide +kernel
theorem dX3_runAt_5 : decode cX3_runAt 5 = .ok (.iload_n 2, 1) := by decide +kernel
theorem dX3_runAt_6 : decode cX3_runAt 6 = .ok (.iadd, 1) := by decide +kernel
theorem dX3_runAt_7 : decode cX3_runAt 7 = .ok (.invokestatic 87, 3) := by decide +kernel
theorem dX3_runAt_10 : decode cX3_runAt 10 = .ok (.istore_n 3, 1) := by decide +kernel
theorem dX3_runAt_11 : decode cX3_runAt 11 = .ok (.iload_n 1, 1) := by decide +kernel
theorem dX3_runAt_12 : decode cX3_runAt 12 = .ok (.iconst 1, 1) := by decide +kernel
theorem dX3_runAt_13 : decode cX3_runAt 13 = .ok (.iadd, 1) := by decide +kernel
theorem dX3_runAt_14 : decode cX3_runAt 14 = .ok (.istore 4, 2) := by decide +kernel
theorem dX3_runAt_16 : decode cX3_runAt 16 = .ok (.iload 4, 2) := by decide +kernel
theorem dX3_runAt_18 : decode cX3_runAt 18 = .ok (.iload_n 3, 1) := by decide +kernel
theorem dX3_runAt_19 : decode cX3_runAt 19 = .ok (.if_icmp .ge 23, 3) := by decide +kernel
theorem dX3_runAt_22 : decode cX3_runAt 22 = .ok (.aload_n 0, 1) := by decide +kernel
theorem dX3_runAt_23 : decode cX3_runAt 23 = .ok (.iload 4, 2) := by decide +kernel
theorem dX3_runAt_25 : decode cX3_runAt 25 = .ok (.invokevirtual 75, 3) := by decide +kernel
theorem dX3_runAt_28 : decode cX3_runAt 28 = .ok (.aload_n 0, 1) := by decide +kernel
theorem dX3_runAt_29 : decode cX3_runAt 29 = .ok (.iload_n 1, 1) := by decide +kernel
theorem dX3_runAt_30 : decode cX3_runAt 30 = .ok (.invokevirtual 75, 3) := by decide +kernel
theorem dX3_runAt_33 : decode cX3_runAt 33 = .ok (.if_icmp .ne 9, 3) := by decide +kernel
theorem dX3_runAt_36 : decode cX3_runAt 36 = .ok (.iinc 4 1, 3) := by decide +kernel
theorem dX3_runAt_39 : decode cX3_runAt 39 = .ok (.goto (-23), 3) := by decide +kernel
theorem dX3_runAt_42 : decode cX3_runAt 42 = .ok (.iload 4, 2) := by decide +kernel
theorem dX3_runAt_44 : decode cX3_runAt 44 = .ok (.iload_n 1, 1) := by decide +kernel
theorem dX3_runAt_45 : decode cX3_runAt 45 = .ok (.isub, 1) := by decide +kernel
theorem dX3_runAt_46 : decode cX3_runAt 46 = .ok (.ireturn, 1) := by decide +kernel
theorem dX3_writeBits_0 : decode cX3_writeBits 0 = .ok (.aload_n 1, 1) := by decide +kernel
theorem dX3_writeBits_1 : decode cX3_writeBits 1 = .ok (.aload_n 0, 1) := by decide +kernel
theorem dX3_writeBits_2 : decode cX3_writeBits 2 = .ok (.getfield 9, 3) := by decide +kernel
theorem dX3_writeBits_5 : decode cX3_writeBits 5 = .ok (.invokevirtual 96, 3) := by decide +kernel
theorem dX3_writeBits_8 : decode cX3_writeBits 8 = .ok (.istore_n 3, 1) := by decide +kernel
theorem dX3_writeBits_9 : decode cX3_writeBits 9 = .ok (.aload_n 2, 1) := by decide +kernel
theorem dX3_writeBits_10 : decode cX3_writeBits 10 = .ok (.iload_n 3, 1) := by decide +kernel
theorem dX3_writeBits_11 : decode cX3_writeBits 11 = .ok (.iconst 1, 1) := by decide +kernel
theorem dX3_writeBits_12 : decode cX3_writeBits 12 = .ok (.isub, 1) := by decide +kernel
theorem dX3_writeBits_13 : decode cX3_writeBits 13 = .ok (.invokevirtual 79, 3) := by decide +kernel
theorem dX3_writeBits_16 : decode cX3_writeBits 16 = .ok (.iconst 0, 1) := by decide +kernel
theorem dX3_writeBits_17 : decode cX3_writeBits 17 = .ok (.istore 4, 2) := by decide +kernel
theorem dX3_writeBits_19 : decode cX3_writeBits 19 = .ok (.iconst 0, 1) := by decide +kernel
theorem dX3_writeBits_20 : decode cX3_writeBits 20 = .ok (.istore 5, 2) := by decide +kernel
theorem dX3_writeBits_22 : decode cX3_writeBits 22 = .ok (.iload 5, 2) := by decide +kernel
theorem dX3_writeBits_24 : decode cX3_writeBits 24 = .ok (.sipush 256, 3) := by decide +kernel
theorem dX3_writeBits_27 : decode cX3_writeBits 27 = .ok (.if_icmp .ge 37, 3) := by decide +kernel
theorem dX3_writeBits_30 : decode cX3_writeBits 30 = .ok (.aload_n 0, 1) := by decide +kernel
theorem dX3_writeBits_31 : decode cX3_writeBits 31 = .ok (.getfield 9, 3) := by decide +kernel
theorem dX3_writeBits_34 : decode cX3_writeBits 34 = .ok (.iload 5, 2) := by decide +kernel
theorem dX3_writeBits_36 : decode cX3_writeBits 36 = .ok (.iaload, 1) := by decide +kernel
theorem dX3_writeBits_37 : decode cX3_writeBits 37 = .ok (.ifCond .le 21, 3) := by decide +kernel
theorem dX3_writeBits_40 : decode cX3_writeBits 40 = .ok (.aload_n 2, 1) := by decide +kernel
theorem dX3_writeBits_41 : decode cX3_writeBits 41 = .ok (.iload 5, 2) := by decide +kernel
theorem dX3_writeBits_43 : decode cX3_writeBits 43 = .ok (.invokevirtual 79, 3) := by decide +kernel
theorem dX3_writeBits_46 : decode cX3_writeBits 46 = .ok (.aload_n 0, 1) := by decide +kernel
theorem dX3_writeBits_47 : decode cX3_writeBits 47 = .ok (.getfield 15, 3) := by decide +kernel
theorem dX3_writeBits_50 : decode cX3_writeBits 50 = .ok (.iload 5, 2) := by decide +kernel
theorem dX3_writeBits_52 : decode cX3_writeBits 52 = .ok (.iload 4, 2) := by decide +kernel
theorem dX3_writeBits_54 : decode cX3_writeBits 54 = .ok (.iastore, 1) := by decide +kernel
theorem dX3_writeBits_55 : decode cX3_writeBits 55 = .ok (.iinc 4 1, 3) := by decide +kernel
theorem dX3_writeBits_58 : decode cX3_writeBits 58 = .ok (.iinc 5 1, 3) := by decide +kernel
theorem dX3_writeBits_61 : decode cX3_writeBits 61 = .ok (.goto (-39), 3) := by decide +kernel
theorem dX3_writeBits_64 : decode cX3_writeBits 64 = .ok (.iload_n 3, 1) := by decide +kernel
theorem dX3_writeBits_65 : decode cX3_writeBits 65 = .ok (.iconst 1, 1) := by decide +kernel
theorem dX3_writeBits_66 : decode cX3_writeBits 66 = .ok (.isub, 1) := by decide +kernel
theorem dX3_writeBits_67 : decode cX3_writeBits 67 = .ok (.invokestatic 100, 3) := by decide +kernel
theorem dX3_writeBits_70 : decode cX3_writeBits 70 = .ok (.istore 5, 2) := by decide +kernel
theorem dX3_writeBits_72 : decode cX3_writeBits 72 = .ok (.iconst 0, 1) := by decide +kernel
theorem dX3_writeBits_73 : decode cX3_writeBits 73 = .ok (.istore 6, 2) := by decide +kernel
theorem dX3_writeBits_75 : decode cX3_writeBits 75 = .ok (.iload 6, 2) := by decide +kernel
theorem dX3_writeBits_77 : decode cX3_writeBits 77 = .ok (.aload_n 1, 1) := by decide +kernel
theorem dX3_writeBits_78 : decode cX3_writeBits 78 = .ok (.invokevirtual 52, 3) := by decide +kernel
theorem dX3_writeBits_81 : decode cX3_writeBits 81 = .ok (.if_icmp .ge 34, 3) := by decide +kernel
theorem dX3_writeBits_84 : decode cX3_writeBits 84 = .ok (.aload_n 0, 1) := by decide +kernel
theorem dX3_writeBits_85 : decode cX3_writeBits 85 = .ok (.getfield 27, 3) := by decide +kernel
theorem dX3_writeBits_88 : decode cX3_writeBits 88 = .ok (.aload_n 0, 1) := by decide +kernel
theorem dX3_writeBits_89 : decode cX3_writeBits 89 = .ok (.getfield 15, 3) := by decide +kernel
theorem dX3_writeBits_92 : decode cX3_writeBits 92 = .ok (.aload_n 1, 1) := by decide +kernel
theorem dX3_writeBits_93 : decode cX3_writeBits 93 = .ok (.iload 6, 2) := by decide +kernel
theorem dX3_writeBits_95 : decode cX3_writeBits 95 = .ok (.invokevirtual 75, 3) := by decide +kernel
theorem dX3_writeBits_98 : decode cX3_writeBits 98 = .ok (.sipush 255, 3) := by decide +kernel
theorem dX3_writeBits_101 : decode cX3_writeBits 101 = .ok (.iand, 1) := by decide +kernel
theorem dX3_writeBits_102 : decode cX3_writeBits 102 = .ok (.iaload, 1) := by decide +kernel
theorem dX3_writeBits_103 : decode cX3_writeBits 103 = .ok (.iload 5, 2) := by decide +kernel
theorem dX3_writeBits_105 : decode cX3_writeBits 105 = .ok (.aload_n 2, 1) := by decide +kernel
theorem dX3_writeBits_106 : decode cX3_writeBits 106 = .ok (.invokevirtual 103, 3) := by decide +kernel
theorem dX3_writeBits_109 : decode cX3_writeBits 109 = .ok (.iinc 6 1, 3) := by decide +kernel
theorem dX3_writeBits_112 : decode cX3_writeBits 112 = .ok (.goto (-37), 3) := by decide +kernel
theorem dX3_writeBits_115 : decode cX3_writeBits 115 = .ok (.aload_n 0, 1) := by decide +kernel
theorem dX3_writeBits_116 : decode cX3_writeBits 116 = .ok (.getfield 27, 3) := by decide +kernel
theorem dX3_writeBits_119 : decode cX3_writeBits 119 = .ok (.aload_n 2, 1) := by decide +kernel
theorem dX3_writeBits_120 : decode cX3_writeBits 120 = .ok (.invokevirtual 107, 3) := by decide +kernel
theorem dX3_writeBits_123 : decode cX3_writeBits 123 = .ok (.return_, 1) := by decide +kernel
theorem dX3_widthOf_0 : decode cX3_widthOf 0 = .ok (.iconst 0, 1) := by decide +kernel
theorem dX3_widthOf_1 : decode cX3_widthOf 1 = .ok (.istore_n 1, 1) := by decide +kernel
theorem dX3_widthOf_2 : decode cX3_widthOf 2 = .ok (.iload_n 1, 1) := by decide +kernel
theorem dX3_widthOf_3 : decode cX3_widthOf 3 = .ok (.bipush 8, 2) := by decide +kernel
theorem dX3_widthOf_5 : decode cX3_widthOf 5 = .ok (.if_icmp .ge 15, 3) := by decide +kernel
theorem dX3_widthOf_8 : decode cX3_widthOf 8 = .ok (.iload_n 0, 1) := by decide +kernel
theorem dX3_widthOf_9 : decode cX3_widthOf 9 = .ok (.iload_n 1, 1) := by decide +kernel
theorem dX3_widthOf_10 : decode cX3_widthOf 10 = .ok (.ishr, 1) := by decide +kernel
theorem dX3_widthOf_11 : decode cX3_widthOf 11 = .ok (.ifCond .le 9, 3) := by decide +kernel
theorem dX3_widthOf_14 : decode cX3_widthOf 14 = .ok (.iinc 1 1, 3) := by decide +kernel
theorem dX3_widthOf_17 : decode cX3_widthOf 17 = .ok (.goto (-15), 3) := by decide +kernel
theorem dX3_widthOf_20 : decode cX3_widthOf 20 = .ok (.iload_n 1, 1) := by decide +kernel
theorem dX3_widthOf_21 : decode cX3_widthOf 21 = .ok (.ireturn, 1) := by decide +kernel
theorem dX3_writePrefix_0 : decode cX3_writePrefix 0 = .ok (.aload_n 2, 1) := by decide +kernel
theorem dX3_writePrefix_1 : decode cX3_writePrefix 1 = .ok (.aload_n 1, 1) := by decide +kernel
theorem dX3_writePrefix_2 : decode cX3_writePrefix 2 = .ok (.aload_n 0, 1) := by decide +kernel
theorem dX3_writePrefix_3 : decode cX3_writePrefix 3 = .ok (.getfield 9, 3) := by decide +kernel
theorem dX3_writePrefix_6 : decode cX3_writePrefix 6 = .ok (.invokevirtual 96, 3) := by decide +kernel
theorem dX3_writePrefix_9 : decode cX3_writePrefix 9 = .ok (.iconst 1, 1) := by decide +kernel
theorem dX3_writePrefix_10 : decode cX3_writePrefix 10 = .ok (.isub, 1) := by decide +kernel
theorem dX3_writePrefix_11 : decode cX3_writePrefix 11 = .ok (.invokevirtual 79, 3) := by decide +kernel
theorem dX3_writePrefix_14 : decode cX3_writePrefix 14 = .ok (.aload_n 0, 1) := by decide +kernel
theorem dX3_writePrefix_15 : decode cX3_writePrefix 15 = .ok (.getfield 34, 3) := by decide +kernel
theorem dX3_writePrefix_18 : decode cX3_writePrefix 18 = .ok (.aload_n 0, 1) := by decide +kernel
theorem dX3_writePrefix_19 : decode cX3_writePrefix 19 = .ok (.getfield 9, 3) := by decide +kernel
theorem dX3_writePrefix_22 : decode cX3_writePrefix 22 = .ok (.aload_n 0, 1) := by decide +kernel
theorem dX3_writePrefix_23 : decode cX3_writePrefix 23 = .ok (.getfield 41, 3) := by decide +kernel
theorem dX3_writePrefix_26 : decode cX3_writePrefix 26 = .ok (.invokevirtual 111, 3) := by decide +kernel
theorem dX3_writePrefix_29 : decode cX3_writePrefix 29 = .ok (.aload_n 0, 1) := by decide +kernel
theorem dX3_writePrefix_30 : decode cX3_writePrefix 30 = .ok (.getfield 41, 3) := by decide +kernel
theorem dX3_writePrefix_33 : decode cX3_writePrefix 33 = .ok (.invokevirtual 115, 3) := by decide +kernel
theorem dX3_writePrefix_36 : decode cX3_writePrefix 36 = .ok (.iconst 0, 1) := by decide +kernel
theorem dX3_writePrefix_37 : decode cX3_writePrefix 37 = .ok (.istore_n 3, 1) := by decide +kernel
theorem dX3_writePrefix_38 : decode cX3_writePrefix 38 = .ok (.iload_n 3, 1) := by decide +kernel
theorem dX3_writePrefix_39 : decode cX3_writePrefix 39 = .ok (.sipush 256, 3) := by decide +kernel
theorem dX3_writePrefix_42 : decode cX3_writePrefix 42 = .ok (.if_icmp .ge 35, 3) := by decide +kernel
theorem dX3_writePrefix_45 : decode cX3_writePrefix 45 = .ok (.aload_n 0, 1) := by decide +kernel
theorem dX3_writePrefix_46 : decode cX3_writePrefix 46 = .ok (.getfield 9, 3) := by decide +kernel
theorem dX3_writePrefix_49 : decode cX3_writePrefix 49 = .ok (.iload_n 3, 1) := by decide +kernel
theorem dX3_writePrefix_50 : decode cX3_writePrefix 50 = .ok (.iaload, 1) := by decide +kernel
theorem dX3_writePrefix_51 : decode cX3_writePrefix 51 = .ok (.ifCond .le 20, 3) := by decide +kernel
theorem dX3_writePrefix_54 : decode cX3_writePrefix 54 = .ok (.aload_n 2, 1) := by decide +kernel
theorem dX3_writePrefix_55 : decode cX3_writePrefix 55 = .ok (.iload_n 3, 1) := by decide +kernel
theorem dX3_writePrefix_56 : decode cX3_writePrefix 56 = .ok (.invokevirtual 79, 3) := by decide +kernel
theorem dX3_writePrefix_59 : decode cX3_writePrefix 59 = .ok (.aload_n 2, 1) := by decide +kernel
theorem dX3_writePrefix_60 : decode cX3_writePrefix 60 = .ok (.aload_n 0, 1) := by decide +kernel
theorem dX3_writePrefix_61 : decode cX3_writePrefix 61 = .ok (.getfield 41, 3) := by decide +kernel
theorem dX3_writePrefix_64 : decode cX3_writePrefix 64 = .ok (.iload_n 3, 1) := by decide +kernel
theorem dX3_writePrefix_65 : decode cX3_writePrefix 65 = .ok (.invokevirtual 118, 3) := by decide +kernel
theorem dX3_writePrefix_68 : decode cX3_writePrefix 68 = .ok (.invokevirtual 79, 3) := by decide +kernel
theorem dX3_writePrefix_71 : decode cX3_writePrefix 71 = .ok (.iinc 3 1, 3) := by decide +kernel
theorem dX3_writePrefix_74 : decode cX3_writePrefix 74 = .ok (.goto (-36), 3) := by decide +kernel
theorem dX3_writePrefix_77 : decode cX3_writePrefix 77 = .ok (.iconst 0, 1) := by decide +kernel
theorem dX3_writePrefix_78 : decode cX3_writePrefix 78 = .ok (.istore_n 3, 1) := by decide +kernel
theorem dX3_writePrefix_79 : decode cX3_writePrefix 79 = .ok (.iload_n 3, 1) := by decide +kernel
theorem dX3_writePrefix_80 : decode cX3_writePrefix 80 = .ok (.aload_n 1, 1) := by decide +kernel
theorem dX3_writePrefix_81 : decode cX3_writePrefix 81 = .ok (.invokevirtual 52, 3) := by decide +kernel
theorem dX3_writePrefix_84 : decode cX3_writePrefix 84 = .ok (.if_icmp .ge 42, 3) := by decide +kernel
theorem dX3_writePrefix_87 : decode cX3_writePrefix 87 = .ok (.aload_n 1, 1) := by decide +kernel
theorem dX3_writePrefix_88 : decode cX3_writePrefix 88 = .ok (.iload_n 3, 1) := by decide +kernel
theorem dX3_writePrefix_89 : decode cX3_writePrefix 89 = .ok (.invokevirtual 75, 3) := by decide +kernel
theorem dX3_writePrefix_92 : decode cX3_writePrefix 92 = .ok (.istore 4, 2) := by decide +kernel
theorem dX3_writePrefix_94 : decode cX3_writePrefix 94 = .ok (.aload_n 0, 1) := by decide +kernel
theorem dX3_writePrefix_95 : decode cX3_writePrefix 95 = .ok (.getfield 27, 3) := by decide +kernel
theorem dX3_writePrefix_98 : decode cX3_writePrefix 98 = .ok (.aload_n 0, 1) := by decide +kernel
theorem dX3_writePrefix_99 : decode cX3_writePrefix 99 = .ok (.getfield 41, 3) := by decide +kernel
theorem dX3_writePrefix_102 : decode cX3_writePrefix 102 = .ok (.iload 4, 2) := by decide +kernel
theorem dX3_writePrefix_104 : decode cX3_writePrefix 104 = .ok (.invokevirtual 121, 3) := by decide +kernel
theorem dX3_writePrefix_107 : decode cX3_writePrefix 107 = .ok (.aload_n 0, 1) := by decide +kernel
theorem dX3_writePrefix_108 : decode cX3_writePrefix 108 = .ok (.getfield 41, 3) := by decide +kernel
theorem dX3_writePrefix_111 : decode cX3_writePrefix 111 = .ok (.iload 4, 2) := by decide +kernel
theorem dX3_writePrefix_113 : decode cX3_writePrefix 113 = .ok (.invokevirtual 118, 3) := by decide +kernel
theorem dX3_writePrefix_116 : decode cX3_writePrefix 116 = .ok (.aload_n 2, 1) := by decide +kernel
theorem dX3_writePrefix_117 : decode cX3_writePrefix 117 = .ok (.invokevirtual 103, 3) := by decide +kernel
theorem dX3_writePrefix_120 : decode cX3_writePrefix 120 = .ok (.iinc 3 1, 3) := by decide +kernel
theorem dX3_writePrefix_123 : decode cX3_writePrefix 123 = .ok (.goto (-44), 3) := by decide +kernel
theorem dX3_writePrefix_126 : decode cX3_writePrefix 126 = .ok (.aload_n 0, 1) := by decide +kernel
theorem dX3_writePrefix_127 : decode cX3_writePrefix 127 = .ok (.getfield 27, 3) := by decide +kernel
theorem dX3_writePrefix_130 : decode cX3_writePrefix 130 = .ok (.aload_n 2, 1) := by decide +kernel
theorem dX3_writePrefix_131 : decode cX3_writePrefix 131 = .ok (.invokevirtual 107, 3) := by decide +kernel
theorem dX3_writePrefix_134 : decode cX3_writePrefix 134 = .ok (.return_, 1) := by decide +kernel
theorem dX3_writeMatches_0 : decode cX3_writeMatches 0 = .ok (.aload_n 0, 1) := by decide +kernel
theorem dX3_writeMatches_1 : decode cX3_writeMatches 1 = .ok (.aload_n 1, 1) := by decide +kernel
theorem dX3_writeMatches_2 : decode cX3_writeMatches 2 = .ok (.invokevirtual 124, 3) := by decide +kernel
theorem dX3_writeMatches_5 : decode cX3_writeMatches 5 = .ok (.aload_n 1, 1) := by decide +kernel
theorem dX3_writeMatches_6 : decode cX3_writeMatches 6 = .ok (.invokevirtual 52, 3) := by decide +kernel
theorem dX3_writeMatches_9 : decode cX3_writeMatches 9 = .ok (.istore_n 3, 1) := by decide +kernel
theorem dX3_writeMatches_10 : decode cX3_writeMatches 10 = .ok (.iconst 0, 1) := by decide +kernel
theorem dX3_writeMatches_11 : decode cX3_writeMatches 11 = .ok (.istore 4, 2) := by decide +kernel
theorem dX3_writeMatches_13 : decode cX3_writeMatches 13 = .ok (.iconst 0, 1) := by decide +kernel
theorem dX3_writeMatches_14 : decode cX3_writeMatches 14 = .ok (.istore 5, 2) := by decide +kernel
theorem dX3_writeMatches_16 : decode cX3_writeMatches 16 = .ok (.iload 5, 2) := by decide +kernel
theorem dX3_writeMatches_18 : decode cX3_writeMatches 18 = .ok (.iload_n 3, 1) := by decide +kernel
theorem dX3_writeMatches_19 : decode cX3_writeMatches 19 = .ok (.if_icmp .ge 87, 3) := by decide +kernel
theorem dX3_writeMatches_22 : decode cX3_writeMatches 22 = .ok (.iload 4, 2) := by decide +kernel
theorem dX3_writeMatches_24 : decode cX3_writeMatches 24 = .ok (.iload_n 3, 1) := by decide +kernel
theorem dX3_writeMatches_25 : decode cX3_writeMatches 25 = .ok (.if_icmp .ge 81, 3) := by decide +kernel
theorem dX3_writeMatches_28 : decode cX3_writeMatches 28 = .ok (.aload_n 0, 1) := by decide +kernel
theorem dX3_writeMatches_29 : decode cX3_writeMatches 29 = .ok (.aload_n 1, 1) := by decide +kernel
theorem dX3_writeMatches_30 : decode cX3_writeMatches 30 = .ok (.iload 4, 2) := by decide +kernel
theorem dX3_writeMatches_32 : decode cX3_writeMatches 32 = .ok (.invokevirtual 127, 3) := by decide +kernel
theorem dX3_writeMatches_35 : decode cX3_writeMatches 35 = .ok (.iload 4, 2) := by decide +kernel
theorem dX3_writeMatches_37 : decode cX3_writeMatches 37 = .ok (.aload_n 0, 1) := by decide +kernel
theorem dX3_writeMatches_38 : decode cX3_writeMatches 38 = .ok (.getfield 45, 3) := by decide +kernel
theorem dX3_writeMatches_41 : decode cX3_writeMatches 41 = .ok (.iconst 1, 1) := by decide +kernel
theorem dX3_writeMatches_42 : decode cX3_writeMatches 42 = .ok (.invokestatic 131, 3) := by decide +kernel
theorem dX3_writeMatches_45 : decode cX3_writeMatches 45 = .ok (.iadd, 1) := by decide +kernel
theorem dX3_writeMatches_46 : decode cX3_writeMatches 46 = .ok (.istore 6, 2) := by decide +kernel
theorem dX3_writeMatches_48 : decode cX3_writeMatches 48 = .ok (.aload_n 0, 1) := by decide +kernel
theorem dX3_writeMatches_49 : decode cX3_writeMatches 49 = .ok (.getfield 45, 3) := by decide +kernel
theorem dX3_writeMatches_52 : decode cX3_writeMatches 52 = .ok (.iconst 3, 1) := by decide +kernel
theorem dX3_writeMatches_53 : decode cX3_writeMatches 53 = .ok (.if_icmp .lt 25, 3) := by decide +kernel
theorem dX3_writeMatches_56 : decode cX3_writeMatches 56 = .ok (.aload_n 2, 1) := by decide +kernel
theorem dX3_writeMatches_57 : decode cX3_writeMatches 57 = .ok (.aload_n 0, 1) := by decide +kernel
theorem dX3_writeMatches_58 : decode cX3_writeMatches 58 = .ok (.getfield 45, 3) := by decide +kernel
theorem dX3_writeMatches_61 : decode cX3_writeMatches 61 = .ok (.bipush 125, 2) := by decide +kernel
theorem dX3_writeMatches_63 : decode cX3_writeMatches 63 = .ok (.iadd, 1) := by decide +kernel
theorem dX3_writeMatches_64 : decode cX3_writeMatches 64 = .ok (.invokevirtual 79, 3) := by decide +kernel
theorem dX3_writeMatches_67 : decode cX3_writeMatches 67 = .ok (.aload_n 2, 1) := by decide +kernel
theorem dX3_writeMatches_68 : decode cX3_writeMatches 68 = .ok (.aload_n 0, 1) := by decide +kernel
theorem dX3_writeMatches_69 : decode cX3_writeMatches 69 = .ok (.getfield 49, 3) := by decide +kernel
theorem dX3_writeMatches_72 : decode cX3_writeMatches 72 = .ok (.invokevirtual 79, 3) := by decide +kernel
theorem dX3_writeMatches_75 : decode cX3_writeMatches 75 = .ok (.goto 21, 3) := by decide +kernel
theorem dX3_writeMatches_78 : decode cX3_writeMatches 78 = .ok (.aload_n 0, 1) := by decide +kernel
theorem dX3_writeMatches_79 : decode cX3_writeMatches 79 = .ok (.aload_n 1, 1) := by decide +kernel
theorem dX3_writeMatches_80 : decode cX3_writeMatches 80 = .ok (.iload 4, 2) := by decide +kernel
theorem dX3_writeMatches_82 : decode cX3_writeMatches 82 = .ok (.invokevirtual 134, 3) := by decide +kernel
theorem dX3_writeMatches_85 : decode cX3_writeMatches 85 = .ok (.istore 6, 2) := by decide +kernel
theorem dX3_writeMatches_87 : decode cX3_writeMatches 87 = .ok (.aload_n 1, 1) := by decide +kernel
theorem dX3_writeMatches_88 : decode cX3_writeMatches 88 = .ok (.iload 4, 2) := by decide +kernel
theorem dX3_writeMatches_90 : decode cX3_writeMatches 90 = .ok (.iload 6, 2) := by decide +kernel
theorem dX3_writeMatches_92 : decode cX3_writeMatches 92 = .ok (.aload_n 2, 1) := by decide +kernel
theorem dX3_writeMatches_93 : decode cX3_writeMatches 93 = .ok (.invokestatic 93, 3) := by decide +kernel
theorem dX3_writeMatches_96 : decode cX3_writeMatches 96 = .ok (.iload 6, 2) := by decide +kernel
theorem dX3_writeMatches_98 : decode cX3_writeMatches 98 = .ok (.istore 4, 2) := by decide +kernel
theorem dX3_writeMatches_100 : decode cX3_writeMatches 100 = .ok (.iinc 5 1, 3) := by decide +kernel
theorem dX3_writeMatches_103 : decode cX3_writeMatches 103 = .ok (.goto (-87), 3) := by decide +kernel
theorem dX3_writeMatches_106 : decode cX3_writeMatches 106 = .ok (.return_, 1) := by decide +kernel
theorem dX3_endOfPlain_0 : decode cX3_endOfPlain 0 = .ok (.aload_n 1, 1) := by decide +kernel
theorem dX3_endOfPlain_1 : decode cX3_endOfPlain 1 = .ok (.invokevirtual 52, 3) := by decide +kernel
theorem dX3_endOfPlain_4 : decode cX3_endOfPlain 4 = .ok (.iload_n 2, 1) := by decide +kernel
theorem dX3_endOfPlain_5 : decode cX3_endOfPlain 5 = .ok (.sipush 128, 3) := by decide +kernel
theorem dX3_endOfPlain_8 : decode cX3_endOfPlain 8 = .ok (.iadd, 1) := by decide +kernel
theorem dX3_endOfPlain_9 : decode cX3_endOfPlain 9 = .ok (.invokestatic 87, 3) := by decide +kernel
theorem dX3_endOfPlain_12 : decode cX3_endOfPlain 12 = .ok (.istore_n 3, 1) := by decide +kernel
theorem dX3_endOfPlain_13 : decode cX3_endOfPlain 13 = .ok (.iload_n 2, 1) := by decide +kernel
theorem dX3_endOfPlain_14 : decode cX3_endOfPlain 14 = .ok (.iconst 1, 1) := by decide +kernel
theorem dX3_endOfPlain_15 : decode cX3_endOfPlain 15 = .ok (.iadd, 1) := by decide +kernel
theorem dX3_endOfPlain_16 : decode cX3_endOfPlain 16 = .ok (.istore 4, 2) := by decide +kernel
theorem dX3_endOfPlain_18 : decode cX3_endOfPlain 18 = .ok (.iload 4, 2) := by decide +kernel
theorem dX3_endOfPlain_20 : decode cX3_endOfPlain 20 = .ok (.iload_n 3, 1) := by decide +kernel
theorem dX3_endOfPlain_21 : decode cX3_endOfPlain 21 = .ok (.if_icmp .ge 27, 3) := by decide +kernel
theorem dX3_endOfPlain_24 : decode cX3_endOfPlain 24 = .ok (.aload_n 0, 1) := by decide +kernel
theorem dX3_endOfPlain_25 : decode cX3_endOfPlain 25 = .ok (.aload_n 1, 1) := by decide +kernel
theorem dX3_endOfPlain_26 : decode cX3_endOfPlain 26 = .ok (.iload 4, 2) := by decide +kernel
theorem dX3_endOfPlain_28 : decode cX3_endOfPlain 28 = .ok (.invokevirtual 127, 3) := by decide +kernel
theorem dX3_endOfPlain_31 : decode cX3_endOfPlain 31 = .ok (.aload_n 0, 1) := by decide +kernel
theorem dX3_endOfPlain_32 : decode cX3_endOfPlain 32 = .ok (.getfield 45, 3) := by decide +kernel
theorem dX3_endOfPlain_35 : decode cX3_endOfPlain 35 = .ok (.iconst 3, 1) := by decide +kernel
theorem dX3_endOfPlain_36 : decode cX3_endOfPlain 36 = .ok (.if_icmp .lt 6, 3) := by decide +kernel
theorem dX3_endOfPlain_39 : decode cX3_endOfPlain 39 = .ok (.goto 9, 3) := by decide +kernel
theorem dX3_endOfPlain_42 : decode cX3_endOfPlain 42 = .ok (.iinc 4 1, 3) := by decide +kernel
theorem dX3_endOfPlain_45 : decode cX3_endOfPlain 45 = .ok (.goto (-27), 3) := by decide +kernel
theorem dX3_endOfPlain_48 : decode cX3_endOfPlain 48 = .ok (.iload 4, 2) := by decide +kernel
theorem dX3_endOfPlain_50 : decode cX3_endOfPlain 50 = .ok (.ireturn, 1) := by decide +kernel
theorem dX3_linkLikeBytes_0 : decode cX3_linkLikeBytes 0 = .ok (.aload_n 0, 1) := by decide +kernel
theorem dX3_linkLikeBytes_1 : decode cX3_linkLikeBytes 1 = .ok (.getfield 18, 3) := by decide +kernel
theorem dX3_linkLikeBytes_4 : decode cX3_linkLikeBytes 4 = .ok (.iconst (-1), 1) := by decide +kernel
theorem dX3_linkLikeBytes_5 : decode cX3_linkLikeBytes 5 = .ok (.invokestatic 138, 3) := by decide +kernel
theorem dX3_linkLikeBytes_8 : decode cX3_linkLikeBytes 8 = .ok (.iconst 0, 1) := by decide +kernel
theorem dX3_linkLikeBytes_9 : decode cX3_linkLikeBytes 9 = .ok (.istore_n 2, 1) := by decide +kernel
theorem dX3_linkLikeBytes_10 : decode cX3_linkLikeBytes 10 = .ok (.iload_n 2, 1) := by decide +kernel
theorem dX3_linkLikeBytes_11 : decode cX3_linkLikeBytes 11 = .ok (.aload_n 1, 1) := by decide +kernel
theorem dX3_linkLikeBytes_12 : decode cX3_linkLikeBytes 12 = .ok (.invokevirtual 52, 3) := by decide +kernel
theorem dX3_linkLikeBytes_15 : decode cX3_linkLikeBytes 15 = .ok (.if_icmp .ge 47, 3) := by decide +kernel
theorem dX3_linkLikeBytes_18 : decode cX3_linkLikeBytes 18 = .ok (.iload_n 2, 1) := by decide +kernel
theorem dX3_linkLikeBytes_19 : decode cX3_linkLikeBytes 19 = .ok (.aload_n 0, 1) := by decide +kernel
theorem dX3_linkLikeBytes_20 : decode cX3_linkLikeBytes 20 = .ok (.getfield 21, 3) := by decide +kernel
theorem dX3_linkLikeBytes_23 : decode cX3_linkLikeBytes 23 = .ok (.arraylength, 1) := by decide +kernel
theorem dX3_linkLikeBytes_24 : decode cX3_linkLikeBytes 24 = .ok (.if_icmp .ge 38, 3) := by decide +kernel
theorem dX3_linkLikeBytes_27 : decode cX3_linkLikeBytes 27 = .ok (.aload_n 1, 1) := by decide +kernel
theorem dX3_linkLikeBytes_28 : decode cX3_linkLikeBytes 28 = .ok (.iload_n 2, 1) := by decide +kernel
theorem dX3_linkLikeBytes_29 : decode cX3_linkLikeBytes 29 = .ok (.invokevirtual 75, 3) := by decide +kernel
theorem dX3_linkLikeBytes_32 : decode cX3_linkLikeBytes 32 = .ok (.sipush 255, 3) := by decide +kernel
theorem dX3_linkLikeBytes_35 : decode cX3_linkLikeBytes 35 = .ok (.iand, 1) := by decide +kernel
theorem dX3_linkLikeBytes_36 : decode cX3_linkLikeBytes 36 = .ok (.istore_n 3, 1) := by decide +kernel
theorem dX3_linkLikeBytes_37 : decode cX3_linkLikeBytes 37 = .ok (.aload_n 0, 1) := by decide +kernel
theorem dX3_linkLikeBytes_38 : decode cX3_linkLikeBytes 38 = .ok (.getfield 21, 3) := by decide +kernel
theorem dX3_linkLikeBytes_41 : decode cX3_linkLikeBytes 41 = .ok (.iload_n 2, 1) := by decide +kernel
theorem dX3_linkLikeBytes_42 : decode cX3_linkLikeBytes 42 = .ok (.aload_n 0, 1) := by decide +kernel
theorem dX3_linkLikeBytes_43 : decode cX3_linkLikeBytes 43 = .ok (.getfield 18, 3) := by decide +kernel
theorem dX3_linkLikeBytes_46 : decode cX3_linkLikeBytes 46 = .ok (.iload_n 3, 1) := by decide +kernel
theorem dX3_linkLikeBytes_47 : decode cX3_linkLikeBytes 47 = .ok (.iaload, 1) := by decide +kernel
theorem dX3_linkLikeBytes_48 : decode cX3_linkLikeBytes 48 = .ok (.iastore, 1) := by decide +kernel
theorem dX3_linkLikeBytes_49 : decode cX3_linkLikeBytes 49 = .ok (.aload_n 0, 1) := by decide +kernel
theorem dX3_linkLikeBytes_50 : decode cX3_linkLikeBytes 50 = .ok (.getfield 18, 3) := by decide +kernel
theorem dX3_linkLikeBytes_53 : decode cX3_linkLikeBytes 53 = .ok (.iload_n 3, 1) := by decide +kernel
theorem dX3_linkLikeBytes_54 : decode cX3_linkLikeBytes 54 = .ok (.iload_n 2, 1) := by decide +kernel
theorem dX3_linkLikeBytes_55 : decode cX3_linkLikeBytes 55 = .ok (.iastore, 1) := by decide +kernel
theorem dX3_linkLikeBytes_56 : decode cX3_linkLikeBytes 56 = .ok (.iinc 2 1, 3) := by decide +kernel
theorem dX3_linkLikeBytes_59 : decode cX3_linkLikeBytes 59 = .ok (.goto (-49), 3) := by decide +kernel
theorem dX3_linkLikeBytes_62 : decode cX3_linkLikeBytes 62 = .ok (.return_, 1) := by decide +kernel
theorem dX3_before_0 : decode cX3_before 0 = .ok (.iload_n 1, 1) := by decide +kernel
theorem dX3_before_1 : decode cX3_before 1 = .ok (.ifCond .lt 21, 3) := by decide +kernel
theorem dX3_before_4 : decode cX3_before 4 = .ok (.iload_n 1, 1) := by decide +kernel
theorem dX3_before_5 : decode cX3_before 5 = .ok (.aload_n 0, 1) := by decide +kernel
theorem dX3_before_6 : decode cX3_before 6 = .ok (.getfield 21, 3) := by decide +kernel
theorem dX3_before_9 : decode cX3_before 9 = .ok (.arraylength, 1) := by decide +kernel
theorem dX3_before_10 : decode cX3_before 10 = .ok (.if_icmp .ge 12, 3) := by decide +kernel
theorem dX3_before_13 : decode cX3_before 13 = .ok (.aload_n 0, 1) := by decide +kernel
theorem dX3_before_14 : decode cX3_before 14 = .ok (.getfield 21, 3) := by decide +kernel
theorem dX3_before_17 : decode cX3_before 17 = .ok (.iload_n 1, 1) := by decide +kernel
theorem dX3_before_18 : decode cX3_before 18 = .ok (.iaload, 1) := by decide +kernel
theorem dX3_before_19 : decode cX3_before 19 = .ok (.goto 4, 3) := by decide +kernel
theorem dX3_before_22 : decode cX3_before 22 = .ok (.iconst (-1), 1) := by decide +kernel
theorem dX3_before_23 : decode cX3_before 23 = .ok (.ireturn, 1) := by decide +kernel
theorem dX3_findMatch_0 : decode cX3_findMatch 0 = .ok (.sipush 130, 3) := by decide +kernel
theorem dX3_findMatch_3 : decode cX3_findMatch 3 = .ok (.aload_n 1, 1) := by decide +kernel
theorem dX3_findMatch_4 : decode cX3_findMatch 4 = .ok (.invokevirtual 52, 3) := by decide +kernel
theorem dX3_findMatch_7 : decode cX3_findMatch 7 = .ok (.iload_n 2, 1) := by decide +kernel
theorem dX3_findMatch_8 : decode cX3_findMatch 8 = .ok (.isub, 1) := by decide +kernel
theorem dX3_findMatch_9 : decode cX3_findMatch 9 = .ok (.invokestatic 87, 3) := by decide +kernel
theorem dX3_findMatch_12 : decode cX3_findMatch 12 = .ok (.istore_n 3, 1) := by decide +kernel
theorem dX3_findMatch_13 : decode cX3_findMatch 13 = .ok (.aload_n 0, 1) := by decide +kernel
theorem dX3_findMatch_14 : decode cX3_findMatch 14 = .ok (.iconst 0, 1) := by decide +kernel
theorem dX3_findMatch_15 : decode cX3_findMatch 15 = .ok (.putfield 45, 3) := by decide +kernel
theorem dX3_findMatch_18 : decode cX3_findMatch 18 = .ok (.aload_n 0, 1) := by decide +kernel
theorem dX3_findMatch_19 : decode cX3_findMatch 19 = .ok (.iconst 0, 1) := by decide +kernel
theorem dX3_findMatch_20 : decode cX3_findMatch 20 = .ok (.putfield 49, 3) := by decide +kernel
theorem dX3_findMatch_23 : decode cX3_findMatch 23 = .ok (.aload_n 0, 1) := by decide +kernel
theorem dX3_findMatch_24 : decode cX3_findMatch 24 = .ok (.iload_n 2, 1) := by decide +kernel
theorem dX3_findMatch_25 : decode cX3_findMatch 25 = .ok (.invokevirtual 144, 3) := by decide +kernel
theorem dX3_findMatch_28 : decode cX3_findMatch 28 = .ok (.istore 4, 2) := by decide +kernel
theorem dX3_findMatch_30 : decode cX3_findMatch 30 = .ok (.iconst 0, 1) := by decide +kernel
theorem dX3_findMatch_31 : decode cX3_findMatch 31 = .ok (.istore 5, 2) := by decide +kernel
theorem dX3_findMatch_33 : decode cX3_findMatch 33 = .ok (.iload 5, 2) := by decide +kernel
theorem dX3_findMatch_35 : decode cX3_findMatch 35 = .ok (.sipush 255, 3) := by decide +kernel
theorem dX3_findMatch_38 : decode cX3_findMatch 38 = .ok (.if_icmp .ge 107, 3) := by decide +kernel
theorem dX3_findMatch_41 : decode cX3_findMatch 41 = .ok (.aload_n 0, 1) := by decide +kernel
theorem dX3_findMatch_42 : decode cX3_findMatch 42 = .ok (.getfield 45, 3) := by decide +kernel
theorem dX3_findMatch_45 : decode cX3_findMatch 45 = .ok (.iload_n 3, 1) := by decide +kernel
theorem dX3_findMatch_46 : decode cX3_findMatch 46 = .ok (.if_icmp .ge 99, 3) := by decide +kernel
theorem dX3_findMatch_49 : decode cX3_findMatch 49 = .ok (.iload 4, 2) := by decide +kernel
theorem dX3_findMatch_51 : decode cX3_findMatch 51 = .ok (.ifCond .lt 94, 3) := by decide +kernel
theorem dX3_findMatch_54 : decode cX3_findMatch 54 = .ok (.iload_n 2, 1) := by decide +kernel
theorem dX3_findMatch_55 : decode cX3_findMatch 55 = .ok (.iload 4, 2) := by decide +kernel
theorem dX3_findMatch_57 : decode cX3_findMatch 57 = .ok (.isub, 1) := by decide +kernel
theorem dX3_findMatch_58 : decode cX3_findMatch 58 = .ok (.sipush 255, 3) := by decide +kernel
theorem dX3_findMatch_61 : decode cX3_findMatch 61 = .ok (.if_icmp .le 6, 3) := by decide +kernel
theorem dX3_findMatch_64 : decode cX3_findMatch 64 = .ok (.goto 81, 3) := by decide +kernel
theorem dX3_findMatch_67 : decode cX3_findMatch 67 = .ok (.iconst 1, 1) := by decide +kernel
theorem dX3_findMatch_68 : decode cX3_findMatch 68 = .ok (.istore 6, 2) := by decide +kernel
theorem dX3_findMatch_70 : decode cX3_findMatch 70 = .ok (.iload 6, 2) := by decide +kernel
theorem dX3_findMatch_72 : decode cX3_findMatch 72 = .ok (.iload_n 3, 1) := by decide +kernel
theorem dX3_findMatch_73 : decode cX3_findMatch 73 = .ok (.if_icmp .ge 29, 3) := by decide +kernel
theorem dX3_findMatch_76 : decode cX3_findMatch 76 = .ok (.aload_n 1, 1) := by decide +kernel
theorem dX3_findMatch_77 : decode cX3_findMatch 77 = .ok (.iload 4, 2) := by decide +kernel
theorem dX3_findMatch_79 : decode cX3_findMatch 79 = .ok (.iload 6, 2) := by decide +kernel
theorem dX3_findMatch_81 : decode cX3_findMatch 81 = .ok (.iadd, 1) := by decide +kernel
theorem dX3_findMatch_82 : decode cX3_findMatch 82 = .ok (.invokevirtual 75, 3) := by decide +kernel
theorem dX3_findMatch_85 : decode cX3_findMatch 85 = .ok (.aload_n 1, 1) := by decide +kernel
theorem dX3_findMatch_86 : decode cX3_findMatch 86 = .ok (.iload_n 2, 1) := by decide +kernel
theorem dX3_findMatch_87 : decode cX3_findMatch 87 = .ok (.iload 6, 2) := by decide +kernel
theorem dX3_findMatch_89 : decode cX3_findMatch 89 = .ok (.iadd, 1) := by decide +kernel
theorem dX3_findMatch_90 : decode cX3_findMatch 90 = .ok (.invokevirtual 75, 3) := by decide +kernel
theorem dX3_findMatch_93 : decode cX3_findMatch 93 = .ok (.if_icmp .ne 9, 3) := by decide +kernel
theorem dX3_findMatch_96 : decode cX3_findMatch 96 = .ok (.iinc 6 1, 3) := by decide +kernel
theorem dX3_findMatch_99 : decode cX3_findMatch 99 = .ok (.goto (-29), 3) := by decide +kernel
theorem dX3_findMatch_102 : decode cX3_findMatch 102 = .ok (.iload 6, 2) := by decide +kernel
theorem dX3_findMatch_104 : decode cX3_findMatch 104 = .ok (.iconst 3, 1) := by decide +kernel
theorem dX3_findMatch_105 : decode cX3_findMatch 105 = .ok (.if_icmp .lt 26, 3) := by decide +kernel
theorem dX3_findMatch_108 : decode cX3_findMatch 108 = .ok (.iload 6, 2) := by decide +kernel
theorem dX3_findMatch_110 : decode cX3_findMatch 110 = .ok (.aload_n 0, 1) := by decide +kernel
theorem dX3_findMatch_111 : decode cX3_findMatch 111 = .ok (.getfield 45, 3) := by decide +kernel
theorem dX3_findMatch_114 : decode cX3_findMatch 114 = .ok (.if_icmp .le 17, 3) := by decide +kernel
theorem dX3_findMatch_117 : decode cX3_findMatch 117 = .ok (.aload_n 0, 1) := by decide +kernel
theorem dX3_findMatch_118 : decode cX3_findMatch 118 = .ok (.iload 6, 2) := by decide +kernel
theorem dX3_findMatch_120 : decode cX3_findMatch 120 = .ok (.putfield 45, 3) := by decide +kernel
theorem dX3_findMatch_123 : decode cX3_findMatch 123 = .ok (.aload_n 0, 1) := by decide +kernel
theorem dX3_findMatch_124 : decode cX3_findMatch 124 = .ok (.iload_n 2, 1) := by decide +kernel
theorem dX3_findMatch_125 : decode cX3_findMatch 125 = .ok (.iload 4, 2) := by decide +kernel
theorem dX3_findMatch_127 : decode cX3_findMatch 127 = .ok (.isub, 1) := by decide +kernel
theorem dX3_findMatch_128 : decode cX3_findMatch 128 = .ok (.putfield 49, 3) := by decide +kernel
theorem dX3_findMatch_131 : decode cX3_findMatch 131 = .ok (.aload_n 0, 1) := by decide +kernel
theorem dX3_findMatch_132 : decode cX3_findMatch 132 = .ok (.iload 4, 2) := by decide +kernel
theorem dX3_findMatch_134 : decode cX3_findMatch 134 = .ok (.invokevirtual 144, 3) := by decide +kernel
theorem dX3_findMatch_137 : decode cX3_findMatch 137 = .ok (.istore 4, 2) := by decide +kernel
theorem dX3_findMatch_139 : decode cX3_findMatch 139 = .ok (.iinc 5 1, 3) := by decide +kernel
theorem dX3_findMatch_142 : decode cX3_findMatch 142 = .ok (.goto (-109), 3) := by decide +kernel
theorem dX3_findMatch_145 : decode cX3_findMatch 145 = .ok (.return_, 1) := by decide +kernel
theorem dX4_init_0 : decode cX4_init 0 = .ok (.aload_n 0, 1) := by decide +kernel
theorem dX4_init_1 : decode cX4_init 1 = .ok (.invokespecial 3, 3) := by decide +kernel
theorem dX4_init_4 : decode cX4_init 4 = .ok (.aload_n 0, 1) := by decide +kernel
theorem dX4_init_5 : decode cX4_init 5 = .ok (.sipush 256, 3) := by decide +kernel
theorem dX4_init_8 : decode cX4_init 8 = .ok (.newarray .int, 2) := by decide +kernel
theorem dX4_init_10 : decode cX4_init 10 = .ok (.putfield 9, 3) := by decide +kernel
theorem dX4_init_13 : decode cX4_init 13 = .ok (.aload_n 0, 1) := by decide +kernel
theorem dX4_init_14 : decode cX4_init 14 = .ok (.sipush 256, 3) := by decide +kernel
theorem dX4_init_17 : decode cX4_init 17 = .ok (.newarray .int, 2) := by decide +kernel
theorem dX4_init_19 : decode cX4_init 19 = .ok (.putfield 15, 3) := by decide +kernel
theorem dX4_init_22 : decode cX4_init 22 = .ok (.aload_n 0, 1) := by decide +kernel
theorem dX4_init_23 : decode cX4_init 23 = .ok (.sipush 256, 3) := by decide +kernel
theorem dX4_init_26 : decode cX4_init 26 = .ok (.newarray .int, 2) := by decide +kernel
theorem dX4_init_28 : decode cX4_init 28 = .ok (.putfield 18, 3) := by decide +kernel
theorem dX4_init_31 : decode cX4_init 31 = .ok (.aload_n 0, 1) := by decide +kernel
theorem dX4_init_32 : decode cX4_init 32 = .ok (.bipush 16, 2) := by decide +kernel
theorem dX4_init_34 : decode cX4_init 34 = .ok (.newarray .int, 2) := by decide +kernel
theorem dX4_init_36 : decode cX4_init 36 = .ok (.putfield 21, 3) := by decide +kernel
theorem dX4_init_39 : decode cX4_init 39 = .ok (.aload_n 0, 1) := by decide +kernel
theorem dX4_init_40 : decode cX4_init 40 = .ok (.bipush 17, 2) := by decide +kernel
theorem dX4_init_42 : decode cX4_init 42 = .ok (.newarray .int, 2) := by decide +kernel
theorem dX4_init_44 : decode cX4_init 44 = .ok (.putfield 24, 3) := by decide +kernel
theorem dX4_init_47 : decode cX4_init 47 = .ok (.aload_n 0, 1) := by decide +kernel
theorem dX4_init_48 : decode cX4_init 48 = .ok (.iconst 0, 1) := by decide +kernel
theorem dX4_init_49 : decode cX4_init 49 = .ok (.putfield 27, 3) := by decide +kernel
theorem dX4_init_52 : decode cX4_init 52 = .ok (.return_, 1) := by decide +kernel
theorem dX4_begin_0 : decode cX4_begin 0 = .ok (.aload_n 0, 1) := by decide +kernel
theorem dX4_begin_1 : decode cX4_begin 1 = .ok (.getfield 9, 3) := by decide +kernel
theorem dX4_begin_4 : decode cX4_begin 4 = .ok (.iconst 0, 1) := by decide +kernel
theorem dX4_begin_5 : decode cX4_begin 5 = .ok (.invokestatic 31, 3) := by decide +kernel
theorem dX4_begin_8 : decode cX4_begin 8 = .ok (.aload_n 0, 1) := by decide +kernel
theorem dX4_begin_9 : decode cX4_begin 9 = .ok (.getfield 21, 3) := by decide +kernel
theorem dX4_begin_12 : decode cX4_begin 12 = .ok (.iconst 0, 1) := by decide +kernel
theorem dX4_begin_13 : decode cX4_begin 13 = .ok (.invokestatic 31, 3) := by decide +kernel
theorem dX4_begin_16 : decode cX4_begin 16 = .ok (.aload_n 0, 1) := by decide +kernel
theorem dX4_begin_17 : decode cX4_begin 17 = .ok (.iconst 0, 1) := by decide +kernel
theorem dX4_begin_18 : decode cX4_begin 18 = .ok (.putfield 27, 3) := by decide +kernel
theorem dX4_begin_21 : decode cX4_begin 21 = .ok (.return_, 1) := by decide +kernel
theorem dX4_give_0 : decode cX4_give 0 = .ok (.iload_n 1, 1) := by decide +kernel
theorem dX4_give_1 : decode cX4_give 1 = .ok (.ifCond .lt 30, 3) := by decide +kernel
theorem dX4_give_4 : decode cX4_give 4 = .ok (.iload_n 1, 1) := by decide +kernel
theorem dX4_give_5 : decode cX4_give 5 = .ok (.sipush 256, 3) := by decide +kernel
theorem dX4_give_8 : decode cX4_give 8 = .ok (.if_icmp .ge 23, 3) := by decide +kernel
theorem dX4_give_11 : decode cX4_give 11 = .ok (.iload_n 2, 1) := by decide +kernel
theorem dX4_give_12 : decode cX4_give 12 = .ok (.iconst 1, 1) := by decide +kernel
theorem dX4_give_13 : decode cX4_give 13 = .ok (.if_icmp .lt 18, 3) := by decide +kernel
theorem dX4_give_16 : decode cX4_give 16 = .ok (.iload_n 2, 1) := by decide +kernel
theorem dX4_give_17 : decode cX4_give 17 = .ok (.bipush 15, 2) := by decide +kernel
theorem dX4_give_19 : decode cX4_give 19 = .ok (.if_icmp .gt 12, 3) := by decide +kernel
theorem dX4_give_22 : decode cX4_give 22 = .ok (.aload_n 0, 1) := by decide +kernel
theorem dX4_give_23 : decode cX4_give 23 = .ok (.getfield 9, 3) := by decide +kernel
theorem dX4_give_26 : decode cX4_give 26 = .ok (.iload_n 1, 1) := by decide +kernel
theorem dX4_give_27 : decode cX4_give 27 = .ok (.iaload, 1) := by decide +kernel
theorem dX4_give_28 : decode cX4_give 28 = .ok (.ifCond .le 4, 3) := by decide +kernel
theorem dX4_give_31 : decode cX4_give 31 = .ok (.return_, 1) := by decide +kernel
theorem dX4_give_32 : decode cX4_give 32 = .ok (.aload_n 0, 1) := by decide +kernel
theorem dX4_give_33 : decode cX4_give 33 = .ok (.getfield 9, 3) := by decide +kernel
theorem dX4_give_36 : decode cX4_give 36 = .ok (.iload_n 1, 1) := by decide +kernel
theorem dX4_give_37 : decode cX4_give 37 = .ok (.iload_n 2, 1) := by decide +kernel
theorem dX4_give_38 : decode cX4_give 38 = .ok (.iastore, 1) := by decide +kernel
theorem dX4_give_39 : decode cX4_give 39 = .ok (.aload_n 0, 1) := by decide +kernel
theorem dX4_give_40 : decode cX4_give 40 = .ok (.getfield 21, 3) := by decide +kernel
theorem dX4_give_43 : decode cX4_give 43 = .ok (.iload_n 2, 1) := by decide +kernel
theorem dX4_give_44 : decode cX4_give 44 = .ok (.dup2, 1) := by decide +kernel
theorem dX4_give_45 : decode cX4_give 45 = .ok (.iaload, 1) := by decide +kernel
theorem dX4_give_46 : decode cX4_give 46 = .ok (.iconst 1, 1) := by decide +kernel
theorem dX4_give_47 : decode cX4_give 47 = .ok (.iadd, 1) := by decide +kernel
theorem dX4_give_48 : decode cX4_give 48 = .ok (.iastore, 1) := by decide +kernel
theorem dX4_give_49 : decode cX4_give 49 = .ok (.aload_n 0, 1) := by decide +kernel
theorem dX4_give_50 : decode cX4_give 50 = .ok (.dup, 1) := by decide +kernel
theorem dX4_give_51 : decode cX4_give 51 = .ok (.getfield 27, 3) := by decide +kernel
theorem dX4_give_54 : decode cX4_give 54 = .ok (.iconst 1, 1) := by decide +kernel
theorem dX4_give_55 : decode cX4_give 55 = .ok (.iadd, 1) := by decide +kernel
theorem dX4_give_56 : decode cX4_give 56 = .ok (.putfield 27, 3) := by decide +kernel
theorem dX4_give_59 : decode cX4_give 59 = .ok (.return_, 1) := by decide +kernel
theorem dX4_lengthOf_0 : decode cX4_lengthOf 0 = .ok (.aload_n 0, 1) := by decide +kernel
theorem dX4_lengthOf_1 : decode cX4_lengthOf 1 = .ok (.getfield 9, 3) := by decide +kernel
theorem dX4_lengthOf_4 : decode cX4_lengthOf 4 = .ok (.iload_n 1, 1) := by decide +kernel
theorem dX4_lengthOf_5 : decode cX4_lengthOf 5 = .ok (.sipush 255, 3) := by decide +kernel
theorem dX4_lengthOf_8 : decode cX4_lengthOf 8 = .ok (.iand, 1) := by decide +kernel
theorem dX4_lengthOf_9 : decode cX4_lengthOf 9 = .ok (.iaload, 1) := by decide +kernel
theorem dX4_lengthOf_10 : decode cX4_lengthOf 10 = .ok (.ireturn, 1) := by decide +kernel
theorem dX4_codeOf_0 : decode cX4_codeOf 0 = .ok (.aload_n 0, 1) := by decide +kernel
theorem dX4_codeOf_1 : decode cX4_codeOf 1 = .ok (.getfield 15, 3) := by decide +kernel
theorem dX4_codeOf_4 : decode cX4_codeOf 4 = .ok (.iload_n 1, 1) := by decide +kernel
theorem dX4_codeOf_5 : decode cX4_codeOf 5 = .ok (.sipush 255, 3) := by decide +kernel
theorem dX4_codeOf_8 : decode cX4_codeOf 8 = .ok (.iand, 1) := by decide +kernel
theorem dX4_codeOf_9 : decode cX4_codeOf 9 = .ok (.iaload, 1) := by decide +kernel
theorem dX4_codeOf_10 : decode cX4_codeOf 10 = .ok (.ireturn, 1) := by decide +kernel
theorem dX4_isWhole_0 : decode cX4_isWhole 0 = .ok (.aload_n 0, 1) := by decide +kernel
theorem dX4_isWhole_1 : decode cX4_isWhole 1 = .ok (.getfield 27, 3) := by decide +kernel
theorem dX4_isWhole_4 : decode cX4_isWhole 4 = .ok (.iconst 1, 1) := by decide +kernel
theorem dX4_isWhole_5 : decode cX4_isWhole 5 = .ok (.if_icmp .ne 19, 3) := by decide +kernel
theorem dX4_isWhole_8 : decode cX4_isWhole 8 = .ok (.aload_n 0, 1) := by decide +kernel
theorem dX4_isWhole_9 : decode cX4_isWhole 9 = .ok (.getfield 21, 3) := by decide +kernel
theorem dX4_isWhole_12 : decode cX4_isWhole 12 = .ok (.iconst 1, 1) := by decide +kernel
theorem dX4_isWhole_13 : decode cX4_isWhole 13 = .ok (.iaload, 1) := by decide +kernel
theorem dX4_isWhole_14 : decode cX4_isWhole 14 = .ok (.iconst 1, 1) := by decide +kernel
theorem dX4_isWhole_15 : decode cX4_isWhole 15 = .ok (.if_icmp .ne 7, 3) := by decide +kernel
theorem dX4_isWhole_18 : decode cX4_isWhole 18 = .ok (.iconst 1, 1) := by decide +kernel
theorem dX4_isWhole_19 : decode cX4_isWhole 19 = .ok (.goto 4, 3) := by decide +kernel
theorem dX4_isWhole_22 : decode cX4_isWhole 22 = .ok (.iconst 0, 1) := by decide +kernel
theorem dX4_isWhole_23 : decode cX4_isWhole 23 = .ok (.ireturn, 1) := by decide +kernel
theorem dX4_isWhole_24 : decode cX4_isWhole 24 = .ok (.iconst 0, 1) := by decide +kernel
theorem dX4_isWhole_25 : decode cX4_isWhole 25 = .ok (.istore_n 1, 1) := by decide +kernel
theorem dX4_isWhole_26 : decode cX4_isWhole 26 = .ok (.iconst 1, 1) := by decide +kernel
theorem dX4_isWhole_27 : decode cX4_isWhole 27 = .ok (.istore_n 2, 1) := by decide +kernel
theorem dX4_isWhole_28 : decode cX4_isWhole 28 = .ok (.iload_n 2, 1) := by decide +kernel
theorem dX4_isWhole_29 : decode cX4_isWhole 29 = .ok (.bipush 15, 2) := by decide +kernel
theorem dX4_isWhole_31 : decode cX4_isWhole 31 = .ok (.if_icmp .gt 23, 3) := by decide +kernel
theorem dX4_isWhole_34 : decode cX4_isWhole 34 = .ok (.iload_n 1, 1) := by decide +kernel
theorem dX4_isWhole_35 : decode cX4_isWhole 35 = .ok (.aload_n 0, 1) := by decide +kernel
theorem dX4_isWhole_36 : decode cX4_isWhole 36 = .ok (.getfield 21, 3) := by decide +kernel
theorem dX4_isWhole_39 : decode cX4_isWhole 39 = .ok (.iload_n 2, 1) := by decide +kernel
theorem dX4_isWhole_40 : decode cX4_isWhole 40 = .ok (.iaload, 1) := by decide +kernel
theorem dX4_isWhole_41 : decode cX4_isWhole 41 = .ok (.bipush 15, 2) := by decide +kernel
theorem dX4_isWhole_43 : decode cX4_isWhole 43 = .ok (.iload_n 2, 1) := by decide +kernel
theorem dX4_isWhole_44 : decode cX4_isWhole 44 = .ok (.isub, 1) := by decide +kernel
theorem dX4_isWhole_45 : decode cX4_isWhole 45 = .ok (.ishl, 1) := by decide +kernel
theorem dX4_isWhole_46 : decode cX4_isWhole 46 = .ok (.iadd, 1) := by decide +kernel
theorem dX4_isWhole_47 : decode cX4_isWhole 47 = .ok (.istore_n 1, 1) := by decide +kernel
theorem dX4_isWhole_48 : decode cX4_isWhole 48 = .ok (.iinc 2 1, 3) := by decide +kernel
theorem dX4_isWhole_51 : decode cX4_isWhole 51 = .ok (.goto (-23), 3) := by decide +kernel
theorem dX4_isWhole_54 : decode cX4_isWhole 54 = .ok (.iload_n 1, 1) := by decide +kernel
theorem dX4_isWhole_55 : decode cX4_isWhole 55 = .ok (.ldc 37, 2) := by decide +kernel
theorem dX4_isWhole_57 : decode cX4_isWhole 57 = .ok (.if_icmp .ne 7, 3) := by decide +kernel
theorem dX4_isWhole_60 : decode cX4_isWhole 60 = .ok (.iconst 1, 1) := by decide +kernel
theorem dX4_isWhole_61 : decode cX4_isWhole 61 = .ok (.goto 4, 3) := by decide +kernel
theorem dX4_isWhole_64 : decode cX4_isWhole 64 = .ok (.iconst 0, 1) := by decide +kernel
theorem dX4_isWhole_65 : decode cX4_isWhole 65 = .ok (.ireturn, 1) := by decide +kernel
theorem dX4_assign_0 : decode cX4_assign 0 = .ok (.aload_n 0, 1) := by decide +kernel
theorem dX4_assign_1 : decode cX4_assign 1 = .ok (.invokevirtual 38, 3) := by decide +kernel
theorem dX4_assign_4 : decode cX4_assign 4 = .ok (.iconst 0, 1) := by decide +kernel
theorem dX4_assign_5 : decode cX4_assign 5 = .ok (.istore_n 1, 1) := by decide +kernel
theorem dX4_assign_6 : decode cX4_assign 6 = .ok (.iconst 0, 1) := by decide +kernel
theorem dX4_assign_7 : decode cX4_assign 7 = .ok (.istore_n 2, 1) := by decide +kernel
theorem dX4_assign_8 : decode cX4_assign 8 = .ok (.iconst 0, 1) := by decide +kernel
theorem dX4_assign_9 : decode cX4_assign 9 = .ok (.istore_n 3, 1) := by decide +kernel
theorem dX4_assign_10 : decode cX4_assign 10 = .ok (.iload_n 3, 1) := by decide +kernel
theorem dX4_assign_11 : decode cX4_assign 11 = .ok (.aload_n 0, 1) := by decide +kernel
theorem dX4_assign_12 : decode cX4_assign 12 = .ok (.getfield 27, 3) := by decide +kernel
theorem dX4_assign_15 : decode cX4_assign 15 = .ok (.if_icmp .ge 63, 3) := by decide +kernel
theorem dX4_assign_18 : decode cX4_assign 18 = .ok (.iload_n 3, 1) := by decide +kernel
theorem dX4_assign_19 : decode cX4_assign 19 = .ok (.sipush 256, 3) := by decide +kernel
theorem dX4_assign_22 : decode cX4_assign 22 = .ok (.if_icmp .ge 56, 3) := by decide +kernel
theorem dX4_assign_25 : decode cX4_assign 25 = .ok (.aload_n 0, 1) := by decide +kernel
theorem dX4_assign_26 : decode cX4_assign 26 = .ok (.getfield 18, 3) := by decide +kernel
theorem dX4_assign_29 : decode cX4_assign 29 = .ok (.iload_n 3, 1) := by decide +kernel
theorem dX4_assign_30 : decode cX4_assign 30 = .ok (.iaload, 1) := by decide +kernel
theorem dX4_assign_31 : decode cX4_assign 31 = .ok (.sipush 255, 3) := by decide +kernel
theorem dX4_assign_34 : decode cX4_assign 34 = .ok (.iand, 1) := by decide +kernel
theorem dX4_assign_35 : decode cX4_assign 35 = .ok (.istore 4, 2) := by decide +kernel
theorem dX4_assign_37 : decode cX4_assign 37 = .ok (.iload_n 1, 1) := by decide +kernel
theorem dX4_assign_38 : decode cX4_assign 38 = .ok (.iconst 0, 1) := by decide +kernel
theorem dX4_assign_39 : decode cX4_assign 39 = .ok (.aload_n 0, 1) := by decide +kernel
theorem dX4_assign_40 : decode cX4_assign 40 = .ok (.getfield 9, 3) := by decide +kernel
theorem dX4_assign_43 : decode cX4_assign 43 = .ok (.iload 4, 2) := by decide +kernel
theorem dX4_assign_45 : decode cX4_assign 45 = .ok (.iaload, 1) := by decide +kernel
theorem dX4_assign_46 : decode cX4_assign 46 = .ok (.iload_n 2, 1) := by decide +kernel
theorem dX4_assign_47 : decode cX4_assign 47 = .ok (.isub, 1) := by decide +kernel
theorem dX4_assign_48 : decode cX4_assign 48 = .ok (.invokestatic 41, 3) := by decide +kernel
theorem dX4_assign_51 : decode cX4_assign 51 = .ok (.ishl, 1) := by decide +kernel
theorem dX4_assign_52 : decode cX4_assign 52 = .ok (.istore_n 1, 1) := by decide +kernel
theorem dX4_assign_53 : decode cX4_assign 53 = .ok (.aload_n 0, 1) := by decide +kernel
theorem dX4_assign_54 : decode cX4_assign 54 = .ok (.getfield 15, 3) := by decide +kernel
theorem dX4_assign_57 : decode cX4_assign 57 = .ok (.iload 4, 2) := by decide +kernel
theorem dX4_assign_59 : decode cX4_assign 59 = .ok (.iload_n 1, 1) := by decide +kernel
theorem dX4_assign_60 : decode cX4_assign 60 = .ok (.iastore, 1) := by decide +kernel
theorem dX4_assign_61 : decode cX4_assign 61 = .ok (.iinc 1 1, 3) := by decide +kernel
theorem dX4_assign_64 : decode cX4_assign 64 = .ok (.aload_n 0, 1) := by decide +kernel
theorem dX4_assign_65 : decode cX4_assign 65 = .ok (.getfield 9, 3) := by decide +kernel
theorem dX4_assign_68 : decode cX4_assign 68 = .ok (.iload 4, 2) := by decide +kernel
theorem dX4_assign_70 : decode cX4_assign 70 = .ok (.iaload, 1) := by decide +kernel
theorem dX4_assign_71 : decode cX4_assign 71 = .ok (.istore_n 2, 1) := by decide +kernel
theorem dX4_assign_72 : decode cX4_assign 72 = .ok (.iinc 3 1, 3) := by decide +kernel
theorem dX4_assign_75 : decode cX4_assign 75 = .ok (.goto (-65), 3) := by decide +kernel
theorem dX4_assign_78 : decode cX4_assign 78 = .ok (.return_, 1) := by decide +kernel
theorem dX4_rank_0 : decode cX4_rank 0 = .ok (.aload_n 0, 1) := by decide +kernel
theorem dX4_rank_1 : decode cX4_rank 1 = .ok (.getfield 24, 3) := by decide +kernel
theorem dX4_rank_4 : decode cX4_rank 4 = .ok (.iconst 0, 1) := by decide +kernel
theorem dX4_rank_5 : decode cX4_rank 5 = .ok (.iconst 0, 1) := by decide +kernel
theorem dX4_rank_6 : decode cX4_rank 6 = .ok (.iastore, 1) := by decide +kernel
theorem dX4_rank_7 : decode cX4_rank 7 = .ok (.iconst 0, 1) := by decide +kernel
theorem dX4_rank_8 : decode cX4_rank 8 = .ok (.istore_n 1, 1) := by decide +kernel
theorem dX4_rank_9 : decode cX4_rank 9 = .ok (.iload_n 1, 1) := by decide +kernel
theorem dX4_rank_10 : decode cX4_rank 10 = .ok (.bipush 15, 2) := by decide +kernel
theorem dX4_rank_12 : decode cX4_rank 12 = .ok (.if_icmp .gt 30, 3) := by decide +kernel
theorem dX4_rank_15 : decode cX4_rank 15 = .ok (.aload_n 0, 1) := by decide +kernel
theorem dX4_rank_16 : decode cX4_rank 16 = .ok (.getfield 24, 3) := by decide +kernel
theorem dX4_rank_19 : decode cX4_rank 19 = .ok (.iload_n 1, 1) := by decide +kernel
theorem dX4_rank_20 : decode cX4_rank 20 = .ok (.iconst 1, 1) := by decide +kernel
theorem dX4_rank_21 : decode cX4_rank 21 = .ok (.iadd, 1) := by decide +kernel
theorem dX4_rank_22 : decode cX4_rank 22 = .ok (.aload_n 0, 1) := by decide +kernel
theorem dX4_rank_23 : decode cX4_rank 23 = .ok (.getfield 24, 3) := by decide +kernel
theorem dX4_rank_26 : decode cX4_rank 26 = .ok (.iload_n 1, 1) := by decide +kernel
theorem dX4_rank_27 : decode cX4_rank 27 = .ok (.iaload, 1) := by decide +kernel
theorem dX4_rank_28 : decode cX4_rank 28 = .ok (.aload_n 0, 1) := by decide +kernel
theorem dX4_rank_29 : decode cX4_rank 29 = .ok (.getfield 21, 3) := by decide +kernel
theorem dX4_rank_32 : decode cX4_rank 32 = .ok (.iload_n 1, 1) := by decide +kernel
theorem dX4_rank_33 : decode cX4_rank 33 = .ok (.iaload, 1) := by decide +kernel
theorem dX4_rank_34 : decode cX4_rank 34 = .ok (.iadd, 1) := by decide +kernel
theorem dX4_rank_35 : decode cX4_rank 35 = .ok (.iastore, 1) := by decide +kernel
theorem dX4_rank_36 : decode cX4_rank 36 = .ok (.iinc 1 1, 3) := by decide +kernel
theorem dX4_rank_39 : decode cX4_rank 39 = .ok (.goto (-30), 3) := by decide +kernel
theorem dX4_rank_42 : decode cX4_rank 42 = .ok (.iconst 0, 1) := by decide +kernel
theorem dX4_rank_43 : decode cX4_rank 43 = .ok (.istore_n 1, 1) := by decide +kernel
theorem dX4_rank_44 : decode cX4_rank 44 = .ok (.iload_n 1, 1) := by decide +kernel
theorem dX4_rank_45 : decode cX4_rank 45 = .ok (.sipush 256, 3) := by decide +kernel
theorem dX4_rank_48 : decode cX4_rank 48 = .ok (.if_icmp .ge 57, 3) := by decide +kernel
theorem dX4_rank_51 : decode cX4_rank 51 = .ok (.aload_n 0, 1) := by decide +kernel
theorem dX4_rank_52 : decode cX4_rank 52 = .ok (.getfield 9, 3) := by decide +kernel
theorem dX4_rank_55 : decode cX4_rank 55 = .ok (.iload_n 1, 1) := by decide +kernel
theorem dX4_rank_56 : decode cX4_rank 56 = .ok (.iaload, 1) := by decide +kernel
theorem dX4_rank_57 : decode cX4_rank 57 = .ok (.bipush 15, 2) := by decide +kernel
theorem dX4_rank_59 : decode cX4_rank 59 = .ok (.iand, 1) := by decide +kernel
theorem dX4_rank_60 : decode cX4_rank 60 = .ok (.istore_n 2, 1) := by decide +kernel
theorem dX4_rank_61 : decode cX4_rank 61 = .ok (.iload_n 2, 1) := by decide +kernel
theorem dX4_rank_62 : decode cX4_rank 62 = .ok (.ifCond .le 37, 3) := by decide +kernel
theorem dX4_rank_65 : decode cX4_rank 65 = .ok (.aload_n 0, 1) := by decide +kernel
theorem dX4_rank_66 : decode cX4_rank 66 = .ok (.getfield 24, 3) := by decide +kernel
theorem dX4_rank_69 : decode cX4_rank 69 = .ok (.iload_n 2, 1) := by decide +kernel
theorem dX4_rank_70 : decode cX4_rank 70 = .ok (.iaload, 1) := by decide +kernel
theorem dX4_rank_71 : decode cX4_rank 71 = .ok (.sipush 256, 3) := by decide +kernel
theorem dX4_rank_74 : decode cX4_rank 74 = .ok (.if_icmp .ge 25, 3) := by decide +kernel
theorem dX4_rank_77 : decode cX4_rank 77 = .ok (.aload_n 0, 1) := by decide +kernel
theorem dX4_rank_78 : decode cX4_rank 78 = .ok (.getfield 18, 3) := by decide +kernel
theorem dX4_rank_81 : decode cX4_rank 81 = .ok (.aload_n 0, 1) := by decide +kernel
theorem dX4_rank_82 : decode cX4_rank 82 = .ok (.getfield 24, 3) := by decide +kernel
theorem dX4_rank_85 : decode cX4_rank 85 = .ok (.iload_n 2, 1) := by decide +kernel
theorem dX4_rank_86 : decode cX4_rank 86 = .ok (.iaload, 1) := by decide +kernel
theorem dX4_rank_87 : decode cX4_rank 87 = .ok (.iload_n 1, 1) := by decide +kernel
theorem dX4_rank_88 : decode cX4_rank 88 = .ok (.iastore, 1) := by decide +kernel
theorem dX4_rank_89 : decode cX4_rank 89 = .ok (.aload_n 0, 1) := by decide +kernel
theorem dX4_rank_90 : decode cX4_rank 90 = .ok (.getfield 24, 3) := by decide +kernel
theorem dX4_rank_93 : decode cX4_rank 93 = .ok (.iload_n 2, 1) := by decide +kernel
theorem dX4_rank_94 : decode cX4_rank 94 = .ok (.dup2, 1) := by decide +kernel
theorem dX4_rank_95 : decode cX4_rank 95 = .ok (.iaload, 1) := by decide +kernel
theorem dX4_rank_96 : decode cX4_rank 96 = .ok (.iconst 1, 1) := by decide +kernel
theorem dX4_rank_97 : decode cX4_rank 97 = .ok (.iadd, 1) := by decide +kernel
theorem dX4_rank_98 : decode cX4_rank 98 = .ok (.iastore, 1) := by decide +kernel
theorem dX4_rank_99 : decode cX4_rank 99 = .ok (.iinc 1 1, 3) := by decide +kernel
theorem dX4_rank_102 : decode cX4_rank 102 = .ok (.goto (-58), 3) := by decide +kernel
theorem dX4_rank_105 : decode cX4_rank 105 = .ok (.return_, 1) := by decide +kernel
theorem dX4_readFrom_0 : decode cX4_readFrom 0 = .ok (.iconst 0, 1) := by decide +kernel
theorem dX4_readFrom_1 : decode cX4_readFrom 1 = .ok (.istore_n 2, 1) := by decide +kernel
theorem dX4_readFrom_2 : decode cX4_readFrom 2 = .ok (.iconst 0, 1) := by decide +kernel
theorem dX4_readFrom_3 : decode cX4_readFrom 3 = .ok (.istore_n 3, 1) := by decide +kernel
theorem dX4_readFrom_4 : decode cX4_readFrom 4 = .ok (.iconst 0, 1) := by decide +kernel
theorem dX4_readFrom_5 : decode cX4_readFrom 5 = .ok (.istore 4, 2) := by decide +kernel
theorem dX4_readFrom_7 : decode cX4_readFrom 7 = .ok (.iconst 1, 1) := by decide +kernel
theorem dX4_readFrom_8 : decode cX4_readFrom 8 = .ok (.istore 5, 2) := by decide +kernel
theorem dX4_readFrom_10 : decode cX4_readFrom 10 = .ok (.iload 5, 2) := by decide +kernel
theorem dX4_readFrom_12 : decode cX4_readFrom 12 = .ok (.bipush 15, 2) := by decide +kernel
theorem dX4_readFrom_14 : decode cX4_readFrom 14 = .ok (.if_icmp .gt 94, 3) := by decide +kernel
theorem dX4_readFrom_17 : decode cX4_readFrom 17 = .ok (.aload_n 1, 1) := by decide +kernel
theorem dX4_readFrom_18 : decode cX4_readFrom 18 = .ok (.invokevirtual 47, 3) := by decide +kernel
theorem dX4_readFrom_21 : decode cX4_readFrom 21 = .ok (.ifCond .eq 87, 3) := by decide +kernel
theorem dX4_readFrom_24 : decode cX4_readFrom 24 = .ok (.iload_n 2, 1) := by decide +kernel
theorem dX4_readFrom_25 : decode cX4_readFrom 25 = .ok (.iconst 1, 1) := by decide +kernel
theorem dX4_readFrom_26 : decode cX4_readFrom 26 = .ok (.ishl, 1) := by decide +kernel
theorem dX4_readFrom_27 : decode cX4_readFrom 27 = .ok (.aload_n 1, 1) := by decide +kernel
theorem dX4_readFrom_28 : decode cX4_readFrom 28 = .ok (.invokevirtual 53, 3) := by decide +kernel
theorem dX4_readFrom_31 : decode cX4_readFrom 31 = .ok (.ior, 1) := by decide +kernel
theorem dX4_readFrom_32 : decode cX4_readFrom 32 = .ok (.istore_n 2, 1) := by decide +kernel
theorem dX4_readFrom_33 : decode cX4_readFrom 33 = .ok (.iload_n 2, 1) := by decide +kernel
theorem dX4_readFrom_34 : decode cX4_readFrom 34 = .ok (.iload_n 3, 1) := by decide +kernel
theorem dX4_readFrom_35 : decode cX4_readFrom 35 = .ok (.isub, 1) := by decide +kernel
theorem dX4_readFrom_36 : decode cX4_readFrom 36 = .ok (.istore 6, 2) := by decide +kernel
theorem dX4_readFrom_38 : decode cX4_readFrom 38 = .ok (.iload 6, 2) := by decide +kernel
theorem dX4_readFrom_40 : decode cX4_readFrom 40 = .ok (.aload_n 0, 1) := by decide +kernel
theorem dX4_readFrom_41 : decode cX4_readFrom 41 = .ok (.getfield 21, 3) := by decide +kernel
theorem dX4_readFrom_44 : decode cX4_readFrom 44 = .ok (.iload 5, 2) := by decide +kernel
theorem dX4_readFrom_46 : decode cX4_readFrom 46 = .ok (.iaload, 1) := by decide +kernel
theorem dX4_readFrom_47 : decode cX4_readFrom 47 = .ok (.if_icmp .ge 18, 3) := by decide +kernel
theorem dX4_readFrom_50 : decode cX4_readFrom 50 = .ok (.aload_n 0, 1) := by decide +kernel
theorem dX4_readFrom_51 : decode cX4_readFrom 51 = .ok (.getfield 18, 3) := by decide +kernel
theorem dX4_readFrom_54 : decode cX4_readFrom 54 = .ok (.iload 4, 2) := by decide +kernel
theorem dX4_readFrom_56 : decode cX4_readFrom 56 = .ok (.iload 6, 2) := by decide +kernel
theorem dX4_readFrom_58 : decode cX4_readFrom 58 = .ok (.iadd, 1) := by decide +kernel
theorem dX4_readFrom_59 : decode cX4_readFrom 59 = .ok (.sipush 255, 3) := by decide +kernel
theorem dX4_readFrom_62 : decode cX4_readFrom 62 = .ok (.iand, 1) := by decide +kernel
theorem dX4_readFrom_63 : decode cX4_readFrom 63 = .ok (.iaload, 1) := by decide +kernel
theorem dX4_readFrom_64 : decode cX4_readFrom 64 = .ok (.ireturn, 1) := by decide +kernel
theorem dX4_readFrom_65 : decode cX4_readFrom 65 = .ok (.aload_n 0, 1) := by decide +kernel
theorem dX4_readFrom_66 : decode cX4_readFrom 66 = .ok (.getfield 27, 3) := by decide +kernel
theorem dX4_readFrom_69 : decode cX4_readFrom 69 = .ok (.iconst 1, 1) := by decide +kernel
theorem dX4_readFrom_70 : decode cX4_readFrom 70 = .ok (.if_icmp .ne 8, 3) := by decide +kernel
theorem dX4_readFrom_73 : decode cX4_readFrom 73 = .ok (.aload_n 1, 1) := by decide +kernel
theorem dX4_readFrom_74 : decode cX4_readFrom 74 = .ok (.iconst 4, 1) := by decide +kernel
theorem dX4_readFrom_75 : decode cX4_readFrom 75 = .ok (.invokevirtual 57, 3) := by decide +kernel
theorem dX4_readFrom_78 : decode cX4_readFrom 78 = .ok (.iload 4, 2) := by decide +kernel
theorem dX4_readFrom_80 : decode cX4_readFrom 80 = .ok (.aload_n 0, 1) := by decide +kernel
theorem dX4_readFrom_81 : decode cX4_readFrom 81 = .ok (.getfield 21, 3) := by decide +kernel
theorem dX4_readFrom_84 : decode cX4_readFrom 84 = .ok (.iload 5, 2) := by decide +kernel
theorem dX4_readFrom_86 : decode cX4_readFrom 86 = .ok (.iaload, 1) := by decide +kernel
theorem dX4_readFrom_87 : decode cX4_readFrom 87 = .ok (.iadd, 1) := by decide +kernel
theorem dX4_readFrom_88 : decode cX4_readFrom 88 = .ok (.istore 4, 2) := by decide +kernel
theorem dX4_readFrom_90 : decode cX4_readFrom 90 = .ok (.iload_n 3, 1) := by decide +kernel
theorem dX4_readFrom_91 : decode cX4_readFrom 91 = .ok (.aload_n 0, 1) := by decide +kernel
theorem dX4_readFrom_92 : decode cX4_readFrom 92 = .ok (.getfield 21, 3) := by decide +kernel
theorem dX4_readFrom_95 : decode cX4_readFrom 95 = .ok (.iload 5, 2) := by decide +kernel
theorem dX4_readFrom_97 : decode cX4_readFrom 97 = .ok (.iaload, 1) := by decide +kernel
theorem dX4_readFrom_98 : decode cX4_readFrom 98 = .ok (.iadd, 1) := by decide +kernel
theorem dX4_readFrom_99 : decode cX4_readFrom 99 = .ok (.iconst 1, 1) := by decide +kernel
theorem dX4_readFrom_100 : decode cX4_readFrom 100 = .ok (.ishl, 1) := by decide +kernel
theorem dX4_readFrom_101 : decode cX4_readFrom 101 = .ok (.istore_n 3, 1) := by decide +kernel
theorem dX4_readFrom_102 : decode cX4_readFrom 102 = .ok (.iinc 5 1, 3) := by decide +kernel
theorem dX4_readFrom_105 : decode cX4_readFrom 105 = .ok (.goto (-95), 3) := by decide +kernel
theorem dX4_readFrom_108 : decode cX4_readFrom 108 = .ok (.iconst 0, 1) := by decide +kernel
theorem dX4_readFrom_109 : decode cX4_readFrom 109 = .ok (.ireturn, 1) := by decide +kernel
theorem dX5_init_0 : decode cX5_init 0 = .ok (.aload_n 0, 1) := by decide +kernel
theorem dX5_init_1 : decode cX5_init 1 = .ok (.invokespecial 3, 3) := by decide +kernel
theorem dX5_init_4 : decode cX5_init 4 = .ok (.aload_n 0, 1) := by decide +kernel
theorem dX5_init_5 : decode cX5_init 5 = .ok (.new 9, 3) := by decide +kernel
theorem dX5_init_8 : decode cX5_init 8 = .ok (.dup, 1) := by decide +kernel
theorem dX5_init_9 : decode cX5_init 9 = .ok (.iconst 0, 1) := by decide +kernel
theorem dX5_init_10 : decode cX5_init 10 = .ok (.invokespecial 11, 3) := by decide +kernel
theorem dX5_init_13 : decode cX5_init 13 = .ok (.putfield 14, 3) := by decide +kernel
theorem dX5_init_16 : decode cX5_init 16 = .ok (.aload_n 0, 1) := by decide +kernel
theorem dX5_init_17 : decode cX5_init 17 = .ok (.iconst 0, 1) := by decide +kernel
theorem dX5_init_18 : decode cX5_init 18 = .ok (.putfield 20, 3) := by decide +kernel
theorem dX5_init_21 : decode cX5_init 21 = .ok (.aload_n 0, 1) := by decide +kernel
theorem dX5_init_22 : decode cX5_init 22 = .ok (.iconst 0, 1) := by decide +kernel
theorem dX5_init_23 : decode cX5_init 23 = .ok (.putfield 24, 3) := by decide +kernel
theorem dX5_init_26 : decode cX5_init 26 = .ok (.aload_n 0, 1) := by decide +kernel
theorem dX5_init_27 : decode cX5_init 27 = .ok (.iconst 0, 1) := by decide +kernel
theorem dX5_init_28 : decode cX5_init 28 = .ok (.putfield 27, 3) := by decide +kernel
theorem dX5_init_31 : decode cX5_init 31 = .ok (.aload_n 0, 1) := by decide +kernel
theorem dX5_init_32 : decode cX5_init 32 = .ok (.iconst 0, 1) := by decide +kernel
theorem dX5_init_33 : decode cX5_init 33 = .ok (.putfield 30, 3) := by decide +kernel
theorem dX5_init_36 : decode cX5_init 36 = .ok (.aload_n 0, 1) := by decide +kernel
theorem dX5_init_37 : decode cX5_init 37 = .ok (.iconst 0, 1) := by decide +kernel
theorem dX5_init_38 : decode cX5_init 38 = .ok (.putfield 33, 3) := by decide +kernel
theorem dX5_init_41 : decode cX5_init 41 = .ok (.return_, 1) := by decide +kernel
theorem dX5_begin_0 : decode cX5_begin 0 = .ok (.aload_n 0, 1) := by decide +kernel
theorem dX5_begin_1 : decode cX5_begin 1 = .ok (.aload_n 1, 1) := by decide +kernel
theorem dX5_begin_2 : decode cX5_begin 2 = .ok (.putfield 14, 3) := by decide +kernel
theorem dX5_begin_5 : decode cX5_begin 5 = .ok (.aload_n 0, 1) := by decide +kernel
theorem dX5_begin_6 : decode cX5_begin 6 = .ok (.iconst 0, 1) := by decide +kernel
theorem dX5_begin_7 : decode cX5_begin 7 = .ok (.putfield 20, 3) := by decide +kernel
theorem dX5_begin_10 : decode cX5_begin 10 = .ok (.aload_n 0, 1) := by decide +kernel
theorem dX5_begin_11 : decode cX5_begin 11 = .ok (.iconst 0, 1) := by decide +kernel
theorem dX5_begin_12 : decode cX5_begin 12 = .ok (.putfield 24, 3) := by decide +kernel
theorem dX5_begin_15 : decode cX5_begin 15 = .ok (.aload_n 0, 1) := by decide +kernel
theorem dX5_begin_16 : decode cX5_begin 16 = .ok (.iconst 0, 1) := by decide +kernel
theorem dX5_begin_17 : decode cX5_begin 17 = .ok (.putfield 27, 3) := by decide +kernel
theorem dX5_begin_20 : decode cX5_begin 20 = .ok (.aload_n 0, 1) := by decide +kernel
theorem dX5_begin_21 : decode cX5_begin 21 = .ok (.iconst 0, 1) := by decide +kernel
theorem dX5_begin_22 : decode cX5_begin 22 = .ok (.putfield 30, 3) := by decide +kernel
theorem dX5_begin_25 : decode cX5_begin 25 = .ok (.aload_n 0, 1) := by decide +kernel
theorem dX5_begin_26 : decode cX5_begin 26 = .ok (.iconst 0, 1) := by decide +kernel
theorem dX5_begin_27 : decode cX5_begin 27 = .ok (.putfield 33, 3) := by decide +kernel
theorem dX5_begin_30 : decode cX5_begin 30 = .ok (.return_, 1) := by decide +kernel
theorem dX5_isFine_0 : decode cX5_isFine 0 = .ok (.aload_n 0, 1) := by decide +kernel
theorem dX5_isFine_1 : decode cX5_isFine 1 = .ok (.getfield 30, 3) := by decide +kernel
theorem dX5_isFine_4 : decode cX5_isFine 4 = .ok (.ifCond .ne 7, 3) := by decide +kernel
theorem dX5_isFine_7 : decode cX5_isFine 7 = .ok (.iconst 1, 1) := by decide +kernel
theorem dX5_isFine_8 : decode cX5_isFine 8 = .ok (.goto 4, 3) := by decide +kernel
theorem dX5_isFine_11 : decode cX5_isFine 11 = .ok (.iconst 0, 1) := by decide +kernel
theorem dX5_isFine_12 : decode cX5_isFine 12 = .ok (.ireturn, 1) := by decide +kernel
theorem dX5_fault_0 : decode cX5_fault 0 = .ok (.aload_n 0, 1) := by decide +kernel
theorem dX5_fault_1 : decode cX5_fault 1 = .ok (.getfield 30, 3) := by decide +kernel
theorem dX5_fault_4 : decode cX5_fault 4 = .ok (.ireturn, 1) := by decide +kernel
theorem dX5_faultPlace_0 : decode cX5_faultPlace 0 = .ok (.aload_n 0, 1) := by decide +kernel
theorem dX5_faultPlace_1 : decode cX5_faultPlace 1 = .ok (.getfield 33, 3) := by decide +kernel
theorem dX5_faultPlace_4 : decode cX5_faultPlace 4 = .ok (.ireturn, 1) := by decide +kernel
theorem dX5_next_0 : decode cX5_next 0 = .ok (.aload_n 0, 1) := by decide +kernel
theorem dX5_next_1 : decode cX5_next 1 = .ok (.getfield 30, 3) := by decide +kernel
theorem dX5_next_4 : decode cX5_next 4 = .ok (.ifCond .eq 5, 3) := by decide +kernel
theorem dX5_next_7 : decode cX5_next 7 = .ok (.iconst 0, 1) := by decide +kernel
theorem dX5_next_8 : decode cX5_next 8 = .ok (.ireturn, 1) := by decide +kernel
theorem dX5_next_9 : decode cX5_next 9 = .ok (.aload_n 0, 1) := by decide +kernel
theorem dX5_next_10 : decode cX5_next 10 = .ok (.getfield 14, 3) := by decide +kernel
theorem dX5_next_13 : decode cX5_next 13 = .ok (.aload_n 0, 1) := by decide +kernel
theorem dX5_next_14 : decode cX5_next 14 = .ok (.getfield 20, 3) := by decide +kernel
theorem dX5_next_17 : decode cX5_next 17 = .ok (.invokevirtual 36, 3) := by decide +kernel
theorem dX5_next_20 : decode cX5_next 20 = .ok (.ifCond .ne 17, 3) := by decide +kernel
theorem dX5_next_23 : decode cX5_next 23 = .ok (.aload_n 0, 1) := by decide +kernel
theorem dX5_next_24 : decode cX5_next 24 = .ok (.iconst 2, 1) := by decide +kernel
theorem dX5_next_25 : decode cX5_next 25 = .ok (.aload_n 0, 1) := by decide +kernel
theorem dX5_next_26 : decode cX5_next 26 = .ok (.getfield 14, 3) := by decide +kernel
theorem dX5_next_29 : decode cX5_next 29 = .ok (.invokevirtual 40, 3) := by decide +kernel
theorem dX5_next_32 : decode cX5_next 32 = .ok (.invokevirtual 44, 3) := by decide +kernel
theorem dX5_next_35 : decode cX5_next 35 = .ok (.iconst 0, 1) := by decide +kernel
theorem dX5_next_36 : decode cX5_next 36 = .ok (.ireturn, 1) := by decide +kernel
theorem dX5_next_37 : decode cX5_next 37 = .ok (.aload_n 0, 1) := by decide +kernel
theorem dX5_next_38 : decode cX5_next 38 = .ok (.dup, 1) := by decide +kernel
theorem dX5_next_39 : decode cX5_next 39 = .ok (.getfield 20, 3) := by decide +kernel
theorem dX5_next_42 : decode cX5_next 42 = .ok (.iconst 1, 1) := by decide +kernel
theorem dX5_next_43 : decode cX5_next 43 = .ok (.iadd, 1) := by decide +kernel
theorem dX5_next_44 : decode cX5_next 44 = .ok (.putfield 20, 3) := by decide +kernel
theorem dX5_next_47 : decode cX5_next 47 = .ok (.aload_n 0, 1) := by decide +kernel
theorem dX5_next_48 : decode cX5_next 48 = .ok (.getfield 14, 3) := by decide +kernel
theorem dX5_next_51 : decode cX5_next 51 = .ok (.aload_n 0, 1) := by decide +kernel
theorem dX5_next_52 : decode cX5_next 52 = .ok (.getfield 20, 3) := by decide +kernel
theorem dX5_next_55 : decode cX5_next 55 = .ok (.iconst 1, 1) := by decide +kernel
theorem dX5_next_56 : decode cX5_next 56 = .ok (.isub, 1) := by decide +kernel
theorem dX5_next_57 : decode cX5_next 57 = .ok (.invokevirtual 48, 3) := by decide +kernel
theorem dX5_next_60 : decode cX5_next 60 = .ok (.ireturn, 1) := by decide +kernel
theorem dX5_bit_0 : decode cX5_bit 0 = .ok (.aload_n 0, 1) := by decide +kernel
theorem dX5_bit_1 : decode cX5_bit 1 = .ok (.getfield 27, 3) := by decide +kernel
theorem dX5_bit_4 : decode cX5_bit 4 = .ok (.ifCond .ne 17, 3) := by decide +kernel
theorem dX5_bit_7 : decode cX5_bit 7 = .ok (.aload_n 0, 1) := by decide +kernel
theorem dX5_bit_8 : decode cX5_bit 8 = .ok (.aload_n 0, 1) := by decide +kernel
theorem dX5_bit_9 : decode cX5_bit 9 = .ok (.invokevirtual 52, 3) := by decide +kernel
theorem dX5_bit_12 : decode cX5_bit 12 = .ok (.putfield 24, 3) := by decide +kernel
theorem dX5_bit_15 : decode cX5_bit 15 = .ok (.aload_n 0, 1) := by decide +kernel
theorem dX5_bit_16 : decode cX5_bit 16 = .ok (.bipush 8, 2) := by decide +kernel
theorem dX5_bit_18 : decode cX5_bit 18 = .ok (.putfield 27, 3) := by decide +kernel
theorem dX5_bit_21 : decode cX5_bit 21 = .ok (.aload_n 0, 1) := by decide +kernel
theorem dX5_bit_22 : decode cX5_bit 22 = .ok (.dup, 1) := by decide +kernel
theorem dX5_bit_23 : decode cX5_bit 23 = .ok (.getfield 27, 3) := by decide +kernel
theorem dX5_bit_26 : decode cX5_bit 26 = .ok (.iconst 1, 1) := by decide +kernel
theorem dX5_bit_27 : decode cX5_bit 27 = .ok (.isub, 1) := by decide +kernel
theorem dX5_bit_28 : decode cX5_bit 28 = .ok (.putfield 27, 3) := by decide +kernel
theorem dX5_bit_31 : decode cX5_bit 31 = .ok (.aload_n 0, 1) := by decide +kernel
theorem dX5_bit_32 : decode cX5_bit 32 = .ok (.getfield 24, 3) := by decide +kernel
theorem dX5_bit_35 : decode cX5_bit 35 = .ok (.aload_n 0, 1) := by decide +kernel
theorem dX5_bit_36 : decode cX5_bit 36 = .ok (.getfield 27, 3) := by decide +kernel
theorem dX5_bit_39 : decode cX5_bit 39 = .ok (.ishr, 1) := by decide +kernel
theorem dX5_bit_40 : decode cX5_bit 40 = .ok (.iconst 1, 1) := by decide +kernel
theorem dX5_bit_41 : decode cX5_bit 41 = .ok (.iand, 1) := by decide +kernel
theorem dX5_bit_42 : decode cX5_bit 42 = .ok (.ireturn, 1) := by decide +kernel
theorem dX5_blame_0 : decode cX5_blame 0 = .ok (.aload_n 0, 1) := by decide +kernel
theorem dX5_blame_1 : decode cX5_blame 1 = .ok (.iload_n 1, 1) := by decide +kernel
theorem dX5_blame_2 : decode cX5_blame 2 = .ok (.aload_n 0, 1) := by decide +kernel
theorem dX5_blame_3 : decode cX5_blame 3 = .ok (.getfield 20, 3) := by decide +kernel
theorem dX5_blame_6 : decode cX5_blame 6 = .ok (.iconst 1, 1) := by decide +kernel
theorem dX5_blame_7 : decode cX5_blame 7 = .ok (.isub, 1) := by decide +kernel
theorem dX5_blame_8 : decode cX5_blame 8 = .ok (.invokevirtual 44, 3) := by decide +kernel
theorem dX5_blame_11 : decode cX5_blame 11 = .ok (.return_, 1) := by decide +kernel
theorem dX5_endBits_0 : decode cX5_endBits 0 = .ok (.aload_n 0, 1) := by decide +kernel
theorem dX5_endBits_1 : decode cX5_endBits 1 = .ok (.getfield 24, 3) := by decide +kernel
theorem dX5_endBits_4 : decode cX5_endBits 4 = .ok (.iconst 1, 1) := by decide +kernel
theorem dX5_endBits_5 : decode cX5_endBits 5 = .ok (.aload_n 0, 1) := by decide +kernel
theorem dX5_endBits_6 : decode cX5_endBits 6 = .ok (.getfield 27, 3) := by decide +kernel
theorem dX5_endBits_9 : decode cX5_endBits 9 = .ok (.ishl, 1) := by decide +kernel
theorem dX5_endBits_10 : decode cX5_endBits 10 = .ok (.iconst 1, 1) := by decide +kernel
theorem dX5_endBits_11 : decode cX5_endBits 11 = .ok (.isub, 1) := by decide +kernel
theorem dX5_endBits_12 : decode cX5_endBits 12 = .ok (.iand, 1) := by decide +kernel
theorem dX5_endBits_13 : decode cX5_endBits 13 = .ok (.ifCond .eq 8, 3) := by decide +kernel
theorem dX5_endBits_16 : decode cX5_endBits 16 = .ok (.aload_n 0, 1) := by decide +kernel
theorem dX5_endBits_17 : decode cX5_endBits 17 = .ok (.iconst 4, 1) := by decide +kernel
theorem dX5_endBits_18 : decode cX5_endBits 18 = .ok (.invokevirtual 55, 3) := by decide +kernel
theorem dX5_endBits_21 : decode cX5_endBits 21 = .ok (.return_, 1) := by decide +kernel
theorem dX5_endBytes_0 : decode cX5_endBytes 0 = .ok (.aload_n 0, 1) := by decide +kernel
theorem dX5_endBytes_1 : decode cX5_endBytes 1 = .ok (.getfield 14, 3) := by decide +kernel
theorem dX5_endBytes_4 : decode cX5_endBytes 4 = .ok (.aload_n 0, 1) := by decide +kernel
theorem dX5_endBytes_5 : decode cX5_endBytes 5 = .ok (.getfield 20, 3) := by decide +kernel
theorem dX5_endBytes_8 : decode cX5_endBytes 8 = .ok (.invokevirtual 36, 3) := by decide +kernel
theorem dX5_endBytes_11 : decode cX5_endBytes 11 = .ok (.ifCond .eq 12, 3) := by decide +kernel
theorem dX5_endBytes_14 : decode cX5_endBytes 14 = .ok (.aload_n 0, 1) := by decide +kernel
theorem dX5_endBytes_15 : decode cX5_endBytes 15 = .ok (.iconst 3, 1) := by decide +kernel
theorem dX5_endBytes_16 : decode cX5_endBytes 16 = .ok (.aload_n 0, 1) := by decide +kernel
theorem dX5_endBytes_17 : decode cX5_endBytes 17 = .ok (.getfield 20, 3) := by decide +kernel
theorem dX5_endBytes_20 : decode cX5_endBytes 20 = .ok (.invokevirtual 44, 3) := by decide +kernel
theorem dX5_endBytes_23 : decode cX5_endBytes 23 = .ok (.return_, 1) := by decide +kernel
theorem dX5_blameAt_0 : decode cX5_blameAt 0 = .ok (.aload_n 0, 1) := by decide +kernel
theorem dX5_blameAt_1 : decode cX5_blameAt 1 = .ok (.getfield 30, 3) := by decide +kernel
theorem dX5_blameAt_4 : decode cX5_blameAt 4 = .ok (.ifCond .ne 13, 3) := by decide +kernel
theorem dX5_blameAt_7 : decode cX5_blameAt 7 = .ok (.aload_n 0, 1) := by decide +kernel
theorem dX5_blameAt_8 : decode cX5_blameAt 8 = .ok (.iload_n 1, 1) := by decide +kernel
theorem dX5_blameAt_9 : decode cX5_blameAt 9 = .ok (.putfield 30, 3) := by decide +kernel
theorem dX5_blameAt_12 : decode cX5_blameAt 12 = .ok (.aload_n 0, 1) := by decide +kernel
theorem dX5_blameAt_13 : decode cX5_blameAt 13 = .ok (.iload_n 2, 1) := by decide +kernel
theorem dX5_blameAt_14 : decode cX5_blameAt 14 = .ok (.putfield 33, 3) := by decide +kernel
theorem dX5_blameAt_17 : decode cX5_blameAt 17 = .ok (.return_, 1) := by decide +kernel
theorem dX6_init_0 : decode cX6_init 0 = .ok (.aload_n 0, 1) := by decide +kernel
theorem dX6_init_1 : decode cX6_init 1 = .ok (.invokespecial 1, 3) := by decide +kernel
theorem dX6_init_4 : decode cX6_init 4 = .ok (.aload_n 0, 1) := by decide +kernel
theorem dX6_init_5 : decode cX6_init 5 = .ok (.iconst 0, 1) := by decide +kernel
theorem dX6_init_6 : decode cX6_init 6 = .ok (.putfield 7, 3) := by decide +kernel
theorem dX6_init_9 : decode cX6_init 9 = .ok (.aload_n 0, 1) := by decide +kernel
theorem dX6_init_10 : decode cX6_init 10 = .ok (.iload_n 1, 1) := by decide +kernel
theorem dX6_init_11 : decode cX6_init 11 = .ok (.ifCond .le 7, 3) := by decide +kernel
theorem dX6_init_14 : decode cX6_init 14 = .ok (.iload_n 1, 1) := by decide +kernel
theorem dX6_init_15 : decode cX6_init 15 = .ok (.goto 4, 3) := by decide +kernel
theorem dX6_init_18 : decode cX6_init 18 = .ok (.iconst 0, 1) := by decide +kernel
theorem dX6_init_19 : decode cX6_init 19 = .ok (.newarray .int, 2) := by decide +kernel
theorem dX6_init_21 : decode cX6_init 21 = .ok (.putfield 13, 3) := by decide +kernel
theorem dX6_init_24 : decode cX6_init 24 = .ok (.return_, 1) := by decide +kernel
theorem dX6_count_0 : decode cX6_count 0 = .ok (.aload_n 0, 1) := by decide +kernel
theorem dX6_count_1 : decode cX6_count 1 = .ok (.getfield 7, 3) := by decide +kernel
theorem dX6_count_4 : decode cX6_count 4 = .ok (.ireturn, 1) := by decide +kernel
theorem dX6_has_0 : decode cX6_has 0 = .ok (.iload_n 1, 1) := by decide +kernel
theorem dX6_has_1 : decode cX6_has 1 = .ok (.ifCond .lt 15, 3) := by decide +kernel
theorem dX6_has_4 : decode cX6_has 4 = .ok (.iload_n 1, 1) := by decide +kernel
theorem dX6_has_5 : decode cX6_has 5 = .ok (.aload_n 0, 1) := by decide +kernel
theorem dX6_has_6 : decode cX6_has 6 = .ok (.getfield 7, 3) := by decide +kernel
theorem dX6_has_9 : decode cX6_has 9 = .ok (.if_icmp .ge 7, 3) := by decide +kernel
theorem dX6_has_12 : decode cX6_has 12 = .ok (.iconst 1, 1) := by decide +kernel
theorem dX6_has_13 : decode cX6_has 13 = .ok (.goto 4, 3) := by decide +kernel
theorem dX6_has_16 : decode cX6_has 16 = .ok (.iconst 0, 1) := by decide +kernel
theorem dX6_has_17 : decode cX6_has 17 = .ok (.ireturn, 1) := by decide +kernel
theorem dX6_get_0 : decode cX6_get 0 = .ok (.iload_n 1, 1) := by decide +kernel
theorem dX6_get_1 : decode cX6_get 1 = .ok (.ifCond .lt 20, 3) := by decide +kernel
theorem dX6_get_4 : decode cX6_get 4 = .ok (.iload_n 1, 1) := by decide +kernel
theorem dX6_get_5 : decode cX6_get 5 = .ok (.aload_n 0, 1) := by decide +kernel
theorem dX6_get_6 : decode cX6_get 6 = .ok (.getfield 7, 3) := by decide +kernel
theorem dX6_get_9 : decode cX6_get 9 = .ok (.if_icmp .ge 12, 3) := by decide +kernel
theorem dX6_get_12 : decode cX6_get 12 = .ok (.aload_n 0, 1) := by decide +kernel
theorem dX6_get_13 : decode cX6_get 13 = .ok (.getfield 13, 3) := by decide +kernel
theorem dX6_get_16 : decode cX6_get 16 = .ok (.iload_n 1, 1) := by decide +kernel
theorem dX6_get_17 : decode cX6_get 17 = .ok (.iaload, 1) := by decide +kernel
theorem dX6_get_18 : decode cX6_get 18 = .ok (.goto 4, 3) := by decide +kernel
theorem dX6_get_21 : decode cX6_get 21 = .ok (.iconst 0, 1) := by decide +kernel
theorem dX6_get_22 : decode cX6_get 22 = .ok (.ireturn, 1) := by decide +kernel
theorem dX6_set_0 : decode cX6_set 0 = .ok (.iload_n 1, 1) := by decide +kernel
theorem dX6_set_1 : decode cX6_set 1 = .ok (.ifCond .lt 22, 3) := by decide +kernel
theorem dX6_set_4 : decode cX6_set 4 = .ok (.iload_n 1, 1) := by decide +kernel
theorem dX6_set_5 : decode cX6_set 5 = .ok (.aload_n 0, 1) := by decide +kernel
theorem dX6_set_6 : decode cX6_set 6 = .ok (.getfield 7, 3) := by decide +kernel
theorem dX6_set_9 : decode cX6_set 9 = .ok (.if_icmp .ge 14, 3) := by decide +kernel
theorem dX6_set_12 : decode cX6_set 12 = .ok (.aload_n 0, 1) := by decide +kernel
theorem dX6_set_13 : decode cX6_set 13 = .ok (.getfield 13, 3) := by decide +kernel
theorem dX6_set_16 : decode cX6_set 16 = .ok (.iload_n 1, 1) := by decide +kernel
theorem dX6_set_17 : decode cX6_set 17 = .ok (.iload_n 2, 1) := by decide +kernel
theorem dX6_set_18 : decode cX6_set 18 = .ok (.sipush 255, 3) := by decide +kernel
theorem dX6_set_21 : decode cX6_set 21 = .ok (.iand, 1) := by decide +kernel
theorem dX6_set_22 : decode cX6_set 22 = .ok (.iastore, 1) := by decide +kernel
theorem dX6_set_23 : decode cX6_set 23 = .ok (.return_, 1) := by decide +kernel
theorem dX6_push_0 : decode cX6_push 0 = .ok (.aload_n 0, 1) := by decide +kernel
theorem dX6_push_1 : decode cX6_push 1 = .ok (.getfield 7, 3) := by decide +kernel
theorem dX6_push_4 : decode cX6_push 4 = .ok (.aload_n 0, 1) := by decide +kernel
theorem dX6_push_5 : decode cX6_push 5 = .ok (.getfield 13, 3) := by decide +kernel
theorem dX6_push_8 : decode cX6_push 8 = .ok (.arraylength, 1) := by decide +kernel
theorem dX6_push_9 : decode cX6_push 9 = .ok (.if_icmp .ge 27, 3) := by decide +kernel
theorem dX6_push_12 : decode cX6_push 12 = .ok (.aload_n 0, 1) := by decide +kernel
theorem dX6_push_13 : decode cX6_push 13 = .ok (.getfield 13, 3) := by decide +kernel
theorem dX6_push_16 : decode cX6_push 16 = .ok (.aload_n 0, 1) := by decide +kernel
theorem dX6_push_17 : decode cX6_push 17 = .ok (.getfield 7, 3) := by decide +kernel
theorem dX6_push_20 : decode cX6_push 20 = .ok (.iload_n 1, 1) := by decide +kernel
theorem dX6_push_21 : decode cX6_push 21 = .ok (.sipush 255, 3) := by decide +kernel
theorem dX6_push_24 : decode cX6_push 24 = .ok (.iand, 1) := by decide +kernel
theorem dX6_push_25 : decode cX6_push 25 = .ok (.iastore, 1) := by decide +kernel
theorem dX6_push_26 : decode cX6_push 26 = .ok (.aload_n 0, 1) := by decide +kernel
theorem dX6_push_27 : decode cX6_push 27 = .ok (.dup, 1) := by decide +kernel
theorem dX6_push_28 : decode cX6_push 28 = .ok (.getfield 7, 3) := by decide +kernel
theorem dX6_push_31 : decode cX6_push 31 = .ok (.iconst 1, 1) := by decide +kernel
theorem dX6_push_32 : decode cX6_push 32 = .ok (.iadd, 1) := by decide +kernel
theorem dX6_push_33 : decode cX6_push 33 = .ok (.putfield 7, 3) := by decide +kernel
theorem dX6_push_36 : decode cX6_push 36 = .ok (.return_, 1) := by decide +kernel
theorem dX6_empty_0 : decode cX6_empty 0 = .ok (.aload_n 0, 1) := by decide +kernel
theorem dX6_empty_1 : decode cX6_empty 1 = .ok (.iconst 0, 1) := by decide +kernel
theorem dX6_empty_2 : decode cX6_empty 2 = .ok (.putfield 7, 3) := by decide +kernel
theorem dX6_empty_5 : decode cX6_empty 5 = .ok (.return_, 1) := by decide +kernel
theorem dX6_keep_0 : decode cX6_keep 0 = .ok (.iload_n 1, 1) := by decide +kernel
theorem dX6_keep_1 : decode cX6_keep 1 = .ok (.ifCond .lt 16, 3) := by decide +kernel
theorem dX6_keep_4 : decode cX6_keep 4 = .ok (.iload_n 1, 1) := by decide +kernel
theorem dX6_keep_5 : decode cX6_keep 5 = .ok (.aload_n 0, 1) := by decide +kernel
theorem dX6_keep_6 : decode cX6_keep 6 = .ok (.getfield 7, 3) := by decide +kernel
theorem dX6_keep_9 : decode cX6_keep 9 = .ok (.if_icmp .ge 8, 3) := by decide +kernel
theorem dX6_keep_12 : decode cX6_keep 12 = .ok (.aload_n 0, 1) := by decide +kernel
theorem dX6_keep_13 : decode cX6_keep 13 = .ok (.iload_n 1, 1) := by decide +kernel
theorem dX6_keep_14 : decode cX6_keep 14 = .ok (.putfield 7, 3) := by decide +kernel
theorem dX6_keep_17 : decode cX6_keep 17 = .ok (.return_, 1) := by decide +kernel
theorem dX6_become_0 : decode cX6_become 0 = .ok (.aload_n 0, 1) := by decide +kernel
theorem dX6_become_1 : decode cX6_become 1 = .ok (.aload_n 1, 1) := by decide +kernel
theorem dX6_become_2 : decode cX6_become 2 = .ok (.getfield 7, 3) := by decide +kernel
theorem dX6_become_5 : decode cX6_become 5 = .ok (.aload_n 0, 1) := by decide +kernel
theorem dX6_become_6 : decode cX6_become 6 = .ok (.getfield 13, 3) := by decide +kernel
theorem dX6_become_9 : decode cX6_become 9 = .ok (.arraylength, 1) := by decide +kernel
theorem dX6_become_10 : decode cX6_become 10 = .ok (.invokestatic 17, 3) := by decide +kernel
theorem dX6_become_13 : decode cX6_become 13 = .ok (.putfield 7, 3) := by decide +kernel
theorem dX6_become_16 : decode cX6_become 16 = .ok (.aload_n 1, 1) := by decide +kernel
theorem dX6_become_17 : decode cX6_become 17 = .ok (.getfield 13, 3) := by decide +kernel
theorem dX6_become_20 : decode cX6_become 20 = .ok (.iconst 0, 1) := by decide +kernel
theorem dX6_become_21 : decode cX6_become 21 = .ok (.aload_n 0, 1) := by decide +kernel
theorem dX6_become_22 : decode cX6_become 22 = .ok (.getfield 13, 3) := by decide +kernel
theorem dX6_become_25 : decode cX6_become 25 = .ok (.iconst 0, 1) := by decide +kernel
theorem dX6_become_26 : decode cX6_become 26 = .ok (.aload_n 0, 1) := by decide +kernel
theorem dX6_become_27 : decode cX6_become 27 = .ok (.getfield 7, 3) := by decide +kernel
theorem dX6_become_30 : decode cX6_become 30 = .ok (.invokestatic 23, 3) := by decide +kernel
theorem dX6_become_33 : decode cX6_become 33 = .ok (.return_, 1) := by decide +kernel
theorem dX6_countInto_0 : decode cX6_countInto 0 = .ok (.aload_n 1, 1) := by decide +kernel
theorem dX6_countInto_1 : decode cX6_countInto 1 = .ok (.iconst 0, 1) := by decide +kernel
theorem dX6_countInto_2 : decode cX6_countInto 2 = .ok (.invokestatic 29, 3) := by decide +kernel
theorem dX6_countInto_5 : decode cX6_countInto 5 = .ok (.iconst 0, 1) := by decide +kernel
theorem dX6_countInto_6 : decode cX6_countInto 6 = .ok (.istore_n 2, 1) := by decide +kernel
theorem dX6_countInto_7 : decode cX6_countInto 7 = .ok (.iconst 0, 1) := by decide +kernel
theorem dX6_countInto_8 : decode cX6_countInto 8 = .ok (.istore_n 3, 1) := by decide +kernel
theorem dX6_countInto_9 : decode cX6_countInto 9 = .ok (.iload_n 3, 1) := by decide +kernel
theorem dX6_countInto_10 : decode cX6_countInto 10 = .ok (.aload_n 0, 1) := by decide +kernel
theorem dX6_countInto_11 : decode cX6_countInto 11 = .ok (.getfield 7, 3) := by decide +kernel
theorem dX6_countInto_14 : decode cX6_countInto 14 = .ok (.if_icmp .ge 50, 3) := by decide +kernel
theorem dX6_countInto_17 : decode cX6_countInto 17 = .ok (.aload_n 0, 1) := by decide +kernel
theorem dX6_countInto_18 : decode cX6_countInto 18 = .ok (.getfield 13, 3) := by decide +kernel
theorem dX6_countInto_21 : decode cX6_countInto 21 = .ok (.iload_n 3, 1) := by decide +kernel
theorem dX6_countInto_22 : decode cX6_countInto 22 = .ok (.iaload, 1) := by decide +kernel
theorem dX6_countInto_23 : decode cX6_countInto 23 = .ok (.istore 4, 2) := by decide +kernel
theorem dX6_countInto_25 : decode cX6_countInto 25 = .ok (.iload 4, 2) := by decide +kernel
theorem dX6_countInto_27 : decode cX6_countInto 27 = .ok (.ifCond .lt 31, 3) := by decide +kernel
theorem dX6_countInto_30 : decode cX6_countInto 30 = .ok (.iload 4, 2) := by decide +kernel
theorem dX6_countInto_32 : decode cX6_countInto 32 = .ok (.aload_n 1, 1) := by decide +kernel
theorem dX6_countInto_33 : decode cX6_countInto 33 = .ok (.arraylength, 1) := by decide +kernel
theorem dX6_countInto_34 : decode cX6_countInto 34 = .ok (.if_icmp .lt 6, 3) := by decide +kernel
theorem dX6_countInto_37 : decode cX6_countInto 37 = .ok (.goto 21, 3) := by decide +kernel
theorem dX6_countInto_40 : decode cX6_countInto 40 = .ok (.aload_n 1, 1) := by decide +kernel
theorem dX6_countInto_41 : decode cX6_countInto 41 = .ok (.iload 4, 2) := by decide +kernel
theorem dX6_countInto_43 : decode cX6_countInto 43 = .ok (.iaload, 1) := by decide +kernel
theorem dX6_countInto_44 : decode cX6_countInto 44 = .ok (.ifCond .ne 6, 3) := by decide +kernel
theorem dX6_countInto_47 : decode cX6_countInto 47 = .ok (.iinc 2 1, 3) := by decide +kernel
theorem dX6_countInto_50 : decode cX6_countInto 50 = .ok (.aload_n 1, 1) := by decide +kernel
theorem dX6_countInto_51 : decode cX6_countInto 51 = .ok (.iload 4, 2) := by decide +kernel
theorem dX6_countInto_53 : decode cX6_countInto 53 = .ok (.dup2, 1) := by decide +kernel
theorem dX6_countInto_54 : decode cX6_countInto 54 = .ok (.iaload, 1) := by decide +kernel
theorem dX6_countInto_55 : decode cX6_countInto 55 = .ok (.iconst 1, 1) := by decide +kernel
theorem dX6_countInto_56 : decode cX6_countInto 56 = .ok (.iadd, 1) := by decide +kernel
theorem dX6_countInto_57 : decode cX6_countInto 57 = .ok (.iastore, 1) := by decide +kernel
theorem dX6_countInto_58 : decode cX6_countInto 58 = .ok (.iinc 3 1, 3) := by decide +kernel
theorem dX6_countInto_61 : decode cX6_countInto 61 = .ok (.goto (-52), 3) := by decide +kernel
theorem dX6_countInto_64 : decode cX6_countInto 64 = .ok (.iload_n 2, 1) := by decide +kernel
theorem dX6_countInto_65 : decode cX6_countInto 65 = .ok (.ireturn, 1) := by decide +kernel
theorem dX7_init_0 : decode cX7_init 0 = .ok (.aload_n 0, 1) := by decide +kernel
theorem dX7_init_1 : decode cX7_init 1 = .ok (.invokespecial 3, 3) := by decide +kernel
theorem dX7_init_4 : decode cX7_init 4 = .ok (.aload_n 0, 1) := by decide +kernel
theorem dX7_init_5 : decode cX7_init 5 = .ok (.sipush 256, 3) := by decide +kernel
theorem dX7_init_8 : decode cX7_init 8 = .ok (.newarray .int, 2) := by decide +kernel
theorem dX7_init_10 : decode cX7_init 10 = .ok (.putfield 9, 3) := by decide +kernel
theorem dX7_init_13 : decode cX7_init 13 = .ok (.return_, 1) := by decide +kernel
theorem dX7_isFlat_0 : decode cX7_isFlat 0 = .ok (.aload_n 1, 1) := by decide +kernel
theorem dX7_isFlat_1 : decode cX7_isFlat 1 = .ok (.invokevirtual 15, 3) := by decide +kernel
theorem dX7_isFlat_4 : decode cX7_isFlat 4 = .ok (.istore_n 2, 1) := by decide +kernel
theorem dX7_isFlat_5 : decode cX7_isFlat 5 = .ok (.iload_n 2, 1) := by decide +kernel
theorem dX7_isFlat_6 : decode cX7_isFlat 6 = .ok (.bipush 64, 2) := by decide +kernel
theorem dX7_isFlat_8 : decode cX7_isFlat 8 = .ok (.if_icmp .ge 5, 3) := by decide +kernel
theorem dX7_isFlat_11 : decode cX7_isFlat 11 = .ok (.iconst 0, 1) := by decide +kernel
theorem dX7_isFlat_12 : decode cX7_isFlat 12 = .ok (.ireturn, 1) := by decide +kernel
theorem dX7_isFlat_13 : decode cX7_isFlat 13 = .ok (.aload_n 1, 1) := by decide +kernel
theorem dX7_isFlat_14 : decode cX7_isFlat 14 = .ok (.aload_n 0, 1) := by decide +kernel
theorem dX7_isFlat_15 : decode cX7_isFlat 15 = .ok (.getfield 9, 3) := by decide +kernel
theorem dX7_isFlat_18 : decode cX7_isFlat 18 = .ok (.invokevirtual 21, 3) := by decide +kernel
theorem dX7_isFlat_21 : decode cX7_isFlat 21 = .ok (.pop, 1) := by decide +kernel
theorem dX7_isFlat_22 : decode cX7_isFlat 22 = .ok (.iconst 0, 1) := by decide +kernel
theorem dX7_isFlat_23 : decode cX7_isFlat 23 = .ok (.istore_n 3, 1) := by decide +kernel
theorem dX7_isFlat_24 : decode cX7_isFlat 24 = .ok (.iload_n 3, 1) := by decide +kernel
theorem dX7_isFlat_25 : decode cX7_isFlat 25 = .ok (.sipush 256, 3) := by decide +kernel
theorem dX7_isFlat_28 : decode cX7_isFlat 28 = .ok (.if_icmp .ge 26, 3) := by decide +kernel
theorem dX7_isFlat_31 : decode cX7_isFlat 31 = .ok (.aload_n 0, 1) := by decide +kernel
theorem dX7_isFlat_32 : decode cX7_isFlat 32 = .ok (.getfield 9, 3) := by decide +kernel
theorem dX7_isFlat_35 : decode cX7_isFlat 35 = .ok (.iload_n 3, 1) := by decide +kernel
theorem dX7_isFlat_36 : decode cX7_isFlat 36 = .ok (.iaload, 1) := by decide +kernel
theorem dX7_isFlat_37 : decode cX7_isFlat 37 = .ok (.iconst 2, 1) := by decide +kernel
theorem dX7_isFlat_38 : decode cX7_isFlat 38 = .ok (.iload_n 2, 1) := by decide +kernel
theorem dX7_isFlat_39 : decode cX7_isFlat 39 = .ok (.bipush 32, 2) := by decide +kernel
theorem dX7_isFlat_41 : decode cX7_isFlat 41 = .ok (.idiv, 1) := by decide +kernel
theorem dX7_isFlat_42 : decode cX7_isFlat 42 = .ok (.iadd, 1) := by decide +kernel
theorem dX7_isFlat_43 : decode cX7_isFlat 43 = .ok (.if_icmp .le 5, 3) := by decide +kernel
theorem dX7_isFlat_46 : decode cX7_isFlat 46 = .ok (.iconst 0, 1) := by decide +kernel
theorem dX7_isFlat_47 : decode cX7_isFlat 47 = .ok (.ireturn, 1) := by decide +kernel
theorem dX7_isFlat_48 : decode cX7_isFlat 48 = .ok (.iinc 3 1, 3) := by decide +kernel
theorem dX7_isFlat_51 : decode cX7_isFlat 51 = .ok (.goto (-27), 3) := by decide +kernel
theorem dX7_isFlat_54 : decode cX7_isFlat 54 = .ok (.iconst 1, 1) := by decide +kernel
theorem dX7_isFlat_55 : decode cX7_isFlat 55 = .ok (.ireturn, 1) := by decide +kernel
theorem dX7_featureOf_0 : decode cX7_featureOf 0 = .ok (.iconst 0, 1) := by decide +kernel
theorem dX7_featureOf_1 : decode cX7_featureOf 1 = .ok (.istore_n 2, 1) := by decide +kernel
theorem dX7_featureOf_2 : decode cX7_featureOf 2 = .ok (.iconst 0, 1) := by decide +kernel
theorem dX7_featureOf_3 : decode cX7_featureOf 3 = .ok (.istore_n 3, 1) := by decide +kernel
theorem dX7_featureOf_4 : decode cX7_featureOf 4 = .ok (.iconst 1, 1) := by decide +kernel
theorem dX7_featureOf_5 : decode cX7_featureOf 5 = .ok (.istore 4, 2) := by decide +kernel
theorem dX7_featureOf_7 : decode cX7_featureOf 7 = .ok (.iload 4, 2) := by decide +kernel
theorem dX7_featureOf_9 : decode cX7_featureOf 9 = .ok (.aload_n 1, 1) := by decide +kernel
theorem dX7_featureOf_10 : decode cX7_featureOf 10 = .ok (.invokevirtual 15, 3) := by decide +kernel
theorem dX7_featureOf_13 : decode cX7_featureOf 13 = .ok (.if_icmp .ge 49, 3) := by decide +kernel
theorem dX7_featureOf_16 : decode cX7_featureOf 16 = .ok (.aload_n 1, 1) := by decide +kernel
theorem dX7_featureOf_17 : decode cX7_featureOf 17 = .ok (.iload 4, 2) := by decide +kernel
theorem dX7_featureOf_19 : decode cX7_featureOf 19 = .ok (.invokevirtual 25, 3) := by decide +kernel
theorem dX7_featureOf_22 : decode cX7_featureOf 22 = .ok (.aload_n 1, 1) := by decide +kernel
theorem dX7_featureOf_23 : decode cX7_featureOf 23 = .ok (.iload 4, 2) := by decide +kernel
theorem dX7_featureOf_25 : decode cX7_featureOf 25 = .ok (.iconst 1, 1) := by decide +kernel
theorem dX7_featureOf_26 : decode cX7_featureOf 26 = .ok (.isub, 1) := by decide +kernel
theorem dX7_featureOf_27 : decode cX7_featureOf 27 = .ok (.invokevirtual 25, 3) := by decide +kernel
theorem dX7_featureOf_30 : decode cX7_featureOf 30 = .ok (.isub, 1) := by decide +kernel
theorem dX7_featureOf_31 : decode cX7_featureOf 31 = .ok (.invokestatic 29, 3) := by decide +kernel
theorem dX7_featureOf_34 : decode cX7_featureOf 34 = .ok (.istore 5, 2) := by decide +kernel
theorem dX7_featureOf_36 : decode cX7_featureOf 36 = .ok (.iload 5, 2) := by decide +kernel
theorem dX7_featureOf_38 : decode cX7_featureOf 38 = .ok (.ifCond .ne 9, 3) := by decide +kernel
theorem dX7_featureOf_41 : decode cX7_featureOf 41 = .ok (.iinc 2 1, 3) := by decide +kernel
theorem dX7_featureOf_44 : decode cX7_featureOf 44 = .ok (.goto 12, 3) := by decide +kernel
theorem dX7_featureOf_47 : decode cX7_featureOf 47 = .ok (.iload 5, 2) := by decide +kernel
theorem dX7_featureOf_49 : decode cX7_featureOf 49 = .ok (.iconst 2, 1) := by decide +kernel
theorem dX7_featureOf_50 : decode cX7_featureOf 50 = .ok (.if_icmp .gt 6, 3) := by decide +kernel
theorem dX7_featureOf_53 : decode cX7_featureOf 53 = .ok (.iinc 3 1, 3) := by decide +kernel
theorem dX7_featureOf_56 : decode cX7_featureOf 56 = .ok (.iinc 4 1, 3) := by decide +kernel
theorem dX7_featureOf_59 : decode cX7_featureOf 59 = .ok (.goto (-52), 3) := by decide +kernel
theorem dX7_featureOf_62 : decode cX7_featureOf 62 = .ok (.bipush 16, 2) := by decide +kernel
theorem dX7_featureOf_64 : decode cX7_featureOf 64 = .ok (.aload_n 0, 1) := by decide +kernel
theorem dX7_featureOf_65 : decode cX7_featureOf 65 = .ok (.aload_n 1, 1) := by decide +kernel
theorem dX7_featureOf_66 : decode cX7_featureOf 66 = .ok (.invokevirtual 34, 3) := by decide +kernel
theorem dX7_featureOf_69 : decode cX7_featureOf 69 = .ok (.imul, 1) := by decide +kernel
theorem dX7_featureOf_70 : decode cX7_featureOf 70 = .ok (.iconst 4, 1) := by decide +kernel
theorem dX7_featureOf_71 : decode cX7_featureOf 71 = .ok (.iload_n 2, 1) := by decide +kernel
theorem dX7_featureOf_72 : decode cX7_featureOf 72 = .ok (.aload_n 1, 1) := by decide +kernel
theorem dX7_featureOf_73 : decode cX7_featureOf 73 = .ok (.invokevirtual 15, 3) := by decide +kernel
theorem dX7_featureOf_76 : decode cX7_featureOf 76 = .ok (.invokestatic 38, 3) := by decide +kernel
theorem dX7_featureOf_79 : decode cX7_featureOf 79 = .ok (.imul, 1) := by decide +kernel
theorem dX7_featureOf_80 : decode cX7_featureOf 80 = .ok (.iadd, 1) := by decide +kernel
theorem dX7_featureOf_81 : decode cX7_featureOf 81 = .ok (.iload_n 3, 1) := by decide +kernel
theorem dX7_featureOf_82 : decode cX7_featureOf 82 = .ok (.aload_n 1, 1) := by decide +kernel
theorem dX7_featureOf_83 : decode cX7_featureOf 83 = .ok (.invokevirtual 15, 3) := by decide +kernel
theorem dX7_featureOf_86 : decode cX7_featureOf 86 = .ok (.invokestatic 38, 3) := by decide +kernel
theorem dX7_featureOf_89 : decode cX7_featureOf 89 = .ok (.iadd, 1) := by decide +kernel
theorem dX7_featureOf_90 : decode cX7_featureOf 90 = .ok (.ireturn, 1) := by decide +kernel
theorem dX7_variety_0 : decode cX7_variety 0 = .ok (.aload_n 1, 1) := by decide +kernel
theorem dX7_variety_1 : decode cX7_variety 1 = .ok (.aload_n 0, 1) := by decide +kernel
theorem dX7_variety_2 : decode cX7_variety 2 = .ok (.getfield 9, 3) := by decide +kernel
theorem dX7_variety_5 : decode cX7_variety 5 = .ok (.invokevirtual 21, 3) := by decide +kernel
theorem dX7_variety_8 : decode cX7_variety 8 = .ok (.istore_n 2, 1) := by decide +kernel
theorem dX7_variety_9 : decode cX7_variety 9 = .ok (.iload_n 2, 1) := by decide +kernel
theorem dX7_variety_10 : decode cX7_variety 10 = .ok (.iconst 2, 1) := by decide +kernel
theorem dX7_variety_11 : decode cX7_variety 11 = .ok (.if_icmp .gt 5, 3) := by decide +kernel
theorem dX7_variety_14 : decode cX7_variety 14 = .ok (.iconst 0, 1) := by decide +kernel
theorem dX7_variety_15 : decode cX7_variety 15 = .ok (.ireturn, 1) := by decide +kernel
theorem dX7_variety_16 : decode cX7_variety 16 = .ok (.iload_n 2, 1) := by decide +kernel
theorem dX7_variety_17 : decode cX7_variety 17 = .ok (.bipush 16, 2) := by decide +kernel
theorem dX7_variety_19 : decode cX7_variety 19 = .ok (.if_icmp .gt 5, 3) := by decide +kernel
theorem dX7_variety_22 : decode cX7_variety 22 = .ok (.iconst 1, 1) := by decide +kernel
theorem dX7_variety_23 : decode cX7_variety 23 = .ok (.ireturn, 1) := by decide +kernel
theorem dX7_variety_24 : decode cX7_variety 24 = .ok (.iload_n 2, 1) := by decide +kernel
theorem dX7_variety_25 : decode cX7_variety 25 = .ok (.bipush 64, 2) := by decide +kernel
theorem dX7_variety_27 : decode cX7_variety 27 = .ok (.if_icmp .gt 7, 3) := by decide +kernel
theorem dX7_variety_30 : decode cX7_variety 30 = .ok (.iconst 2, 1) := by decide +kernel
theorem dX7_variety_31 : decode cX7_variety 31 = .ok (.goto 4, 3) := by decide +kernel
theorem dX7_variety_34 : decode cX7_variety 34 = .ok (.iconst 3, 1) := by decide +kernel
theorem dX7_variety_35 : decode cX7_variety 35 = .ok (.ireturn, 1) := by decide +kernel
theorem dX7_quarters_0 : decode cX7_quarters 0 = .ok (.iload_n 1, 1) := by decide +kernel
theorem dX7_quarters_1 : decode cX7_quarters 1 = .ok (.ifCond .gt 7, 3) := by decide +kernel
theorem dX7_quarters_4 : decode cX7_quarters 4 = .ok (.iconst 0, 1) := by decide +kernel
theorem dX7_quarters_5 : decode cX7_quarters 5 = .ok (.goto 12, 3) := by decide +kernel
theorem dX7_quarters_8 : decode cX7_quarters 8 = .ok (.iconst 3, 1) := by decide +kernel
theorem dX7_quarters_9 : decode cX7_quarters 9 = .ok (.iconst 4, 1) := by decide +kernel
theorem dX7_quarters_10 : decode cX7_quarters 10 = .ok (.iload_n 0, 1) := by decide +kernel
theorem dX7_quarters_11 : decode cX7_quarters 11 = .ok (.imul, 1) := by decide +kernel
theorem dX7_quarters_12 : decode cX7_quarters 12 = .ok (.iload_n 1, 1) := by decide +kernel
theorem dX7_quarters_13 : decode cX7_quarters 13 = .ok (.idiv, 1) := by decide +kernel
theorem dX7_quarters_14 : decode cX7_quarters 14 = .ok (.invokestatic 42, 3) := by decide +kernel
theorem dX7_quarters_17 : decode cX7_quarters 17 = .ok (.ireturn, 1) := by decide +kernel
theorem dX8_init_0 : decode cX8_init 0 = .ok (.aload_n 0, 1) := by decide +kernel
theorem dX8_init_1 : decode cX8_init 1 = .ok (.invokespecial 3, 3) := by decide +kernel
theorem dX8_init_4 : decode cX8_init 4 = .ok (.aload_n 0, 1) := by decide +kernel
theorem dX8_init_5 : decode cX8_init 5 = .ok (.sipush 512, 3) := by decide +kernel
theorem dX8_init_8 : decode cX8_init 8 = .ok (.newarray .int, 2) := by decide +kernel
theorem dX8_init_10 : decode cX8_init 10 = .ok (.putfield 9, 3) := by decide +kernel
theorem dX8_init_13 : decode cX8_init 13 = .ok (.aload_n 0, 1) := by decide +kernel
theorem dX8_init_14 : decode cX8_init 14 = .ok (.sipush 512, 3) := by decide +kernel
theorem dX8_init_17 : decode cX8_init 17 = .ok (.newarray .int, 2) := by decide +kernel
theorem dX8_init_19 : decode cX8_init 19 = .ok (.putfield 15, 3) := by decide +kernel
theorem dX8_init_22 : decode cX8_init 22 = .ok (.aload_n 0, 1) := by decide +kernel
theorem dX8_init_23 : decode cX8_init 23 = .ok (.sipush 512, 3) := by decide +kernel
theorem dX8_init_26 : decode cX8_init 26 = .ok (.newarray .int, 2) := by decide +kernel
theorem dX8_init_28 : decode cX8_init 28 = .ok (.putfield 18, 3) := by decide +kernel
theorem dX8_init_31 : decode cX8_init 31 = .ok (.aload_n 0, 1) := by decide +kernel
theorem dX8_init_32 : decode cX8_init 32 = .ok (.sipush 256, 3) := by decide +kernel
theorem dX8_init_35 : decode cX8_init 35 = .ok (.newarray .int, 2) := by decide +kernel
theorem dX8_init_37 : decode cX8_init 37 = .ok (.putfield 21, 3) := by decide +kernel
theorem dX8_init_40 : decode cX8_init 40 = .ok (.aload_n 0, 1) := by decide +kernel
theorem dX8_init_41 : decode cX8_init 41 = .ok (.iconst 0, 1) := by decide +kernel
theorem dX8_init_42 : decode cX8_init 42 = .ok (.putfield 24, 3) := by decide +kernel
theorem dX8_init_45 : decode cX8_init 45 = .ok (.aload_n 0, 1) := by decide +kernel
theorem dX8_init_46 : decode cX8_init 46 = .ok (.iconst 0, 1) := by decide +kernel
theorem dX8_init_47 : decode cX8_init 47 = .ok (.putfield 28, 3) := by decide +kernel
theorem dX8_init_50 : decode cX8_init 50 = .ok (.aload_n 0, 1) := by decide +kernel
theorem dX8_init_51 : decode cX8_init 51 = .ok (.iconst 0, 1) := by decide +kernel
theorem dX8_init_52 : decode cX8_init 52 = .ok (.putfield 31, 3) := by decide +kernel
theorem dX8_init_55 : decode cX8_init 55 = .ok (.return_, 1) := by decide +kernel
theorem dX8_grow_0 : decode cX8_grow 0 = .ok (.aload_n 2, 1) := by decide +kernel
theorem dX8_grow_1 : decode cX8_grow 1 = .ok (.invokevirtual 34, 3) := by decide +kernel
theorem dX8_grow_4 : decode cX8_grow 4 = .ok (.aload_n 0, 1) := by decide +kernel
theorem dX8_grow_5 : decode cX8_grow 5 = .ok (.aload_n 1, 1) := by decide +kernel
theorem dX8_grow_6 : decode cX8_grow 6 = .ok (.invokevirtual 39, 3) := by decide +kernel
theorem dX8_grow_9 : decode cX8_grow 9 = .ok (.aload_n 0, 1) := by decide +kernel
theorem dX8_grow_10 : decode cX8_grow 10 = .ok (.getfield 24, 3) := by decide +kernel
theorem dX8_grow_13 : decode cX8_grow 13 = .ok (.iconst 1, 1) := by decide +kernel
theorem dX8_grow_14 : decode cX8_grow 14 = .ok (.if_icmp .ne 17, 3) := by decide +kernel
theorem dX8_grow_17 : decode cX8_grow 17 = .ok (.aload_n 2, 1) := by decide +kernel
theorem dX8_grow_18 : decode cX8_grow 18 = .ok (.aload_n 0, 1) := by decide +kernel
theorem dX8_grow_19 : decode cX8_grow 19 = .ok (.getfield 21, 3) := by decide +kernel
theorem dX8_grow_22 : decode cX8_grow 22 = .ok (.iconst 0, 1) := by decide +kernel
theorem dX8_grow_23 : decode cX8_grow 23 = .ok (.iaload, 1) := by decide +kernel
theorem dX8_grow_24 : decode cX8_grow 24 = .ok (.iconst 1, 1) := by decide +kernel
theorem dX8_grow_25 : decode cX8_grow 25 = .ok (.invokevirtual 43, 3) := by decide +kernel
theorem dX8_grow_28 : decode cX8_grow 28 = .ok (.goto 20, 3) := by decide +kernel
theorem dX8_grow_31 : decode cX8_grow 31 = .ok (.aload_n 0, 1) := by decide +kernel
theorem dX8_grow_32 : decode cX8_grow 32 = .ok (.getfield 24, 3) := by decide +kernel
theorem dX8_grow_35 : decode cX8_grow 35 = .ok (.iconst 1, 1) := by decide +kernel
theorem dX8_grow_36 : decode cX8_grow 36 = .ok (.if_icmp .le 12, 3) := by decide +kernel
theorem dX8_grow_39 : decode cX8_grow 39 = .ok (.aload_n 0, 1) := by decide +kernel
theorem dX8_grow_40 : decode cX8_grow 40 = .ok (.invokevirtual 47, 3) := by decide +kernel
theorem dX8_grow_43 : decode cX8_grow 43 = .ok (.aload_n 0, 1) := by decide +kernel
theorem dX8_grow_44 : decode cX8_grow 44 = .ok (.aload_n 2, 1) := by decide +kernel
theorem dX8_grow_45 : decode cX8_grow 45 = .ok (.invokevirtual 50, 3) := by decide +kernel
theorem dX8_grow_48 : decode cX8_grow 48 = .ok (.return_, 1) := by decide +kernel
theorem dX8_sortLeaves_0 : decode cX8_sortLeaves 0 = .ok (.aload_n 0, 1) := by decide +kernel
theorem dX8_sortLeaves_1 : decode cX8_sortLeaves 1 = .ok (.iconst 0, 1) := by decide +kernel
theorem dX8_sortLeaves_2 : decode cX8_sortLeaves 2 = .ok (.putfield 24, 3) := by decide +kernel
theorem dX8_sortLeaves_5 : decode cX8_sortLeaves 5 = .ok (.iconst 0, 1) := by decide +kernel
theorem dX8_sortLeaves_6 : decode cX8_sortLeaves 6 = .ok (.istore_n 2, 1) := by decide +kernel
theorem dX8_sortLeaves_7 : decode cX8_sortLeaves 7 = .ok (.iload_n 2, 1) := by decide +kernel
theorem dX8_sortLeaves_8 : decode cX8_sortLeaves 8 = .ok (.sipush 256, 3) := by decide +kernel
theorem dX8_sortLeaves_11 : decode cX8_sortLeaves 11 = .ok (.if_icmp .ge 107, 3) := by decide +kernel
theorem dX8_sortLeaves_14 : decode cX8_sortLeaves 14 = .ok (.iload_n 2, 1) := by decide +kernel
theorem dX8_sortLeaves_15 : decode cX8_sortLeaves 15 = .ok (.aload_n 1, 1) := by decide +kernel
theorem dX8_sortLeaves_16 : decode cX8_sortLeaves 16 = .ok (.arraylength, 1) := by decide +kernel
theorem dX8_sortLeaves_17 : decode cX8_sortLeaves 17 = .ok (.if_icmp .ge 101, 3) := by decide +kernel
theorem dX8_sortLeaves_20 : decode cX8_sortLeaves 20 = .ok (.aload_n 1, 1) := by decide +kernel
theorem dX8_sortLeaves_21 : decode cX8_sortLeaves 21 = .ok (.iload_n 2, 1) := by decide +kernel
theorem dX8_sortLeaves_22 : decode cX8_sortLeaves 22 = .ok (.iaload, 1) := by decide +kernel
theorem dX8_sortLeaves_23 : decode cX8_sortLeaves 23 = .ok (.ifCond .gt 6, 3) := by decide +kernel
theorem dX8_sortLeaves_26 : decode cX8_sortLeaves 26 = .ok (.goto 86, 3) := by decide +kernel
theorem dX8_sortLeaves_29 : decode cX8_sortLeaves 29 = .ok (.aload_n 0, 1) := by decide +kernel
theorem dX8_sortLeaves_30 : decode cX8_sortLeaves 30 = .ok (.getfield 24, 3) := by decide +kernel
theorem dX8_sortLeaves_33 : decode cX8_sortLeaves 33 = .ok (.istore_n 3, 1) := by decide +kernel
theorem dX8_sortLeaves_34 : decode cX8_sortLeaves 34 = .ok (.iload_n 3, 1) := by decide +kernel
theorem dX8_sortLeaves_35 : decode cX8_sortLeaves 35 = .ok (.ifCond .le 51, 3) := by decide +kernel
theorem dX8_sortLeaves_38 : decode cX8_sortLeaves 38 = .ok (.aload_n 0, 1) := by decide +kernel
theorem dX8_sortLeaves_39 : decode cX8_sortLeaves 39 = .ok (.getfield 9, 3) := by decide +kernel
theorem dX8_sortLeaves_42 : decode cX8_sortLeaves 42 = .ok (.iload_n 3, 1) := by decide +kernel
theorem dX8_sortLeaves_43 : decode cX8_sortLeaves 43 = .ok (.iconst 1, 1) := by decide +kernel
theorem dX8_sortLeaves_44 : decode cX8_sortLeaves 44 = .ok (.isub, 1) := by decide +kernel
theorem dX8_sortLeaves_45 : decode cX8_sortLeaves 45 = .ok (.iaload, 1) := by decide +kernel
theorem dX8_sortLeaves_46 : decode cX8_sortLeaves 46 = .ok (.aload_n 1, 1) := by decide +kernel
theorem dX8_sortLeaves_47 : decode cX8_sortLeaves 47 = .ok (.iload_n 2, 1) := by decide +kernel
theorem dX8_sortLeaves_48 : decode cX8_sortLeaves 48 = .ok (.iaload, 1) := by decide +kernel
theorem dX8_sortLeaves_49 : decode cX8_sortLeaves 49 = .ok (.if_icmp .le 37, 3) := by decide +kernel
theorem dX8_sortLeaves_52 : decode cX8_sortLeaves 52 = .ok (.aload_n 0, 1) := by decide +kernel
theorem dX8_sortLeaves_53 : decode cX8_sortLeaves 53 = .ok (.getfield 9, 3) := by decide +kernel
theorem dX8_sortLeaves_56 : decode cX8_sortLeaves 56 = .ok (.iload_n 3, 1) := by decide +kernel
theorem dX8_sortLeaves_57 : decode cX8_sortLeaves 57 = .ok (.aload_n 0, 1) := by decide +kernel
theorem dX8_sortLeaves_58 : decode cX8_sortLeaves 58 = .ok (.getfield 9, 3) := by decide +kernel
theorem dX8_sortLeaves_61 : decode cX8_sortLeaves 61 = .ok (.iload_n 3, 1) := by decide +kernel
theorem dX8_sortLeaves_62 : decode cX8_sortLeaves 62 = .ok (.iconst 1, 1) := by decide +kernel
theorem dX8_sortLeaves_63 : decode cX8_sortLeaves 63 = .ok (.isub, 1) := by decide +kernel
theorem dX8_sortLeaves_64 : decode cX8_sortLeaves 64 = .ok (.iaload, 1) := by decide +kernel
theorem dX8_sortLeaves_65 : decode cX8_sortLeaves 65 = .ok (.iastore, 1) := by decide +kernel
theorem dX8_sortLeaves_66 : decode cX8_sortLeaves 66 = .ok (.aload_n 0, 1) := by decide +kernel
theorem dX8_sortLeaves_67 : decode cX8_sortLeaves 67 = .ok (.getfield 21, 3) := by decide +kernel
theorem dX8_sortLeaves_70 : decode cX8_sortLeaves 70 = .ok (.iload_n 3, 1) := by decide +kernel
theorem dX8_sortLeaves_71 : decode cX8_sortLeaves 71 = .ok (.aload_n 0, 1) := by decide +kernel
theorem dX8_sortLeaves_72 : decode cX8_sortLeaves 72 = .ok (.getfield 21, 3) := by decide +kernel
theorem dX8_sortLeaves_75 : decode cX8_sortLeaves 75 = .ok (.iload_n 3, 1) := by decide +kernel
theorem dX8_sortLeaves_76 : decode cX8_sortLeaves 76 = .ok (.iconst 1, 1) := by decide +kernel
theorem dX8_sortLeaves_77 : decode cX8_sortLeaves 77 = .ok (.isub, 1) := by decide +kernel
theorem dX8_sortLeaves_78 : decode cX8_sortLeaves 78 = .ok (.iaload, 1) := by decide +kernel
theorem dX8_sortLeaves_79 : decode cX8_sortLeaves 79 = .ok (.iastore, 1) := by decide +kernel
theorem dX8_sortLeaves_80 : decode cX8_sortLeaves 80 = .ok (.iinc 3 (-1), 3) := by decide +kernel
theorem dX8_sortLeaves_83 : decode cX8_sortLeaves 83 = .ok (.goto (-49), 3) := by decide +kernel
theorem dX8_sortLeaves_86 : decode cX8_sortLeaves 86 = .ok (.aload_n 0, 1) := by decide +kernel
theorem dX8_sortLeaves_87 : decode cX8_sortLeaves 87 = .ok (.getfield 9, 3) := by decide +kernel
theorem dX8_sortLeaves_90 : decode cX8_sortLeaves 90 = .ok (.iload_n 3, 1) := by decide +kernel
theorem dX8_sortLeaves_91 : decode cX8_sortLeaves 91 = .ok (.aload_n 1, 1) := by decide +kernel
theorem dX8_sortLeaves_92 : decode cX8_sortLeaves 92 = .ok (.iload_n 2, 1) := by decide +kernel
theorem dX8_sortLeaves_93 : decode cX8_sortLeaves 93 = .ok (.iaload, 1) := by decide +kernel
theorem dX8_sortLeaves_94 : decode cX8_sortLeaves 94 = .ok (.iastore, 1) := by decide +kernel
theorem dX8_sortLeaves_95 : decode cX8_sortLeaves 95 = .ok (.aload_n 0, 1) := by decide +kernel
theorem dX8_sortLeaves_96 : decode cX8_sortLeaves 96 = .ok (.getfield 21, 3) := by decide +kernel
theorem dX8_sortLeaves_99 : decode cX8_sortLeaves 99 = .ok (.iload_n 3, 1) := by decide +kernel
theorem dX8_sortLeaves_100 : decode cX8_sortLeaves 100 = .ok (.iload_n 2, 1) := by decide +kernel
theorem dX8_sortLeaves_101 : decode cX8_sortLeaves 101 = .ok (.iastore, 1) := by decide +kernel
theorem dX8_sortLeaves_102 : decode cX8_sortLeaves 102 = .ok (.aload_n 0, 1) := by decide +kernel
theorem dX8_sortLeaves_103 : decode cX8_sortLeaves 103 = .ok (.dup, 1) := by decide +kernel
theorem dX8_sortLeaves_104 : decode cX8_sortLeaves 104 = .ok (.getfield 24, 3) := by decide +kernel
theorem dX8_sortLeaves_107 : decode cX8_sortLeaves 107 = .ok (.iconst 1, 1) := by decide +kernel
theorem dX8_sortLeaves_108 : decode cX8_sortLeaves 108 = .ok (.iadd, 1) := by decide +kernel
theorem dX8_sortLeaves_109 : decode cX8_sortLeaves 109 = .ok (.putfield 24, 3) := by decide +kernel
theorem dX8_sortLeaves_112 : decode cX8_sortLeaves 112 = .ok (.iinc 2 1, 3) := by decide +kernel
theorem dX8_sortLeaves_115 : decode cX8_sortLeaves 115 = .ok (.goto (-108), 3) := by decide +kernel
theorem dX8_sortLeaves_118 : decode cX8_sortLeaves 118 = .ok (.return_, 1) := by decide +kernel
theorem dX8_join_0 : decode cX8_join 0 = .ok (.aload_n 0, 1) := by decide +kernel
theorem dX8_join_1 : decode cX8_join 1 = .ok (.iconst 0, 1) := by decide +kernel
theorem dX8_join_2 : decode cX8_join 2 = .ok (.putfield 28, 3) := by decide +kernel
theorem dX8_join_5 : decode cX8_join 5 = .ok (.aload_n 0, 1) := by decide +kernel
theorem dX8_join_6 : decode cX8_join 6 = .ok (.aload_n 0, 1) := by decide +kernel
theorem dX8_join_7 : decode cX8_join 7 = .ok (.getfield 24, 3) := by decide +kernel
theorem dX8_join_10 : decode cX8_join 10 = .ok (.putfield 31, 3) := by decide +kernel
theorem dX8_join_13 : decode cX8_join 13 = .ok (.aload_n 0, 1) := by decide +kernel
theorem dX8_join_14 : decode cX8_join 14 = .ok (.getfield 24, 3) := by decide +kernel
theorem dX8_join_17 : decode cX8_join 17 = .ok (.istore_n 1, 1) := by decide +kernel
theorem dX8_join_18 : decode cX8_join 18 = .ok (.iload_n 1, 1) := by decide +kernel
theorem dX8_join_19 : decode cX8_join 19 = .ok (.iconst 2, 1) := by decide +kernel
theorem dX8_join_20 : decode cX8_join 20 = .ok (.aload_n 0, 1) := by decide +kernel
theorem dX8_join_21 : decode cX8_join 21 = .ok (.getfield 24, 3) := by decide +kernel
theorem dX8_join_24 : decode cX8_join 24 = .ok (.imul, 1) := by decide +kernel
theorem dX8_join_25 : decode cX8_join 25 = .ok (.iconst 1, 1) := by decide +kernel
theorem dX8_join_26 : decode cX8_join 26 = .ok (.isub, 1) := by decide +kernel
theorem dX8_join_27 : decode cX8_join 27 = .ok (.if_icmp .ge 63, 3) := by decide +kernel
theorem dX8_join_30 : decode cX8_join 30 = .ok (.iload_n 1, 1) := by decide +kernel
theorem dX8_join_31 : decode cX8_join 31 = .ok (.aload_n 0, 1) := by decide +kernel
theorem dX8_join_32 : decode cX8_join 32 = .ok (.getfield 9, 3) := by decide +kernel
theorem dX8_join_35 : decode cX8_join 35 = .ok (.arraylength, 1) := by decide +kernel
theorem dX8_join_36 : decode cX8_join 36 = .ok (.if_icmp .ge 54, 3) := by decide +kernel
theorem dX8_join_39 : decode cX8_join 39 = .ok (.aload_n 0, 1) := by decide +kernel
theorem dX8_join_40 : decode cX8_join 40 = .ok (.iload_n 1, 1) := by decide +kernel
theorem dX8_join_41 : decode cX8_join 41 = .ok (.invokevirtual 54, 3) := by decide +kernel
theorem dX8_join_44 : decode cX8_join 44 = .ok (.istore_n 2, 1) := by decide +kernel
theorem dX8_join_45 : decode cX8_join 45 = .ok (.aload_n 0, 1) := by decide +kernel
theorem dX8_join_46 : decode cX8_join 46 = .ok (.iload_n 1, 1) := by decide +kernel
theorem dX8_join_47 : decode cX8_join 47 = .ok (.invokevirtual 54, 3) := by decide +kernel
theorem dX8_join_50 : decode cX8_join 50 = .ok (.istore_n 3, 1) := by decide +kernel
theorem dX8_join_51 : decode cX8_join 51 = .ok (.aload_n 0, 1) := by decide +kernel
theorem dX8_join_52 : decode cX8_join 52 = .ok (.getfield 9, 3) := by decide +kernel
theorem dX8_join_55 : decode cX8_join 55 = .ok (.iload_n 1, 1) := by decide +kernel
theorem dX8_join_56 : decode cX8_join 56 = .ok (.aload_n 0, 1) := by decide +kernel
theorem dX8_join_57 : decode cX8_join 57 = .ok (.getfield 9, 3) := by decide +kernel
theorem dX8_join_60 : decode cX8_join 60 = .ok (.iload_n 2, 1) := by decide +kernel
theorem dX8_join_61 : decode cX8_join 61 = .ok (.iaload, 1) := by decide +kernel
theorem dX8_join_62 : decode cX8_join 62 = .ok (.aload_n 0, 1) := by decide +kernel
theorem dX8_join_63 : decode cX8_join 63 = .ok (.getfield 9, 3) := by decide +kernel
theorem dX8_join_66 : decode cX8_join 66 = .ok (.iload_n 3, 1) := by decide +kernel
theorem dX8_join_67 : decode cX8_join 67 = .ok (.iaload, 1) := by decide +kernel
theorem dX8_join_68 : decode cX8_join 68 = .ok (.iadd, 1) := by decide +kernel
theorem dX8_join_69 : decode cX8_join 69 = .ok (.iastore, 1) := by decide +kernel
theorem dX8_join_70 : decode cX8_join 70 = .ok (.aload_n 0, 1) := by decide +kernel
theorem dX8_join_71 : decode cX8_join 71 = .ok (.getfield 15, 3) := by decide +kernel
theorem dX8_join_74 : decode cX8_join 74 = .ok (.iload_n 2, 1) := by decide +kernel
theorem dX8_join_75 : decode cX8_join 75 = .ok (.iload_n 1, 1) := by decide +kernel
theorem dX8_join_76 : decode cX8_join 76 = .ok (.iastore, 1) := by decide +kernel
theorem dX8_join_77 : decode cX8_join 77 = .ok (.aload_n 0, 1) := by decide +kernel
theorem dX8_join_78 : decode cX8_join 78 = .ok (.getfield 15, 3) := by decide +kernel
theorem dX8_join_81 : decode cX8_join 81 = .ok (.iload_n 3, 1) := by decide +kernel
theorem dX8_join_82 : decode cX8_join 82 = .ok (.iload_n 1, 1) := by decide +kernel
theorem dX8_join_83 : decode cX8_join 83 = .ok (.iastore, 1) := by decide +kernel
theorem dX8_join_84 : decode cX8_join 84 = .ok (.iinc 1 1, 3) := by decide +kernel
theorem dX8_join_87 : decode cX8_join 87 = .ok (.goto (-69), 3) := by decide +kernel
theorem dX8_join_90 : decode cX8_join 90 = .ok (.return_, 1) := by decide +kernel
theorem dX8_takeLeast_0 : decode cX8_takeLeast 0 = .ok (.aload_n 0, 1) := by decide +kernel
theorem dX8_takeLeast_1 : decode cX8_takeLeast 1 = .ok (.getfield 28, 3) := by decide +kernel
theorem dX8_takeLeast_4 : decode cX8_takeLeast 4 = .ok (.aload_n 0, 1) := by decide +kernel
theorem dX8_takeLeast_5 : decode cX8_takeLeast 5 = .ok (.getfield 24, 3) := by decide +kernel
theorem dX8_takeLeast_8 : decode cX8_takeLeast 8 = .ok (.if_icmp .ge 7, 3) := by decide +kernel
theorem dX8_takeLeast_11 : decode cX8_takeLeast 11 = .ok (.iconst 1, 1) := by decide +kernel
theorem dX8_takeLeast_12 : decode cX8_takeLeast 12 = .ok (.goto 4, 3) := by decide +kernel
theorem dX8_takeLeast_15 : decode cX8_takeLeast 15 = .ok (.iconst 0, 1) := by decide +kernel
theorem dX8_takeLeast_16 : decode cX8_takeLeast 16 = .ok (.istore_n 2, 1) := by decide +kernel
theorem dX8_takeLeast_17 : decode cX8_takeLeast 17 = .ok (.aload_n 0, 1) := by decide +kernel
theorem dX8_takeLeast_18 : decode cX8_takeLeast 18 = .ok (.getfield 31, 3) := by decide +kernel
theorem dX8_takeLeast_21 : decode cX8_takeLeast 21 = .ok (.iload_n 1, 1) := by decide +kernel
theorem dX8_takeLeast_22 : decode cX8_takeLeast 22 = .ok (.if_icmp .ge 16, 3) := by decide +kernel
theorem dX8_takeLeast_25 : decode cX8_takeLeast 25 = .ok (.iload_n 1, 1) := by decide +kernel
theorem dX8_takeLeast_26 : decode cX8_takeLeast 26 = .ok (.aload_n 0, 1) := by decide +kernel
theorem dX8_takeLeast_27 : decode cX8_takeLeast 27 = .ok (.getfield 9, 3) := by decide +kernel
theorem dX8_takeLeast_30 : decode cX8_takeLeast 30 = .ok (.arraylength, 1) := by decide +kernel
theorem dX8_takeLeast_31 : decode cX8_takeLeast 31 = .ok (.if_icmp .gt 7, 3) := by decide +kernel
theorem dX8_takeLeast_34 : decode cX8_takeLeast 34 = .ok (.iconst 1, 1) := by decide +kernel
theorem dX8_takeLeast_35 : decode cX8_takeLeast 35 = .ok (.goto 4, 3) := by decide +kernel
theorem dX8_takeLeast_38 : decode cX8_takeLeast 38 = .ok (.iconst 0, 1) := by decide +kernel
theorem dX8_takeLeast_39 : decode cX8_takeLeast 39 = .ok (.istore_n 3, 1) := by decide +kernel
theorem dX8_takeLeast_40 : decode cX8_takeLeast 40 = .ok (.iload_n 2, 1) := by decide +kernel
theorem dX8_takeLeast_41 : decode cX8_takeLeast 41 = .ok (.ifCond .eq 45, 3) := by decide +kernel
theorem dX8_takeLeast_44 : decode cX8_takeLeast 44 = .ok (.iload_n 3, 1) := by decide +kernel
theorem dX8_takeLeast_45 : decode cX8_takeLeast 45 = .ok (.ifCond .eq 24, 3) := by decide +kernel
theorem dX8_takeLeast_48 : decode cX8_takeLeast 48 = .ok (.aload_n 0, 1) := by decide +kernel
theorem dX8_takeLeast_49 : decode cX8_takeLeast 49 = .ok (.getfield 9, 3) := by decide +kernel
theorem dX8_takeLeast_52 : decode cX8_takeLeast 52 = .ok (.aload_n 0, 1) := by decide +kernel
theorem dX8_takeLeast_53 : decode cX8_takeLeast 53 = .ok (.getfield 28, 3) := by decide +kernel
theorem dX8_takeLeast_56 : decode cX8_takeLeast 56 = .ok (.iaload, 1) := by decide +kernel
theorem dX8_takeLeast_57 : decode cX8_takeLeast 57 = .ok (.aload_n 0, 1) := by decide +kernel
theorem dX8_takeLeast_58 : decode cX8_takeLeast 58 = .ok (.getfield 9, 3) := by decide +kernel
theorem dX8_takeLeast_61 : decode cX8_takeLeast 61 = .ok (.aload_n 0, 1) := by decide +kernel
theorem dX8_takeLeast_62 : decode cX8_takeLeast 62 = .ok (.getfield 31, 3) := by decide +kernel
theorem dX8_takeLeast_65 : decode cX8_takeLeast 65 = .ok (.iaload, 1) := by decide +kernel
theorem dX8_takeLeast_66 : decode cX8_takeLeast 66 = .ok (.if_icmp .gt 20, 3) := by decide +kernel
theorem dX8_takeLeast_69 : decode cX8_takeLeast 69 = .ok (.aload_n 0, 1) := by decide +kernel
theorem dX8_takeLeast_70 : decode cX8_takeLeast 70 = .ok (.dup, 1) := by decide +kernel
theorem dX8_takeLeast_71 : decode cX8_takeLeast 71 = .ok (.getfield 28, 3) := by decide +kernel
theorem dX8_takeLeast_74 : decode cX8_takeLeast 74 = .ok (.iconst 1, 1) := by decide +kernel
theorem dX8_takeLeast_75 : decode cX8_takeLeast 75 = .ok (.iadd, 1) := by decide +kernel
theorem dX8_takeLeast_76 : decode cX8_takeLeast 76 = .ok (.putfield 28, 3) := by decide +kernel
theorem dX8_takeLeast_79 : decode cX8_takeLeast 79 = .ok (.aload_n 0, 1) := by decide +kernel
theorem dX8_takeLeast_80 : decode cX8_takeLeast 80 = .ok (.getfield 28, 3) := by decide +kernel
theorem dX8_takeLeast_83 : decode cX8_takeLeast 83 = .ok (.iconst 1, 1) := by decide +kernel
theorem dX8_takeLeast_84 : decode cX8_takeLeast 84 = .ok (.isub, 1) := by decide +kernel
theorem dX8_takeLeast_85 : decode cX8_takeLeast 85 = .ok (.ireturn, 1) := by decide +kernel
theorem dX8_takeLeast_86 : decode cX8_takeLeast 86 = .ok (.iload_n 3, 1) := by decide +kernel
theorem dX8_takeLeast_87 : decode cX8_takeLeast 87 = .ok (.ifCond .ne 5, 3) := by decide +kernel
theorem dX8_takeLeast_90 : decode cX8_takeLeast 90 = .ok (.iconst 0, 1) := by decide +kernel
theorem dX8_takeLeast_91 : decode cX8_takeLeast 91 = .ok (.ireturn, 1) := by decide +kernel
theorem dX8_takeLeast_92 : decode cX8_takeLeast 92 = .ok (.aload_n 0, 1) := by decide +kernel
theorem dX8_takeLeast_93 : decode cX8_takeLeast 93 = .ok (.dup, 1) := by decide +kernel
theorem dX8_takeLeast_94 : decode cX8_takeLeast 94 = .ok (.getfield 31, 3) := by decide +kernel
theorem dX8_takeLeast_97 : decode cX8_takeLeast 97 = .ok (.iconst 1, 1) := by decide +kernel
theorem dX8_takeLeast_98 : decode cX8_takeLeast 98 = .ok (.iadd, 1) := by decide +kernel
theorem dX8_takeLeast_99 : decode cX8_takeLeast 99 = .ok (.putfield 31, 3) := by decide +kernel
theorem dX8_takeLeast_102 : decode cX8_takeLeast 102 = .ok (.aload_n 0, 1) := by decide +kernel
theorem dX8_takeLeast_103 : decode cX8_takeLeast 103 = .ok (.getfield 31, 3) := by decide +kernel
theorem dX8_takeLeast_106 : decode cX8_takeLeast 106 = .ok (.iconst 1, 1) := by decide +kernel
theorem dX8_takeLeast_107 : decode cX8_takeLeast 107 = .ok (.isub, 1) := by decide +kernel
theorem dX8_takeLeast_108 : decode cX8_takeLeast 108 = .ok (.ireturn, 1) := by decide +kernel
theorem dX8_measure_0 : decode cX8_measure 0 = .ok (.iconst 2, 1) := by decide +kernel
theorem dX8_measure_1 : decode cX8_measure 1 = .ok (.aload_n 0, 1) := by decide +kernel
theorem dX8_measure_2 : decode cX8_measure 2 = .ok (.getfield 24, 3) := by decide +kernel
theorem dX8_measure_5 : decode cX8_measure 5 = .ok (.imul, 1) := by decide +kernel
theorem dX8_measure_6 : decode cX8_measure 6 = .ok (.aload_n 0, 1) := by decide +kernel
theorem dX8_measure_7 : decode cX8_measure 7 = .ok (.getfield 18, 3) := by decide +kernel
theorem dX8_measure_10 : decode cX8_measure 10 = .ok (.arraylength, 1) := by decide +kernel
theorem dX8_measure_11 : decode cX8_measure 11 = .ok (.invokestatic 58, 3) := by decide +kernel
theorem dX8_measure_14 : decode cX8_measure 14 = .ok (.iconst 2, 1) := by decide +kernel
theorem dX8_measure_15 : decode cX8_measure 15 = .ok (.isub, 1) := by decide +kernel
theorem dX8_measure_16 : decode cX8_measure 16 = .ok (.istore_n 2, 1) := by decide +kernel
theorem dX8_measure_17 : decode cX8_measure 17 = .ok (.aload_n 0, 1) := by decide +kernel
theorem dX8_measure_18 : decode cX8_measure 18 = .ok (.getfield 18, 3) := by decide +kernel
theorem dX8_measure_21 : decode cX8_measure 21 = .ok (.iload_n 2, 1) := by decide +kernel
theorem dX8_measure_22 : decode cX8_measure 22 = .ok (.iconst 0, 1) := by decide +kernel
theorem dX8_measure_23 : decode cX8_measure 23 = .ok (.iastore, 1) := by decide +kernel
theorem dX8_measure_24 : decode cX8_measure 24 = .ok (.iload_n 2, 1) := by decide +kernel
theorem dX8_measure_25 : decode cX8_measure 25 = .ok (.iconst 1, 1) := by decide +kernel
theorem dX8_measure_26 : decode cX8_measure 26 = .ok (.isub, 1) := by decide +kernel
theorem dX8_measure_27 : decode cX8_measure 27 = .ok (.istore_n 3, 1) := by decide +kernel
theorem dX8_measure_28 : decode cX8_measure 28 = .ok (.iload_n 3, 1) := by decide +kernel
theorem dX8_measure_29 : decode cX8_measure 29 = .ok (.ifCond .lt 60, 3) := by decide +kernel
theorem dX8_measure_32 : decode cX8_measure 32 = .ok (.aload_n 0, 1) := by decide +kernel
theorem dX8_measure_33 : decode cX8_measure 33 = .ok (.getfield 18, 3) := by decide +kernel
theorem dX8_measure_36 : decode cX8_measure 36 = .ok (.iload_n 3, 1) := by decide +kernel
theorem dX8_measure_37 : decode cX8_measure 37 = .ok (.aload_n 0, 1) := by decide +kernel
theorem dX8_measure_38 : decode cX8_measure 38 = .ok (.getfield 18, 3) := by decide +kernel
theorem dX8_measure_41 : decode cX8_measure 41 = .ok (.aload_n 0, 1) := by decide +kernel
theorem dX8_measure_42 : decode cX8_measure 42 = .ok (.getfield 15, 3) := by decide +kernel
theorem dX8_measure_45 : decode cX8_measure 45 = .ok (.iload_n 3, 1) := by decide +kernel
theorem dX8_measure_46 : decode cX8_measure 46 = .ok (.iaload, 1) := by decide +kernel
theorem dX8_measure_47 : decode cX8_measure 47 = .ok (.iconst 0, 1) := by decide +kernel
theorem dX8_measure_48 : decode cX8_measure 48 = .ok (.invokestatic 64, 3) := by decide +kernel
theorem dX8_measure_51 : decode cX8_measure 51 = .ok (.iload_n 2, 1) := by decide +kernel
theorem dX8_measure_52 : decode cX8_measure 52 = .ok (.invokestatic 58, 3) := by decide +kernel
theorem dX8_measure_55 : decode cX8_measure 55 = .ok (.iaload, 1) := by decide +kernel
theorem dX8_measure_56 : decode cX8_measure 56 = .ok (.iconst 1, 1) := by decide +kernel
theorem dX8_measure_57 : decode cX8_measure 57 = .ok (.iadd, 1) := by decide +kernel
theorem dX8_measure_58 : decode cX8_measure 58 = .ok (.iastore, 1) := by decide +kernel
theorem dX8_measure_59 : decode cX8_measure 59 = .ok (.iload_n 3, 1) := by decide +kernel
theorem dX8_measure_60 : decode cX8_measure 60 = .ok (.aload_n 0, 1) := by decide +kernel
theorem dX8_measure_61 : decode cX8_measure 61 = .ok (.getfield 24, 3) := by decide +kernel
theorem dX8_measure_64 : decode cX8_measure 64 = .ok (.if_icmp .ge 19, 3) := by decide +kernel
theorem dX8_measure_67 : decode cX8_measure 67 = .ok (.aload_n 1, 1) := by decide +kernel
theorem dX8_measure_68 : decode cX8_measure 68 = .ok (.aload_n 0, 1) := by decide +kernel
theorem dX8_measure_69 : decode cX8_measure 69 = .ok (.getfield 21, 3) := by decide +kernel
theorem dX8_measure_72 : decode cX8_measure 72 = .ok (.iload_n 3, 1) := by decide +kernel
theorem dX8_measure_73 : decode cX8_measure 73 = .ok (.iaload, 1) := by decide +kernel
theorem dX8_measure_74 : decode cX8_measure 74 = .ok (.aload_n 0, 1) := by decide +kernel
theorem dX8_measure_75 : decode cX8_measure 75 = .ok (.getfield 18, 3) := by decide +kernel
theorem dX8_measure_78 : decode cX8_measure 78 = .ok (.iload_n 3, 1) := by decide +kernel
theorem dX8_measure_79 : decode cX8_measure 79 = .ok (.iaload, 1) := by decide +kernel
theorem dX8_measure_80 : decode cX8_measure 80 = .ok (.invokevirtual 43, 3) := by decide +kernel
theorem dX8_measure_83 : decode cX8_measure 83 = .ok (.iinc 3 (-1), 3) := by decide +kernel
theorem dX8_measure_86 : decode cX8_measure 86 = .ok (.goto (-58), 3) := by decide +kernel
theorem dX8_measure_89 : decode cX8_measure 89 = .ok (.return_, 1) := by decide +kernel
theorem dX9_init_0 : decode cX9_init 0 = .ok (.aload_n 0, 1) := by decide +kernel
theorem dX9_init_1 : decode cX9_init 1 = .ok (.invokespecial 3, 3) := by decide +kernel
theorem dX9_init_4 : decode cX9_init 4 = .ok (.aload_n 0, 1) := by decide +kernel
theorem dX9_init_5 : decode cX9_init 5 = .ok (.new 9, 3) := by decide +kernel
theorem dX9_init_8 : decode cX9_init 8 = .ok (.dup, 1) := by decide +kernel
theorem dX9_init_9 : decode cX9_init 9 = .ok (.invokespecial 11, 3) := by decide +kernel
theorem dX9_init_12 : decode cX9_init 12 = .ok (.putfield 12, 3) := by decide +kernel
theorem dX9_init_15 : decode cX9_init 15 = .ok (.aload_n 0, 1) := by decide +kernel
theorem dX9_init_16 : decode cX9_init 16 = .ok (.iconst 2, 1) := by decide +kernel
theorem dX9_init_17 : decode cX9_init 17 = .ok (.newarray .int, 2) := by decide +kernel
theorem dX9_init_19 : decode cX9_init 19 = .ok (.putfield 18, 3) := by decide +kernel
theorem dX9_init_22 : decode cX9_init 22 = .ok (.aload_n 0, 1) := by decide +kernel
theorem dX9_init_23 : decode cX9_init 23 = .ok (.iconst 2, 1) := by decide +kernel
theorem dX9_init_24 : decode cX9_init 24 = .ok (.newarray .int, 2) := by decide +kernel
theorem dX9_init_26 : decode cX9_init 26 = .ok (.putfield 22, 3) := by decide +kernel
theorem dX9_init_29 : decode cX9_init 29 = .ok (.aload_n 0, 1) := by decide +kernel
theorem dX9_init_30 : decode cX9_init 30 = .ok (.sipush 256, 3) := by decide +kernel
theorem dX9_init_33 : decode cX9_init 33 = .ok (.newarray .int, 2) := by decide +kernel
theorem dX9_init_35 : decode cX9_init 35 = .ok (.putfield 25, 3) := by decide +kernel
theorem dX9_init_38 : decode cX9_init 38 = .ok (.aload_n 0, 1) := by decide +kernel
theorem dX9_init_39 : decode cX9_init 39 = .ok (.new 28, 3) := by decide +kernel
theorem dX9_init_42 : decode cX9_init 42 = .ok (.dup, 1) := by decide +kernel
theorem dX9_init_43 : decode cX9_init 43 = .ok (.invokespecial 30, 3) := by decide +kernel
theorem dX9_init_46 : decode cX9_init 46 = .ok (.putfield 31, 3) := by decide +kernel
theorem dX9_init_49 : decode cX9_init 49 = .ok (.aload_n 0, 1) := by decide +kernel
theorem dX9_init_50 : decode cX9_init 50 = .ok (.new 35, 3) := by decide +kernel
theorem dX9_init_53 : decode cX9_init 53 = .ok (.dup, 1) := by decide +kernel
theorem dX9_init_54 : decode cX9_init 54 = .ok (.invokespecial 37, 3) := by decide +kernel
theorem dX9_init_57 : decode cX9_init 57 = .ok (.putfield 38, 3) := by decide +kernel
theorem dX9_init_60 : decode cX9_init 60 = .ok (.aload_n 0, 1) := by decide +kernel
theorem dX9_init_61 : decode cX9_init 61 = .ok (.new 42, 3) := by decide +kernel
theorem dX9_init_64 : decode cX9_init 64 = .ok (.dup, 1) := by decide +kernel
theorem dX9_init_65 : decode cX9_init 65 = .ok (.sipush 300, 3) := by decide +kernel
theorem dX9_init_68 : decode cX9_init 68 = .ok (.invokespecial 44, 3) := by decide +kernel
theorem dX9_init_71 : decode cX9_init 71 = .ok (.putfield 47, 3) := by decide +kernel
theorem dX9_init_74 : decode cX9_init 74 = .ok (.aload_n 0, 1) := by decide +kernel
theorem dX9_init_75 : decode cX9_init 75 = .ok (.new 42, 3) := by decide +kernel
theorem dX9_init_78 : decode cX9_init 78 = .ok (.dup, 1) := by decide +kernel
theorem dX9_init_79 : decode cX9_init 79 = .ok (.sipush 300, 3) := by decide +kernel
theorem dX9_init_82 : decode cX9_init 82 = .ok (.invokespecial 44, 3) := by decide +kernel
theorem dX9_init_85 : decode cX9_init 85 = .ok (.putfield 51, 3) := by decide +kernel
theorem dX9_init_88 : decode cX9_init 88 = .ok (.aload_n 0, 1) := by decide +kernel
theorem dX9_init_89 : decode cX9_init 89 = .ok (.iconst 0, 1) := by decide +kernel
theorem dX9_init_90 : decode cX9_init 90 = .ok (.putfield 54, 3) := by decide +kernel
theorem dX9_init_93 : decode cX9_init 93 = .ok (.aload_n 0, 1) := by decide +kernel
theorem dX9_init_94 : decode cX9_init 94 = .ok (.iconst 0, 1) := by decide +kernel
theorem dX9_init_95 : decode cX9_init 95 = .ok (.putfield 58, 3) := by decide +kernel
theorem dX9_init_98 : decode cX9_init 98 = .ok (.aload_n 0, 1) := by decide +kernel
theorem dX9_init_99 : decode cX9_init 99 = .ok (.iconst 0, 1) := by decide +kernel
theorem dX9_init_100 : decode cX9_init 100 = .ok (.putfield 61, 3) := by decide +kernel
theorem dX9_init_103 : decode cX9_init 103 = .ok (.return_, 1) := by decide +kernel
theorem dX9_faultPlace_0 : decode cX9_faultPlace 0 = .ok (.aload_n 0, 1) := by decide +kernel
theorem dX9_faultPlace_1 : decode cX9_faultPlace 1 = .ok (.getfield 12, 3) := by decide +kernel
theorem dX9_faultPlace_4 : decode cX9_faultPlace 4 = .ok (.invokevirtual 64, 3) := by decide +kernel
theorem dX9_faultPlace_7 : decode cX9_faultPlace 7 = .ok (.ireturn, 1) := by decide +kernel
theorem dX9_readHead_0 : decode cX9_readHead 0 = .ok (.aload_n 0, 1) := by decide +kernel
theorem dX9_readHead_1 : decode cX9_readHead 1 = .ok (.getfield 12, 3) := by decide +kernel
theorem dX9_readHead_4 : decode cX9_readHead 4 = .ok (.aload_n 1, 1) := by decide +kernel
theorem dX9_readHead_5 : decode cX9_readHead 5 = .ok (.invokevirtual 68, 3) := by decide +kernel
theorem dX9_readHead_8 : decode cX9_readHead 8 = .ok (.aload_n 0, 1) := by decide +kernel
theorem dX9_readHead_9 : decode cX9_readHead 9 = .ok (.getfield 47, 3) := by decide +kernel
theorem dX9_readHead_12 : decode cX9_readHead 12 = .ok (.invokevirtual 72, 3) := by decide +kernel
theorem dX9_readHead_15 : decode cX9_readHead 15 = .ok (.aload_n 0, 1) := by decide +kernel
theorem dX9_readHead_16 : decode cX9_readHead 16 = .ok (.invokevirtual 75, 3) := by decide +kernel
theorem dX9_readHead_19 : decode cX9_readHead 19 = .ok (.aload_n 0, 1) := by decide +kernel
theorem dX9_readHead_20 : decode cX9_readHead 20 = .ok (.aload_n 0, 1) := by decide +kernel
theorem dX9_readHead_21 : decode cX9_readHead 21 = .ok (.getfield 12, 3) := by decide +kernel
theorem dX9_readHead_24 : decode cX9_readHead 24 = .ok (.invokevirtual 78, 3) := by decide +kernel
theorem dX9_readHead_27 : decode cX9_readHead 27 = .ok (.putfield 58, 3) := by decide +kernel
theorem dX9_readHead_30 : decode cX9_readHead 30 = .ok (.aload_n 0, 1) := by decide +kernel
theorem dX9_readHead_31 : decode cX9_readHead 31 = .ok (.getfield 58, 3) := by decide +kernel
theorem dX9_readHead_34 : decode cX9_readHead 34 = .ok (.iconst 4, 1) := by decide +kernel
theorem dX9_readHead_35 : decode cX9_readHead 35 = .ok (.if_icmp .le 11, 3) := by decide +kernel
theorem dX9_readHead_38 : decode cX9_readHead 38 = .ok (.aload_n 0, 1) := by decide +kernel
theorem dX9_readHead_39 : decode cX9_readHead 39 = .ok (.getfield 12, 3) := by decide +kernel
theorem dX9_readHead_42 : decode cX9_readHead 42 = .ok (.iconst 1, 1) := by decide +kernel
theorem dX9_readHead_43 : decode cX9_readHead 43 = .ok (.invokevirtual 81, 3) := by decide +kernel
theorem dX9_readHead_46 : decode cX9_readHead 46 = .ok (.aload_n 0, 1) := by decide +kernel
theorem dX9_readHead_47 : decode cX9_readHead 47 = .ok (.getfield 12, 3) := by decide +kernel
theorem dX9_readHead_50 : decode cX9_readHead 50 = .ok (.invokevirtual 78, 3) := by decide +kernel
theorem dX9_readHead_53 : decode cX9_readHead 53 = .ok (.istore_n 2, 1) := by decide +kernel
theorem dX9_readHead_54 : decode cX9_readHead 54 = .ok (.aload_n 0, 1) := by decide +kernel
theorem dX9_readHead_55 : decode cX9_readHead 55 = .ok (.iload_n 2, 1) := by decide +kernel
theorem dX9_readHead_56 : decode cX9_readHead 56 = .ok (.bipush 8, 2) := by decide +kernel
theorem dX9_readHead_58 : decode cX9_readHead 58 = .ok (.ishl, 1) := by decide +kernel
theorem dX9_readHead_59 : decode cX9_readHead 59 = .ok (.aload_n 0, 1) := by decide +kernel
theorem dX9_readHead_60 : decode cX9_readHead 60 = .ok (.getfield 12, 3) := by decide +kernel
theorem dX9_readHead_63 : decode cX9_readHead 63 = .ok (.invokevirtual 78, 3) := by decide +kernel
theorem dX9_readHead_66 : decode cX9_readHead 66 = .ok (.ior, 1) := by decide +kernel
theorem dX9_readHead_67 : decode cX9_readHead 67 = .ok (.putfield 61, 3) := by decide +kernel
theorem dX9_readHead_70 : decode cX9_readHead 70 = .ok (.aload_n 0, 1) := by decide +kernel
theorem dX9_readHead_71 : decode cX9_readHead 71 = .ok (.getfield 61, 3) := by decide +kernel
theorem dX9_readHead_74 : decode cX9_readHead 74 = .ok (.sipush 300, 3) := by decide +kernel
theorem dX9_readHead_77 : decode cX9_readHead 77 = .ok (.if_icmp .le 11, 3) := by decide +kernel
theorem dX9_readHead_80 : decode cX9_readHead 80 = .ok (.aload_n 0, 1) := by decide +kernel
theorem dX9_readHead_81 : decode cX9_readHead 81 = .ok (.getfield 12, 3) := by decide +kernel
theorem dX9_readHead_84 : decode cX9_readHead 84 = .ok (.iconst 1, 1) := by decide +kernel
theorem dX9_readHead_85 : decode cX9_readHead 85 = .ok (.invokevirtual 81, 3) := by decide +kernel
theorem dX9_readHead_88 : decode cX9_readHead 88 = .ok (.return_, 1) := by decide +kernel
theorem dX9_readFilters_0 : decode cX9_readFilters 0 = .ok (.aload_n 0, 1) := by decide +kernel
theorem dX9_readFilters_1 : decode cX9_readFilters 1 = .ok (.aload_n 0, 1) := by decide +kernel
theorem dX9_readFilters_2 : decode cX9_readFilters 2 = .ok (.getfield 12, 3) := by decide +kernel
theorem dX9_readFilters_5 : decode cX9_readFilters 5 = .ok (.invokevirtual 78, 3) := by decide +kernel
theorem dX9_readFilters_8 : decode cX9_readFilters 8 = .ok (.putfield 54, 3) := by decide +kernel
theorem dX9_readFilters_11 : decode cX9_readFilters 11 = .ok (.aload_n 0, 1) := by decide +kernel
theorem dX9_readFilters_12 : decode cX9_readFilters 12 = .ok (.getfield 54, 3) := by decide +kernel
theorem dX9_readFilters_15 : decode cX9_readFilters 15 = .ok (.iconst 2, 1) := by decide +kernel
theorem dX9_readFilters_16 : decode cX9_readFilters 16 = .ok (.if_icmp .le 11, 3) := by decide +kernel
