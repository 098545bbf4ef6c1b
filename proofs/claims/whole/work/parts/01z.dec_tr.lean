theorem dX4_init_0 : decode cX4_init 0 = .ok (.aload_n 0, 1) := by decide +kernel
theorem dX4_init_1 : decode cX4_init 1 = .ok (.invokespecial 3, 3) := by decide +kernel
theorem dX4_init_4 : decode cX4_init 4 = .ok (.aload_n 0, 1) := by decide +kernel
theorem dX4_init_5 : decode cX4_init 5 = .ok (.bipush 80, 2) := by decide +kernel
theorem dX4_init_7 : decode cX4_init 7 = .ok (.newarray .int, 2) := by decide +kernel
theorem dX4_init_9 : decode cX4_init 9 = .ok (.putfield 9, 3) := by decide +kernel
theorem dX4_init_12 : decode cX4_init 12 = .ok (.aload_n 0, 1) := by decide +kernel
theorem dX4_init_13 : decode cX4_init 13 = .ok (.new 15, 3) := by decide +kernel
theorem dX4_init_16 : decode cX4_init 16 = .ok (.dup, 1) := by decide +kernel
theorem dX4_init_17 : decode cX4_init 17 = .ok (.invokespecial 17, 3) := by decide +kernel
theorem dX4_init_20 : decode cX4_init 20 = .ok (.putfield 18, 3) := by decide +kernel
theorem dX4_init_23 : decode cX4_init 23 = .ok (.aload_n 0, 1) := by decide +kernel
theorem dX4_init_24 : decode cX4_init 24 = .ok (.iconst 0, 1) := by decide +kernel
theorem dX4_init_25 : decode cX4_init 25 = .ok (.putfield 22, 3) := by decide +kernel
theorem dX4_init_28 : decode cX4_init 28 = .ok (.aload_n 0, 1) := by decide +kernel
theorem dX4_init_29 : decode cX4_init 29 = .ok (.iconst 0, 1) := by decide +kernel
theorem dX4_init_30 : decode cX4_init 30 = .ok (.putfield 26, 3) := by decide +kernel
theorem dX4_init_33 : decode cX4_init 33 = .ok (.aload_n 0, 1) := by decide +kernel
theorem dX4_init_34 : decode cX4_init 34 = .ok (.iconst 0, 1) := by decide +kernel
theorem dX4_init_35 : decode cX4_init 35 = .ok (.putfield 29, 3) := by decide +kernel
theorem dX4_init_38 : decode cX4_init 38 = .ok (.aload_n 0, 1) := by decide +kernel
theorem dX4_init_39 : decode cX4_init 39 = .ok (.iconst 0, 1) := by decide +kernel
theorem dX4_init_40 : decode cX4_init 40 = .ok (.putfield 32, 3) := by decide +kernel
theorem dX4_init_43 : decode cX4_init 43 = .ok (.aload_n 0, 1) := by decide +kernel
theorem dX4_init_44 : decode cX4_init 44 = .ok (.iconst 0, 1) := by decide +kernel
theorem dX4_init_45 : decode cX4_init 45 = .ok (.putfield 35, 3) := by decide +kernel
theorem dX4_init_48 : decode cX4_init 48 = .ok (.return_, 1) := by decide +kernel
theorem dX4_append_0 : decode cX4_append 0 = .ok (.aload_n 0, 1) := by decide +kernel
theorem dX4_append_1 : decode cX4_append 1 = .ok (.getfield 9, 3) := by decide +kernel
theorem dX4_append_4 : decode cX4_append 4 = .ok (.aload_n 0, 1) := by decide +kernel
theorem dX4_append_5 : decode cX4_append 5 = .ok (.getfield 22, 3) := by decide +kernel
theorem dX4_append_8 : decode cX4_append 8 = .ok (.iload_n 1, 1) := by decide +kernel
theorem dX4_append_9 : decode cX4_append 9 = .ok (.iastore, 1) := by decide +kernel
theorem dX4_append_10 : decode cX4_append 10 = .ok (.aload_n 0, 1) := by decide +kernel
theorem dX4_append_11 : decode cX4_append 11 = .ok (.dup, 1) := by decide +kernel
theorem dX4_append_12 : decode cX4_append 12 = .ok (.getfield 22, 3) := by decide +kernel
theorem dX4_append_15 : decode cX4_append 15 = .ok (.iconst 1, 1) := by decide +kernel
theorem dX4_append_16 : decode cX4_append 16 = .ok (.iadd, 1) := by decide +kernel
theorem dX4_append_17 : decode cX4_append 17 = .ok (.putfield 22, 3) := by decide +kernel
theorem dX4_append_20 : decode cX4_append 20 = .ok (.aload_n 0, 1) := by decide +kernel
theorem dX4_append_21 : decode cX4_append 21 = .ok (.getfield 22, 3) := by decide +kernel
theorem dX4_append_24 : decode cX4_append 24 = .ok (.ireturn, 1) := by decide +kernel
theorem dX4_empty_0 : decode cX4_empty 0 = .ok (.aload_n 0, 1) := by decide +kernel
theorem dX4_empty_1 : decode cX4_empty 1 = .ok (.getfield 22, 3) := by decide +kernel
theorem dX4_empty_4 : decode cX4_empty 4 = .ok (.istore_n 1, 1) := by decide +kernel
theorem dX4_empty_5 : decode cX4_empty 5 = .ok (.aload_n 0, 1) := by decide +kernel
theorem dX4_empty_6 : decode cX4_empty 6 = .ok (.iconst 0, 1) := by decide +kernel
theorem dX4_empty_7 : decode cX4_empty 7 = .ok (.putfield 22, 3) := by decide +kernel
theorem dX4_empty_10 : decode cX4_empty 10 = .ok (.iload_n 1, 1) := by decide +kernel
theorem dX4_empty_11 : decode cX4_empty 11 = .ok (.ireturn, 1) := by decide +kernel
theorem dX4_read_0 : decode cX4_read 0 = .ok (.aload_n 0, 1) := by decide +kernel
theorem dX4_read_1 : decode cX4_read 1 = .ok (.iconst 0, 1) := by decide +kernel
theorem dX4_read_2 : decode cX4_read 2 = .ok (.putfield 26, 3) := by decide +kernel
theorem dX4_read_5 : decode cX4_read 5 = .ok (.aload_n 0, 1) := by decide +kernel
theorem dX4_read_6 : decode cX4_read 6 = .ok (.iconst 0, 1) := by decide +kernel
theorem dX4_read_7 : decode cX4_read 7 = .ok (.putfield 32, 3) := by decide +kernel
theorem dX4_read_10 : decode cX4_read 10 = .ok (.aload_n 0, 1) := by decide +kernel
theorem dX4_read_11 : decode cX4_read 11 = .ok (.getfield 18, 3) := by decide +kernel
theorem dX4_read_14 : decode cX4_read 14 = .ok (.iconst 0, 1) := by decide +kernel
theorem dX4_read_15 : decode cX4_read 15 = .ok (.putfield 38, 3) := by decide +kernel
theorem dX4_read_18 : decode cX4_read 18 = .ok (.aload_n 0, 1) := by decide +kernel
theorem dX4_read_19 : decode cX4_read 19 = .ok (.getfield 18, 3) := by decide +kernel
theorem dX4_read_22 : decode cX4_read 22 = .ok (.iconst 0, 1) := by decide +kernel
theorem dX4_read_23 : decode cX4_read 23 = .ok (.putfield 41, 3) := by decide +kernel
theorem dX4_read_26 : decode cX4_read 26 = .ok (.aload_n 0, 1) := by decide +kernel
theorem dX4_read_27 : decode cX4_read 27 = .ok (.bipush 112, 2) := by decide +kernel
theorem dX4_read_29 : decode cX4_read 29 = .ok (.invokevirtual 44, 3) := by decide +kernel
theorem dX4_read_32 : decode cX4_read 32 = .ok (.aload_n 0, 1) := by decide +kernel
theorem dX4_read_33 : decode cX4_read 33 = .ok (.invokevirtual 48, 3) := by decide +kernel
theorem dX4_read_36 : decode cX4_read 36 = .ok (.iconst 1, 1) := by decide +kernel
theorem dX4_read_37 : decode cX4_read 37 = .ok (.istore_n 1, 1) := by decide +kernel
theorem dX4_read_38 : decode cX4_read 38 = .ok (.iload_n 1, 1) := by decide +kernel
theorem dX4_read_39 : decode cX4_read 39 = .ok (.bipush 12, 2) := by decide +kernel
theorem dX4_read_41 : decode cX4_read 41 = .ok (.if_icmp .ge 22, 3) := by decide +kernel
theorem dX4_read_44 : decode cX4_read 44 = .ok (.aload_n 0, 1) := by decide +kernel
theorem dX4_read_45 : decode cX4_read 45 = .ok (.bipush 44, 2) := by decide +kernel
theorem dX4_read_47 : decode cX4_read 47 = .ok (.invokevirtual 51, 3) := by decide +kernel
theorem dX4_read_50 : decode cX4_read 50 = .ok (.ifCond .eq 13, 3) := by decide +kernel
theorem dX4_read_53 : decode cX4_read 53 = .ok (.aload_n 0, 1) := by decide +kernel
theorem dX4_read_54 : decode cX4_read 54 = .ok (.invokevirtual 48, 3) := by decide +kernel
theorem dX4_read_57 : decode cX4_read 57 = .ok (.iinc 1 1, 3) := by decide +kernel
theorem dX4_read_60 : decode cX4_read 60 = .ok (.goto (-22), 3) := by decide +kernel
theorem dX4_read_63 : decode cX4_read 63 = .ok (.iconst 0, 1) := by decide +kernel
theorem dX4_read_64 : decode cX4_read 64 = .ok (.istore_n 1, 1) := by decide +kernel
theorem dX4_read_65 : decode cX4_read 65 = .ok (.iload_n 1, 1) := by decide +kernel
theorem dX4_read_66 : decode cX4_read 66 = .ok (.bipush 16, 2) := by decide +kernel
theorem dX4_read_68 : decode cX4_read 68 = .ok (.if_icmp .ge 22, 3) := by decide +kernel
theorem dX4_read_71 : decode cX4_read 71 = .ok (.aload_n 0, 1) := by decide +kernel
theorem dX4_read_72 : decode cX4_read 72 = .ok (.bipush 59, 2) := by decide +kernel
theorem dX4_read_74 : decode cX4_read 74 = .ok (.invokevirtual 51, 3) := by decide +kernel
theorem dX4_read_77 : decode cX4_read 77 = .ok (.ifCond .eq 13, 3) := by decide +kernel
theorem dX4_read_80 : decode cX4_read 80 = .ok (.aload_n 0, 1) := by decide +kernel
theorem dX4_read_81 : decode cX4_read 81 = .ok (.invokevirtual 55, 3) := by decide +kernel
theorem dX4_read_84 : decode cX4_read 84 = .ok (.iinc 1 1, 3) := by decide +kernel
theorem dX4_read_87 : decode cX4_read 87 = .ok (.goto (-22), 3) := by decide +kernel
theorem dX4_read_90 : decode cX4_read 90 = .ok (.aload_n 0, 1) := by decide +kernel
theorem dX4_read_91 : decode cX4_read 91 = .ok (.getfield 32, 3) := by decide +kernel
theorem dX4_read_94 : decode cX4_read 94 = .ok (.aload_n 0, 1) := by decide +kernel
theorem dX4_read_95 : decode cX4_read 95 = .ok (.getfield 22, 3) := by decide +kernel
theorem dX4_read_98 : decode cX4_read 98 = .ok (.if_icmp .ge 12, 3) := by decide +kernel
theorem dX4_read_101 : decode cX4_read 101 = .ok (.aload_n 0, 1) := by decide +kernel
theorem dX4_read_102 : decode cX4_read 102 = .ok (.iconst 1, 1) := by decide +kernel
theorem dX4_read_103 : decode cX4_read 103 = .ok (.aload_n 0, 1) := by decide +kernel
theorem dX4_read_104 : decode cX4_read 104 = .ok (.getfield 32, 3) := by decide +kernel
theorem dX4_read_107 : decode cX4_read 107 = .ok (.invokevirtual 58, 3) := by decide +kernel
theorem dX4_read_110 : decode cX4_read 110 = .ok (.return_, 1) := by decide +kernel
theorem dX4_readPosition_0 : decode cX4_readPosition 0 = .ok (.aload_n 0, 1) := by decide +kernel
theorem dX4_readPosition_1 : decode cX4_readPosition 1 = .ok (.iconst 3, 1) := by decide +kernel
theorem dX4_readPosition_2 : decode cX4_readPosition 2 = .ok (.invokevirtual 62, 3) := by decide +kernel
theorem dX4_readPosition_5 : decode cX4_readPosition 5 = .ok (.istore_n 1, 1) := by decide +kernel
theorem dX4_readPosition_6 : decode cX4_readPosition 6 = .ok (.aload_n 0, 1) := by decide +kernel
theorem dX4_readPosition_7 : decode cX4_readPosition 7 = .ok (.getfield 18, 3) := by decide +kernel
theorem dX4_readPosition_10 : decode cX4_readPosition 10 = .ok (.getfield 38, 3) := by decide +kernel
theorem dX4_readPosition_13 : decode cX4_readPosition 13 = .ok (.istore_n 2, 1) := by decide +kernel
theorem dX4_readPosition_14 : decode cX4_readPosition 14 = .ok (.iload_n 2, 1) := by decide +kernel
theorem dX4_readPosition_15 : decode cX4_readPosition 15 = .ok (.ifCond .eq 18, 3) := by decide +kernel
theorem dX4_readPosition_18 : decode cX4_readPosition 18 = .ok (.aload_n 0, 1) := by decide +kernel
theorem dX4_readPosition_19 : decode cX4_readPosition 19 = .ok (.getfield 18, 3) := by decide +kernel
theorem dX4_readPosition_22 : decode cX4_readPosition 22 = .ok (.getfield 66, 3) := by decide +kernel
theorem dX4_readPosition_25 : decode cX4_readPosition 25 = .ok (.iload_n 2, 1) := by decide +kernel
theorem dX4_readPosition_26 : decode cX4_readPosition 26 = .ok (.iconst 1, 1) := by decide +kernel
theorem dX4_readPosition_27 : decode cX4_readPosition 27 = .ok (.isub, 1) := by decide +kernel
theorem dX4_readPosition_28 : decode cX4_readPosition 28 = .ok (.iaload, 1) := by decide +kernel
theorem dX4_readPosition_29 : decode cX4_readPosition 29 = .ok (.iload_n 1, 1) := by decide +kernel
theorem dX4_readPosition_30 : decode cX4_readPosition 30 = .ok (.if_icmp .ge 7, 3) := by decide +kernel
theorem dX4_readPosition_33 : decode cX4_readPosition 33 = .ok (.iconst 1, 1) := by decide +kernel
theorem dX4_readPosition_34 : decode cX4_readPosition 34 = .ok (.goto 4, 3) := by decide +kernel
theorem dX4_readPosition_37 : decode cX4_readPosition 37 = .ok (.iconst 0, 1) := by decide +kernel
theorem dX4_readPosition_38 : decode cX4_readPosition 38 = .ok (.istore_n 3, 1) := by decide +kernel
theorem dX4_readPosition_39 : decode cX4_readPosition 39 = .ok (.aload_n 0, 1) := by decide +kernel
theorem dX4_readPosition_40 : decode cX4_readPosition 40 = .ok (.iload_n 1, 1) := by decide +kernel
theorem dX4_readPosition_41 : decode cX4_readPosition 41 = .ok (.sipush 300, 3) := by decide +kernel
theorem dX4_readPosition_44 : decode cX4_readPosition 44 = .ok (.if_icmp .gt 11, 3) := by decide +kernel
theorem dX4_readPosition_47 : decode cX4_readPosition 47 = .ok (.iload_n 3, 1) := by decide +kernel
theorem dX4_readPosition_48 : decode cX4_readPosition 48 = .ok (.ifCond .eq 7, 3) := by decide +kernel
theorem dX4_readPosition_51 : decode cX4_readPosition 51 = .ok (.iconst 1, 1) := by decide +kernel
theorem dX4_readPosition_52 : decode cX4_readPosition 52 = .ok (.goto 4, 3) := by decide +kernel
theorem dX4_readPosition_55 : decode cX4_readPosition 55 = .ok (.iconst 0, 1) := by decide +kernel
theorem dX4_readPosition_56 : decode cX4_readPosition 56 = .ok (.invokevirtual 69, 3) := by decide +kernel
theorem dX4_readPosition_59 : decode cX4_readPosition 59 = .ok (.aload_n 0, 1) := by decide +kernel
theorem dX4_readPosition_60 : decode cX4_readPosition 60 = .ok (.getfield 18, 3) := by decide +kernel
theorem dX4_readPosition_63 : decode cX4_readPosition 63 = .ok (.getfield 66, 3) := by decide +kernel
theorem dX4_readPosition_66 : decode cX4_readPosition 66 = .ok (.iload_n 2, 1) := by decide +kernel
theorem dX4_readPosition_67 : decode cX4_readPosition 67 = .ok (.iload_n 1, 1) := by decide +kernel
theorem dX4_readPosition_68 : decode cX4_readPosition 68 = .ok (.iastore, 1) := by decide +kernel
theorem dX4_readPosition_69 : decode cX4_readPosition 69 = .ok (.aload_n 0, 1) := by decide +kernel
theorem dX4_readPosition_70 : decode cX4_readPosition 70 = .ok (.getfield 18, 3) := by decide +kernel
theorem dX4_readPosition_73 : decode cX4_readPosition 73 = .ok (.dup, 1) := by decide +kernel
theorem dX4_readPosition_74 : decode cX4_readPosition 74 = .ok (.getfield 38, 3) := by decide +kernel
theorem dX4_readPosition_77 : decode cX4_readPosition 77 = .ok (.iconst 1, 1) := by decide +kernel
theorem dX4_readPosition_78 : decode cX4_readPosition 78 = .ok (.iadd, 1) := by decide +kernel
theorem dX4_readPosition_79 : decode cX4_readPosition 79 = .ok (.putfield 38, 3) := by decide +kernel
theorem dX4_readPosition_82 : decode cX4_readPosition 82 = .ok (.return_, 1) := by decide +kernel
theorem dX4_readDimension_0 : decode cX4_readDimension 0 = .ok (.aload_n 0, 1) := by decide +kernel
theorem dX4_readDimension_1 : decode cX4_readDimension 1 = .ok (.iconst 1, 1) := by decide +kernel
theorem dX4_readDimension_2 : decode cX4_readDimension 2 = .ok (.invokevirtual 62, 3) := by decide +kernel
theorem dX4_readDimension_5 : decode cX4_readDimension 5 = .ok (.istore_n 1, 1) := by decide +kernel
theorem dX4_readDimension_6 : decode cX4_readDimension 6 = .ok (.aload_n 0, 1) := by decide +kernel
theorem dX4_readDimension_7 : decode cX4_readDimension 7 = .ok (.aload_n 0, 1) := by decide +kernel
theorem dX4_readDimension_8 : decode cX4_readDimension 8 = .ok (.getfield 18, 3) := by decide +kernel
theorem dX4_readDimension_11 : decode cX4_readDimension 11 = .ok (.iload_n 1, 1) := by decide +kernel
theorem dX4_readDimension_12 : decode cX4_readDimension 12 = .ok (.invokevirtual 73, 3) := by decide +kernel
theorem dX4_readDimension_15 : decode cX4_readDimension 15 = .ok (.invokevirtual 69, 3) := by decide +kernel
theorem dX4_readDimension_18 : decode cX4_readDimension 18 = .ok (.aload_n 0, 1) := by decide +kernel
theorem dX4_readDimension_19 : decode cX4_readDimension 19 = .ok (.bipush 45, 2) := by decide +kernel
theorem dX4_readDimension_21 : decode cX4_readDimension 21 = .ok (.invokevirtual 44, 3) := by decide +kernel
theorem dX4_readDimension_24 : decode cX4_readDimension 24 = .ok (.aload_n 0, 1) := by decide +kernel
theorem dX4_readDimension_25 : decode cX4_readDimension 25 = .ok (.iconst 1, 1) := by decide +kernel
theorem dX4_readDimension_26 : decode cX4_readDimension 26 = .ok (.invokevirtual 62, 3) := by decide +kernel
theorem dX4_readDimension_29 : decode cX4_readDimension 29 = .ok (.istore_n 2, 1) := by decide +kernel
theorem dX4_readDimension_30 : decode cX4_readDimension 30 = .ok (.aload_n 0, 1) := by decide +kernel
theorem dX4_readDimension_31 : decode cX4_readDimension 31 = .ok (.aload_n 0, 1) := by decide +kernel
theorem dX4_readDimension_32 : decode cX4_readDimension 32 = .ok (.getfield 18, 3) := by decide +kernel
theorem dX4_readDimension_35 : decode cX4_readDimension 35 = .ok (.iload_n 2, 1) := by decide +kernel
theorem dX4_readDimension_36 : decode cX4_readDimension 36 = .ok (.invokevirtual 73, 3) := by decide +kernel
theorem dX4_readDimension_39 : decode cX4_readDimension 39 = .ok (.ifCond .eq 12, 3) := by decide +kernel
theorem dX4_readDimension_42 : decode cX4_readDimension 42 = .ok (.iload_n 1, 1) := by decide +kernel
theorem dX4_readDimension_43 : decode cX4_readDimension 43 = .ok (.iload_n 2, 1) := by decide +kernel
theorem dX4_readDimension_44 : decode cX4_readDimension 44 = .ok (.if_icmp .ge 7, 3) := by decide +kernel
theorem dX4_readDimension_47 : decode cX4_readDimension 47 = .ok (.iconst 1, 1) := by decide +kernel
theorem dX4_readDimension_48 : decode cX4_readDimension 48 = .ok (.goto 4, 3) := by decide +kernel
theorem dX4_readDimension_51 : decode cX4_readDimension 51 = .ok (.iconst 0, 1) := by decide +kernel
theorem dX4_readDimension_52 : decode cX4_readDimension 52 = .ok (.invokevirtual 69, 3) := by decide +kernel
theorem dX4_readDimension_55 : decode cX4_readDimension 55 = .ok (.aload_n 0, 1) := by decide +kernel
theorem dX4_readDimension_56 : decode cX4_readDimension 56 = .ok (.getfield 18, 3) := by decide +kernel
theorem dX4_readDimension_59 : decode cX4_readDimension 59 = .ok (.iload_n 1, 1) := by decide +kernel
theorem dX4_readDimension_60 : decode cX4_readDimension 60 = .ok (.iload_n 2, 1) := by decide +kernel
theorem dX4_readDimension_61 : decode cX4_readDimension 61 = .ok (.invokevirtual 76, 3) := by decide +kernel
theorem dX4_readDimension_64 : decode cX4_readDimension 64 = .ok (.istore_n 3, 1) := by decide +kernel
theorem dX4_readDimension_65 : decode cX4_readDimension 65 = .ok (.aload_n 0, 1) := by decide +kernel
theorem dX4_readDimension_66 : decode cX4_readDimension 66 = .ok (.bipush 43, 2) := by decide +kernel
theorem dX4_readDimension_68 : decode cX4_readDimension 68 = .ok (.invokevirtual 51, 3) := by decide +kernel
theorem dX4_readDimension_71 : decode cX4_readDimension 71 = .ok (.ifCond .eq 19, 3) := by decide +kernel
theorem dX4_readDimension_74 : decode cX4_readDimension 74 = .ok (.aload_n 0, 1) := by decide +kernel
theorem dX4_readDimension_75 : decode cX4_readDimension 75 = .ok (.getfield 18, 3) := by decide +kernel
theorem dX4_readDimension_78 : decode cX4_readDimension 78 = .ok (.getfield 80, 3) := by decide +kernel
theorem dX4_readDimension_81 : decode cX4_readDimension 81 = .ok (.iload_n 3, 1) := by decide +kernel
theorem dX4_readDimension_82 : decode cX4_readDimension 82 = .ok (.aload_n 0, 1) := by decide +kernel
theorem dX4_readDimension_83 : decode cX4_readDimension 83 = .ok (.bipush 20, 2) := by decide +kernel
theorem dX4_readDimension_85 : decode cX4_readDimension 85 = .ok (.iconst 2, 1) := by decide +kernel
theorem dX4_readDimension_86 : decode cX4_readDimension 86 = .ok (.invokevirtual 83, 3) := by decide +kernel
theorem dX4_readDimension_89 : decode cX4_readDimension 89 = .ok (.iastore, 1) := by decide +kernel
theorem dX4_readDimension_90 : decode cX4_readDimension 90 = .ok (.aload_n 0, 1) := by decide +kernel
theorem dX4_readDimension_91 : decode cX4_readDimension 91 = .ok (.bipush 45, 2) := by decide +kernel
theorem dX4_readDimension_93 : decode cX4_readDimension 93 = .ok (.invokevirtual 51, 3) := by decide +kernel
theorem dX4_readDimension_96 : decode cX4_readDimension 96 = .ok (.ifCond .eq 19, 3) := by decide +kernel
theorem dX4_readDimension_99 : decode cX4_readDimension 99 = .ok (.aload_n 0, 1) := by decide +kernel
theorem dX4_readDimension_100 : decode cX4_readDimension 100 = .ok (.getfield 18, 3) := by decide +kernel
theorem dX4_readDimension_103 : decode cX4_readDimension 103 = .ok (.getfield 86, 3) := by decide +kernel
theorem dX4_readDimension_106 : decode cX4_readDimension 106 = .ok (.iload_n 3, 1) := by decide +kernel
theorem dX4_readDimension_107 : decode cX4_readDimension 107 = .ok (.aload_n 0, 1) := by decide +kernel
theorem dX4_readDimension_108 : decode cX4_readDimension 108 = .ok (.bipush 20, 2) := by decide +kernel
theorem dX4_readDimension_110 : decode cX4_readDimension 110 = .ok (.iconst 2, 1) := by decide +kernel
theorem dX4_readDimension_111 : decode cX4_readDimension 111 = .ok (.invokevirtual 83, 3) := by decide +kernel
theorem dX4_readDimension_114 : decode cX4_readDimension 114 = .ok (.iastore, 1) := by decide +kernel
theorem dX4_readDimension_115 : decode cX4_readDimension 115 = .ok (.aload_n 0, 1) := by decide +kernel
theorem dX4_readDimension_116 : decode cX4_readDimension 116 = .ok (.bipush 99, 2) := by decide +kernel
theorem dX4_readDimension_118 : decode cX4_readDimension 118 = .ok (.invokevirtual 51, 3) := by decide +kernel
theorem dX4_readDimension_121 : decode cX4_readDimension 121 = .ok (.ifCond .eq 18, 3) := by decide +kernel
theorem dX4_readDimension_124 : decode cX4_readDimension 124 = .ok (.aload_n 0, 1) := by decide +kernel
theorem dX4_readDimension_125 : decode cX4_readDimension 125 = .ok (.getfield 18, 3) := by decide +kernel
theorem dX4_readDimension_128 : decode cX4_readDimension 128 = .ok (.getfield 89, 3) := by decide +kernel
theorem dX4_readDimension_131 : decode cX4_readDimension 131 = .ok (.iload_n 3, 1) := by decide +kernel
theorem dX4_readDimension_132 : decode cX4_readDimension 132 = .ok (.aload_n 0, 1) := by decide +kernel
theorem dX4_readDimension_133 : decode cX4_readDimension 133 = .ok (.iconst 5, 1) := by decide +kernel
theorem dX4_readDimension_134 : decode cX4_readDimension 134 = .ok (.iconst 1, 1) := by decide +kernel
theorem dX4_readDimension_135 : decode cX4_readDimension 135 = .ok (.invokevirtual 83, 3) := by decide +kernel
theorem dX4_readDimension_138 : decode cX4_readDimension 138 = .ok (.iastore, 1) := by decide +kernel
theorem dX4_readDimension_139 : decode cX4_readDimension 139 = .ok (.return_, 1) := by decide +kernel
theorem dX4_readUpTo_0 : decode cX4_readUpTo 0 = .ok (.aload_n 0, 1) := by decide +kernel
theorem dX4_readUpTo_1 : decode cX4_readUpTo 1 = .ok (.iload_n 2, 1) := by decide +kernel
theorem dX4_readUpTo_2 : decode cX4_readUpTo 2 = .ok (.invokevirtual 62, 3) := by decide +kernel
theorem dX4_readUpTo_5 : decode cX4_readUpTo 5 = .ok (.istore_n 3, 1) := by decide +kernel
theorem dX4_readUpTo_6 : decode cX4_readUpTo 6 = .ok (.aload_n 0, 1) := by decide +kernel
theorem dX4_readUpTo_7 : decode cX4_readUpTo 7 = .ok (.iload_n 3, 1) := by decide +kernel
theorem dX4_readUpTo_8 : decode cX4_readUpTo 8 = .ok (.iload_n 1, 1) := by decide +kernel
theorem dX4_readUpTo_9 : decode cX4_readUpTo 9 = .ok (.if_icmp .gt 7, 3) := by decide +kernel
theorem dX4_readUpTo_12 : decode cX4_readUpTo 12 = .ok (.iconst 1, 1) := by decide +kernel
theorem dX4_readUpTo_13 : decode cX4_readUpTo 13 = .ok (.goto 4, 3) := by decide +kernel
theorem dX4_readUpTo_16 : decode cX4_readUpTo 16 = .ok (.iconst 0, 1) := by decide +kernel
theorem dX4_readUpTo_17 : decode cX4_readUpTo 17 = .ok (.invokevirtual 69, 3) := by decide +kernel
theorem dX4_readUpTo_20 : decode cX4_readUpTo 20 = .ok (.iload_n 3, 1) := by decide +kernel
theorem dX4_readUpTo_21 : decode cX4_readUpTo 21 = .ok (.ireturn, 1) := by decide +kernel
theorem dX4_readNumber_0 : decode cX4_readNumber 0 = .ok (.aload_n 0, 1) := by decide +kernel
theorem dX4_readNumber_1 : decode cX4_readNumber 1 = .ok (.aload_n 0, 1) := by decide +kernel
theorem dX4_readNumber_2 : decode cX4_readNumber 2 = .ok (.getfield 32, 3) := by decide +kernel
theorem dX4_readNumber_5 : decode cX4_readNumber 5 = .ok (.putfield 35, 3) := by decide +kernel
theorem dX4_readNumber_8 : decode cX4_readNumber 8 = .ok (.iconst 0, 1) := by decide +kernel
theorem dX4_readNumber_9 : decode cX4_readNumber 9 = .ok (.istore_n 2, 1) := by decide +kernel
theorem dX4_readNumber_10 : decode cX4_readNumber 10 = .ok (.iconst 0, 1) := by decide +kernel
theorem dX4_readNumber_11 : decode cX4_readNumber 11 = .ok (.istore_n 3, 1) := by decide +kernel
theorem dX4_readNumber_12 : decode cX4_readNumber 12 = .ok (.iload_n 3, 1) := by decide +kernel
theorem dX4_readNumber_13 : decode cX4_readNumber 13 = .ok (.iload_n 1, 1) := by decide +kernel
theorem dX4_readNumber_14 : decode cX4_readNumber 14 = .ok (.if_icmp .ge 39, 3) := by decide +kernel
theorem dX4_readNumber_17 : decode cX4_readNumber 17 = .ok (.aload_n 0, 1) := by decide +kernel
theorem dX4_readNumber_18 : decode cX4_readNumber 18 = .ok (.invokevirtual 92, 3) := by decide +kernel
theorem dX4_readNumber_21 : decode cX4_readNumber 21 = .ok (.ifCond .eq 32, 3) := by decide +kernel
theorem dX4_readNumber_24 : decode cX4_readNumber 24 = .ok (.bipush 10, 2) := by decide +kernel
theorem dX4_readNumber_26 : decode cX4_readNumber 26 = .ok (.iload_n 2, 1) := by decide +kernel
theorem dX4_readNumber_27 : decode cX4_readNumber 27 = .ok (.imul, 1) := by decide +kernel
theorem dX4_readNumber_28 : decode cX4_readNumber 28 = .ok (.aload_n 0, 1) := by decide +kernel
theorem dX4_readNumber_29 : decode cX4_readNumber 29 = .ok (.invokevirtual 96, 3) := by decide +kernel
theorem dX4_readNumber_32 : decode cX4_readNumber 32 = .ok (.iadd, 1) := by decide +kernel
theorem dX4_readNumber_33 : decode cX4_readNumber 33 = .ok (.bipush 48, 2) := by decide +kernel
theorem dX4_readNumber_35 : decode cX4_readNumber 35 = .ok (.isub, 1) := by decide +kernel
theorem dX4_readNumber_36 : decode cX4_readNumber 36 = .ok (.istore_n 2, 1) := by decide +kernel
theorem dX4_readNumber_37 : decode cX4_readNumber 37 = .ok (.aload_n 0, 1) := by decide +kernel
theorem dX4_readNumber_38 : decode cX4_readNumber 38 = .ok (.dup, 1) := by decide +kernel
theorem dX4_readNumber_39 : decode cX4_readNumber 39 = .ok (.getfield 32, 3) := by decide +kernel
theorem dX4_readNumber_42 : decode cX4_readNumber 42 = .ok (.iconst 1, 1) := by decide +kernel
theorem dX4_readNumber_43 : decode cX4_readNumber 43 = .ok (.iadd, 1) := by decide +kernel
theorem dX4_readNumber_44 : decode cX4_readNumber 44 = .ok (.putfield 32, 3) := by decide +kernel
theorem dX4_readNumber_47 : decode cX4_readNumber 47 = .ok (.iinc 3 1, 3) := by decide +kernel
theorem dX4_readNumber_50 : decode cX4_readNumber 50 = .ok (.goto (-38), 3) := by decide +kernel
theorem dX4_readNumber_53 : decode cX4_readNumber 53 = .ok (.aload_n 0, 1) := by decide +kernel
theorem dX4_readNumber_54 : decode cX4_readNumber 54 = .ok (.getfield 32, 3) := by decide +kernel
theorem dX4_readNumber_57 : decode cX4_readNumber 57 = .ok (.aload_n 0, 1) := by decide +kernel
theorem dX4_readNumber_58 : decode cX4_readNumber 58 = .ok (.getfield 35, 3) := by decide +kernel
theorem dX4_readNumber_61 : decode cX4_readNumber 61 = .ok (.if_icmp .eq 10, 3) := by decide +kernel
theorem dX4_readNumber_64 : decode cX4_readNumber 64 = .ok (.aload_n 0, 1) := by decide +kernel
theorem dX4_readNumber_65 : decode cX4_readNumber 65 = .ok (.invokevirtual 92, 3) := by decide +kernel
theorem dX4_readNumber_68 : decode cX4_readNumber 68 = .ok (.ifCond .eq 12, 3) := by decide +kernel
theorem dX4_readNumber_71 : decode cX4_readNumber 71 = .ok (.aload_n 0, 1) := by decide +kernel
theorem dX4_readNumber_72 : decode cX4_readNumber 72 = .ok (.iconst 1, 1) := by decide +kernel
theorem dX4_readNumber_73 : decode cX4_readNumber 73 = .ok (.aload_n 0, 1) := by decide +kernel
theorem dX4_readNumber_74 : decode cX4_readNumber 74 = .ok (.getfield 32, 3) := by decide +kernel
theorem dX4_readNumber_77 : decode cX4_readNumber 77 = .ok (.invokevirtual 58, 3) := by decide +kernel
theorem dX4_readNumber_80 : decode cX4_readNumber 80 = .ok (.iload_n 2, 1) := by decide +kernel
theorem dX4_readNumber_81 : decode cX4_readNumber 81 = .ok (.ireturn, 1) := by decide +kernel
theorem dX4_demand_0 : decode cX4_demand 0 = .ok (.iload_n 1, 1) := by decide +kernel
theorem dX4_demand_1 : decode cX4_demand 1 = .ok (.ifCond .ne 12, 3) := by decide +kernel
theorem dX4_demand_4 : decode cX4_demand 4 = .ok (.aload_n 0, 1) := by decide +kernel
theorem dX4_demand_5 : decode cX4_demand 5 = .ok (.iconst 2, 1) := by decide +kernel
theorem dX4_demand_6 : decode cX4_demand 6 = .ok (.aload_n 0, 1) := by decide +kernel
theorem dX4_demand_7 : decode cX4_demand 7 = .ok (.getfield 35, 3) := by decide +kernel
theorem dX4_demand_10 : decode cX4_demand 10 = .ok (.invokevirtual 58, 3) := by decide +kernel
theorem dX4_demand_13 : decode cX4_demand 13 = .ok (.return_, 1) := by decide +kernel
theorem dX4_expect_0 : decode cX4_expect 0 = .ok (.aload_n 0, 1) := by decide +kernel
theorem dX4_expect_1 : decode cX4_expect 1 = .ok (.iload_n 1, 1) := by decide +kernel
theorem dX4_expect_2 : decode cX4_expect 2 = .ok (.invokevirtual 51, 3) := by decide +kernel
theorem dX4_expect_5 : decode cX4_expect 5 = .ok (.ifCond .ne 12, 3) := by decide +kernel
theorem dX4_expect_8 : decode cX4_expect 8 = .ok (.aload_n 0, 1) := by decide +kernel
theorem dX4_expect_9 : decode cX4_expect 9 = .ok (.iconst 1, 1) := by decide +kernel
theorem dX4_expect_10 : decode cX4_expect 10 = .ok (.aload_n 0, 1) := by decide +kernel
theorem dX4_expect_11 : decode cX4_expect 11 = .ok (.getfield 32, 3) := by decide +kernel
theorem dX4_expect_14 : decode cX4_expect 14 = .ok (.invokevirtual 58, 3) := by decide +kernel
theorem dX4_expect_17 : decode cX4_expect 17 = .ok (.return_, 1) := by decide +kernel
theorem dX4_accept_0 : decode cX4_accept 0 = .ok (.aload_n 0, 1) := by decide +kernel
theorem dX4_accept_1 : decode cX4_accept 1 = .ok (.getfield 26, 3) := by decide +kernel
theorem dX4_accept_4 : decode cX4_accept 4 = .ok (.ifCond .ne 11, 3) := by decide +kernel
theorem dX4_accept_7 : decode cX4_accept 7 = .ok (.aload_n 0, 1) := by decide +kernel
theorem dX4_accept_8 : decode cX4_accept 8 = .ok (.invokevirtual 96, 3) := by decide +kernel
theorem dX4_accept_11 : decode cX4_accept 11 = .ok (.iload_n 1, 1) := by decide +kernel
theorem dX4_accept_12 : decode cX4_accept 12 = .ok (.if_icmp .eq 5, 3) := by decide +kernel
theorem dX4_accept_15 : decode cX4_accept 15 = .ok (.iconst 0, 1) := by decide +kernel
theorem dX4_accept_16 : decode cX4_accept 16 = .ok (.ireturn, 1) := by decide +kernel
theorem dX4_accept_17 : decode cX4_accept 17 = .ok (.aload_n 0, 1) := by decide +kernel
theorem dX4_accept_18 : decode cX4_accept 18 = .ok (.dup, 1) := by decide +kernel
theorem dX4_accept_19 : decode cX4_accept 19 = .ok (.getfield 32, 3) := by decide +kernel
theorem dX4_accept_22 : decode cX4_accept 22 = .ok (.iconst 1, 1) := by decide +kernel
theorem dX4_accept_23 : decode cX4_accept 23 = .ok (.iadd, 1) := by decide +kernel
theorem dX4_accept_24 : decode cX4_accept 24 = .ok (.putfield 32, 3) := by decide +kernel
theorem dX4_accept_27 : decode cX4_accept 27 = .ok (.iconst 1, 1) := by decide +kernel
theorem dX4_accept_28 : decode cX4_accept 28 = .ok (.ireturn, 1) := by decide +kernel
theorem dX4_isDigitNext_0 : decode cX4_isDigitNext 0 = .ok (.aload_n 0, 1) := by decide +kernel
theorem dX4_isDigitNext_1 : decode cX4_isDigitNext 1 = .ok (.invokevirtual 96, 3) := by decide +kernel
theorem dX4_isDigitNext_4 : decode cX4_isDigitNext 4 = .ok (.bipush 48, 2) := by decide +kernel
theorem dX4_isDigitNext_6 : decode cX4_isDigitNext 6 = .ok (.bipush 57, 2) := by decide +kernel
theorem dX4_isDigitNext_8 : decode cX4_isDigitNext 8 = .ok (.invokestatic 100, 3) := by decide +kernel
theorem dX4_isDigitNext_11 : decode cX4_isDigitNext 11 = .ok (.ireturn, 1) := by decide +kernel
theorem dX4_next_0 : decode cX4_next 0 = .ok (.aload_n 0, 1) := by decide +kernel
theorem dX4_next_1 : decode cX4_next 1 = .ok (.getfield 32, 3) := by decide +kernel
theorem dX4_next_4 : decode cX4_next 4 = .ok (.aload_n 0, 1) := by decide +kernel
theorem dX4_next_5 : decode cX4_next 5 = .ok (.getfield 22, 3) := by decide +kernel
theorem dX4_next_8 : decode cX4_next 8 = .ok (.if_icmp .ge 15, 3) := by decide +kernel
theorem dX4_next_11 : decode cX4_next 11 = .ok (.aload_n 0, 1) := by decide +kernel
theorem dX4_next_12 : decode cX4_next 12 = .ok (.getfield 9, 3) := by decide +kernel
theorem dX4_next_15 : decode cX4_next 15 = .ok (.aload_n 0, 1) := by decide +kernel
theorem dX4_next_16 : decode cX4_next 16 = .ok (.getfield 32, 3) := by decide +kernel
theorem dX4_next_19 : decode cX4_next 19 = .ok (.iaload, 1) := by decide +kernel
theorem dX4_next_20 : decode cX4_next 20 = .ok (.goto 4, 3) := by decide +kernel
theorem dX4_next_23 : decode cX4_next 23 = .ok (.iconst (-1), 1) := by decide +kernel
theorem dX4_next_24 : decode cX4_next 24 = .ok (.ireturn, 1) := by decide +kernel
theorem dX4_fail_0 : decode cX4_fail 0 = .ok (.aload_n 0, 1) := by decide +kernel
theorem dX4_fail_1 : decode cX4_fail 1 = .ok (.getfield 26, 3) := by decide +kernel
theorem dX4_fail_4 : decode cX4_fail 4 = .ok (.ifCond .ne 13, 3) := by decide +kernel
theorem dX4_fail_7 : decode cX4_fail 7 = .ok (.aload_n 0, 1) := by decide +kernel
theorem dX4_fail_8 : decode cX4_fail 8 = .ok (.iload_n 1, 1) := by decide +kernel
theorem dX4_fail_9 : decode cX4_fail 9 = .ok (.putfield 26, 3) := by decide +kernel
theorem dX4_fail_12 : decode cX4_fail 12 = .ok (.aload_n 0, 1) := by decide +kernel
theorem dX4_fail_13 : decode cX4_fail 13 = .ok (.iload_n 2, 1) := by decide +kernel
theorem dX4_fail_14 : decode cX4_fail 14 = .ok (.putfield 29, 3) := by decide +kernel
theorem dX4_fail_17 : decode cX4_fail 17 = .ok (.return_, 1) := by decide +kernel
