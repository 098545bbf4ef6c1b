theorem dX5_init_0 : decode cX5_init 0 = .ok (.aload_n 0, 1) := by decide +kernel
theorem dX5_init_1 : decode cX5_init 1 = .ok (.invokespecial 1, 3) := by decide +kernel
theorem dX5_init_4 : decode cX5_init 4 = .ok (.aload_n 0, 1) := by decide +kernel
theorem dX5_init_5 : decode cX5_init 5 = .ok (.new 7, 3) := by decide +kernel
theorem dX5_init_8 : decode cX5_init 8 = .ok (.dup, 1) := by decide +kernel
theorem dX5_init_9 : decode cX5_init 9 = .ok (.invokespecial 9, 3) := by decide +kernel
theorem dX5_init_12 : decode cX5_init 12 = .ok (.putfield 10, 3) := by decide +kernel
theorem dX5_init_15 : decode cX5_init 15 = .ok (.aload_n 0, 1) := by decide +kernel
theorem dX5_init_16 : decode cX5_init 16 = .ok (.new 16, 3) := by decide +kernel
theorem dX5_init_19 : decode cX5_init 19 = .ok (.dup, 1) := by decide +kernel
theorem dX5_init_20 : decode cX5_init 20 = .ok (.invokespecial 18, 3) := by decide +kernel
theorem dX5_init_23 : decode cX5_init 23 = .ok (.putfield 19, 3) := by decide +kernel
theorem dX5_init_26 : decode cX5_init 26 = .ok (.aload_n 0, 1) := by decide +kernel
theorem dX5_init_27 : decode cX5_init 27 = .ok (.new 23, 3) := by decide +kernel
theorem dX5_init_30 : decode cX5_init 30 = .ok (.dup, 1) := by decide +kernel
theorem dX5_init_31 : decode cX5_init 31 = .ok (.invokespecial 25, 3) := by decide +kernel
theorem dX5_init_34 : decode cX5_init 34 = .ok (.putfield 26, 3) := by decide +kernel
theorem dX5_init_37 : decode cX5_init 37 = .ok (.aload_n 0, 1) := by decide +kernel
theorem dX5_init_38 : decode cX5_init 38 = .ok (.new 30, 3) := by decide +kernel
theorem dX5_init_41 : decode cX5_init 41 = .ok (.dup, 1) := by decide +kernel
theorem dX5_init_42 : decode cX5_init 42 = .ok (.invokespecial 32, 3) := by decide +kernel
theorem dX5_init_45 : decode cX5_init 45 = .ok (.putfield 33, 3) := by decide +kernel
theorem dX5_init_48 : decode cX5_init 48 = .ok (.aload_n 0, 1) := by decide +kernel
theorem dX5_init_49 : decode cX5_init 49 = .ok (.new 30, 3) := by decide +kernel
theorem dX5_init_52 : decode cX5_init 52 = .ok (.dup, 1) := by decide +kernel
theorem dX5_init_53 : decode cX5_init 53 = .ok (.invokespecial 32, 3) := by decide +kernel
theorem dX5_init_56 : decode cX5_init 56 = .ok (.putfield 37, 3) := by decide +kernel
theorem dX5_init_59 : decode cX5_init 59 = .ok (.aload_n 0, 1) := by decide +kernel
theorem dX5_init_60 : decode cX5_init 60 = .ok (.new 40, 3) := by decide +kernel
theorem dX5_init_63 : decode cX5_init 63 = .ok (.dup, 1) := by decide +kernel
theorem dX5_init_64 : decode cX5_init 64 = .ok (.invokespecial 42, 3) := by decide +kernel
theorem dX5_init_67 : decode cX5_init 67 = .ok (.putfield 43, 3) := by decide +kernel
theorem dX5_init_70 : decode cX5_init 70 = .ok (.aload_n 0, 1) := by decide +kernel
theorem dX5_init_71 : decode cX5_init 71 = .ok (.iconst 0, 1) := by decide +kernel
theorem dX5_init_72 : decode cX5_init 72 = .ok (.putfield 47, 3) := by decide +kernel
theorem dX5_init_75 : decode cX5_init 75 = .ok (.aload_n 0, 1) := by decide +kernel
theorem dX5_init_76 : decode cX5_init 76 = .ok (.iconst 0, 1) := by decide +kernel
theorem dX5_init_77 : decode cX5_init 77 = .ok (.putfield 51, 3) := by decide +kernel
theorem dX5_init_80 : decode cX5_init 80 = .ok (.return_, 1) := by decide +kernel
theorem dX5_addPoint_0 : decode cX5_addPoint 0 = .ok (.iload_n 1, 1) := by decide +kernel
theorem dX5_addPoint_1 : decode cX5_addPoint 1 = .ok (.iconst 0, 1) := by decide +kernel
theorem dX5_addPoint_2 : decode cX5_addPoint 2 = .ok (.sipush 300, 3) := by decide +kernel
theorem dX5_addPoint_5 : decode cX5_addPoint 5 = .ok (.invokestatic 54, 3) := by decide +kernel
theorem dX5_addPoint_8 : decode cX5_addPoint 8 = .ok (.ifCond .ne 5, 3) := by decide +kernel
theorem dX5_addPoint_11 : decode cX5_addPoint 11 = .ok (.iconst (-1), 1) := by decide +kernel
theorem dX5_addPoint_12 : decode cX5_addPoint 12 = .ok (.ireturn, 1) := by decide +kernel
theorem dX5_addPoint_13 : decode cX5_addPoint 13 = .ok (.aload_n 0, 1) := by decide +kernel
theorem dX5_addPoint_14 : decode cX5_addPoint 14 = .ok (.getfield 10, 3) := by decide +kernel
theorem dX5_addPoint_17 : decode cX5_addPoint 17 = .ok (.iload_n 1, 1) := by decide +kernel
theorem dX5_addPoint_18 : decode cX5_addPoint 18 = .ok (.invokevirtual 92, 3) := by decide +kernel
theorem dX5_addPoint_21 : decode cX5_addPoint 21 = .ok (.ifCond .eq 6, 3) := by decide +kernel
theorem dX5_addPoint_24 : decode cX5_addPoint 24 = .ok (.bipush (-2), 2) := by decide +kernel
theorem dX5_addPoint_26 : decode cX5_addPoint 26 = .ok (.ireturn, 1) := by decide +kernel
theorem dX5_addPoint_27 : decode cX5_addPoint 27 = .ok (.aload_n 0, 1) := by decide +kernel
theorem dX5_addPoint_28 : decode cX5_addPoint 28 = .ok (.getfield 10, 3) := by decide +kernel
theorem dX5_addPoint_31 : decode cX5_addPoint 31 = .ok (.getfield 96, 3) := by decide +kernel
theorem dX5_addPoint_34 : decode cX5_addPoint 34 = .ok (.bipush 12, 2) := by decide +kernel
theorem dX5_addPoint_36 : decode cX5_addPoint 36 = .ok (.if_icmp .ne 6, 3) := by decide +kernel
theorem dX5_addPoint_39 : decode cX5_addPoint 39 = .ok (.bipush (-3), 2) := by decide +kernel
theorem dX5_addPoint_41 : decode cX5_addPoint 41 = .ok (.ireturn, 1) := by decide +kernel
theorem dX5_addPoint_42 : decode cX5_addPoint 42 = .ok (.aload_n 0, 1) := by decide +kernel
theorem dX5_addPoint_43 : decode cX5_addPoint 43 = .ok (.invokevirtual 79, 3) := by decide +kernel
theorem dX5_addPoint_46 : decode cX5_addPoint 46 = .ok (.aload_n 0, 1) := by decide +kernel
theorem dX5_addPoint_47 : decode cX5_addPoint 47 = .ok (.getfield 10, 3) := by decide +kernel
theorem dX5_addPoint_50 : decode cX5_addPoint 50 = .ok (.iload_n 1, 1) := by decide +kernel
theorem dX5_addPoint_51 : decode cX5_addPoint 51 = .ok (.invokevirtual 99, 3) := by decide +kernel
theorem dX5_addPoint_54 : decode cX5_addPoint 54 = .ok (.ireturn, 1) := by decide +kernel
theorem dX5_add_0 : decode cX5_add 0 = .ok (.aload_n 0, 1) := by decide +kernel
theorem dX5_add_1 : decode cX5_add 1 = .ok (.iload_n 1, 1) := by decide +kernel
theorem dX5_add_2 : decode cX5_add 2 = .ok (.iload_n 2, 1) := by decide +kernel
theorem dX5_add_3 : decode cX5_add 3 = .ok (.invokevirtual 120, 3) := by decide +kernel
theorem dX5_add_6 : decode cX5_add 6 = .ok (.ifCond .ne 5, 3) := by decide +kernel
theorem dX5_add_9 : decode cX5_add 9 = .ok (.iconst (-1), 1) := by decide +kernel
theorem dX5_add_10 : decode cX5_add 10 = .ok (.ireturn, 1) := by decide +kernel
theorem dX5_add_11 : decode cX5_add 11 = .ok (.aload_n 0, 1) := by decide +kernel
theorem dX5_add_12 : decode cX5_add 12 = .ok (.getfield 10, 3) := by decide +kernel
theorem dX5_add_15 : decode cX5_add 15 = .ok (.getfield 89, 3) := by decide +kernel
theorem dX5_add_18 : decode cX5_add 18 = .ok (.bipush 16, 2) := by decide +kernel
theorem dX5_add_20 : decode cX5_add 20 = .ok (.if_icmp .ne 6, 3) := by decide +kernel
theorem dX5_add_23 : decode cX5_add 23 = .ok (.bipush (-3), 2) := by decide +kernel
theorem dX5_add_25 : decode cX5_add 25 = .ok (.ireturn, 1) := by decide +kernel
theorem dX5_add_26 : decode cX5_add 26 = .ok (.aload_n 0, 1) := by decide +kernel
theorem dX5_add_27 : decode cX5_add 27 = .ok (.invokevirtual 79, 3) := by decide +kernel
theorem dX5_add_30 : decode cX5_add 30 = .ok (.aload_n 0, 1) := by decide +kernel
theorem dX5_add_31 : decode cX5_add 31 = .ok (.getfield 10, 3) := by decide +kernel
theorem dX5_add_34 : decode cX5_add 34 = .ok (.iload_n 1, 1) := by decide +kernel
theorem dX5_add_35 : decode cX5_add 35 = .ok (.iload_n 2, 1) := by decide +kernel
theorem dX5_add_36 : decode cX5_add 36 = .ok (.invokestatic 124, 3) := by decide +kernel
theorem dX5_add_39 : decode cX5_add 39 = .ok (.iload_n 1, 1) := by decide +kernel
theorem dX5_add_40 : decode cX5_add 40 = .ok (.iload_n 2, 1) := by decide +kernel
theorem dX5_add_41 : decode cX5_add 41 = .ok (.invokestatic 129, 3) := by decide +kernel
theorem dX5_add_44 : decode cX5_add 44 = .ok (.invokevirtual 132, 3) := by decide +kernel
theorem dX5_add_47 : decode cX5_add 47 = .ok (.ireturn, 1) := by decide +kernel
theorem dX5_drop_0 : decode cX5_drop 0 = .ok (.aload_n 0, 1) := by decide +kernel
theorem dX5_drop_1 : decode cX5_drop 1 = .ok (.getfield 10, 3) := by decide +kernel
theorem dX5_drop_4 : decode cX5_drop 4 = .ok (.iload_n 1, 1) := by decide +kernel
theorem dX5_drop_5 : decode cX5_drop 5 = .ok (.invokevirtual 134, 3) := by decide +kernel
theorem dX5_drop_8 : decode cX5_drop 8 = .ok (.ifCond .ne 5, 3) := by decide +kernel
theorem dX5_drop_11 : decode cX5_drop 11 = .ok (.iconst (-1), 1) := by decide +kernel
theorem dX5_drop_12 : decode cX5_drop 12 = .ok (.ireturn, 1) := by decide +kernel
theorem dX5_drop_13 : decode cX5_drop 13 = .ok (.aload_n 0, 1) := by decide +kernel
theorem dX5_drop_14 : decode cX5_drop 14 = .ok (.invokevirtual 79, 3) := by decide +kernel
theorem dX5_drop_17 : decode cX5_drop 17 = .ok (.aload_n 0, 1) := by decide +kernel
theorem dX5_drop_18 : decode cX5_drop 18 = .ok (.getfield 10, 3) := by decide +kernel
theorem dX5_drop_21 : decode cX5_drop 21 = .ok (.iload_n 1, 1) := by decide +kernel
theorem dX5_drop_22 : decode cX5_drop 22 = .ok (.invokevirtual 137, 3) := by decide +kernel
theorem dX5_drop_25 : decode cX5_drop 25 = .ok (.aload_n 0, 1) := by decide +kernel
theorem dX5_drop_26 : decode cX5_drop 26 = .ok (.getfield 10, 3) := by decide +kernel
theorem dX5_drop_29 : decode cX5_drop 29 = .ok (.getfield 89, 3) := by decide +kernel
theorem dX5_drop_32 : decode cX5_drop 32 = .ok (.ireturn, 1) := by decide +kernel
theorem dX5_setTolerance_0 : decode cX5_setTolerance 0 = .ok (.aload_n 0, 1) := by decide +kernel
theorem dX5_setTolerance_1 : decode cX5_setTolerance 1 = .ok (.getfield 10, 3) := by decide +kernel
theorem dX5_setTolerance_4 : decode cX5_setTolerance 4 = .ok (.iload_n 1, 1) := by decide +kernel
theorem dX5_setTolerance_5 : decode cX5_setTolerance 5 = .ok (.invokevirtual 134, 3) := by decide +kernel
theorem dX5_setTolerance_8 : decode cX5_setTolerance 8 = .ok (.ifCond .eq 23, 3) := by decide +kernel
theorem dX5_setTolerance_11 : decode cX5_setTolerance 11 = .ok (.iload_n 2, 1) := by decide +kernel
theorem dX5_setTolerance_12 : decode cX5_setTolerance 12 = .ok (.iconst 0, 1) := by decide +kernel
theorem dX5_setTolerance_13 : decode cX5_setTolerance 13 = .ok (.bipush 20, 2) := by decide +kernel
theorem dX5_setTolerance_15 : decode cX5_setTolerance 15 = .ok (.invokestatic 54, 3) := by decide +kernel
theorem dX5_setTolerance_18 : decode cX5_setTolerance 18 = .ok (.ifCond .eq 13, 3) := by decide +kernel
theorem dX5_setTolerance_21 : decode cX5_setTolerance 21 = .ok (.iload_n 3, 1) := by decide +kernel
theorem dX5_setTolerance_22 : decode cX5_setTolerance 22 = .ok (.iconst 0, 1) := by decide +kernel
theorem dX5_setTolerance_23 : decode cX5_setTolerance 23 = .ok (.bipush 20, 2) := by decide +kernel
theorem dX5_setTolerance_25 : decode cX5_setTolerance 25 = .ok (.invokestatic 54, 3) := by decide +kernel
theorem dX5_setTolerance_28 : decode cX5_setTolerance 28 = .ok (.ifCond .ne 5, 3) := by decide +kernel
theorem dX5_setTolerance_31 : decode cX5_setTolerance 31 = .ok (.iconst (-1), 1) := by decide +kernel
theorem dX5_setTolerance_32 : decode cX5_setTolerance 32 = .ok (.ireturn, 1) := by decide +kernel
theorem dX5_setTolerance_33 : decode cX5_setTolerance 33 = .ok (.bipush 100, 2) := by decide +kernel
theorem dX5_setTolerance_35 : decode cX5_setTolerance 35 = .ok (.aload_n 0, 1) := by decide +kernel
theorem dX5_setTolerance_36 : decode cX5_setTolerance 36 = .ok (.getfield 10, 3) := by decide +kernel
theorem dX5_setTolerance_39 : decode cX5_setTolerance 39 = .ok (.getfield 140, 3) := by decide +kernel
theorem dX5_setTolerance_42 : decode cX5_setTolerance 42 = .ok (.iload_n 1, 1) := by decide +kernel
theorem dX5_setTolerance_43 : decode cX5_setTolerance 43 = .ok (.iaload, 1) := by decide +kernel
theorem dX5_setTolerance_44 : decode cX5_setTolerance 44 = .ok (.imul, 1) := by decide +kernel
theorem dX5_setTolerance_45 : decode cX5_setTolerance 45 = .ok (.aload_n 0, 1) := by decide +kernel
theorem dX5_setTolerance_46 : decode cX5_setTolerance 46 = .ok (.getfield 10, 3) := by decide +kernel
theorem dX5_setTolerance_49 : decode cX5_setTolerance 49 = .ok (.getfield 143, 3) := by decide +kernel
theorem dX5_setTolerance_52 : decode cX5_setTolerance 52 = .ok (.iload_n 1, 1) := by decide +kernel
theorem dX5_setTolerance_53 : decode cX5_setTolerance 53 = .ok (.iaload, 1) := by decide +kernel
theorem dX5_setTolerance_54 : decode cX5_setTolerance 54 = .ok (.iadd, 1) := by decide +kernel
theorem dX5_setTolerance_55 : decode cX5_setTolerance 55 = .ok (.istore 4, 2) := by decide +kernel
theorem dX5_setTolerance_57 : decode cX5_setTolerance 57 = .ok (.aload_n 0, 1) := by decide +kernel
theorem dX5_setTolerance_58 : decode cX5_setTolerance 58 = .ok (.invokevirtual 79, 3) := by decide +kernel
theorem dX5_setTolerance_61 : decode cX5_setTolerance 61 = .ok (.aload_n 0, 1) := by decide +kernel
theorem dX5_setTolerance_62 : decode cX5_setTolerance 62 = .ok (.getfield 10, 3) := by decide +kernel
theorem dX5_setTolerance_65 : decode cX5_setTolerance 65 = .ok (.getfield 140, 3) := by decide +kernel
theorem dX5_setTolerance_68 : decode cX5_setTolerance 68 = .ok (.iload_n 1, 1) := by decide +kernel
theorem dX5_setTolerance_69 : decode cX5_setTolerance 69 = .ok (.iload_n 2, 1) := by decide +kernel
theorem dX5_setTolerance_70 : decode cX5_setTolerance 70 = .ok (.iastore, 1) := by decide +kernel
theorem dX5_setTolerance_71 : decode cX5_setTolerance 71 = .ok (.aload_n 0, 1) := by decide +kernel
theorem dX5_setTolerance_72 : decode cX5_setTolerance 72 = .ok (.getfield 10, 3) := by decide +kernel
theorem dX5_setTolerance_75 : decode cX5_setTolerance 75 = .ok (.getfield 143, 3) := by decide +kernel
theorem dX5_setTolerance_78 : decode cX5_setTolerance 78 = .ok (.iload_n 1, 1) := by decide +kernel
theorem dX5_setTolerance_79 : decode cX5_setTolerance 79 = .ok (.iload_n 3, 1) := by decide +kernel
theorem dX5_setTolerance_80 : decode cX5_setTolerance 80 = .ok (.iastore, 1) := by decide +kernel
theorem dX5_setTolerance_81 : decode cX5_setTolerance 81 = .ok (.iload 4, 2) := by decide +kernel
theorem dX5_setTolerance_83 : decode cX5_setTolerance 83 = .ok (.ireturn, 1) := by decide +kernel
theorem dX5_setChain_0 : decode cX5_setChain 0 = .ok (.aload_n 0, 1) := by decide +kernel
theorem dX5_setChain_1 : decode cX5_setChain 1 = .ok (.getfield 10, 3) := by decide +kernel
theorem dX5_setChain_4 : decode cX5_setChain 4 = .ok (.iload_n 1, 1) := by decide +kernel
theorem dX5_setChain_5 : decode cX5_setChain 5 = .ok (.invokevirtual 134, 3) := by decide +kernel
theorem dX5_setChain_8 : decode cX5_setChain 8 = .ok (.ifCond .eq 12, 3) := by decide +kernel
theorem dX5_setChain_11 : decode cX5_setChain 11 = .ok (.iload_n 2, 1) := by decide +kernel
theorem dX5_setChain_12 : decode cX5_setChain 12 = .ok (.iconst 0, 1) := by decide +kernel
theorem dX5_setChain_13 : decode cX5_setChain 13 = .ok (.iconst 5, 1) := by decide +kernel
theorem dX5_setChain_14 : decode cX5_setChain 14 = .ok (.invokestatic 54, 3) := by decide +kernel
theorem dX5_setChain_17 : decode cX5_setChain 17 = .ok (.ifCond .ne 5, 3) := by decide +kernel
theorem dX5_setChain_20 : decode cX5_setChain 20 = .ok (.iconst (-1), 1) := by decide +kernel
theorem dX5_setChain_21 : decode cX5_setChain 21 = .ok (.ireturn, 1) := by decide +kernel
theorem dX5_setChain_22 : decode cX5_setChain 22 = .ok (.aload_n 0, 1) := by decide +kernel
theorem dX5_setChain_23 : decode cX5_setChain 23 = .ok (.getfield 10, 3) := by decide +kernel
theorem dX5_setChain_26 : decode cX5_setChain 26 = .ok (.getfield 146, 3) := by decide +kernel
theorem dX5_setChain_29 : decode cX5_setChain 29 = .ok (.iload_n 1, 1) := by decide +kernel
theorem dX5_setChain_30 : decode cX5_setChain 30 = .ok (.iaload, 1) := by decide +kernel
theorem dX5_setChain_31 : decode cX5_setChain 31 = .ok (.istore_n 3, 1) := by decide +kernel
theorem dX5_setChain_32 : decode cX5_setChain 32 = .ok (.aload_n 0, 1) := by decide +kernel
theorem dX5_setChain_33 : decode cX5_setChain 33 = .ok (.invokevirtual 79, 3) := by decide +kernel
theorem dX5_setChain_36 : decode cX5_setChain 36 = .ok (.aload_n 0, 1) := by decide +kernel
theorem dX5_setChain_37 : decode cX5_setChain 37 = .ok (.getfield 10, 3) := by decide +kernel
theorem dX5_setChain_40 : decode cX5_setChain 40 = .ok (.getfield 146, 3) := by decide +kernel
theorem dX5_setChain_43 : decode cX5_setChain 43 = .ok (.iload_n 1, 1) := by decide +kernel
theorem dX5_setChain_44 : decode cX5_setChain 44 = .ok (.iload_n 2, 1) := by decide +kernel
theorem dX5_setChain_45 : decode cX5_setChain 45 = .ok (.iastore, 1) := by decide +kernel
theorem dX5_setChain_46 : decode cX5_setChain 46 = .ok (.iload_n 3, 1) := by decide +kernel
theorem dX5_setChain_47 : decode cX5_setChain 47 = .ok (.ireturn, 1) := by decide +kernel
theorem dX5_setLeast_0 : decode cX5_setLeast 0 = .ok (.aload_n 0, 1) := by decide +kernel
theorem dX5_setLeast_1 : decode cX5_setLeast 1 = .ok (.getfield 10, 3) := by decide +kernel
theorem dX5_setLeast_4 : decode cX5_setLeast 4 = .ok (.iload_n 1, 1) := by decide +kernel
theorem dX5_setLeast_5 : decode cX5_setLeast 5 = .ok (.invokevirtual 134, 3) := by decide +kernel
theorem dX5_setLeast_8 : decode cX5_setLeast 8 = .ok (.ifCond .eq 13, 3) := by decide +kernel
theorem dX5_setLeast_11 : decode cX5_setLeast 11 = .ok (.iload_n 2, 1) := by decide +kernel
theorem dX5_setLeast_12 : decode cX5_setLeast 12 = .ok (.iconst 0, 1) := by decide +kernel
theorem dX5_setLeast_13 : decode cX5_setLeast 13 = .ok (.bipush 9, 2) := by decide +kernel
theorem dX5_setLeast_15 : decode cX5_setLeast 15 = .ok (.invokestatic 54, 3) := by decide +kernel
theorem dX5_setLeast_18 : decode cX5_setLeast 18 = .ok (.ifCond .ne 5, 3) := by decide +kernel
theorem dX5_setLeast_21 : decode cX5_setLeast 21 = .ok (.iconst (-1), 1) := by decide +kernel
theorem dX5_setLeast_22 : decode cX5_setLeast 22 = .ok (.ireturn, 1) := by decide +kernel
theorem dX5_setLeast_23 : decode cX5_setLeast 23 = .ok (.aload_n 0, 1) := by decide +kernel
theorem dX5_setLeast_24 : decode cX5_setLeast 24 = .ok (.getfield 10, 3) := by decide +kernel
theorem dX5_setLeast_27 : decode cX5_setLeast 27 = .ok (.getfield 149, 3) := by decide +kernel
theorem dX5_setLeast_30 : decode cX5_setLeast 30 = .ok (.iload_n 1, 1) := by decide +kernel
theorem dX5_setLeast_31 : decode cX5_setLeast 31 = .ok (.iaload, 1) := by decide +kernel
theorem dX5_setLeast_32 : decode cX5_setLeast 32 = .ok (.istore_n 3, 1) := by decide +kernel
theorem dX5_setLeast_33 : decode cX5_setLeast 33 = .ok (.aload_n 0, 1) := by decide +kernel
theorem dX5_setLeast_34 : decode cX5_setLeast 34 = .ok (.invokevirtual 79, 3) := by decide +kernel
theorem dX5_setLeast_37 : decode cX5_setLeast 37 = .ok (.aload_n 0, 1) := by decide +kernel
theorem dX5_setLeast_38 : decode cX5_setLeast 38 = .ok (.getfield 10, 3) := by decide +kernel
theorem dX5_setLeast_41 : decode cX5_setLeast 41 = .ok (.getfield 149, 3) := by decide +kernel
theorem dX5_setLeast_44 : decode cX5_setLeast 44 = .ok (.iload_n 1, 1) := by decide +kernel
theorem dX5_setLeast_45 : decode cX5_setLeast 45 = .ok (.iload_n 2, 1) := by decide +kernel
theorem dX5_setLeast_46 : decode cX5_setLeast 46 = .ok (.iastore, 1) := by decide +kernel
theorem dX5_setLeast_47 : decode cX5_setLeast 47 = .ok (.iload_n 3, 1) := by decide +kernel
theorem dX5_setLeast_48 : decode cX5_setLeast 48 = .ok (.ireturn, 1) := by decide +kernel
theorem dX5_setLetter_0 : decode cX5_setLetter 0 = .ok (.iload_n 1, 1) := by decide +kernel
theorem dX5_setLetter_1 : decode cX5_setLetter 1 = .ok (.iconst 1, 1) := by decide +kernel
theorem dX5_setLetter_2 : decode cX5_setLetter 2 = .ok (.bipush 9, 2) := by decide +kernel
theorem dX5_setLetter_4 : decode cX5_setLetter 4 = .ok (.invokestatic 54, 3) := by decide +kernel
theorem dX5_setLetter_7 : decode cX5_setLetter 7 = .ok (.ifCond .ne 5, 3) := by decide +kernel
theorem dX5_setLetter_10 : decode cX5_setLetter 10 = .ok (.iconst (-1), 1) := by decide +kernel
theorem dX5_setLetter_11 : decode cX5_setLetter 11 = .ok (.ireturn, 1) := by decide +kernel
theorem dX5_setLetter_12 : decode cX5_setLetter 12 = .ok (.aload_n 0, 1) := by decide +kernel
theorem dX5_setLetter_13 : decode cX5_setLetter 13 = .ok (.getfield 10, 3) := by decide +kernel
theorem dX5_setLetter_16 : decode cX5_setLetter 16 = .ok (.getfield 152, 3) := by decide +kernel
theorem dX5_setLetter_19 : decode cX5_setLetter 19 = .ok (.istore_n 2, 1) := by decide +kernel
theorem dX5_setLetter_20 : decode cX5_setLetter 20 = .ok (.aload_n 0, 1) := by decide +kernel
theorem dX5_setLetter_21 : decode cX5_setLetter 21 = .ok (.invokevirtual 79, 3) := by decide +kernel
theorem dX5_setLetter_24 : decode cX5_setLetter 24 = .ok (.aload_n 0, 1) := by decide +kernel
theorem dX5_setLetter_25 : decode cX5_setLetter 25 = .ok (.getfield 10, 3) := by decide +kernel
theorem dX5_setLetter_28 : decode cX5_setLetter 28 = .ok (.iload_n 1, 1) := by decide +kernel
theorem dX5_setLetter_29 : decode cX5_setLetter 29 = .ok (.putfield 152, 3) := by decide +kernel
theorem dX5_setLetter_32 : decode cX5_setLetter 32 = .ok (.iload_n 2, 1) := by decide +kernel
theorem dX5_setLetter_33 : decode cX5_setLetter 33 = .ok (.ireturn, 1) := by decide +kernel
theorem dX5_setArrow_0 : decode cX5_setArrow 0 = .ok (.iload_n 1, 1) := by decide +kernel
theorem dX5_setArrow_1 : decode cX5_setArrow 1 = .ok (.iconst 1, 1) := by decide +kernel
theorem dX5_setArrow_2 : decode cX5_setArrow 2 = .ok (.bipush 9, 2) := by decide +kernel
theorem dX5_setArrow_4 : decode cX5_setArrow 4 = .ok (.invokestatic 54, 3) := by decide +kernel
theorem dX5_setArrow_7 : decode cX5_setArrow 7 = .ok (.ifCond .ne 5, 3) := by decide +kernel
theorem dX5_setArrow_10 : decode cX5_setArrow 10 = .ok (.iconst (-1), 1) := by decide +kernel
theorem dX5_setArrow_11 : decode cX5_setArrow 11 = .ok (.ireturn, 1) := by decide +kernel
theorem dX5_setArrow_12 : decode cX5_setArrow 12 = .ok (.aload_n 0, 1) := by decide +kernel
theorem dX5_setArrow_13 : decode cX5_setArrow 13 = .ok (.getfield 10, 3) := by decide +kernel
theorem dX5_setArrow_16 : decode cX5_setArrow 16 = .ok (.getfield 155, 3) := by decide +kernel
theorem dX5_setArrow_19 : decode cX5_setArrow 19 = .ok (.istore_n 2, 1) := by decide +kernel
theorem dX5_setArrow_20 : decode cX5_setArrow 20 = .ok (.aload_n 0, 1) := by decide +kernel
theorem dX5_setArrow_21 : decode cX5_setArrow 21 = .ok (.invokevirtual 79, 3) := by decide +kernel
theorem dX5_setArrow_24 : decode cX5_setArrow 24 = .ok (.aload_n 0, 1) := by decide +kernel
theorem dX5_setArrow_25 : decode cX5_setArrow 25 = .ok (.getfield 10, 3) := by decide +kernel
theorem dX5_setArrow_28 : decode cX5_setArrow 28 = .ok (.iload_n 1, 1) := by decide +kernel
theorem dX5_setArrow_29 : decode cX5_setArrow 29 = .ok (.putfield 155, 3) := by decide +kernel
theorem dX5_setArrow_32 : decode cX5_setArrow 32 = .ok (.iload_n 2, 1) := by decide +kernel
theorem dX5_setArrow_33 : decode cX5_setArrow 33 = .ok (.ireturn, 1) := by decide +kernel
theorem dX5_point_0 : decode cX5_point 0 = .ok (.aload_n 0, 1) := by decide +kernel
theorem dX5_point_1 : decode cX5_point 1 = .ok (.getfield 10, 3) := by decide +kernel
theorem dX5_point_4 : decode cX5_point 4 = .ok (.iload_n 1, 1) := by decide +kernel
theorem dX5_point_5 : decode cX5_point 5 = .ok (.invokevirtual 102, 3) := by decide +kernel
theorem dX5_point_8 : decode cX5_point 8 = .ok (.ifCond .ne 5, 3) := by decide +kernel
theorem dX5_point_11 : decode cX5_point 11 = .ok (.iconst (-1), 1) := by decide +kernel
theorem dX5_point_12 : decode cX5_point 12 = .ok (.ireturn, 1) := by decide +kernel
theorem dX5_point_13 : decode cX5_point 13 = .ok (.iload_n 2, 1) := by decide +kernel
theorem dX5_point_14 : decode cX5_point 14 = .ok (.tableswitch 82 0 4 #[34, 44, 53, 62, 72], 34) := by decide +kernel
theorem dX5_point_48 : decode cX5_point 48 = .ok (.aload_n 0, 1) := by decide +kernel
theorem dX5_point_49 : decode cX5_point 49 = .ok (.getfield 10, 3) := by decide +kernel
theorem dX5_point_52 : decode cX5_point 52 = .ok (.getfield 105, 3) := by decide +kernel
theorem dX5_point_55 : decode cX5_point 55 = .ok (.iload_n 1, 1) := by decide +kernel
theorem dX5_point_56 : decode cX5_point 56 = .ok (.iaload, 1) := by decide +kernel
theorem dX5_point_57 : decode cX5_point 57 = .ok (.ireturn, 1) := by decide +kernel
theorem dX5_point_58 : decode cX5_point 58 = .ok (.aload_n 0, 1) := by decide +kernel
theorem dX5_point_59 : decode cX5_point 59 = .ok (.getfield 10, 3) := by decide +kernel
theorem dX5_point_62 : decode cX5_point 62 = .ok (.iload_n 1, 1) := by decide +kernel
theorem dX5_point_63 : decode cX5_point 63 = .ok (.invokevirtual 113, 3) := by decide +kernel
theorem dX5_point_66 : decode cX5_point 66 = .ok (.ireturn, 1) := by decide +kernel
theorem dX5_point_67 : decode cX5_point 67 = .ok (.aload_n 0, 1) := by decide +kernel
theorem dX5_point_68 : decode cX5_point 68 = .ok (.invokevirtual 158, 3) := by decide +kernel
theorem dX5_point_71 : decode cX5_point 71 = .ok (.iload_n 1, 1) := by decide +kernel
theorem dX5_point_72 : decode cX5_point 72 = .ok (.invokevirtual 162, 3) := by decide +kernel
theorem dX5_point_75 : decode cX5_point 75 = .ok (.ireturn, 1) := by decide +kernel
theorem dX5_point_76 : decode cX5_point 76 = .ok (.aload_n 0, 1) := by decide +kernel
theorem dX5_point_77 : decode cX5_point 77 = .ok (.invokevirtual 158, 3) := by decide +kernel
theorem dX5_point_80 : decode cX5_point 80 = .ok (.getfield 165, 3) := by decide +kernel
theorem dX5_point_83 : decode cX5_point 83 = .ok (.iload_n 1, 1) := by decide +kernel
theorem dX5_point_84 : decode cX5_point 84 = .ok (.iaload, 1) := by decide +kernel
theorem dX5_point_85 : decode cX5_point 85 = .ok (.ireturn, 1) := by decide +kernel
theorem dX5_point_86 : decode cX5_point 86 = .ok (.aload_n 0, 1) := by decide +kernel
theorem dX5_point_87 : decode cX5_point 87 = .ok (.invokevirtual 168, 3) := by decide +kernel
theorem dX5_point_90 : decode cX5_point 90 = .ok (.getfield 172, 3) := by decide +kernel
theorem dX5_point_93 : decode cX5_point 93 = .ok (.iload_n 1, 1) := by decide +kernel
theorem dX5_point_94 : decode cX5_point 94 = .ok (.iaload, 1) := by decide +kernel
theorem dX5_point_95 : decode cX5_point 95 = .ok (.ireturn, 1) := by decide +kernel
theorem dX5_point_96 : decode cX5_point 96 = .ok (.iconst (-1), 1) := by decide +kernel
theorem dX5_point_97 : decode cX5_point 97 = .ok (.ireturn, 1) := by decide +kernel
theorem dX5_dimension_0 : decode cX5_dimension 0 = .ok (.aload_n 0, 1) := by decide +kernel
theorem dX5_dimension_1 : decode cX5_dimension 1 = .ok (.getfield 10, 3) := by decide +kernel
theorem dX5_dimension_4 : decode cX5_dimension 4 = .ok (.iload_n 1, 1) := by decide +kernel
theorem dX5_dimension_5 : decode cX5_dimension 5 = .ok (.invokevirtual 134, 3) := by decide +kernel
theorem dX5_dimension_8 : decode cX5_dimension 8 = .ok (.ifCond .ne 5, 3) := by decide +kernel
theorem dX5_dimension_11 : decode cX5_dimension 11 = .ok (.iconst (-1), 1) := by decide +kernel
theorem dX5_dimension_12 : decode cX5_dimension 12 = .ok (.ireturn, 1) := by decide +kernel
theorem dX5_dimension_13 : decode cX5_dimension 13 = .ok (.iload_n 2, 1) := by decide +kernel
theorem dX5_dimension_14 : decode cX5_dimension 14 = .ok (.tableswitch 203 0 12 #[66, 76, 86, 95, 105, 115, 125, 135, 145, 155, 165, 175, 193], 66) := by decide +kernel
theorem dX5_dimension_80 : decode cX5_dimension 80 = .ok (.aload_n 0, 1) := by decide +kernel
theorem dX5_dimension_81 : decode cX5_dimension 81 = .ok (.getfield 10, 3) := by decide +kernel
theorem dX5_dimension_84 : decode cX5_dimension 84 = .ok (.getfield 175, 3) := by decide +kernel
theorem dX5_dimension_87 : decode cX5_dimension 87 = .ok (.iload_n 1, 1) := by decide +kernel
theorem dX5_dimension_88 : decode cX5_dimension 88 = .ok (.iaload, 1) := by decide +kernel
theorem dX5_dimension_89 : decode cX5_dimension 89 = .ok (.ireturn, 1) := by decide +kernel
theorem dX5_dimension_90 : decode cX5_dimension 90 = .ok (.aload_n 0, 1) := by decide +kernel
theorem dX5_dimension_91 : decode cX5_dimension 91 = .ok (.getfield 10, 3) := by decide +kernel
theorem dX5_dimension_94 : decode cX5_dimension 94 = .ok (.getfield 178, 3) := by decide +kernel
theorem dX5_dimension_97 : decode cX5_dimension 97 = .ok (.iload_n 1, 1) := by decide +kernel
theorem dX5_dimension_98 : decode cX5_dimension 98 = .ok (.iaload, 1) := by decide +kernel
theorem dX5_dimension_99 : decode cX5_dimension 99 = .ok (.ireturn, 1) := by decide +kernel
theorem dX5_dimension_100 : decode cX5_dimension 100 = .ok (.aload_n 0, 1) := by decide +kernel
theorem dX5_dimension_101 : decode cX5_dimension 101 = .ok (.getfield 10, 3) := by decide +kernel
theorem dX5_dimension_104 : decode cX5_dimension 104 = .ok (.iload_n 1, 1) := by decide +kernel
theorem dX5_dimension_105 : decode cX5_dimension 105 = .ok (.invokevirtual 181, 3) := by decide +kernel
theorem dX5_dimension_108 : decode cX5_dimension 108 = .ok (.ireturn, 1) := by decide +kernel
theorem dX5_dimension_109 : decode cX5_dimension 109 = .ok (.aload_n 0, 1) := by decide +kernel
theorem dX5_dimension_110 : decode cX5_dimension 110 = .ok (.getfield 10, 3) := by decide +kernel
theorem dX5_dimension_113 : decode cX5_dimension 113 = .ok (.getfield 140, 3) := by decide +kernel
theorem dX5_dimension_116 : decode cX5_dimension 116 = .ok (.iload_n 1, 1) := by decide +kernel
theorem dX5_dimension_117 : decode cX5_dimension 117 = .ok (.iaload, 1) := by decide +kernel
theorem dX5_dimension_118 : decode cX5_dimension 118 = .ok (.ireturn, 1) := by decide +kernel
theorem dX5_dimension_119 : decode cX5_dimension 119 = .ok (.aload_n 0, 1) := by decide +kernel
theorem dX5_dimension_120 : decode cX5_dimension 120 = .ok (.getfield 10, 3) := by decide +kernel
theorem dX5_dimension_123 : decode cX5_dimension 123 = .ok (.getfield 143, 3) := by decide +kernel
theorem dX5_dimension_126 : decode cX5_dimension 126 = .ok (.iload_n 1, 1) := by decide +kernel
theorem dX5_dimension_127 : decode cX5_dimension 127 = .ok (.iaload, 1) := by decide +kernel
theorem dX5_dimension_128 : decode cX5_dimension 128 = .ok (.ireturn, 1) := by decide +kernel
theorem dX5_dimension_129 : decode cX5_dimension 129 = .ok (.aload_n 0, 1) := by decide +kernel
theorem dX5_dimension_130 : decode cX5_dimension 130 = .ok (.getfield 10, 3) := by decide +kernel
theorem dX5_dimension_133 : decode cX5_dimension 133 = .ok (.getfield 146, 3) := by decide +kernel
theorem dX5_dimension_136 : decode cX5_dimension 136 = .ok (.iload_n 1, 1) := by decide +kernel
theorem dX5_dimension_137 : decode cX5_dimension 137 = .ok (.iaload, 1) := by decide +kernel
theorem dX5_dimension_138 : decode cX5_dimension 138 = .ok (.ireturn, 1) := by decide +kernel
theorem dX5_dimension_139 : decode cX5_dimension 139 = .ok (.aload_n 0, 1) := by decide +kernel
theorem dX5_dimension_140 : decode cX5_dimension 140 = .ok (.getfield 10, 3) := by decide +kernel
theorem dX5_dimension_143 : decode cX5_dimension 143 = .ok (.getfield 149, 3) := by decide +kernel
theorem dX5_dimension_146 : decode cX5_dimension 146 = .ok (.iload_n 1, 1) := by decide +kernel
theorem dX5_dimension_147 : decode cX5_dimension 147 = .ok (.iaload, 1) := by decide +kernel
theorem dX5_dimension_148 : decode cX5_dimension 148 = .ok (.ireturn, 1) := by decide +kernel
theorem dX5_dimension_149 : decode cX5_dimension 149 = .ok (.aload_n 0, 1) := by decide +kernel
theorem dX5_dimension_150 : decode cX5_dimension 150 = .ok (.invokevirtual 158, 3) := by decide +kernel
theorem dX5_dimension_153 : decode cX5_dimension 153 = .ok (.getfield 184, 3) := by decide +kernel
theorem dX5_dimension_156 : decode cX5_dimension 156 = .ok (.iload_n 1, 1) := by decide +kernel
theorem dX5_dimension_157 : decode cX5_dimension 157 = .ok (.iaload, 1) := by decide +kernel
theorem dX5_dimension_158 : decode cX5_dimension 158 = .ok (.ireturn, 1) := by decide +kernel
theorem dX5_dimension_159 : decode cX5_dimension 159 = .ok (.aload_n 0, 1) := by decide +kernel
theorem dX5_dimension_160 : decode cX5_dimension 160 = .ok (.invokevirtual 158, 3) := by decide +kernel
theorem dX5_dimension_163 : decode cX5_dimension 163 = .ok (.getfield 187, 3) := by decide +kernel
theorem dX5_dimension_166 : decode cX5_dimension 166 = .ok (.iload_n 1, 1) := by decide +kernel
theorem dX5_dimension_167 : decode cX5_dimension 167 = .ok (.iaload, 1) := by decide +kernel
theorem dX5_dimension_168 : decode cX5_dimension 168 = .ok (.ireturn, 1) := by decide +kernel
theorem dX5_dimension_169 : decode cX5_dimension 169 = .ok (.aload_n 0, 1) := by decide +kernel
theorem dX5_dimension_170 : decode cX5_dimension 170 = .ok (.invokevirtual 158, 3) := by decide +kernel
theorem dX5_dimension_173 : decode cX5_dimension 173 = .ok (.getfield 190, 3) := by decide +kernel
theorem dX5_dimension_176 : decode cX5_dimension 176 = .ok (.iload_n 1, 1) := by decide +kernel
theorem dX5_dimension_177 : decode cX5_dimension 177 = .ok (.iaload, 1) := by decide +kernel
theorem dX5_dimension_178 : decode cX5_dimension 178 = .ok (.ireturn, 1) := by decide +kernel
theorem dX5_dimension_179 : decode cX5_dimension 179 = .ok (.aload_n 0, 1) := by decide +kernel
theorem dX5_dimension_180 : decode cX5_dimension 180 = .ok (.invokevirtual 158, 3) := by decide +kernel
theorem dX5_dimension_183 : decode cX5_dimension 183 = .ok (.getfield 193, 3) := by decide +kernel
theorem dX5_dimension_186 : decode cX5_dimension 186 = .ok (.iload_n 1, 1) := by decide +kernel
theorem dX5_dimension_187 : decode cX5_dimension 187 = .ok (.iaload, 1) := by decide +kernel
theorem dX5_dimension_188 : decode cX5_dimension 188 = .ok (.ireturn, 1) := by decide +kernel
theorem dX5_dimension_189 : decode cX5_dimension 189 = .ok (.aload_n 0, 1) := by decide +kernel
theorem dX5_dimension_190 : decode cX5_dimension 190 = .ok (.invokevirtual 168, 3) := by decide +kernel
theorem dX5_dimension_193 : decode cX5_dimension 193 = .ok (.getfield 196, 3) := by decide +kernel
theorem dX5_dimension_196 : decode cX5_dimension 196 = .ok (.iload_n 1, 1) := by decide +kernel
theorem dX5_dimension_197 : decode cX5_dimension 197 = .ok (.baload, 1) := by decide +kernel
theorem dX5_dimension_198 : decode cX5_dimension 198 = .ok (.ifCond .eq 7, 3) := by decide +kernel
theorem dX5_dimension_201 : decode cX5_dimension 201 = .ok (.iconst 1, 1) := by decide +kernel
theorem dX5_dimension_202 : decode cX5_dimension 202 = .ok (.goto 4, 3) := by decide +kernel
theorem dX5_dimension_205 : decode cX5_dimension 205 = .ok (.iconst 0, 1) := by decide +kernel
theorem dX5_dimension_206 : decode cX5_dimension 206 = .ok (.ireturn, 1) := by decide +kernel
theorem dX5_dimension_207 : decode cX5_dimension 207 = .ok (.aload_n 0, 1) := by decide +kernel
theorem dX5_dimension_208 : decode cX5_dimension 208 = .ok (.invokevirtual 158, 3) := by decide +kernel
theorem dX5_dimension_211 : decode cX5_dimension 211 = .ok (.getfield 200, 3) := by decide +kernel
theorem dX5_dimension_214 : decode cX5_dimension 214 = .ok (.iload_n 1, 1) := by decide +kernel
theorem dX5_dimension_215 : decode cX5_dimension 215 = .ok (.iaload, 1) := by decide +kernel
theorem dX5_dimension_216 : decode cX5_dimension 216 = .ok (.ireturn, 1) := by decide +kernel
theorem dX5_dimension_217 : decode cX5_dimension 217 = .ok (.iconst (-1), 1) := by decide +kernel
theorem dX5_dimension_218 : decode cX5_dimension 218 = .ok (.ireturn, 1) := by decide +kernel
theorem dX5_distance_0 : decode cX5_distance 0 = .ok (.aload_n 0, 1) := by decide +kernel
theorem dX5_distance_1 : decode cX5_distance 1 = .ok (.iload_n 1, 1) := by decide +kernel
theorem dX5_distance_2 : decode cX5_distance 2 = .ok (.iload_n 2, 1) := by decide +kernel
theorem dX5_distance_3 : decode cX5_distance 3 = .ok (.invokevirtual 120, 3) := by decide +kernel
theorem dX5_distance_6 : decode cX5_distance 6 = .ok (.ifCond .ne 5, 3) := by decide +kernel
theorem dX5_distance_9 : decode cX5_distance 9 = .ok (.iconst (-1), 1) := by decide +kernel
theorem dX5_distance_10 : decode cX5_distance 10 = .ok (.ireturn, 1) := by decide +kernel
theorem dX5_distance_11 : decode cX5_distance 11 = .ok (.aload_n 0, 1) := by decide +kernel
theorem dX5_distance_12 : decode cX5_distance 12 = .ok (.invokevirtual 168, 3) := by decide +kernel
theorem dX5_distance_15 : decode cX5_distance 15 = .ok (.astore 4, 2) := by decide +kernel
theorem dX5_distance_17 : decode cX5_distance 17 = .ok (.aload 4, 2) := by decide +kernel
theorem dX5_distance_19 : decode cX5_distance 19 = .ok (.iload_n 1, 1) := by decide +kernel
theorem dX5_distance_20 : decode cX5_distance 20 = .ok (.iload_n 2, 1) := by decide +kernel
theorem dX5_distance_21 : decode cX5_distance 21 = .ok (.invokevirtual 203, 3) := by decide +kernel
theorem dX5_distance_24 : decode cX5_distance 24 = .ok (.ifCond .ne 7, 3) := by decide +kernel
theorem dX5_distance_27 : decode cX5_distance 27 = .ok (.sipush (-999), 3) := by decide +kernel
theorem dX5_distance_30 : decode cX5_distance 30 = .ok (.ireturn, 1) := by decide +kernel
theorem dX5_distance_31 : decode cX5_distance 31 = .ok (.iload_n 3, 1) := by decide +kernel
theorem dX5_distance_32 : decode cX5_distance 32 = .ok (.ifCond .eq 15, 3) := by decide +kernel
theorem dX5_distance_35 : decode cX5_distance 35 = .ok (.aload 4, 2) := by decide +kernel
theorem dX5_distance_37 : decode cX5_distance 37 = .ok (.getfield 206, 3) := by decide +kernel
theorem dX5_distance_40 : decode cX5_distance 40 = .ok (.iload_n 1, 1) := by decide +kernel
theorem dX5_distance_41 : decode cX5_distance 41 = .ok (.aaload, 1) := by decide +kernel
theorem dX5_distance_42 : decode cX5_distance 42 = .ok (.iload_n 2, 1) := by decide +kernel
theorem dX5_distance_43 : decode cX5_distance 43 = .ok (.iaload, 1) := by decide +kernel
theorem dX5_distance_44 : decode cX5_distance 44 = .ok (.goto 13, 3) := by decide +kernel
theorem dX5_distance_47 : decode cX5_distance 47 = .ok (.aload 4, 2) := by decide +kernel
theorem dX5_distance_49 : decode cX5_distance 49 = .ok (.getfield 206, 3) := by decide +kernel
theorem dX5_distance_52 : decode cX5_distance 52 = .ok (.iload_n 2, 1) := by decide +kernel
theorem dX5_distance_53 : decode cX5_distance 53 = .ok (.aaload, 1) := by decide +kernel
theorem dX5_distance_54 : decode cX5_distance 54 = .ok (.iload_n 1, 1) := by decide +kernel
theorem dX5_distance_55 : decode cX5_distance 55 = .ok (.iaload, 1) := by decide +kernel
theorem dX5_distance_56 : decode cX5_distance 56 = .ok (.ineg, 1) := by decide +kernel
theorem dX5_distance_57 : decode cX5_distance 57 = .ok (.ireturn, 1) := by decide +kernel
theorem dX5_ifExact_0 : decode cX5_ifExact 0 = .ok (.aload_n 0, 1) := by decide +kernel
theorem dX5_ifExact_1 : decode cX5_ifExact 1 = .ok (.getfield 10, 3) := by decide +kernel
theorem dX5_ifExact_4 : decode cX5_ifExact 4 = .ok (.iload_n 1, 1) := by decide +kernel
theorem dX5_ifExact_5 : decode cX5_ifExact 5 = .ok (.invokevirtual 134, 3) := by decide +kernel
theorem dX5_ifExact_8 : decode cX5_ifExact 8 = .ok (.ifCond .eq 12, 3) := by decide +kernel
theorem dX5_ifExact_11 : decode cX5_ifExact 11 = .ok (.aload_n 0, 1) := by decide +kernel
theorem dX5_ifExact_12 : decode cX5_ifExact 12 = .ok (.iload_n 2, 1) := by decide +kernel
theorem dX5_ifExact_13 : decode cX5_ifExact 13 = .ok (.iload_n 3, 1) := by decide +kernel
theorem dX5_ifExact_14 : decode cX5_ifExact 14 = .ok (.invokevirtual 120, 3) := by decide +kernel
theorem dX5_ifExact_17 : decode cX5_ifExact 17 = .ok (.ifCond .ne 5, 3) := by decide +kernel
theorem dX5_ifExact_20 : decode cX5_ifExact 20 = .ok (.iconst (-1), 1) := by decide +kernel
theorem dX5_ifExact_21 : decode cX5_ifExact 21 = .ok (.ireturn, 1) := by decide +kernel
theorem dX5_ifExact_22 : decode cX5_ifExact 22 = .ok (.aload_n 0, 1) := by decide +kernel
theorem dX5_ifExact_23 : decode cX5_ifExact 23 = .ok (.invokevirtual 168, 3) := by decide +kernel
theorem dX5_ifExact_26 : decode cX5_ifExact 26 = .ok (.astore 4, 2) := by decide +kernel
theorem dX5_ifExact_28 : decode cX5_ifExact 28 = .ok (.aload 4, 2) := by decide +kernel
theorem dX5_ifExact_30 : decode cX5_ifExact 30 = .ok (.iload_n 2, 1) := by decide +kernel
theorem dX5_ifExact_31 : decode cX5_ifExact 31 = .ok (.iload_n 3, 1) := by decide +kernel
theorem dX5_ifExact_32 : decode cX5_ifExact 32 = .ok (.invokevirtual 203, 3) := by decide +kernel
theorem dX5_ifExact_35 : decode cX5_ifExact 35 = .ok (.ifCond .eq 18, 3) := by decide +kernel
theorem dX5_ifExact_38 : decode cX5_ifExact 38 = .ok (.aload 4, 2) := by decide +kernel
theorem dX5_ifExact_40 : decode cX5_ifExact 40 = .ok (.aload_n 0, 1) := by decide +kernel
theorem dX5_ifExact_41 : decode cX5_ifExact 41 = .ok (.getfield 10, 3) := by decide +kernel
theorem dX5_ifExact_44 : decode cX5_ifExact 44 = .ok (.iload_n 1, 1) := by decide +kernel
theorem dX5_ifExact_45 : decode cX5_ifExact 45 = .ok (.iload_n 2, 1) := by decide +kernel
theorem dX5_ifExact_46 : decode cX5_ifExact 46 = .ok (.iload_n 3, 1) := by decide +kernel
theorem dX5_ifExact_47 : decode cX5_ifExact 47 = .ok (.invokevirtual 210, 3) := by decide +kernel
theorem dX5_ifExact_50 : decode cX5_ifExact 50 = .ok (.goto 6, 3) := by decide +kernel
theorem dX5_ifExact_53 : decode cX5_ifExact 53 = .ok (.sipush (-999), 3) := by decide +kernel
theorem dX5_ifExact_56 : decode cX5_ifExact 56 = .ok (.ireturn, 1) := by decide +kernel
theorem dX5_critical_0 : decode cX5_critical 0 = .ok (.aload_n 0, 1) := by decide +kernel
theorem dX5_critical_1 : decode cX5_critical 1 = .ok (.iload_n 1, 1) := by decide +kernel
theorem dX5_critical_2 : decode cX5_critical 2 = .ok (.iload_n 2, 1) := by decide +kernel
theorem dX5_critical_3 : decode cX5_critical 3 = .ok (.invokevirtual 120, 3) := by decide +kernel
theorem dX5_critical_6 : decode cX5_critical 6 = .ok (.ifCond .ne 5, 3) := by decide +kernel
theorem dX5_critical_9 : decode cX5_critical 9 = .ok (.iconst (-1), 1) := by decide +kernel
theorem dX5_critical_10 : decode cX5_critical 10 = .ok (.ireturn, 1) := by decide +kernel
theorem dX5_critical_11 : decode cX5_critical 11 = .ok (.aload_n 0, 1) := by decide +kernel
theorem dX5_critical_12 : decode cX5_critical 12 = .ok (.invokevirtual 168, 3) := by decide +kernel
theorem dX5_critical_15 : decode cX5_critical 15 = .ok (.astore_n 3, 1) := by decide +kernel
theorem dX5_critical_16 : decode cX5_critical 16 = .ok (.aload_n 3, 1) := by decide +kernel
theorem dX5_critical_17 : decode cX5_critical 17 = .ok (.iload_n 1, 1) := by decide +kernel
theorem dX5_critical_18 : decode cX5_critical 18 = .ok (.iload_n 2, 1) := by decide +kernel
theorem dX5_critical_19 : decode cX5_critical 19 = .ok (.invokevirtual 203, 3) := by decide +kernel
theorem dX5_critical_22 : decode cX5_critical 22 = .ok (.ifCond .eq 16, 3) := by decide +kernel
theorem dX5_critical_25 : decode cX5_critical 25 = .ok (.aload_n 3, 1) := by decide +kernel
theorem dX5_critical_26 : decode cX5_critical 26 = .ok (.aload_n 0, 1) := by decide +kernel
theorem dX5_critical_27 : decode cX5_critical 27 = .ok (.getfield 10, 3) := by decide +kernel
theorem dX5_critical_30 : decode cX5_critical 30 = .ok (.iload_n 1, 1) := by decide +kernel
theorem dX5_critical_31 : decode cX5_critical 31 = .ok (.iload_n 2, 1) := by decide +kernel
theorem dX5_critical_32 : decode cX5_critical 32 = .ok (.invokevirtual 214, 3) := by decide +kernel
theorem dX5_critical_35 : decode cX5_critical 35 = .ok (.goto 6, 3) := by decide +kernel
theorem dX5_critical_38 : decode cX5_critical 38 = .ok (.sipush (-999), 3) := by decide +kernel
theorem dX5_critical_41 : decode cX5_critical 41 = .ok (.ireturn, 1) := by decide +kernel
theorem dX5_needed_0 : decode cX5_needed 0 = .ok (.aload_n 0, 1) := by decide +kernel
theorem dX5_needed_1 : decode cX5_needed 1 = .ok (.invokevirtual 168, 3) := by decide +kernel
theorem dX5_needed_4 : decode cX5_needed 4 = .ok (.invokevirtual 218, 3) := by decide +kernel
theorem dX5_needed_7 : decode cX5_needed 7 = .ok (.ireturn, 1) := by decide +kernel
theorem dX5_count_0 : decode cX5_count 0 = .ok (.iload_n 1, 1) := by decide +kernel
theorem dX5_count_1 : decode cX5_count 1 = .ok (.tableswitch 147 0 10 #[59, 67, 75, 83, 91, 99, 107, 115, 123, 131, 139], 59) := by decide +kernel
theorem dX5_count_60 : decode cX5_count 60 = .ok (.aload_n 0, 1) := by decide +kernel
theorem dX5_count_61 : decode cX5_count 61 = .ok (.getfield 10, 3) := by decide +kernel
theorem dX5_count_64 : decode cX5_count 64 = .ok (.getfield 96, 3) := by decide +kernel
theorem dX5_count_67 : decode cX5_count 67 = .ok (.ireturn, 1) := by decide +kernel
theorem dX5_count_68 : decode cX5_count 68 = .ok (.aload_n 0, 1) := by decide +kernel
theorem dX5_count_69 : decode cX5_count 69 = .ok (.getfield 10, 3) := by decide +kernel
theorem dX5_count_72 : decode cX5_count 72 = .ok (.getfield 89, 3) := by decide +kernel
theorem dX5_count_75 : decode cX5_count 75 = .ok (.ireturn, 1) := by decide +kernel
theorem dX5_count_76 : decode cX5_count 76 = .ok (.aload_n 0, 1) := by decide +kernel
theorem dX5_count_77 : decode cX5_count 77 = .ok (.invokevirtual 158, 3) := by decide +kernel
theorem dX5_count_80 : decode cX5_count 80 = .ok (.getfield 263, 3) := by decide +kernel
theorem dX5_count_83 : decode cX5_count 83 = .ok (.ireturn, 1) := by decide +kernel
theorem dX5_count_84 : decode cX5_count 84 = .ok (.aload_n 0, 1) := by decide +kernel
theorem dX5_count_85 : decode cX5_count 85 = .ok (.invokevirtual 158, 3) := by decide +kernel
theorem dX5_count_88 : decode cX5_count 88 = .ok (.getfield 251, 3) := by decide +kernel
theorem dX5_count_91 : decode cX5_count 91 = .ok (.ireturn, 1) := by decide +kernel
theorem dX5_count_92 : decode cX5_count 92 = .ok (.aload_n 0, 1) := by decide +kernel
theorem dX5_count_93 : decode cX5_count 93 = .ok (.invokevirtual 158, 3) := by decide +kernel
theorem dX5_count_96 : decode cX5_count 96 = .ok (.getfield 266, 3) := by decide +kernel
theorem dX5_count_99 : decode cX5_count 99 = .ok (.ireturn, 1) := by decide +kernel
theorem dX5_count_100 : decode cX5_count 100 = .ok (.aload_n 0, 1) := by decide +kernel
theorem dX5_count_101 : decode cX5_count 101 = .ok (.invokevirtual 168, 3) := by decide +kernel
theorem dX5_count_104 : decode cX5_count 104 = .ok (.getfield 269, 3) := by decide +kernel
theorem dX5_count_107 : decode cX5_count 107 = .ok (.ireturn, 1) := by decide +kernel
theorem dX5_count_108 : decode cX5_count 108 = .ok (.aload_n 0, 1) := by decide +kernel
theorem dX5_count_109 : decode cX5_count 109 = .ok (.invokevirtual 168, 3) := by decide +kernel
theorem dX5_count_112 : decode cX5_count 112 = .ok (.getfield 272, 3) := by decide +kernel
theorem dX5_count_115 : decode cX5_count 115 = .ok (.ireturn, 1) := by decide +kernel
theorem dX5_count_116 : decode cX5_count 116 = .ok (.aload_n 0, 1) := by decide +kernel
theorem dX5_count_117 : decode cX5_count 117 = .ok (.getfield 10, 3) := by decide +kernel
theorem dX5_count_120 : decode cX5_count 120 = .ok (.getfield 152, 3) := by decide +kernel
theorem dX5_count_123 : decode cX5_count 123 = .ok (.ireturn, 1) := by decide +kernel
theorem dX5_count_124 : decode cX5_count 124 = .ok (.aload_n 0, 1) := by decide +kernel
theorem dX5_count_125 : decode cX5_count 125 = .ok (.getfield 10, 3) := by decide +kernel
theorem dX5_count_128 : decode cX5_count 128 = .ok (.getfield 155, 3) := by decide +kernel
theorem dX5_count_131 : decode cX5_count 131 = .ok (.ireturn, 1) := by decide +kernel
theorem dX5_count_132 : decode cX5_count 132 = .ok (.aload_n 0, 1) := by decide +kernel
theorem dX5_count_133 : decode cX5_count 133 = .ok (.getfield 26, 3) := by decide +kernel
theorem dX5_count_136 : decode cX5_count 136 = .ok (.getfield 58, 3) := by decide +kernel
theorem dX5_count_139 : decode cX5_count 139 = .ok (.ireturn, 1) := by decide +kernel
theorem dX5_count_140 : decode cX5_count 140 = .ok (.aload_n 0, 1) := by decide +kernel
theorem dX5_count_141 : decode cX5_count 141 = .ok (.getfield 19, 3) := by decide +kernel
theorem dX5_count_144 : decode cX5_count 144 = .ok (.getfield 254, 3) := by decide +kernel
theorem dX5_count_147 : decode cX5_count 147 = .ok (.ireturn, 1) := by decide +kernel
theorem dX5_count_148 : decode cX5_count 148 = .ok (.iconst (-1), 1) := by decide +kernel
theorem dX5_count_149 : decode cX5_count 149 = .ok (.ireturn, 1) := by decide +kernel
theorem dX5_isWithin_0 : decode cX5_isWithin 0 = .ok (.iload_n 1, 1) := by decide +kernel
theorem dX5_isWithin_1 : decode cX5_isWithin 1 = .ok (.iload_n 0, 1) := by decide +kernel
theorem dX5_isWithin_2 : decode cX5_isWithin 2 = .ok (.if_icmp .gt 12, 3) := by decide +kernel
theorem dX5_isWithin_5 : decode cX5_isWithin 5 = .ok (.iload_n 0, 1) := by decide +kernel
theorem dX5_isWithin_6 : decode cX5_isWithin 6 = .ok (.iload_n 2, 1) := by decide +kernel
theorem dX5_isWithin_7 : decode cX5_isWithin 7 = .ok (.if_icmp .gt 7, 3) := by decide +kernel
theorem dX5_isWithin_10 : decode cX5_isWithin 10 = .ok (.iconst 1, 1) := by decide +kernel
theorem dX5_isWithin_11 : decode cX5_isWithin 11 = .ok (.goto 4, 3) := by decide +kernel
theorem dX5_isWithin_14 : decode cX5_isWithin 14 = .ok (.iconst 0, 1) := by decide +kernel
theorem dX5_isWithin_15 : decode cX5_isWithin 15 = .ok (.ireturn, 1) := by decide +kernel
theorem dX5_areTwoPoints_0 : decode cX5_areTwoPoints 0 = .ok (.aload_n 0, 1) := by decide +kernel
theorem dX5_areTwoPoints_1 : decode cX5_areTwoPoints 1 = .ok (.getfield 10, 3) := by decide +kernel
theorem dX5_areTwoPoints_4 : decode cX5_areTwoPoints 4 = .ok (.iload_n 1, 1) := by decide +kernel
theorem dX5_areTwoPoints_5 : decode cX5_areTwoPoints 5 = .ok (.invokevirtual 102, 3) := by decide +kernel
theorem dX5_areTwoPoints_8 : decode cX5_areTwoPoints 8 = .ok (.ifCond .eq 23, 3) := by decide +kernel
theorem dX5_areTwoPoints_11 : decode cX5_areTwoPoints 11 = .ok (.aload_n 0, 1) := by decide +kernel
theorem dX5_areTwoPoints_12 : decode cX5_areTwoPoints 12 = .ok (.getfield 10, 3) := by decide +kernel
theorem dX5_areTwoPoints_15 : decode cX5_areTwoPoints 15 = .ok (.iload_n 2, 1) := by decide +kernel
theorem dX5_areTwoPoints_16 : decode cX5_areTwoPoints 16 = .ok (.invokevirtual 102, 3) := by decide +kernel
theorem dX5_areTwoPoints_19 : decode cX5_areTwoPoints 19 = .ok (.ifCond .eq 12, 3) := by decide +kernel
theorem dX5_areTwoPoints_22 : decode cX5_areTwoPoints 22 = .ok (.iload_n 1, 1) := by decide +kernel
theorem dX5_areTwoPoints_23 : decode cX5_areTwoPoints 23 = .ok (.iload_n 2, 1) := by decide +kernel
theorem dX5_areTwoPoints_24 : decode cX5_areTwoPoints 24 = .ok (.if_icmp .eq 7, 3) := by decide +kernel
theorem dX5_areTwoPoints_27 : decode cX5_areTwoPoints 27 = .ok (.iconst 1, 1) := by decide +kernel
theorem dX5_areTwoPoints_28 : decode cX5_areTwoPoints 28 = .ok (.goto 4, 3) := by decide +kernel
theorem dX5_areTwoPoints_31 : decode cX5_areTwoPoints 31 = .ok (.iconst 0, 1) := by decide +kernel
theorem dX5_areTwoPoints_32 : decode cX5_areTwoPoints 32 = .ok (.ireturn, 1) := by decide +kernel
theorem dX5_beginChange_0 : decode cX5_beginChange 0 = .ok (.aload_n 0, 1) := by decide +kernel
theorem dX5_beginChange_1 : decode cX5_beginChange 1 = .ok (.getfield 19, 3) := by decide +kernel
theorem dX5_beginChange_4 : decode cX5_beginChange 4 = .ok (.aload_n 0, 1) := by decide +kernel
theorem dX5_beginChange_5 : decode cX5_beginChange 5 = .ok (.getfield 10, 3) := by decide +kernel
theorem dX5_beginChange_8 : decode cX5_beginChange 8 = .ok (.invokevirtual 305, 3) := by decide +kernel
theorem dX5_beginChange_11 : decode cX5_beginChange 11 = .ok (.aload_n 0, 1) := by decide +kernel
theorem dX5_beginChange_12 : decode cX5_beginChange 12 = .ok (.invokevirtual 260, 3) := by decide +kernel
theorem dX5_beginChange_15 : decode cX5_beginChange 15 = .ok (.return_, 1) := by decide +kernel
theorem dX5_forgetWhatWasWorkedOut_0 : decode cX5_forgetWhatWasWorkedOut 0 = .ok (.aload_n 0, 1) := by decide +kernel
theorem dX5_forgetWhatWasWorkedOut_1 : decode cX5_forgetWhatWasWorkedOut 1 = .ok (.iconst 0, 1) := by decide +kernel
theorem dX5_forgetWhatWasWorkedOut_2 : decode cX5_forgetWhatWasWorkedOut 2 = .ok (.putfield 47, 3) := by decide +kernel
theorem dX5_forgetWhatWasWorkedOut_5 : decode cX5_forgetWhatWasWorkedOut 5 = .ok (.aload_n 0, 1) := by decide +kernel
theorem dX5_forgetWhatWasWorkedOut_6 : decode cX5_forgetWhatWasWorkedOut 6 = .ok (.iconst 0, 1) := by decide +kernel
theorem dX5_forgetWhatWasWorkedOut_7 : decode cX5_forgetWhatWasWorkedOut 7 = .ok (.putfield 51, 3) := by decide +kernel
theorem dX5_forgetWhatWasWorkedOut_10 : decode cX5_forgetWhatWasWorkedOut 10 = .ok (.return_, 1) := by decide +kernel
theorem dX5_laidLanes_0 : decode cX5_laidLanes 0 = .ok (.aload_n 0, 1) := by decide +kernel
theorem dX5_laidLanes_1 : decode cX5_laidLanes 1 = .ok (.getfield 47, 3) := by decide +kernel
theorem dX5_laidLanes_4 : decode cX5_laidLanes 4 = .ok (.ifCond .ne 26, 3) := by decide +kernel
theorem dX5_laidLanes_7 : decode cX5_laidLanes 7 = .ok (.aload_n 0, 1) := by decide +kernel
theorem dX5_laidLanes_8 : decode cX5_laidLanes 8 = .ok (.getfield 33, 3) := by decide +kernel
theorem dX5_laidLanes_11 : decode cX5_laidLanes 11 = .ok (.aload_n 0, 1) := by decide +kernel
theorem dX5_laidLanes_12 : decode cX5_laidLanes 12 = .ok (.getfield 10, 3) := by decide +kernel
theorem dX5_laidLanes_15 : decode cX5_laidLanes 15 = .ok (.aload_n 0, 1) := by decide +kernel
theorem dX5_laidLanes_16 : decode cX5_laidLanes 16 = .ok (.getfield 10, 3) := by decide +kernel
theorem dX5_laidLanes_19 : decode cX5_laidLanes 19 = .ok (.getfield 155, 3) := by decide +kernel
theorem dX5_laidLanes_22 : decode cX5_laidLanes 22 = .ok (.invokevirtual 247, 3) := by decide +kernel
theorem dX5_laidLanes_25 : decode cX5_laidLanes 25 = .ok (.aload_n 0, 1) := by decide +kernel
theorem dX5_laidLanes_26 : decode cX5_laidLanes 26 = .ok (.iconst 1, 1) := by decide +kernel
theorem dX5_laidLanes_27 : decode cX5_laidLanes 27 = .ok (.putfield 47, 3) := by decide +kernel
theorem dX5_laidLanes_30 : decode cX5_laidLanes 30 = .ok (.aload_n 0, 1) := by decide +kernel
theorem dX5_laidLanes_31 : decode cX5_laidLanes 31 = .ok (.getfield 33, 3) := by decide +kernel
theorem dX5_laidLanes_34 : decode cX5_laidLanes 34 = .ok (.areturn, 1) := by decide +kernel
theorem dX5_knownBounds_0 : decode cX5_knownBounds 0 = .ok (.aload_n 0, 1) := by decide +kernel
theorem dX5_knownBounds_1 : decode cX5_knownBounds 1 = .ok (.getfield 51, 3) := by decide +kernel
theorem dX5_knownBounds_4 : decode cX5_knownBounds 4 = .ok (.ifCond .ne 19, 3) := by decide +kernel
theorem dX5_knownBounds_7 : decode cX5_knownBounds 7 = .ok (.aload_n 0, 1) := by decide +kernel
theorem dX5_knownBounds_8 : decode cX5_knownBounds 8 = .ok (.getfield 43, 3) := by decide +kernel
theorem dX5_knownBounds_11 : decode cX5_knownBounds 11 = .ok (.aload_n 0, 1) := by decide +kernel
theorem dX5_knownBounds_12 : decode cX5_knownBounds 12 = .ok (.getfield 10, 3) := by decide +kernel
theorem dX5_knownBounds_15 : decode cX5_knownBounds 15 = .ok (.invokevirtual 308, 3) := by decide +kernel
theorem dX5_knownBounds_18 : decode cX5_knownBounds 18 = .ok (.aload_n 0, 1) := by decide +kernel
theorem dX5_knownBounds_19 : decode cX5_knownBounds 19 = .ok (.iconst 1, 1) := by decide +kernel
theorem dX5_knownBounds_20 : decode cX5_knownBounds 20 = .ok (.putfield 51, 3) := by decide +kernel
theorem dX5_knownBounds_23 : decode cX5_knownBounds 23 = .ok (.aload_n 0, 1) := by decide +kernel
theorem dX5_knownBounds_24 : decode cX5_knownBounds 24 = .ok (.getfield 43, 3) := by decide +kernel
theorem dX5_knownBounds_27 : decode cX5_knownBounds 27 = .ok (.areturn, 1) := by decide +kernel
