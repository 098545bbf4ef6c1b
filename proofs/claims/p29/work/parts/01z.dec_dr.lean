theorem dX1_init_0 : decode cX1_init 0 = .ok (.aload_n 0, 1) := by decide +kernel
theorem dX1_init_1 : decode cX1_init 1 = .ok (.invokespecial 3, 3) := by decide +kernel
theorem dX1_init_4 : decode cX1_init 4 = .ok (.aload_n 0, 1) := by decide +kernel
theorem dX1_init_5 : decode cX1_init 5 = .ok (.bipush 12, 2) := by decide +kernel
theorem dX1_init_7 : decode cX1_init 7 = .ok (.newarray .int, 2) := by decide +kernel
theorem dX1_init_9 : decode cX1_init 9 = .ok (.putfield 9, 3) := by decide +kernel
theorem dX1_init_12 : decode cX1_init 12 = .ok (.aload_n 0, 1) := by decide +kernel
theorem dX1_init_13 : decode cX1_init 13 = .ok (.bipush 16, 2) := by decide +kernel
theorem dX1_init_15 : decode cX1_init 15 = .ok (.newarray .int, 2) := by decide +kernel
theorem dX1_init_17 : decode cX1_init 17 = .ok (.putfield 15, 3) := by decide +kernel
theorem dX1_init_20 : decode cX1_init 20 = .ok (.aload_n 0, 1) := by decide +kernel
theorem dX1_init_21 : decode cX1_init 21 = .ok (.bipush 16, 2) := by decide +kernel
theorem dX1_init_23 : decode cX1_init 23 = .ok (.newarray .int, 2) := by decide +kernel
theorem dX1_init_25 : decode cX1_init 25 = .ok (.putfield 18, 3) := by decide +kernel
theorem dX1_init_28 : decode cX1_init 28 = .ok (.aload_n 0, 1) := by decide +kernel
theorem dX1_init_29 : decode cX1_init 29 = .ok (.bipush 16, 2) := by decide +kernel
theorem dX1_init_31 : decode cX1_init 31 = .ok (.newarray .int, 2) := by decide +kernel
theorem dX1_init_33 : decode cX1_init 33 = .ok (.putfield 21, 3) := by decide +kernel
theorem dX1_init_36 : decode cX1_init 36 = .ok (.aload_n 0, 1) := by decide +kernel
theorem dX1_init_37 : decode cX1_init 37 = .ok (.bipush 16, 2) := by decide +kernel
theorem dX1_init_39 : decode cX1_init 39 = .ok (.newarray .int, 2) := by decide +kernel
theorem dX1_init_41 : decode cX1_init 41 = .ok (.putfield 24, 3) := by decide +kernel
theorem dX1_init_44 : decode cX1_init 44 = .ok (.aload_n 0, 1) := by decide +kernel
theorem dX1_init_45 : decode cX1_init 45 = .ok (.bipush 16, 2) := by decide +kernel
theorem dX1_init_47 : decode cX1_init 47 = .ok (.newarray .int, 2) := by decide +kernel
theorem dX1_init_49 : decode cX1_init 49 = .ok (.putfield 27, 3) := by decide +kernel
theorem dX1_init_52 : decode cX1_init 52 = .ok (.aload_n 0, 1) := by decide +kernel
theorem dX1_init_53 : decode cX1_init 53 = .ok (.bipush 16, 2) := by decide +kernel
theorem dX1_init_55 : decode cX1_init 55 = .ok (.newarray .int, 2) := by decide +kernel
theorem dX1_init_57 : decode cX1_init 57 = .ok (.putfield 30, 3) := by decide +kernel
theorem dX1_init_60 : decode cX1_init 60 = .ok (.aload_n 0, 1) := by decide +kernel
theorem dX1_init_61 : decode cX1_init 61 = .ok (.iconst 0, 1) := by decide +kernel
theorem dX1_init_62 : decode cX1_init 62 = .ok (.putfield 33, 3) := by decide +kernel
theorem dX1_init_65 : decode cX1_init 65 = .ok (.aload_n 0, 1) := by decide +kernel
theorem dX1_init_66 : decode cX1_init 66 = .ok (.iconst 0, 1) := by decide +kernel
theorem dX1_init_67 : decode cX1_init 67 = .ok (.putfield 37, 3) := by decide +kernel
theorem dX1_init_70 : decode cX1_init 70 = .ok (.aload_n 0, 1) := by decide +kernel
theorem dX1_init_71 : decode cX1_init 71 = .ok (.iconst 4, 1) := by decide +kernel
theorem dX1_init_72 : decode cX1_init 72 = .ok (.putfield 40, 3) := by decide +kernel
theorem dX1_init_75 : decode cX1_init 75 = .ok (.aload_n 0, 1) := by decide +kernel
theorem dX1_init_76 : decode cX1_init 76 = .ok (.iconst 3, 1) := by decide +kernel
theorem dX1_init_77 : decode cX1_init 77 = .ok (.putfield 43, 3) := by decide +kernel
theorem dX1_init_80 : decode cX1_init 80 = .ok (.return_, 1) := by decide +kernel
theorem dX1_copyFrom_0 : decode cX1_copyFrom 0 = .ok (.aload_n 0, 1) := by decide +kernel
theorem dX1_copyFrom_1 : decode cX1_copyFrom 1 = .ok (.aload_n 1, 1) := by decide +kernel
theorem dX1_copyFrom_2 : decode cX1_copyFrom 2 = .ok (.invokevirtual 46, 3) := by decide +kernel
theorem dX1_copyFrom_5 : decode cX1_copyFrom 5 = .ok (.aload_n 0, 1) := by decide +kernel
theorem dX1_copyFrom_6 : decode cX1_copyFrom 6 = .ok (.aload_n 1, 1) := by decide +kernel
theorem dX1_copyFrom_7 : decode cX1_copyFrom 7 = .ok (.getfield 40, 3) := by decide +kernel
theorem dX1_copyFrom_10 : decode cX1_copyFrom 10 = .ok (.putfield 40, 3) := by decide +kernel
theorem dX1_copyFrom_13 : decode cX1_copyFrom 13 = .ok (.aload_n 0, 1) := by decide +kernel
theorem dX1_copyFrom_14 : decode cX1_copyFrom 14 = .ok (.aload_n 1, 1) := by decide +kernel
theorem dX1_copyFrom_15 : decode cX1_copyFrom 15 = .ok (.getfield 43, 3) := by decide +kernel
theorem dX1_copyFrom_18 : decode cX1_copyFrom 18 = .ok (.putfield 43, 3) := by decide +kernel
theorem dX1_copyFrom_21 : decode cX1_copyFrom 21 = .ok (.return_, 1) := by decide +kernel
theorem dX1_copyContentFrom_0 : decode cX1_copyContentFrom 0 = .ok (.aload_n 0, 1) := by decide +kernel
theorem dX1_copyContentFrom_1 : decode cX1_copyContentFrom 1 = .ok (.aload_n 1, 1) := by decide +kernel
theorem dX1_copyContentFrom_2 : decode cX1_copyContentFrom 2 = .ok (.getfield 33, 3) := by decide +kernel
theorem dX1_copyContentFrom_5 : decode cX1_copyContentFrom 5 = .ok (.putfield 33, 3) := by decide +kernel
theorem dX1_copyContentFrom_8 : decode cX1_copyContentFrom 8 = .ok (.aload_n 0, 1) := by decide +kernel
theorem dX1_copyContentFrom_9 : decode cX1_copyContentFrom 9 = .ok (.aload_n 1, 1) := by decide +kernel
theorem dX1_copyContentFrom_10 : decode cX1_copyContentFrom 10 = .ok (.getfield 37, 3) := by decide +kernel
theorem dX1_copyContentFrom_13 : decode cX1_copyContentFrom 13 = .ok (.putfield 37, 3) := by decide +kernel
theorem dX1_copyContentFrom_16 : decode cX1_copyContentFrom 16 = .ok (.aload_n 1, 1) := by decide +kernel
theorem dX1_copyContentFrom_17 : decode cX1_copyContentFrom 17 = .ok (.getfield 9, 3) := by decide +kernel
theorem dX1_copyContentFrom_20 : decode cX1_copyContentFrom 20 = .ok (.iconst 0, 1) := by decide +kernel
theorem dX1_copyContentFrom_21 : decode cX1_copyContentFrom 21 = .ok (.aload_n 0, 1) := by decide +kernel
theorem dX1_copyContentFrom_22 : decode cX1_copyContentFrom 22 = .ok (.getfield 9, 3) := by decide +kernel
theorem dX1_copyContentFrom_25 : decode cX1_copyContentFrom 25 = .ok (.iconst 0, 1) := by decide +kernel
theorem dX1_copyContentFrom_26 : decode cX1_copyContentFrom 26 = .ok (.bipush 12, 2) := by decide +kernel
theorem dX1_copyContentFrom_28 : decode cX1_copyContentFrom 28 = .ok (.invokestatic 50, 3) := by decide +kernel
theorem dX1_copyContentFrom_31 : decode cX1_copyContentFrom 31 = .ok (.aload_n 1, 1) := by decide +kernel
theorem dX1_copyContentFrom_32 : decode cX1_copyContentFrom 32 = .ok (.getfield 15, 3) := by decide +kernel
theorem dX1_copyContentFrom_35 : decode cX1_copyContentFrom 35 = .ok (.iconst 0, 1) := by decide +kernel
theorem dX1_copyContentFrom_36 : decode cX1_copyContentFrom 36 = .ok (.aload_n 0, 1) := by decide +kernel
theorem dX1_copyContentFrom_37 : decode cX1_copyContentFrom 37 = .ok (.getfield 15, 3) := by decide +kernel
theorem dX1_copyContentFrom_40 : decode cX1_copyContentFrom 40 = .ok (.iconst 0, 1) := by decide +kernel
theorem dX1_copyContentFrom_41 : decode cX1_copyContentFrom 41 = .ok (.bipush 16, 2) := by decide +kernel
theorem dX1_copyContentFrom_43 : decode cX1_copyContentFrom 43 = .ok (.invokestatic 50, 3) := by decide +kernel
theorem dX1_copyContentFrom_46 : decode cX1_copyContentFrom 46 = .ok (.aload_n 1, 1) := by decide +kernel
theorem dX1_copyContentFrom_47 : decode cX1_copyContentFrom 47 = .ok (.getfield 18, 3) := by decide +kernel
theorem dX1_copyContentFrom_50 : decode cX1_copyContentFrom 50 = .ok (.iconst 0, 1) := by decide +kernel
theorem dX1_copyContentFrom_51 : decode cX1_copyContentFrom 51 = .ok (.aload_n 0, 1) := by decide +kernel
theorem dX1_copyContentFrom_52 : decode cX1_copyContentFrom 52 = .ok (.getfield 18, 3) := by decide +kernel
theorem dX1_copyContentFrom_55 : decode cX1_copyContentFrom 55 = .ok (.iconst 0, 1) := by decide +kernel
theorem dX1_copyContentFrom_56 : decode cX1_copyContentFrom 56 = .ok (.bipush 16, 2) := by decide +kernel
theorem dX1_copyContentFrom_58 : decode cX1_copyContentFrom 58 = .ok (.invokestatic 50, 3) := by decide +kernel
theorem dX1_copyContentFrom_61 : decode cX1_copyContentFrom 61 = .ok (.aload_n 1, 1) := by decide +kernel
theorem dX1_copyContentFrom_62 : decode cX1_copyContentFrom 62 = .ok (.getfield 21, 3) := by decide +kernel
theorem dX1_copyContentFrom_65 : decode cX1_copyContentFrom 65 = .ok (.iconst 0, 1) := by decide +kernel
theorem dX1_copyContentFrom_66 : decode cX1_copyContentFrom 66 = .ok (.aload_n 0, 1) := by decide +kernel
theorem dX1_copyContentFrom_67 : decode cX1_copyContentFrom 67 = .ok (.getfield 21, 3) := by decide +kernel
theorem dX1_copyContentFrom_70 : decode cX1_copyContentFrom 70 = .ok (.iconst 0, 1) := by decide +kernel
theorem dX1_copyContentFrom_71 : decode cX1_copyContentFrom 71 = .ok (.bipush 16, 2) := by decide +kernel
theorem dX1_copyContentFrom_73 : decode cX1_copyContentFrom 73 = .ok (.invokestatic 50, 3) := by decide +kernel
theorem dX1_copyContentFrom_76 : decode cX1_copyContentFrom 76 = .ok (.aload_n 1, 1) := by decide +kernel
theorem dX1_copyContentFrom_77 : decode cX1_copyContentFrom 77 = .ok (.getfield 24, 3) := by decide +kernel
theorem dX1_copyContentFrom_80 : decode cX1_copyContentFrom 80 = .ok (.iconst 0, 1) := by decide +kernel
theorem dX1_copyContentFrom_81 : decode cX1_copyContentFrom 81 = .ok (.aload_n 0, 1) := by decide +kernel
theorem dX1_copyContentFrom_82 : decode cX1_copyContentFrom 82 = .ok (.getfield 24, 3) := by decide +kernel
theorem dX1_copyContentFrom_85 : decode cX1_copyContentFrom 85 = .ok (.iconst 0, 1) := by decide +kernel
theorem dX1_copyContentFrom_86 : decode cX1_copyContentFrom 86 = .ok (.bipush 16, 2) := by decide +kernel
theorem dX1_copyContentFrom_88 : decode cX1_copyContentFrom 88 = .ok (.invokestatic 50, 3) := by decide +kernel
theorem dX1_copyContentFrom_91 : decode cX1_copyContentFrom 91 = .ok (.aload_n 1, 1) := by decide +kernel
theorem dX1_copyContentFrom_92 : decode cX1_copyContentFrom 92 = .ok (.getfield 27, 3) := by decide +kernel
theorem dX1_copyContentFrom_95 : decode cX1_copyContentFrom 95 = .ok (.iconst 0, 1) := by decide +kernel
theorem dX1_copyContentFrom_96 : decode cX1_copyContentFrom 96 = .ok (.aload_n 0, 1) := by decide +kernel
theorem dX1_copyContentFrom_97 : decode cX1_copyContentFrom 97 = .ok (.getfield 27, 3) := by decide +kernel
theorem dX1_copyContentFrom_100 : decode cX1_copyContentFrom 100 = .ok (.iconst 0, 1) := by decide +kernel
theorem dX1_copyContentFrom_101 : decode cX1_copyContentFrom 101 = .ok (.bipush 16, 2) := by decide +kernel
theorem dX1_copyContentFrom_103 : decode cX1_copyContentFrom 103 = .ok (.invokestatic 50, 3) := by decide +kernel
theorem dX1_copyContentFrom_106 : decode cX1_copyContentFrom 106 = .ok (.aload_n 1, 1) := by decide +kernel
theorem dX1_copyContentFrom_107 : decode cX1_copyContentFrom 107 = .ok (.getfield 30, 3) := by decide +kernel
theorem dX1_copyContentFrom_110 : decode cX1_copyContentFrom 110 = .ok (.iconst 0, 1) := by decide +kernel
theorem dX1_copyContentFrom_111 : decode cX1_copyContentFrom 111 = .ok (.aload_n 0, 1) := by decide +kernel
theorem dX1_copyContentFrom_112 : decode cX1_copyContentFrom 112 = .ok (.getfield 30, 3) := by decide +kernel
theorem dX1_copyContentFrom_115 : decode cX1_copyContentFrom 115 = .ok (.iconst 0, 1) := by decide +kernel
theorem dX1_copyContentFrom_116 : decode cX1_copyContentFrom 116 = .ok (.bipush 16, 2) := by decide +kernel
theorem dX1_copyContentFrom_118 : decode cX1_copyContentFrom 118 = .ok (.invokestatic 50, 3) := by decide +kernel
theorem dX1_copyContentFrom_121 : decode cX1_copyContentFrom 121 = .ok (.return_, 1) := by decide +kernel
theorem dX1_hasPoint_0 : decode cX1_hasPoint 0 = .ok (.iload_n 1, 1) := by decide +kernel
theorem dX1_hasPoint_1 : decode cX1_hasPoint 1 = .ok (.ifCond .lt 15, 3) := by decide +kernel
theorem dX1_hasPoint_4 : decode cX1_hasPoint 4 = .ok (.iload_n 1, 1) := by decide +kernel
theorem dX1_hasPoint_5 : decode cX1_hasPoint 5 = .ok (.aload_n 0, 1) := by decide +kernel
theorem dX1_hasPoint_6 : decode cX1_hasPoint 6 = .ok (.getfield 33, 3) := by decide +kernel
theorem dX1_hasPoint_9 : decode cX1_hasPoint 9 = .ok (.if_icmp .ge 7, 3) := by decide +kernel
theorem dX1_hasPoint_12 : decode cX1_hasPoint 12 = .ok (.iconst 1, 1) := by decide +kernel
theorem dX1_hasPoint_13 : decode cX1_hasPoint 13 = .ok (.goto 4, 3) := by decide +kernel
theorem dX1_hasPoint_16 : decode cX1_hasPoint 16 = .ok (.iconst 0, 1) := by decide +kernel
theorem dX1_hasPoint_17 : decode cX1_hasPoint 17 = .ok (.ireturn, 1) := by decide +kernel
theorem dX1_hasDimension_0 : decode cX1_hasDimension 0 = .ok (.iload_n 1, 1) := by decide +kernel
theorem dX1_hasDimension_1 : decode cX1_hasDimension 1 = .ok (.ifCond .lt 15, 3) := by decide +kernel
theorem dX1_hasDimension_4 : decode cX1_hasDimension 4 = .ok (.iload_n 1, 1) := by decide +kernel
theorem dX1_hasDimension_5 : decode cX1_hasDimension 5 = .ok (.aload_n 0, 1) := by decide +kernel
theorem dX1_hasDimension_6 : decode cX1_hasDimension 6 = .ok (.getfield 37, 3) := by decide +kernel
theorem dX1_hasDimension_9 : decode cX1_hasDimension 9 = .ok (.if_icmp .ge 7, 3) := by decide +kernel
theorem dX1_hasDimension_12 : decode cX1_hasDimension 12 = .ok (.iconst 1, 1) := by decide +kernel
theorem dX1_hasDimension_13 : decode cX1_hasDimension 13 = .ok (.goto 4, 3) := by decide +kernel
theorem dX1_hasDimension_16 : decode cX1_hasDimension 16 = .ok (.iconst 0, 1) := by decide +kernel
theorem dX1_hasDimension_17 : decode cX1_hasDimension 17 = .ok (.ireturn, 1) := by decide +kernel
theorem dX1_hasPointAt_0 : decode cX1_hasPointAt 0 = .ok (.aload_n 0, 1) := by decide +kernel
theorem dX1_hasPointAt_1 : decode cX1_hasPointAt 1 = .ok (.iload_n 1, 1) := by decide +kernel
theorem dX1_hasPointAt_2 : decode cX1_hasPointAt 2 = .ok (.invokevirtual 56, 3) := by decide +kernel
theorem dX1_hasPointAt_5 : decode cX1_hasPointAt 5 = .ok (.istore_n 2, 1) := by decide +kernel
theorem dX1_hasPointAt_6 : decode cX1_hasPointAt 6 = .ok (.iload_n 2, 1) := by decide +kernel
theorem dX1_hasPointAt_7 : decode cX1_hasPointAt 7 = .ok (.aload_n 0, 1) := by decide +kernel
theorem dX1_hasPointAt_8 : decode cX1_hasPointAt 8 = .ok (.getfield 33, 3) := by decide +kernel
theorem dX1_hasPointAt_11 : decode cX1_hasPointAt 11 = .ok (.if_icmp .ge 17, 3) := by decide +kernel
theorem dX1_hasPointAt_14 : decode cX1_hasPointAt 14 = .ok (.aload_n 0, 1) := by decide +kernel
theorem dX1_hasPointAt_15 : decode cX1_hasPointAt 15 = .ok (.getfield 9, 3) := by decide +kernel
theorem dX1_hasPointAt_18 : decode cX1_hasPointAt 18 = .ok (.iload_n 2, 1) := by decide +kernel
theorem dX1_hasPointAt_19 : decode cX1_hasPointAt 19 = .ok (.iaload, 1) := by decide +kernel
theorem dX1_hasPointAt_20 : decode cX1_hasPointAt 20 = .ok (.iload_n 1, 1) := by decide +kernel
theorem dX1_hasPointAt_21 : decode cX1_hasPointAt 21 = .ok (.if_icmp .ne 7, 3) := by decide +kernel
theorem dX1_hasPointAt_24 : decode cX1_hasPointAt 24 = .ok (.iconst 1, 1) := by decide +kernel
theorem dX1_hasPointAt_25 : decode cX1_hasPointAt 25 = .ok (.goto 4, 3) := by decide +kernel
theorem dX1_hasPointAt_28 : decode cX1_hasPointAt 28 = .ok (.iconst 0, 1) := by decide +kernel
theorem dX1_hasPointAt_29 : decode cX1_hasPointAt 29 = .ok (.ireturn, 1) := by decide +kernel
theorem dX1_countPointsBefore_0 : decode cX1_countPointsBefore 0 = .ok (.iconst 0, 1) := by decide +kernel
theorem dX1_countPointsBefore_1 : decode cX1_countPointsBefore 1 = .ok (.istore_n 2, 1) := by decide +kernel
theorem dX1_countPointsBefore_2 : decode cX1_countPointsBefore 2 = .ok (.iconst 0, 1) := by decide +kernel
theorem dX1_countPointsBefore_3 : decode cX1_countPointsBefore 3 = .ok (.istore_n 3, 1) := by decide +kernel
theorem dX1_countPointsBefore_4 : decode cX1_countPointsBefore 4 = .ok (.iload_n 3, 1) := by decide +kernel
theorem dX1_countPointsBefore_5 : decode cX1_countPointsBefore 5 = .ok (.aload_n 0, 1) := by decide +kernel
theorem dX1_countPointsBefore_6 : decode cX1_countPointsBefore 6 = .ok (.getfield 33, 3) := by decide +kernel
theorem dX1_countPointsBefore_9 : decode cX1_countPointsBefore 9 = .ok (.if_icmp .ge 22, 3) := by decide +kernel
theorem dX1_countPointsBefore_12 : decode cX1_countPointsBefore 12 = .ok (.aload_n 0, 1) := by decide +kernel
theorem dX1_countPointsBefore_13 : decode cX1_countPointsBefore 13 = .ok (.getfield 9, 3) := by decide +kernel
theorem dX1_countPointsBefore_16 : decode cX1_countPointsBefore 16 = .ok (.iload_n 3, 1) := by decide +kernel
theorem dX1_countPointsBefore_17 : decode cX1_countPointsBefore 17 = .ok (.iaload, 1) := by decide +kernel
theorem dX1_countPointsBefore_18 : decode cX1_countPointsBefore 18 = .ok (.iload_n 1, 1) := by decide +kernel
theorem dX1_countPointsBefore_19 : decode cX1_countPointsBefore 19 = .ok (.if_icmp .ge 6, 3) := by decide +kernel
theorem dX1_countPointsBefore_22 : decode cX1_countPointsBefore 22 = .ok (.iinc 2 1, 3) := by decide +kernel
theorem dX1_countPointsBefore_25 : decode cX1_countPointsBefore 25 = .ok (.iinc 3 1, 3) := by decide +kernel
theorem dX1_countPointsBefore_28 : decode cX1_countPointsBefore 28 = .ok (.goto (-24), 3) := by decide +kernel
theorem dX1_countPointsBefore_31 : decode cX1_countPointsBefore 31 = .ok (.iload_n 2, 1) := by decide +kernel
theorem dX1_countPointsBefore_32 : decode cX1_countPointsBefore 32 = .ok (.ireturn, 1) := by decide +kernel
theorem dX1_isEnd_0 : decode cX1_isEnd 0 = .ok (.aload_n 0, 1) := by decide +kernel
theorem dX1_isEnd_1 : decode cX1_isEnd 1 = .ok (.getfield 15, 3) := by decide +kernel
theorem dX1_isEnd_4 : decode cX1_isEnd 4 = .ok (.iload_n 1, 1) := by decide +kernel
theorem dX1_isEnd_5 : decode cX1_isEnd 5 = .ok (.iaload, 1) := by decide +kernel
theorem dX1_isEnd_6 : decode cX1_isEnd 6 = .ok (.iload_n 2, 1) := by decide +kernel
theorem dX1_isEnd_7 : decode cX1_isEnd 7 = .ok (.if_icmp .eq 13, 3) := by decide +kernel
theorem dX1_isEnd_10 : decode cX1_isEnd 10 = .ok (.aload_n 0, 1) := by decide +kernel
theorem dX1_isEnd_11 : decode cX1_isEnd 11 = .ok (.getfield 18, 3) := by decide +kernel
theorem dX1_isEnd_14 : decode cX1_isEnd 14 = .ok (.iload_n 1, 1) := by decide +kernel
theorem dX1_isEnd_15 : decode cX1_isEnd 15 = .ok (.iaload, 1) := by decide +kernel
theorem dX1_isEnd_16 : decode cX1_isEnd 16 = .ok (.iload_n 2, 1) := by decide +kernel
theorem dX1_isEnd_17 : decode cX1_isEnd 17 = .ok (.if_icmp .ne 7, 3) := by decide +kernel
theorem dX1_isEnd_20 : decode cX1_isEnd 20 = .ok (.iconst 1, 1) := by decide +kernel
theorem dX1_isEnd_21 : decode cX1_isEnd 21 = .ok (.goto 4, 3) := by decide +kernel
theorem dX1_isEnd_24 : decode cX1_isEnd 24 = .ok (.iconst 0, 1) := by decide +kernel
theorem dX1_isEnd_25 : decode cX1_isEnd 25 = .ok (.ireturn, 1) := by decide +kernel
theorem dX1_countDimensionsAt_0 : decode cX1_countDimensionsAt 0 = .ok (.iconst 0, 1) := by decide +kernel
theorem dX1_countDimensionsAt_1 : decode cX1_countDimensionsAt 1 = .ok (.istore_n 2, 1) := by decide +kernel
theorem dX1_countDimensionsAt_2 : decode cX1_countDimensionsAt 2 = .ok (.iconst 0, 1) := by decide +kernel
theorem dX1_countDimensionsAt_3 : decode cX1_countDimensionsAt 3 = .ok (.istore_n 3, 1) := by decide +kernel
theorem dX1_countDimensionsAt_4 : decode cX1_countDimensionsAt 4 = .ok (.iload_n 3, 1) := by decide +kernel
theorem dX1_countDimensionsAt_5 : decode cX1_countDimensionsAt 5 = .ok (.aload_n 0, 1) := by decide +kernel
theorem dX1_countDimensionsAt_6 : decode cX1_countDimensionsAt 6 = .ok (.getfield 37, 3) := by decide +kernel
theorem dX1_countDimensionsAt_9 : decode cX1_countDimensionsAt 9 = .ok (.if_icmp .ge 21, 3) := by decide +kernel
theorem dX1_countDimensionsAt_12 : decode cX1_countDimensionsAt 12 = .ok (.aload_n 0, 1) := by decide +kernel
theorem dX1_countDimensionsAt_13 : decode cX1_countDimensionsAt 13 = .ok (.iload_n 3, 1) := by decide +kernel
theorem dX1_countDimensionsAt_14 : decode cX1_countDimensionsAt 14 = .ok (.iload_n 1, 1) := by decide +kernel
theorem dX1_countDimensionsAt_15 : decode cX1_countDimensionsAt 15 = .ok (.invokevirtual 60, 3) := by decide +kernel
theorem dX1_countDimensionsAt_18 : decode cX1_countDimensionsAt 18 = .ok (.ifCond .eq 6, 3) := by decide +kernel
theorem dX1_countDimensionsAt_21 : decode cX1_countDimensionsAt 21 = .ok (.iinc 2 1, 3) := by decide +kernel
theorem dX1_countDimensionsAt_24 : decode cX1_countDimensionsAt 24 = .ok (.iinc 3 1, 3) := by decide +kernel
theorem dX1_countDimensionsAt_27 : decode cX1_countDimensionsAt 27 = .ok (.goto (-23), 3) := by decide +kernel
theorem dX1_countDimensionsAt_30 : decode cX1_countDimensionsAt 30 = .ok (.iload_n 2, 1) := by decide +kernel
theorem dX1_countDimensionsAt_31 : decode cX1_countDimensionsAt 31 = .ok (.ireturn, 1) := by decide +kernel
theorem dX1_valueOf_0 : decode cX1_valueOf 0 = .ok (.aload_n 0, 1) := by decide +kernel
theorem dX1_valueOf_1 : decode cX1_valueOf 1 = .ok (.getfield 9, 3) := by decide +kernel
theorem dX1_valueOf_4 : decode cX1_valueOf 4 = .ok (.aload_n 0, 1) := by decide +kernel
theorem dX1_valueOf_5 : decode cX1_valueOf 5 = .ok (.getfield 18, 3) := by decide +kernel
theorem dX1_valueOf_8 : decode cX1_valueOf 8 = .ok (.iload_n 1, 1) := by decide +kernel
theorem dX1_valueOf_9 : decode cX1_valueOf 9 = .ok (.iaload, 1) := by decide +kernel
theorem dX1_valueOf_10 : decode cX1_valueOf 10 = .ok (.iaload, 1) := by decide +kernel
theorem dX1_valueOf_11 : decode cX1_valueOf 11 = .ok (.aload_n 0, 1) := by decide +kernel
theorem dX1_valueOf_12 : decode cX1_valueOf 12 = .ok (.getfield 9, 3) := by decide +kernel
theorem dX1_valueOf_15 : decode cX1_valueOf 15 = .ok (.aload_n 0, 1) := by decide +kernel
theorem dX1_valueOf_16 : decode cX1_valueOf 16 = .ok (.getfield 15, 3) := by decide +kernel
theorem dX1_valueOf_19 : decode cX1_valueOf 19 = .ok (.iload_n 1, 1) := by decide +kernel
theorem dX1_valueOf_20 : decode cX1_valueOf 20 = .ok (.iaload, 1) := by decide +kernel
theorem dX1_valueOf_21 : decode cX1_valueOf 21 = .ok (.iaload, 1) := by decide +kernel
theorem dX1_valueOf_22 : decode cX1_valueOf 22 = .ok (.isub, 1) := by decide +kernel
theorem dX1_valueOf_23 : decode cX1_valueOf 23 = .ok (.ireturn, 1) := by decide +kernel
theorem dX1_insertPoint_0 : decode cX1_insertPoint 0 = .ok (.aload_n 0, 1) := by decide +kernel
theorem dX1_insertPoint_1 : decode cX1_insertPoint 1 = .ok (.dup, 1) := by decide +kernel
theorem dX1_insertPoint_2 : decode cX1_insertPoint 2 = .ok (.getfield 33, 3) := by decide +kernel
theorem dX1_insertPoint_5 : decode cX1_insertPoint 5 = .ok (.iconst 1, 1) := by decide +kernel
theorem dX1_insertPoint_6 : decode cX1_insertPoint 6 = .ok (.iadd, 1) := by decide +kernel
theorem dX1_insertPoint_7 : decode cX1_insertPoint 7 = .ok (.putfield 33, 3) := by decide +kernel
theorem dX1_insertPoint_10 : decode cX1_insertPoint 10 = .ok (.aload_n 0, 1) := by decide +kernel
theorem dX1_insertPoint_11 : decode cX1_insertPoint 11 = .ok (.getfield 9, 3) := by decide +kernel
theorem dX1_insertPoint_14 : decode cX1_insertPoint 14 = .ok (.aload_n 0, 1) := by decide +kernel
theorem dX1_insertPoint_15 : decode cX1_insertPoint 15 = .ok (.getfield 33, 3) := by decide +kernel
theorem dX1_insertPoint_18 : decode cX1_insertPoint 18 = .ok (.iconst 1, 1) := by decide +kernel
theorem dX1_insertPoint_19 : decode cX1_insertPoint 19 = .ok (.isub, 1) := by decide +kernel
theorem dX1_insertPoint_20 : decode cX1_insertPoint 20 = .ok (.iload_n 1, 1) := by decide +kernel
theorem dX1_insertPoint_21 : decode cX1_insertPoint 21 = .ok (.iastore, 1) := by decide +kernel
theorem dX1_insertPoint_22 : decode cX1_insertPoint 22 = .ok (.aload_n 0, 1) := by decide +kernel
theorem dX1_insertPoint_23 : decode cX1_insertPoint 23 = .ok (.aload_n 0, 1) := by decide +kernel
theorem dX1_insertPoint_24 : decode cX1_insertPoint 24 = .ok (.getfield 33, 3) := by decide +kernel
theorem dX1_insertPoint_27 : decode cX1_insertPoint 27 = .ok (.iconst 1, 1) := by decide +kernel
theorem dX1_insertPoint_28 : decode cX1_insertPoint 28 = .ok (.isub, 1) := by decide +kernel
theorem dX1_insertPoint_29 : decode cX1_insertPoint 29 = .ok (.iload_n 1, 1) := by decide +kernel
theorem dX1_insertPoint_30 : decode cX1_insertPoint 30 = .ok (.invokevirtual 64, 3) := by decide +kernel
theorem dX1_insertPoint_33 : decode cX1_insertPoint 33 = .ok (.ireturn, 1) := by decide +kernel
theorem dX1_shiftPoint_0 : decode cX1_shiftPoint 0 = .ok (.aload_n 0, 1) := by decide +kernel
theorem dX1_shiftPoint_1 : decode cX1_shiftPoint 1 = .ok (.iload_n 2, 1) := by decide +kernel
theorem dX1_shiftPoint_2 : decode cX1_shiftPoint 2 = .ok (.invokevirtual 56, 3) := by decide +kernel
theorem dX1_shiftPoint_5 : decode cX1_shiftPoint 5 = .ok (.istore_n 3, 1) := by decide +kernel
theorem dX1_shiftPoint_6 : decode cX1_shiftPoint 6 = .ok (.aload_n 0, 1) := by decide +kernel
theorem dX1_shiftPoint_7 : decode cX1_shiftPoint 7 = .ok (.getfield 9, 3) := by decide +kernel
theorem dX1_shiftPoint_10 : decode cX1_shiftPoint 10 = .ok (.iload_n 1, 1) := by decide +kernel
theorem dX1_shiftPoint_11 : decode cX1_shiftPoint 11 = .ok (.iaload, 1) := by decide +kernel
theorem dX1_shiftPoint_12 : decode cX1_shiftPoint 12 = .ok (.iload_n 2, 1) := by decide +kernel
theorem dX1_shiftPoint_13 : decode cX1_shiftPoint 13 = .ok (.if_icmp .ge 6, 3) := by decide +kernel
theorem dX1_shiftPoint_16 : decode cX1_shiftPoint 16 = .ok (.iinc 3 (-1), 3) := by decide +kernel
theorem dX1_shiftPoint_19 : decode cX1_shiftPoint 19 = .ok (.aload_n 0, 1) := by decide +kernel
theorem dX1_shiftPoint_20 : decode cX1_shiftPoint 20 = .ok (.iload_n 1, 1) := by decide +kernel
theorem dX1_shiftPoint_21 : decode cX1_shiftPoint 21 = .ok (.iload_n 3, 1) := by decide +kernel
theorem dX1_shiftPoint_22 : decode cX1_shiftPoint 22 = .ok (.invokevirtual 68, 3) := by decide +kernel
theorem dX1_shiftPoint_25 : decode cX1_shiftPoint 25 = .ok (.iload_n 1, 1) := by decide +kernel
theorem dX1_shiftPoint_26 : decode cX1_shiftPoint 26 = .ok (.istore 4, 2) := by decide +kernel
theorem dX1_shiftPoint_28 : decode cX1_shiftPoint 28 = .ok (.iload 4, 2) := by decide +kernel
theorem dX1_shiftPoint_30 : decode cX1_shiftPoint 30 = .ok (.iload_n 3, 1) := by decide +kernel
theorem dX1_shiftPoint_31 : decode cX1_shiftPoint 31 = .ok (.if_icmp .ge 25, 3) := by decide +kernel
theorem dX1_shiftPoint_34 : decode cX1_shiftPoint 34 = .ok (.aload_n 0, 1) := by decide +kernel
theorem dX1_shiftPoint_35 : decode cX1_shiftPoint 35 = .ok (.getfield 9, 3) := by decide +kernel
theorem dX1_shiftPoint_38 : decode cX1_shiftPoint 38 = .ok (.iload 4, 2) := by decide +kernel
theorem dX1_shiftPoint_40 : decode cX1_shiftPoint 40 = .ok (.aload_n 0, 1) := by decide +kernel
theorem dX1_shiftPoint_41 : decode cX1_shiftPoint 41 = .ok (.getfield 9, 3) := by decide +kernel
theorem dX1_shiftPoint_44 : decode cX1_shiftPoint 44 = .ok (.iload 4, 2) := by decide +kernel
theorem dX1_shiftPoint_46 : decode cX1_shiftPoint 46 = .ok (.iconst 1, 1) := by decide +kernel
theorem dX1_shiftPoint_47 : decode cX1_shiftPoint 47 = .ok (.iadd, 1) := by decide +kernel
theorem dX1_shiftPoint_48 : decode cX1_shiftPoint 48 = .ok (.iaload, 1) := by decide +kernel
theorem dX1_shiftPoint_49 : decode cX1_shiftPoint 49 = .ok (.iastore, 1) := by decide +kernel
theorem dX1_shiftPoint_50 : decode cX1_shiftPoint 50 = .ok (.iinc 4 1, 3) := by decide +kernel
theorem dX1_shiftPoint_53 : decode cX1_shiftPoint 53 = .ok (.goto (-25), 3) := by decide +kernel
theorem dX1_shiftPoint_56 : decode cX1_shiftPoint 56 = .ok (.iload_n 1, 1) := by decide +kernel
theorem dX1_shiftPoint_57 : decode cX1_shiftPoint 57 = .ok (.istore 4, 2) := by decide +kernel
theorem dX1_shiftPoint_59 : decode cX1_shiftPoint 59 = .ok (.iload 4, 2) := by decide +kernel
theorem dX1_shiftPoint_61 : decode cX1_shiftPoint 61 = .ok (.iload_n 3, 1) := by decide +kernel
theorem dX1_shiftPoint_62 : decode cX1_shiftPoint 62 = .ok (.if_icmp .le 25, 3) := by decide +kernel
theorem dX1_shiftPoint_65 : decode cX1_shiftPoint 65 = .ok (.aload_n 0, 1) := by decide +kernel
theorem dX1_shiftPoint_66 : decode cX1_shiftPoint 66 = .ok (.getfield 9, 3) := by decide +kernel
theorem dX1_shiftPoint_69 : decode cX1_shiftPoint 69 = .ok (.iload 4, 2) := by decide +kernel
theorem dX1_shiftPoint_71 : decode cX1_shiftPoint 71 = .ok (.aload_n 0, 1) := by decide +kernel
theorem dX1_shiftPoint_72 : decode cX1_shiftPoint 72 = .ok (.getfield 9, 3) := by decide +kernel
theorem dX1_shiftPoint_75 : decode cX1_shiftPoint 75 = .ok (.iload 4, 2) := by decide +kernel
theorem dX1_shiftPoint_77 : decode cX1_shiftPoint 77 = .ok (.iconst 1, 1) := by decide +kernel
theorem dX1_shiftPoint_78 : decode cX1_shiftPoint 78 = .ok (.isub, 1) := by decide +kernel
theorem dX1_shiftPoint_79 : decode cX1_shiftPoint 79 = .ok (.iaload, 1) := by decide +kernel
theorem dX1_shiftPoint_80 : decode cX1_shiftPoint 80 = .ok (.iastore, 1) := by decide +kernel
theorem dX1_shiftPoint_81 : decode cX1_shiftPoint 81 = .ok (.iinc 4 (-1), 3) := by decide +kernel
theorem dX1_shiftPoint_84 : decode cX1_shiftPoint 84 = .ok (.goto (-25), 3) := by decide +kernel
theorem dX1_shiftPoint_87 : decode cX1_shiftPoint 87 = .ok (.aload_n 0, 1) := by decide +kernel
theorem dX1_shiftPoint_88 : decode cX1_shiftPoint 88 = .ok (.getfield 9, 3) := by decide +kernel
theorem dX1_shiftPoint_91 : decode cX1_shiftPoint 91 = .ok (.iload_n 3, 1) := by decide +kernel
theorem dX1_shiftPoint_92 : decode cX1_shiftPoint 92 = .ok (.iload_n 2, 1) := by decide +kernel
theorem dX1_shiftPoint_93 : decode cX1_shiftPoint 93 = .ok (.iastore, 1) := by decide +kernel
theorem dX1_shiftPoint_94 : decode cX1_shiftPoint 94 = .ok (.iload_n 3, 1) := by decide +kernel
theorem dX1_shiftPoint_95 : decode cX1_shiftPoint 95 = .ok (.ireturn, 1) := by decide +kernel
theorem dX1_renumberEnds_0 : decode cX1_renumberEnds 0 = .ok (.iconst 0, 1) := by decide +kernel
theorem dX1_renumberEnds_1 : decode cX1_renumberEnds 1 = .ok (.istore_n 3, 1) := by decide +kernel
theorem dX1_renumberEnds_2 : decode cX1_renumberEnds 2 = .ok (.iload_n 3, 1) := by decide +kernel
theorem dX1_renumberEnds_3 : decode cX1_renumberEnds 3 = .ok (.aload_n 0, 1) := by decide +kernel
theorem dX1_renumberEnds_4 : decode cX1_renumberEnds 4 = .ok (.getfield 37, 3) := by decide +kernel
theorem dX1_renumberEnds_7 : decode cX1_renumberEnds 7 = .ok (.if_icmp .ge 61, 3) := by decide +kernel
theorem dX1_renumberEnds_10 : decode cX1_renumberEnds 10 = .ok (.aload_n 0, 1) := by decide +kernel
theorem dX1_renumberEnds_11 : decode cX1_renumberEnds 11 = .ok (.getfield 15, 3) := by decide +kernel
theorem dX1_renumberEnds_14 : decode cX1_renumberEnds 14 = .ok (.iload_n 3, 1) := by decide +kernel
theorem dX1_renumberEnds_15 : decode cX1_renumberEnds 15 = .ok (.iaload, 1) := by decide +kernel
theorem dX1_renumberEnds_16 : decode cX1_renumberEnds 16 = .ok (.iload_n 1, 1) := by decide +kernel
theorem dX1_renumberEnds_17 : decode cX1_renumberEnds 17 = .ok (.iload_n 2, 1) := by decide +kernel
theorem dX1_renumberEnds_18 : decode cX1_renumberEnds 18 = .ok (.invokestatic 76, 3) := by decide +kernel
theorem dX1_renumberEnds_21 : decode cX1_renumberEnds 21 = .ok (.istore 4, 2) := by decide +kernel
theorem dX1_renumberEnds_23 : decode cX1_renumberEnds 23 = .ok (.aload_n 0, 1) := by decide +kernel
theorem dX1_renumberEnds_24 : decode cX1_renumberEnds 24 = .ok (.getfield 18, 3) := by decide +kernel
theorem dX1_renumberEnds_27 : decode cX1_renumberEnds 27 = .ok (.iload_n 3, 1) := by decide +kernel
theorem dX1_renumberEnds_28 : decode cX1_renumberEnds 28 = .ok (.iaload, 1) := by decide +kernel
theorem dX1_renumberEnds_29 : decode cX1_renumberEnds 29 = .ok (.iload_n 1, 1) := by decide +kernel
theorem dX1_renumberEnds_30 : decode cX1_renumberEnds 30 = .ok (.iload_n 2, 1) := by decide +kernel
theorem dX1_renumberEnds_31 : decode cX1_renumberEnds 31 = .ok (.invokestatic 76, 3) := by decide +kernel
theorem dX1_renumberEnds_34 : decode cX1_renumberEnds 34 = .ok (.istore 5, 2) := by decide +kernel
theorem dX1_renumberEnds_36 : decode cX1_renumberEnds 36 = .ok (.aload_n 0, 1) := by decide +kernel
theorem dX1_renumberEnds_37 : decode cX1_renumberEnds 37 = .ok (.getfield 15, 3) := by decide +kernel
theorem dX1_renumberEnds_40 : decode cX1_renumberEnds 40 = .ok (.iload_n 3, 1) := by decide +kernel
theorem dX1_renumberEnds_41 : decode cX1_renumberEnds 41 = .ok (.iload 4, 2) := by decide +kernel
theorem dX1_renumberEnds_43 : decode cX1_renumberEnds 43 = .ok (.iload 5, 2) := by decide +kernel
theorem dX1_renumberEnds_45 : decode cX1_renumberEnds 45 = .ok (.invokestatic 80, 3) := by decide +kernel
theorem dX1_renumberEnds_48 : decode cX1_renumberEnds 48 = .ok (.iastore, 1) := by decide +kernel
theorem dX1_renumberEnds_49 : decode cX1_renumberEnds 49 = .ok (.aload_n 0, 1) := by decide +kernel
theorem dX1_renumberEnds_50 : decode cX1_renumberEnds 50 = .ok (.getfield 18, 3) := by decide +kernel
theorem dX1_renumberEnds_53 : decode cX1_renumberEnds 53 = .ok (.iload_n 3, 1) := by decide +kernel
theorem dX1_renumberEnds_54 : decode cX1_renumberEnds 54 = .ok (.iload 4, 2) := by decide +kernel
theorem dX1_renumberEnds_56 : decode cX1_renumberEnds 56 = .ok (.iload 5, 2) := by decide +kernel
theorem dX1_renumberEnds_58 : decode cX1_renumberEnds 58 = .ok (.invokestatic 85, 3) := by decide +kernel
theorem dX1_renumberEnds_61 : decode cX1_renumberEnds 61 = .ok (.iastore, 1) := by decide +kernel
theorem dX1_renumberEnds_62 : decode cX1_renumberEnds 62 = .ok (.iinc 3 1, 3) := by decide +kernel
theorem dX1_renumberEnds_65 : decode cX1_renumberEnds 65 = .ok (.goto (-63), 3) := by decide +kernel
theorem dX1_renumberEnds_68 : decode cX1_renumberEnds 68 = .ok (.return_, 1) := by decide +kernel
theorem dX1_renumbered_0 : decode cX1_renumbered 0 = .ok (.iload_n 0, 1) := by decide +kernel
theorem dX1_renumbered_1 : decode cX1_renumbered 1 = .ok (.iload_n 1, 1) := by decide +kernel
theorem dX1_renumbered_2 : decode cX1_renumbered 2 = .ok (.if_icmp .ne 5, 3) := by decide +kernel
theorem dX1_renumbered_5 : decode cX1_renumbered 5 = .ok (.iload_n 2, 1) := by decide +kernel
theorem dX1_renumbered_6 : decode cX1_renumbered 6 = .ok (.ireturn, 1) := by decide +kernel
theorem dX1_renumbered_7 : decode cX1_renumbered 7 = .ok (.iload_n 1, 1) := by decide +kernel
theorem dX1_renumbered_8 : decode cX1_renumbered 8 = .ok (.iload_n 0, 1) := by decide +kernel
theorem dX1_renumbered_9 : decode cX1_renumbered 9 = .ok (.if_icmp .ge 12, 3) := by decide +kernel
theorem dX1_renumbered_12 : decode cX1_renumbered 12 = .ok (.iload_n 0, 1) := by decide +kernel
theorem dX1_renumbered_13 : decode cX1_renumbered 13 = .ok (.iload_n 2, 1) := by decide +kernel
theorem dX1_renumbered_14 : decode cX1_renumbered 14 = .ok (.if_icmp .gt 7, 3) := by decide +kernel
theorem dX1_renumbered_17 : decode cX1_renumbered 17 = .ok (.iload_n 0, 1) := by decide +kernel
theorem dX1_renumbered_18 : decode cX1_renumbered 18 = .ok (.iconst 1, 1) := by decide +kernel
theorem dX1_renumbered_19 : decode cX1_renumbered 19 = .ok (.isub, 1) := by decide +kernel
theorem dX1_renumbered_20 : decode cX1_renumbered 20 = .ok (.ireturn, 1) := by decide +kernel
theorem dX1_renumbered_21 : decode cX1_renumbered 21 = .ok (.iload_n 2, 1) := by decide +kernel
theorem dX1_renumbered_22 : decode cX1_renumbered 22 = .ok (.iload_n 0, 1) := by decide +kernel
theorem dX1_renumbered_23 : decode cX1_renumbered 23 = .ok (.if_icmp .gt 14, 3) := by decide +kernel
theorem dX1_renumbered_26 : decode cX1_renumbered 26 = .ok (.iload_n 0, 1) := by decide +kernel
theorem dX1_renumbered_27 : decode cX1_renumbered 27 = .ok (.iload_n 1, 1) := by decide +kernel
theorem dX1_renumbered_28 : decode cX1_renumbered 28 = .ok (.if_icmp .ge 9, 3) := by decide +kernel
theorem dX1_renumbered_31 : decode cX1_renumbered 31 = .ok (.iload_n 0, 1) := by decide +kernel
theorem dX1_renumbered_32 : decode cX1_renumbered 32 = .ok (.iconst 1, 1) := by decide +kernel
theorem dX1_renumbered_33 : decode cX1_renumbered 33 = .ok (.iadd, 1) := by decide +kernel
theorem dX1_renumbered_34 : decode cX1_renumbered 34 = .ok (.goto 4, 3) := by decide +kernel
theorem dX1_renumbered_37 : decode cX1_renumbered 37 = .ok (.iload_n 0, 1) := by decide +kernel
theorem dX1_renumbered_38 : decode cX1_renumbered 38 = .ok (.ireturn, 1) := by decide +kernel
theorem dX1_closeGap_0 : decode cX1_closeGap 0 = .ok (.iload_n 1, 1) := by decide +kernel
theorem dX1_closeGap_1 : decode cX1_closeGap 1 = .ok (.iconst 1, 1) := by decide +kernel
theorem dX1_closeGap_2 : decode cX1_closeGap 2 = .ok (.iadd, 1) := by decide +kernel
theorem dX1_closeGap_3 : decode cX1_closeGap 3 = .ok (.istore_n 3, 1) := by decide +kernel
theorem dX1_closeGap_4 : decode cX1_closeGap 4 = .ok (.iload_n 3, 1) := by decide +kernel
theorem dX1_closeGap_5 : decode cX1_closeGap 5 = .ok (.iload_n 2, 1) := by decide +kernel
theorem dX1_closeGap_6 : decode cX1_closeGap 6 = .ok (.if_icmp .ge 17, 3) := by decide +kernel
theorem dX1_closeGap_9 : decode cX1_closeGap 9 = .ok (.aload_n 0, 1) := by decide +kernel
theorem dX1_closeGap_10 : decode cX1_closeGap 10 = .ok (.iload_n 3, 1) := by decide +kernel
theorem dX1_closeGap_11 : decode cX1_closeGap 11 = .ok (.iconst 1, 1) := by decide +kernel
theorem dX1_closeGap_12 : decode cX1_closeGap 12 = .ok (.isub, 1) := by decide +kernel
theorem dX1_closeGap_13 : decode cX1_closeGap 13 = .ok (.aload_n 0, 1) := by decide +kernel
theorem dX1_closeGap_14 : decode cX1_closeGap 14 = .ok (.iload_n 3, 1) := by decide +kernel
theorem dX1_closeGap_15 : decode cX1_closeGap 15 = .ok (.iaload, 1) := by decide +kernel
theorem dX1_closeGap_16 : decode cX1_closeGap 16 = .ok (.iastore, 1) := by decide +kernel
theorem dX1_closeGap_17 : decode cX1_closeGap 17 = .ok (.iinc 3 1, 3) := by decide +kernel
theorem dX1_closeGap_20 : decode cX1_closeGap 20 = .ok (.goto (-16), 3) := by decide +kernel
theorem dX1_closeGap_23 : decode cX1_closeGap 23 = .ok (.return_, 1) := by decide +kernel
theorem dX1_append_0 : decode cX1_append 0 = .ok (.aload_n 0, 1) := by decide +kernel
theorem dX1_append_1 : decode cX1_append 1 = .ok (.getfield 37, 3) := by decide +kernel
theorem dX1_append_4 : decode cX1_append 4 = .ok (.istore_n 3, 1) := by decide +kernel
theorem dX1_append_5 : decode cX1_append 5 = .ok (.aload_n 0, 1) := by decide +kernel
theorem dX1_append_6 : decode cX1_append 6 = .ok (.dup, 1) := by decide +kernel
theorem dX1_append_7 : decode cX1_append 7 = .ok (.getfield 37, 3) := by decide +kernel
theorem dX1_append_10 : decode cX1_append 10 = .ok (.iconst 1, 1) := by decide +kernel
theorem dX1_append_11 : decode cX1_append 11 = .ok (.iadd, 1) := by decide +kernel
theorem dX1_append_12 : decode cX1_append 12 = .ok (.putfield 37, 3) := by decide +kernel
theorem dX1_append_15 : decode cX1_append 15 = .ok (.aload_n 0, 1) := by decide +kernel
theorem dX1_append_16 : decode cX1_append 16 = .ok (.getfield 15, 3) := by decide +kernel
theorem dX1_append_19 : decode cX1_append 19 = .ok (.iload_n 3, 1) := by decide +kernel
theorem dX1_append_20 : decode cX1_append 20 = .ok (.iload_n 1, 1) := by decide +kernel
theorem dX1_append_21 : decode cX1_append 21 = .ok (.iastore, 1) := by decide +kernel
theorem dX1_append_22 : decode cX1_append 22 = .ok (.aload_n 0, 1) := by decide +kernel
theorem dX1_append_23 : decode cX1_append 23 = .ok (.getfield 18, 3) := by decide +kernel
theorem dX1_append_26 : decode cX1_append 26 = .ok (.iload_n 3, 1) := by decide +kernel
theorem dX1_append_27 : decode cX1_append 27 = .ok (.iload_n 2, 1) := by decide +kernel
theorem dX1_append_28 : decode cX1_append 28 = .ok (.iastore, 1) := by decide +kernel
theorem dX1_append_29 : decode cX1_append 29 = .ok (.aload_n 0, 1) := by decide +kernel
theorem dX1_append_30 : decode cX1_append 30 = .ok (.getfield 21, 3) := by decide +kernel
theorem dX1_append_33 : decode cX1_append 33 = .ok (.iload_n 3, 1) := by decide +kernel
theorem dX1_append_34 : decode cX1_append 34 = .ok (.iconst 0, 1) := by decide +kernel
theorem dX1_append_35 : decode cX1_append 35 = .ok (.iastore, 1) := by decide +kernel
theorem dX1_append_36 : decode cX1_append 36 = .ok (.aload_n 0, 1) := by decide +kernel
theorem dX1_append_37 : decode cX1_append 37 = .ok (.getfield 24, 3) := by decide +kernel
theorem dX1_append_40 : decode cX1_append 40 = .ok (.iload_n 3, 1) := by decide +kernel
theorem dX1_append_41 : decode cX1_append 41 = .ok (.iconst 0, 1) := by decide +kernel
theorem dX1_append_42 : decode cX1_append 42 = .ok (.iastore, 1) := by decide +kernel
theorem dX1_append_43 : decode cX1_append 43 = .ok (.aload_n 0, 1) := by decide +kernel
theorem dX1_append_44 : decode cX1_append 44 = .ok (.getfield 27, 3) := by decide +kernel
theorem dX1_append_47 : decode cX1_append 47 = .ok (.iload_n 3, 1) := by decide +kernel
theorem dX1_append_48 : decode cX1_append 48 = .ok (.iconst 0, 1) := by decide +kernel
theorem dX1_append_49 : decode cX1_append 49 = .ok (.iastore, 1) := by decide +kernel
theorem dX1_append_50 : decode cX1_append 50 = .ok (.aload_n 0, 1) := by decide +kernel
theorem dX1_append_51 : decode cX1_append 51 = .ok (.getfield 30, 3) := by decide +kernel
theorem dX1_append_54 : decode cX1_append 54 = .ok (.iload_n 3, 1) := by decide +kernel
theorem dX1_append_55 : decode cX1_append 55 = .ok (.iconst 0, 1) := by decide +kernel
theorem dX1_append_56 : decode cX1_append 56 = .ok (.iastore, 1) := by decide +kernel
theorem dX1_append_57 : decode cX1_append 57 = .ok (.iload_n 3, 1) := by decide +kernel
theorem dX1_append_58 : decode cX1_append 58 = .ok (.ireturn, 1) := by decide +kernel
theorem dX1_removeDimension_0 : decode cX1_removeDimension 0 = .ok (.aload_n 0, 1) := by decide +kernel
theorem dX1_removeDimension_1 : decode cX1_removeDimension 1 = .ok (.getfield 15, 3) := by decide +kernel
theorem dX1_removeDimension_4 : decode cX1_removeDimension 4 = .ok (.iload_n 1, 1) := by decide +kernel
theorem dX1_removeDimension_5 : decode cX1_removeDimension 5 = .ok (.aload_n 0, 1) := by decide +kernel
theorem dX1_removeDimension_6 : decode cX1_removeDimension 6 = .ok (.getfield 37, 3) := by decide +kernel
theorem dX1_removeDimension_9 : decode cX1_removeDimension 9 = .ok (.invokestatic 72, 3) := by decide +kernel
theorem dX1_removeDimension_12 : decode cX1_removeDimension 12 = .ok (.aload_n 0, 1) := by decide +kernel
theorem dX1_removeDimension_13 : decode cX1_removeDimension 13 = .ok (.getfield 18, 3) := by decide +kernel
theorem dX1_removeDimension_16 : decode cX1_removeDimension 16 = .ok (.iload_n 1, 1) := by decide +kernel
theorem dX1_removeDimension_17 : decode cX1_removeDimension 17 = .ok (.aload_n 0, 1) := by decide +kernel
theorem dX1_removeDimension_18 : decode cX1_removeDimension 18 = .ok (.getfield 37, 3) := by decide +kernel
theorem dX1_removeDimension_21 : decode cX1_removeDimension 21 = .ok (.invokestatic 72, 3) := by decide +kernel
theorem dX1_removeDimension_24 : decode cX1_removeDimension 24 = .ok (.aload_n 0, 1) := by decide +kernel
theorem dX1_removeDimension_25 : decode cX1_removeDimension 25 = .ok (.getfield 21, 3) := by decide +kernel
theorem dX1_removeDimension_28 : decode cX1_removeDimension 28 = .ok (.iload_n 1, 1) := by decide +kernel
theorem dX1_removeDimension_29 : decode cX1_removeDimension 29 = .ok (.aload_n 0, 1) := by decide +kernel
theorem dX1_removeDimension_30 : decode cX1_removeDimension 30 = .ok (.getfield 37, 3) := by decide +kernel
theorem dX1_removeDimension_33 : decode cX1_removeDimension 33 = .ok (.invokestatic 72, 3) := by decide +kernel
theorem dX1_removeDimension_36 : decode cX1_removeDimension 36 = .ok (.aload_n 0, 1) := by decide +kernel
theorem dX1_removeDimension_37 : decode cX1_removeDimension 37 = .ok (.getfield 24, 3) := by decide +kernel
theorem dX1_removeDimension_40 : decode cX1_removeDimension 40 = .ok (.iload_n 1, 1) := by decide +kernel
theorem dX1_removeDimension_41 : decode cX1_removeDimension 41 = .ok (.aload_n 0, 1) := by decide +kernel
theorem dX1_removeDimension_42 : decode cX1_removeDimension 42 = .ok (.getfield 37, 3) := by decide +kernel
theorem dX1_removeDimension_45 : decode cX1_removeDimension 45 = .ok (.invokestatic 72, 3) := by decide +kernel
theorem dX1_removeDimension_48 : decode cX1_removeDimension 48 = .ok (.aload_n 0, 1) := by decide +kernel
theorem dX1_removeDimension_49 : decode cX1_removeDimension 49 = .ok (.getfield 27, 3) := by decide +kernel
theorem dX1_removeDimension_52 : decode cX1_removeDimension 52 = .ok (.iload_n 1, 1) := by decide +kernel
theorem dX1_removeDimension_53 : decode cX1_removeDimension 53 = .ok (.aload_n 0, 1) := by decide +kernel
theorem dX1_removeDimension_54 : decode cX1_removeDimension 54 = .ok (.getfield 37, 3) := by decide +kernel
theorem dX1_removeDimension_57 : decode cX1_removeDimension 57 = .ok (.invokestatic 72, 3) := by decide +kernel
theorem dX1_removeDimension_60 : decode cX1_removeDimension 60 = .ok (.aload_n 0, 1) := by decide +kernel
theorem dX1_removeDimension_61 : decode cX1_removeDimension 61 = .ok (.getfield 30, 3) := by decide +kernel
theorem dX1_removeDimension_64 : decode cX1_removeDimension 64 = .ok (.iload_n 1, 1) := by decide +kernel
theorem dX1_removeDimension_65 : decode cX1_removeDimension 65 = .ok (.aload_n 0, 1) := by decide +kernel
theorem dX1_removeDimension_66 : decode cX1_removeDimension 66 = .ok (.getfield 37, 3) := by decide +kernel
theorem dX1_removeDimension_69 : decode cX1_removeDimension 69 = .ok (.invokestatic 72, 3) := by decide +kernel
theorem dX1_removeDimension_72 : decode cX1_removeDimension 72 = .ok (.aload_n 0, 1) := by decide +kernel
theorem dX1_removeDimension_73 : decode cX1_removeDimension 73 = .ok (.dup, 1) := by decide +kernel
theorem dX1_removeDimension_74 : decode cX1_removeDimension 74 = .ok (.getfield 37, 3) := by decide +kernel
theorem dX1_removeDimension_77 : decode cX1_removeDimension 77 = .ok (.iconst 1, 1) := by decide +kernel
theorem dX1_removeDimension_78 : decode cX1_removeDimension 78 = .ok (.isub, 1) := by decide +kernel
theorem dX1_removeDimension_79 : decode cX1_removeDimension 79 = .ok (.putfield 37, 3) := by decide +kernel
theorem dX1_removeDimension_82 : decode cX1_removeDimension 82 = .ok (.return_, 1) := by decide +kernel
