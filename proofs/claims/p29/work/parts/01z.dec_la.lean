theorem dX3_init_0 : decode cX3_init 0 = .ok (.aload_n 0, 1) := by decide +kernel
theorem dX3_init_1 : decode cX3_init 1 = .ok (.invokespecial 3, 3) := by decide +kernel
theorem dX3_init_4 : decode cX3_init 4 = .ok (.aload_n 0, 1) := by decide +kernel
theorem dX3_init_5 : decode cX3_init 5 = .ok (.bipush 16, 2) := by decide +kernel
theorem dX3_init_7 : decode cX3_init 7 = .ok (.newarray .int, 2) := by decide +kernel
theorem dX3_init_9 : decode cX3_init 9 = .ok (.putfield 9, 3) := by decide +kernel
theorem dX3_init_12 : decode cX3_init 12 = .ok (.aload_n 0, 1) := by decide +kernel
theorem dX3_init_13 : decode cX3_init 13 = .ok (.bipush 16, 2) := by decide +kernel
theorem dX3_init_15 : decode cX3_init 15 = .ok (.newarray .int, 2) := by decide +kernel
theorem dX3_init_17 : decode cX3_init 17 = .ok (.putfield 15, 3) := by decide +kernel
theorem dX3_init_20 : decode cX3_init 20 = .ok (.aload_n 0, 1) := by decide +kernel
theorem dX3_init_21 : decode cX3_init 21 = .ok (.bipush 16, 2) := by decide +kernel
theorem dX3_init_23 : decode cX3_init 23 = .ok (.newarray .int, 2) := by decide +kernel
theorem dX3_init_25 : decode cX3_init 25 = .ok (.putfield 18, 3) := by decide +kernel
theorem dX3_init_28 : decode cX3_init 28 = .ok (.aload_n 0, 1) := by decide +kernel
theorem dX3_init_29 : decode cX3_init 29 = .ok (.bipush 16, 2) := by decide +kernel
theorem dX3_init_31 : decode cX3_init 31 = .ok (.newarray .int, 2) := by decide +kernel
theorem dX3_init_33 : decode cX3_init 33 = .ok (.putfield 21, 3) := by decide +kernel
theorem dX3_init_36 : decode cX3_init 36 = .ok (.aload_n 0, 1) := by decide +kernel
theorem dX3_init_37 : decode cX3_init 37 = .ok (.bipush 16, 2) := by decide +kernel
theorem dX3_init_39 : decode cX3_init 39 = .ok (.newarray .int, 2) := by decide +kernel
theorem dX3_init_41 : decode cX3_init 41 = .ok (.putfield 24, 3) := by decide +kernel
theorem dX3_init_44 : decode cX3_init 44 = .ok (.aload_n 0, 1) := by decide +kernel
theorem dX3_init_45 : decode cX3_init 45 = .ok (.bipush 12, 2) := by decide +kernel
theorem dX3_init_47 : decode cX3_init 47 = .ok (.newarray .int, 2) := by decide +kernel
theorem dX3_init_49 : decode cX3_init 49 = .ok (.putfield 27, 3) := by decide +kernel
theorem dX3_init_52 : decode cX3_init 52 = .ok (.aload_n 0, 1) := by decide +kernel
theorem dX3_init_53 : decode cX3_init 53 = .ok (.iconst 0, 1) := by decide +kernel
theorem dX3_init_54 : decode cX3_init 54 = .ok (.putfield 30, 3) := by decide +kernel
theorem dX3_init_57 : decode cX3_init 57 = .ok (.aload_n 0, 1) := by decide +kernel
theorem dX3_init_58 : decode cX3_init 58 = .ok (.iconst 0, 1) := by decide +kernel
theorem dX3_init_59 : decode cX3_init 59 = .ok (.putfield 34, 3) := by decide +kernel
theorem dX3_init_62 : decode cX3_init 62 = .ok (.aload_n 0, 1) := by decide +kernel
theorem dX3_init_63 : decode cX3_init 63 = .ok (.iconst 0, 1) := by decide +kernel
theorem dX3_init_64 : decode cX3_init 64 = .ok (.putfield 37, 3) := by decide +kernel
theorem dX3_init_67 : decode cX3_init 67 = .ok (.aload_n 0, 1) := by decide +kernel
theorem dX3_init_68 : decode cX3_init 68 = .ok (.bipush 12, 2) := by decide +kernel
theorem dX3_init_70 : decode cX3_init 70 = .ok (.newarray .int, 2) := by decide +kernel
theorem dX3_init_72 : decode cX3_init 72 = .ok (.putfield 40, 3) := by decide +kernel
theorem dX3_init_75 : decode cX3_init 75 = .ok (.aload_n 0, 1) := by decide +kernel
theorem dX3_init_76 : decode cX3_init 76 = .ok (.bipush 16, 2) := by decide +kernel
theorem dX3_init_78 : decode cX3_init 78 = .ok (.newarray .int, 2) := by decide +kernel
theorem dX3_init_80 : decode cX3_init 80 = .ok (.putfield 43, 3) := by decide +kernel
theorem dX3_init_83 : decode cX3_init 83 = .ok (.aload_n 0, 1) := by decide +kernel
theorem dX3_init_84 : decode cX3_init 84 = .ok (.bipush 16, 2) := by decide +kernel
theorem dX3_init_86 : decode cX3_init 86 = .ok (.newarray .int, 2) := by decide +kernel
theorem dX3_init_88 : decode cX3_init 88 = .ok (.putfield 46, 3) := by decide +kernel
theorem dX3_init_91 : decode cX3_init 91 = .ok (.aload_n 0, 1) := by decide +kernel
theorem dX3_init_92 : decode cX3_init 92 = .ok (.bipush 16, 2) := by decide +kernel
theorem dX3_init_94 : decode cX3_init 94 = .ok (.newarray .int, 2) := by decide +kernel
theorem dX3_init_96 : decode cX3_init 96 = .ok (.putfield 49, 3) := by decide +kernel
theorem dX3_init_99 : decode cX3_init 99 = .ok (.aload_n 0, 1) := by decide +kernel
theorem dX3_init_100 : decode cX3_init 100 = .ok (.bipush 16, 2) := by decide +kernel
theorem dX3_init_102 : decode cX3_init 102 = .ok (.newarray .int, 2) := by decide +kernel
theorem dX3_init_104 : decode cX3_init 104 = .ok (.putfield 52, 3) := by decide +kernel
theorem dX3_init_107 : decode cX3_init 107 = .ok (.aload_n 0, 1) := by decide +kernel
theorem dX3_init_108 : decode cX3_init 108 = .ok (.bipush 16, 2) := by decide +kernel
theorem dX3_init_110 : decode cX3_init 110 = .ok (.newarray .int, 2) := by decide +kernel
theorem dX3_init_112 : decode cX3_init 112 = .ok (.putfield 55, 3) := by decide +kernel
theorem dX3_init_115 : decode cX3_init 115 = .ok (.aload_n 0, 1) := by decide +kernel
theorem dX3_init_116 : decode cX3_init 116 = .ok (.iconst 0, 1) := by decide +kernel
theorem dX3_init_117 : decode cX3_init 117 = .ok (.putfield 58, 3) := by decide +kernel
theorem dX3_init_120 : decode cX3_init 120 = .ok (.return_, 1) := by decide +kernel
theorem dX3_layOut_0 : decode cX3_layOut 0 = .ok (.aload_n 0, 1) := by decide +kernel
theorem dX3_layOut_1 : decode cX3_layOut 1 = .ok (.aload_n 1, 1) := by decide +kernel
theorem dX3_layOut_2 : decode cX3_layOut 2 = .ok (.getfield 61, 3) := by decide +kernel
theorem dX3_layOut_5 : decode cX3_layOut 5 = .ok (.putfield 58, 3) := by decide +kernel
theorem dX3_layOut_8 : decode cX3_layOut 8 = .ok (.aload_n 0, 1) := by decide +kernel
theorem dX3_layOut_9 : decode cX3_layOut 9 = .ok (.iconst 0, 1) := by decide +kernel
theorem dX3_layOut_10 : decode cX3_layOut 10 = .ok (.putfield 30, 3) := by decide +kernel
theorem dX3_layOut_13 : decode cX3_layOut 13 = .ok (.aload_n 0, 1) := by decide +kernel
theorem dX3_layOut_14 : decode cX3_layOut 14 = .ok (.iconst 0, 1) := by decide +kernel
theorem dX3_layOut_15 : decode cX3_layOut 15 = .ok (.putfield 34, 3) := by decide +kernel
theorem dX3_layOut_18 : decode cX3_layOut 18 = .ok (.iconst 0, 1) := by decide +kernel
theorem dX3_layOut_19 : decode cX3_layOut 19 = .ok (.istore_n 3, 1) := by decide +kernel
theorem dX3_layOut_20 : decode cX3_layOut 20 = .ok (.iload_n 3, 1) := by decide +kernel
theorem dX3_layOut_21 : decode cX3_layOut 21 = .ok (.aload_n 0, 1) := by decide +kernel
theorem dX3_layOut_22 : decode cX3_layOut 22 = .ok (.getfield 58, 3) := by decide +kernel
theorem dX3_layOut_25 : decode cX3_layOut 25 = .ok (.if_icmp .ge 29, 3) := by decide +kernel
theorem dX3_layOut_28 : decode cX3_layOut 28 = .ok (.aload_n 0, 1) := by decide +kernel
theorem dX3_layOut_29 : decode cX3_layOut 29 = .ok (.aload_n 1, 1) := by decide +kernel
theorem dX3_layOut_30 : decode cX3_layOut 30 = .ok (.iload_n 3, 1) := by decide +kernel
theorem dX3_layOut_31 : decode cX3_layOut 31 = .ok (.iload_n 2, 1) := by decide +kernel
theorem dX3_layOut_32 : decode cX3_layOut 32 = .ok (.invokevirtual 64, 3) := by decide +kernel
theorem dX3_layOut_35 : decode cX3_layOut 35 = .ok (.aload_n 0, 1) := by decide +kernel
theorem dX3_layOut_36 : decode cX3_layOut 36 = .ok (.getfield 21, 3) := by decide +kernel
theorem dX3_layOut_39 : decode cX3_layOut 39 = .ok (.iload_n 3, 1) := by decide +kernel
theorem dX3_layOut_40 : decode cX3_layOut 40 = .ok (.iconst (-1), 1) := by decide +kernel
theorem dX3_layOut_41 : decode cX3_layOut 41 = .ok (.iastore, 1) := by decide +kernel
theorem dX3_layOut_42 : decode cX3_layOut 42 = .ok (.aload_n 0, 1) := by decide +kernel
theorem dX3_layOut_43 : decode cX3_layOut 43 = .ok (.aload_n 1, 1) := by decide +kernel
theorem dX3_layOut_44 : decode cX3_layOut 44 = .ok (.iload_n 3, 1) := by decide +kernel
theorem dX3_layOut_45 : decode cX3_layOut 45 = .ok (.invokevirtual 68, 3) := by decide +kernel
theorem dX3_layOut_48 : decode cX3_layOut 48 = .ok (.iinc 3 1, 3) := by decide +kernel
theorem dX3_layOut_51 : decode cX3_layOut 51 = .ok (.goto (-31), 3) := by decide +kernel
theorem dX3_layOut_54 : decode cX3_layOut 54 = .ok (.iconst 0, 1) := by decide +kernel
theorem dX3_layOut_55 : decode cX3_layOut 55 = .ok (.istore_n 3, 1) := by decide +kernel
theorem dX3_layOut_56 : decode cX3_layOut 56 = .ok (.iload_n 3, 1) := by decide +kernel
theorem dX3_layOut_57 : decode cX3_layOut 57 = .ok (.aload_n 0, 1) := by decide +kernel
theorem dX3_layOut_58 : decode cX3_layOut 58 = .ok (.getfield 30, 3) := by decide +kernel
theorem dX3_layOut_61 : decode cX3_layOut 61 = .ok (.if_icmp .ge 14, 3) := by decide +kernel
theorem dX3_layOut_64 : decode cX3_layOut 64 = .ok (.aload_n 0, 1) := by decide +kernel
theorem dX3_layOut_65 : decode cX3_layOut 65 = .ok (.iload_n 3, 1) := by decide +kernel
theorem dX3_layOut_66 : decode cX3_layOut 66 = .ok (.invokevirtual 72, 3) := by decide +kernel
theorem dX3_layOut_69 : decode cX3_layOut 69 = .ok (.iinc 3 1, 3) := by decide +kernel
theorem dX3_layOut_72 : decode cX3_layOut 72 = .ok (.goto (-16), 3) := by decide +kernel
theorem dX3_layOut_75 : decode cX3_layOut 75 = .ok (.aload_n 0, 1) := by decide +kernel
theorem dX3_layOut_76 : decode cX3_layOut 76 = .ok (.aload_n 1, 1) := by decide +kernel
theorem dX3_layOut_77 : decode cX3_layOut 77 = .ok (.invokevirtual 76, 3) := by decide +kernel
theorem dX3_layOut_80 : decode cX3_layOut 80 = .ok (.return_, 1) := by decide +kernel
theorem dX3_topOf_0 : decode cX3_topOf 0 = .ok (.aload_n 0, 1) := by decide +kernel
theorem dX3_topOf_1 : decode cX3_topOf 1 = .ok (.getfield 40, 3) := by decide +kernel
theorem dX3_topOf_4 : decode cX3_topOf 4 = .ok (.iload_n 1, 1) := by decide +kernel
theorem dX3_topOf_5 : decode cX3_topOf 5 = .ok (.iaload, 1) := by decide +kernel
theorem dX3_topOf_6 : decode cX3_topOf 6 = .ok (.iconst (-1), 1) := by decide +kernel
theorem dX3_topOf_7 : decode cX3_topOf 7 = .ok (.if_icmp .ne 9, 3) := by decide +kernel
theorem dX3_topOf_10 : decode cX3_topOf 10 = .ok (.sipush (-999), 3) := by decide +kernel
theorem dX3_topOf_13 : decode cX3_topOf 13 = .ok (.goto 9, 3) := by decide +kernel
theorem dX3_topOf_16 : decode cX3_topOf 16 = .ok (.aload_n 0, 1) := by decide +kernel
theorem dX3_topOf_17 : decode cX3_topOf 17 = .ok (.getfield 40, 3) := by decide +kernel
theorem dX3_topOf_20 : decode cX3_topOf 20 = .ok (.iload_n 1, 1) := by decide +kernel
theorem dX3_topOf_21 : decode cX3_topOf 21 = .ok (.iaload, 1) := by decide +kernel
theorem dX3_topOf_22 : decode cX3_topOf 22 = .ok (.ireturn, 1) := by decide +kernel
theorem dX3_measure_0 : decode cX3_measure 0 = .ok (.aload_n 1, 1) := by decide +kernel
theorem dX3_measure_1 : decode cX3_measure 1 = .ok (.iload_n 2, 1) := by decide +kernel
theorem dX3_measure_2 : decode cX3_measure 2 = .ok (.invokevirtual 83, 3) := by decide +kernel
theorem dX3_measure_5 : decode cX3_measure 5 = .ok (.istore 4, 2) := by decide +kernel
theorem dX3_measure_7 : decode cX3_measure 7 = .ok (.aload_n 1, 1) := by decide +kernel
theorem dX3_measure_8 : decode cX3_measure 8 = .ok (.getfield 87, 3) := by decide +kernel
theorem dX3_measure_11 : decode cX3_measure 11 = .ok (.iload 4, 2) := by decide +kernel
theorem dX3_measure_13 : decode cX3_measure 13 = .ok (.invokestatic 90, 3) := by decide +kernel
theorem dX3_measure_16 : decode cX3_measure 16 = .ok (.imul, 1) := by decide +kernel
theorem dX3_measure_17 : decode cX3_measure 17 = .ok (.istore 5, 2) := by decide +kernel
theorem dX3_measure_19 : decode cX3_measure 19 = .ok (.aload_n 0, 1) := by decide +kernel
theorem dX3_measure_20 : decode cX3_measure 20 = .ok (.getfield 15, 3) := by decide +kernel
theorem dX3_measure_23 : decode cX3_measure 23 = .ok (.iload_n 2, 1) := by decide +kernel
theorem dX3_measure_24 : decode cX3_measure 24 = .ok (.aload_n 1, 1) := by decide +kernel
theorem dX3_measure_25 : decode cX3_measure 25 = .ok (.getfield 93, 3) := by decide +kernel
theorem dX3_measure_28 : decode cX3_measure 28 = .ok (.aload_n 1, 1) := by decide +kernel
theorem dX3_measure_29 : decode cX3_measure 29 = .ok (.getfield 96, 3) := by decide +kernel
theorem dX3_measure_32 : decode cX3_measure 32 = .ok (.iload_n 2, 1) := by decide +kernel
theorem dX3_measure_33 : decode cX3_measure 33 = .ok (.iaload, 1) := by decide +kernel
theorem dX3_measure_34 : decode cX3_measure 34 = .ok (.iaload, 1) := by decide +kernel
theorem dX3_measure_35 : decode cX3_measure 35 = .ok (.iastore, 1) := by decide +kernel
theorem dX3_measure_36 : decode cX3_measure 36 = .ok (.aload_n 0, 1) := by decide +kernel
theorem dX3_measure_37 : decode cX3_measure 37 = .ok (.getfield 18, 3) := by decide +kernel
theorem dX3_measure_40 : decode cX3_measure 40 = .ok (.iload_n 2, 1) := by decide +kernel
theorem dX3_measure_41 : decode cX3_measure 41 = .ok (.aload_n 1, 1) := by decide +kernel
theorem dX3_measure_42 : decode cX3_measure 42 = .ok (.getfield 93, 3) := by decide +kernel
theorem dX3_measure_45 : decode cX3_measure 45 = .ok (.aload_n 1, 1) := by decide +kernel
theorem dX3_measure_46 : decode cX3_measure 46 = .ok (.getfield 99, 3) := by decide +kernel
theorem dX3_measure_49 : decode cX3_measure 49 = .ok (.iload_n 2, 1) := by decide +kernel
theorem dX3_measure_50 : decode cX3_measure 50 = .ok (.iaload, 1) := by decide +kernel
theorem dX3_measure_51 : decode cX3_measure 51 = .ok (.iaload, 1) := by decide +kernel
theorem dX3_measure_52 : decode cX3_measure 52 = .ok (.iastore, 1) := by decide +kernel
theorem dX3_measure_53 : decode cX3_measure 53 = .ok (.iload 4, 2) := by decide +kernel
theorem dX3_measure_55 : decode cX3_measure 55 = .ok (.iload 5, 2) := by decide +kernel
theorem dX3_measure_57 : decode cX3_measure 57 = .ok (.iconst 2, 1) := by decide +kernel
theorem dX3_measure_58 : decode cX3_measure 58 = .ok (.iload_n 3, 1) := by decide +kernel
theorem dX3_measure_59 : decode cX3_measure 59 = .ok (.imul, 1) := by decide +kernel
theorem dX3_measure_60 : decode cX3_measure 60 = .ok (.iadd, 1) := by decide +kernel
theorem dX3_measure_61 : decode cX3_measure 61 = .ok (.if_icmp .lt 11, 3) := by decide +kernel
theorem dX3_measure_64 : decode cX3_measure 64 = .ok (.aload_n 0, 1) := by decide +kernel
theorem dX3_measure_65 : decode cX3_measure 65 = .ok (.getfield 9, 3) := by decide +kernel
theorem dX3_measure_68 : decode cX3_measure 68 = .ok (.iload_n 2, 1) := by decide +kernel
theorem dX3_measure_69 : decode cX3_measure 69 = .ok (.iconst 0, 1) := by decide +kernel
theorem dX3_measure_70 : decode cX3_measure 70 = .ok (.iastore, 1) := by decide +kernel
theorem dX3_measure_71 : decode cX3_measure 71 = .ok (.return_, 1) := by decide +kernel
theorem dX3_measure_72 : decode cX3_measure 72 = .ok (.aload_n 0, 1) := by decide +kernel
theorem dX3_measure_73 : decode cX3_measure 73 = .ok (.getfield 9, 3) := by decide +kernel
theorem dX3_measure_76 : decode cX3_measure 76 = .ok (.iload_n 2, 1) := by decide +kernel
theorem dX3_measure_77 : decode cX3_measure 77 = .ok (.iload 4, 2) := by decide +kernel
theorem dX3_measure_79 : decode cX3_measure 79 = .ok (.iload 5, 2) := by decide +kernel
theorem dX3_measure_81 : decode cX3_measure 81 = .ok (.if_icmp .lt 7, 3) := by decide +kernel
theorem dX3_measure_84 : decode cX3_measure 84 = .ok (.iconst 1, 1) := by decide +kernel
theorem dX3_measure_85 : decode cX3_measure 85 = .ok (.goto 4, 3) := by decide +kernel
theorem dX3_measure_88 : decode cX3_measure 88 = .ok (.iconst 2, 1) := by decide +kernel
theorem dX3_measure_89 : decode cX3_measure 89 = .ok (.iastore, 1) := by decide +kernel
theorem dX3_measure_90 : decode cX3_measure 90 = .ok (.aload_n 0, 1) := by decide +kernel
theorem dX3_measure_91 : decode cX3_measure 91 = .ok (.getfield 15, 3) := by decide +kernel
theorem dX3_measure_94 : decode cX3_measure 94 = .ok (.iload_n 2, 1) := by decide +kernel
theorem dX3_measure_95 : decode cX3_measure 95 = .ok (.dup2, 1) := by decide +kernel
theorem dX3_measure_96 : decode cX3_measure 96 = .ok (.iaload, 1) := by decide +kernel
theorem dX3_measure_97 : decode cX3_measure 97 = .ok (.iload_n 3, 1) := by decide +kernel
theorem dX3_measure_98 : decode cX3_measure 98 = .ok (.isub, 1) := by decide +kernel
theorem dX3_measure_99 : decode cX3_measure 99 = .ok (.iastore, 1) := by decide +kernel
theorem dX3_measure_100 : decode cX3_measure 100 = .ok (.aload_n 0, 1) := by decide +kernel
theorem dX3_measure_101 : decode cX3_measure 101 = .ok (.getfield 18, 3) := by decide +kernel
theorem dX3_measure_104 : decode cX3_measure 104 = .ok (.iload_n 2, 1) := by decide +kernel
theorem dX3_measure_105 : decode cX3_measure 105 = .ok (.dup2, 1) := by decide +kernel
theorem dX3_measure_106 : decode cX3_measure 106 = .ok (.iaload, 1) := by decide +kernel
theorem dX3_measure_107 : decode cX3_measure 107 = .ok (.aload_n 0, 1) := by decide +kernel
theorem dX3_measure_108 : decode cX3_measure 108 = .ok (.getfield 9, 3) := by decide +kernel
theorem dX3_measure_111 : decode cX3_measure 111 = .ok (.iload_n 2, 1) := by decide +kernel
theorem dX3_measure_112 : decode cX3_measure 112 = .ok (.iaload, 1) := by decide +kernel
theorem dX3_measure_113 : decode cX3_measure 113 = .ok (.iconst 1, 1) := by decide +kernel
theorem dX3_measure_114 : decode cX3_measure 114 = .ok (.if_icmp .ne 7, 3) := by decide +kernel
theorem dX3_measure_117 : decode cX3_measure 117 = .ok (.iload_n 3, 1) := by decide +kernel
theorem dX3_measure_118 : decode cX3_measure 118 = .ok (.goto 7, 3) := by decide +kernel
theorem dX3_measure_121 : decode cX3_measure 121 = .ok (.iload_n 3, 1) := by decide +kernel
theorem dX3_measure_122 : decode cX3_measure 122 = .ok (.iload 5, 2) := by decide +kernel
theorem dX3_measure_124 : decode cX3_measure 124 = .ok (.iadd, 1) := by decide +kernel
theorem dX3_measure_125 : decode cX3_measure 125 = .ok (.iadd, 1) := by decide +kernel
theorem dX3_measure_126 : decode cX3_measure 126 = .ok (.iastore, 1) := by decide +kernel
theorem dX3_measure_127 : decode cX3_measure 127 = .ok (.return_, 1) := by decide +kernel
theorem dX3_digitsOf_0 : decode cX3_digitsOf 0 = .ok (.iload_n 0, 1) := by decide +kernel
theorem dX3_digitsOf_1 : decode cX3_digitsOf 1 = .ok (.bipush 100, 2) := by decide +kernel
theorem dX3_digitsOf_3 : decode cX3_digitsOf 3 = .ok (.if_icmp .lt 5, 3) := by decide +kernel
theorem dX3_digitsOf_6 : decode cX3_digitsOf 6 = .ok (.iconst 3, 1) := by decide +kernel
theorem dX3_digitsOf_7 : decode cX3_digitsOf 7 = .ok (.ireturn, 1) := by decide +kernel
theorem dX3_digitsOf_8 : decode cX3_digitsOf 8 = .ok (.iload_n 0, 1) := by decide +kernel
theorem dX3_digitsOf_9 : decode cX3_digitsOf 9 = .ok (.bipush 10, 2) := by decide +kernel
theorem dX3_digitsOf_11 : decode cX3_digitsOf 11 = .ok (.if_icmp .lt 7, 3) := by decide +kernel
theorem dX3_digitsOf_14 : decode cX3_digitsOf 14 = .ok (.iconst 2, 1) := by decide +kernel
theorem dX3_digitsOf_15 : decode cX3_digitsOf 15 = .ok (.goto 4, 3) := by decide +kernel
theorem dX3_digitsOf_18 : decode cX3_digitsOf 18 = .ok (.iconst 1, 1) := by decide +kernel
theorem dX3_digitsOf_19 : decode cX3_digitsOf 19 = .ok (.ireturn, 1) := by decide +kernel
theorem dX3_joinUnit_0 : decode cX3_joinUnit 0 = .ok (.aload_n 1, 1) := by decide +kernel
theorem dX3_joinUnit_1 : decode cX3_joinUnit 1 = .ok (.getfield 93, 3) := by decide +kernel
theorem dX3_joinUnit_4 : decode cX3_joinUnit 4 = .ok (.aload_n 1, 1) := by decide +kernel
theorem dX3_joinUnit_5 : decode cX3_joinUnit 5 = .ok (.getfield 96, 3) := by decide +kernel
theorem dX3_joinUnit_8 : decode cX3_joinUnit 8 = .ok (.iload_n 2, 1) := by decide +kernel
theorem dX3_joinUnit_9 : decode cX3_joinUnit 9 = .ok (.iaload, 1) := by decide +kernel
theorem dX3_joinUnit_10 : decode cX3_joinUnit 10 = .ok (.iaload, 1) := by decide +kernel
theorem dX3_joinUnit_11 : decode cX3_joinUnit 11 = .ok (.istore_n 3, 1) := by decide +kernel
theorem dX3_joinUnit_12 : decode cX3_joinUnit 12 = .ok (.aload_n 1, 1) := by decide +kernel
theorem dX3_joinUnit_13 : decode cX3_joinUnit 13 = .ok (.getfield 93, 3) := by decide +kernel
theorem dX3_joinUnit_16 : decode cX3_joinUnit 16 = .ok (.aload_n 1, 1) := by decide +kernel
theorem dX3_joinUnit_17 : decode cX3_joinUnit 17 = .ok (.getfield 99, 3) := by decide +kernel
theorem dX3_joinUnit_20 : decode cX3_joinUnit 20 = .ok (.iload_n 2, 1) := by decide +kernel
theorem dX3_joinUnit_21 : decode cX3_joinUnit 21 = .ok (.iaload, 1) := by decide +kernel
theorem dX3_joinUnit_22 : decode cX3_joinUnit 22 = .ok (.iaload, 1) := by decide +kernel
theorem dX3_joinUnit_23 : decode cX3_joinUnit 23 = .ok (.istore 4, 2) := by decide +kernel
theorem dX3_joinUnit_25 : decode cX3_joinUnit 25 = .ok (.aload_n 1, 1) := by decide +kernel
theorem dX3_joinUnit_26 : decode cX3_joinUnit 26 = .ok (.iload_n 2, 1) := by decide +kernel
theorem dX3_joinUnit_27 : decode cX3_joinUnit 27 = .ok (.invokestatic 102, 3) := by decide +kernel
theorem dX3_joinUnit_30 : decode cX3_joinUnit 30 = .ok (.istore 5, 2) := by decide +kernel
theorem dX3_joinUnit_32 : decode cX3_joinUnit 32 = .ok (.aload_n 0, 1) := by decide +kernel
theorem dX3_joinUnit_33 : decode cX3_joinUnit 33 = .ok (.getfield 43, 3) := by decide +kernel
theorem dX3_joinUnit_36 : decode cX3_joinUnit 36 = .ok (.iload_n 2, 1) := by decide +kernel
theorem dX3_joinUnit_37 : decode cX3_joinUnit 37 = .ok (.iload 5, 2) := by decide +kernel
theorem dX3_joinUnit_39 : decode cX3_joinUnit 39 = .ok (.iastore, 1) := by decide +kernel
theorem dX3_joinUnit_40 : decode cX3_joinUnit 40 = .ok (.iload 5, 2) := by decide +kernel
theorem dX3_joinUnit_42 : decode cX3_joinUnit 42 = .ok (.iload_n 2, 1) := by decide +kernel
theorem dX3_joinUnit_43 : decode cX3_joinUnit 43 = .ok (.if_icmp .ne 51, 3) := by decide +kernel
theorem dX3_joinUnit_46 : decode cX3_joinUnit 46 = .ok (.aload_n 0, 1) := by decide +kernel
theorem dX3_joinUnit_47 : decode cX3_joinUnit 47 = .ok (.getfield 46, 3) := by decide +kernel
theorem dX3_joinUnit_50 : decode cX3_joinUnit 50 = .ok (.iload_n 2, 1) := by decide +kernel
theorem dX3_joinUnit_51 : decode cX3_joinUnit 51 = .ok (.iload_n 3, 1) := by decide +kernel
theorem dX3_joinUnit_52 : decode cX3_joinUnit 52 = .ok (.iastore, 1) := by decide +kernel
theorem dX3_joinUnit_53 : decode cX3_joinUnit 53 = .ok (.aload_n 0, 1) := by decide +kernel
theorem dX3_joinUnit_54 : decode cX3_joinUnit 54 = .ok (.getfield 49, 3) := by decide +kernel
theorem dX3_joinUnit_57 : decode cX3_joinUnit 57 = .ok (.iload_n 2, 1) := by decide +kernel
theorem dX3_joinUnit_58 : decode cX3_joinUnit 58 = .ok (.iload 4, 2) := by decide +kernel
theorem dX3_joinUnit_60 : decode cX3_joinUnit 60 = .ok (.iastore, 1) := by decide +kernel
theorem dX3_joinUnit_61 : decode cX3_joinUnit 61 = .ok (.aload_n 0, 1) := by decide +kernel
theorem dX3_joinUnit_62 : decode cX3_joinUnit 62 = .ok (.getfield 52, 3) := by decide +kernel
theorem dX3_joinUnit_65 : decode cX3_joinUnit 65 = .ok (.iload_n 2, 1) := by decide +kernel
theorem dX3_joinUnit_66 : decode cX3_joinUnit 66 = .ok (.aload_n 1, 1) := by decide +kernel
theorem dX3_joinUnit_67 : decode cX3_joinUnit 67 = .ok (.getfield 106, 3) := by decide +kernel
theorem dX3_joinUnit_70 : decode cX3_joinUnit 70 = .ok (.iload_n 2, 1) := by decide +kernel
theorem dX3_joinUnit_71 : decode cX3_joinUnit 71 = .ok (.iaload, 1) := by decide +kernel
theorem dX3_joinUnit_72 : decode cX3_joinUnit 72 = .ok (.iastore, 1) := by decide +kernel
theorem dX3_joinUnit_73 : decode cX3_joinUnit 73 = .ok (.aload_n 0, 1) := by decide +kernel
theorem dX3_joinUnit_74 : decode cX3_joinUnit 74 = .ok (.getfield 55, 3) := by decide +kernel
theorem dX3_joinUnit_77 : decode cX3_joinUnit 77 = .ok (.aload_n 0, 1) := by decide +kernel
theorem dX3_joinUnit_78 : decode cX3_joinUnit 78 = .ok (.getfield 30, 3) := by decide +kernel
theorem dX3_joinUnit_81 : decode cX3_joinUnit 81 = .ok (.iload_n 2, 1) := by decide +kernel
theorem dX3_joinUnit_82 : decode cX3_joinUnit 82 = .ok (.iastore, 1) := by decide +kernel
theorem dX3_joinUnit_83 : decode cX3_joinUnit 83 = .ok (.aload_n 0, 1) := by decide +kernel
theorem dX3_joinUnit_84 : decode cX3_joinUnit 84 = .ok (.dup, 1) := by decide +kernel
theorem dX3_joinUnit_85 : decode cX3_joinUnit 85 = .ok (.getfield 30, 3) := by decide +kernel
theorem dX3_joinUnit_88 : decode cX3_joinUnit 88 = .ok (.iconst 1, 1) := by decide +kernel
theorem dX3_joinUnit_89 : decode cX3_joinUnit 89 = .ok (.iadd, 1) := by decide +kernel
theorem dX3_joinUnit_90 : decode cX3_joinUnit 90 = .ok (.putfield 30, 3) := by decide +kernel
theorem dX3_joinUnit_93 : decode cX3_joinUnit 93 = .ok (.return_, 1) := by decide +kernel
theorem dX3_joinUnit_94 : decode cX3_joinUnit 94 = .ok (.aload_n 0, 1) := by decide +kernel
theorem dX3_joinUnit_95 : decode cX3_joinUnit 95 = .ok (.getfield 46, 3) := by decide +kernel
theorem dX3_joinUnit_98 : decode cX3_joinUnit 98 = .ok (.iload 5, 2) := by decide +kernel
theorem dX3_joinUnit_100 : decode cX3_joinUnit 100 = .ok (.aload_n 0, 1) := by decide +kernel
theorem dX3_joinUnit_101 : decode cX3_joinUnit 101 = .ok (.getfield 46, 3) := by decide +kernel
theorem dX3_joinUnit_104 : decode cX3_joinUnit 104 = .ok (.iload 5, 2) := by decide +kernel
theorem dX3_joinUnit_106 : decode cX3_joinUnit 106 = .ok (.iaload, 1) := by decide +kernel
theorem dX3_joinUnit_107 : decode cX3_joinUnit 107 = .ok (.iload_n 3, 1) := by decide +kernel
theorem dX3_joinUnit_108 : decode cX3_joinUnit 108 = .ok (.invokestatic 109, 3) := by decide +kernel
theorem dX3_joinUnit_111 : decode cX3_joinUnit 111 = .ok (.iastore, 1) := by decide +kernel
theorem dX3_joinUnit_112 : decode cX3_joinUnit 112 = .ok (.aload_n 0, 1) := by decide +kernel
theorem dX3_joinUnit_113 : decode cX3_joinUnit 113 = .ok (.getfield 49, 3) := by decide +kernel
theorem dX3_joinUnit_116 : decode cX3_joinUnit 116 = .ok (.iload 5, 2) := by decide +kernel
theorem dX3_joinUnit_118 : decode cX3_joinUnit 118 = .ok (.aload_n 0, 1) := by decide +kernel
theorem dX3_joinUnit_119 : decode cX3_joinUnit 119 = .ok (.getfield 49, 3) := by decide +kernel
theorem dX3_joinUnit_122 : decode cX3_joinUnit 122 = .ok (.iload 5, 2) := by decide +kernel
theorem dX3_joinUnit_124 : decode cX3_joinUnit 124 = .ok (.iaload, 1) := by decide +kernel
theorem dX3_joinUnit_125 : decode cX3_joinUnit 125 = .ok (.iload 4, 2) := by decide +kernel
theorem dX3_joinUnit_127 : decode cX3_joinUnit 127 = .ok (.invokestatic 115, 3) := by decide +kernel
theorem dX3_joinUnit_130 : decode cX3_joinUnit 130 = .ok (.iastore, 1) := by decide +kernel
theorem dX3_joinUnit_131 : decode cX3_joinUnit 131 = .ok (.aload_n 0, 1) := by decide +kernel
theorem dX3_joinUnit_132 : decode cX3_joinUnit 132 = .ok (.getfield 52, 3) := by decide +kernel
theorem dX3_joinUnit_135 : decode cX3_joinUnit 135 = .ok (.iload 5, 2) := by decide +kernel
theorem dX3_joinUnit_137 : decode cX3_joinUnit 137 = .ok (.aload_n 0, 1) := by decide +kernel
theorem dX3_joinUnit_138 : decode cX3_joinUnit 138 = .ok (.getfield 52, 3) := by decide +kernel
theorem dX3_joinUnit_141 : decode cX3_joinUnit 141 = .ok (.iload 5, 2) := by decide +kernel
theorem dX3_joinUnit_143 : decode cX3_joinUnit 143 = .ok (.iaload, 1) := by decide +kernel
theorem dX3_joinUnit_144 : decode cX3_joinUnit 144 = .ok (.aload_n 1, 1) := by decide +kernel
theorem dX3_joinUnit_145 : decode cX3_joinUnit 145 = .ok (.getfield 106, 3) := by decide +kernel
theorem dX3_joinUnit_148 : decode cX3_joinUnit 148 = .ok (.iload_n 2, 1) := by decide +kernel
theorem dX3_joinUnit_149 : decode cX3_joinUnit 149 = .ok (.iaload, 1) := by decide +kernel
theorem dX3_joinUnit_150 : decode cX3_joinUnit 150 = .ok (.invokestatic 115, 3) := by decide +kernel
theorem dX3_joinUnit_153 : decode cX3_joinUnit 153 = .ok (.iastore, 1) := by decide +kernel
theorem dX3_joinUnit_154 : decode cX3_joinUnit 154 = .ok (.return_, 1) := by decide +kernel
theorem dX3_leaderOf_0 : decode cX3_leaderOf 0 = .ok (.aload_n 0, 1) := by decide +kernel
theorem dX3_leaderOf_1 : decode cX3_leaderOf 1 = .ok (.getfield 80, 3) := by decide +kernel
theorem dX3_leaderOf_4 : decode cX3_leaderOf 4 = .ok (.iload_n 1, 1) := by decide +kernel
theorem dX3_leaderOf_5 : decode cX3_leaderOf 5 = .ok (.iaload, 1) := by decide +kernel
theorem dX3_leaderOf_6 : decode cX3_leaderOf 6 = .ok (.istore_n 2, 1) := by decide +kernel
theorem dX3_leaderOf_7 : decode cX3_leaderOf 7 = .ok (.iconst 0, 1) := by decide +kernel
theorem dX3_leaderOf_8 : decode cX3_leaderOf 8 = .ok (.istore_n 3, 1) := by decide +kernel
theorem dX3_leaderOf_9 : decode cX3_leaderOf 9 = .ok (.iload_n 2, 1) := by decide +kernel
theorem dX3_leaderOf_10 : decode cX3_leaderOf 10 = .ok (.ifCond .eq 26, 3) := by decide +kernel
theorem dX3_leaderOf_13 : decode cX3_leaderOf 13 = .ok (.iload_n 3, 1) := by decide +kernel
theorem dX3_leaderOf_14 : decode cX3_leaderOf 14 = .ok (.iload_n 1, 1) := by decide +kernel
theorem dX3_leaderOf_15 : decode cX3_leaderOf 15 = .ok (.if_icmp .ge 21, 3) := by decide +kernel
theorem dX3_leaderOf_18 : decode cX3_leaderOf 18 = .ok (.aload_n 0, 1) := by decide +kernel
theorem dX3_leaderOf_19 : decode cX3_leaderOf 19 = .ok (.getfield 80, 3) := by decide +kernel
theorem dX3_leaderOf_22 : decode cX3_leaderOf 22 = .ok (.iload_n 3, 1) := by decide +kernel
theorem dX3_leaderOf_23 : decode cX3_leaderOf 23 = .ok (.iaload, 1) := by decide +kernel
theorem dX3_leaderOf_24 : decode cX3_leaderOf 24 = .ok (.iload_n 2, 1) := by decide +kernel
theorem dX3_leaderOf_25 : decode cX3_leaderOf 25 = .ok (.if_icmp .ne 5, 3) := by decide +kernel
theorem dX3_leaderOf_28 : decode cX3_leaderOf 28 = .ok (.iload_n 3, 1) := by decide +kernel
theorem dX3_leaderOf_29 : decode cX3_leaderOf 29 = .ok (.ireturn, 1) := by decide +kernel
theorem dX3_leaderOf_30 : decode cX3_leaderOf 30 = .ok (.iinc 3 1, 3) := by decide +kernel
theorem dX3_leaderOf_33 : decode cX3_leaderOf 33 = .ok (.goto (-24), 3) := by decide +kernel
theorem dX3_leaderOf_36 : decode cX3_leaderOf 36 = .ok (.iload_n 1, 1) := by decide +kernel
theorem dX3_leaderOf_37 : decode cX3_leaderOf 37 = .ok (.ireturn, 1) := by decide +kernel
theorem dX3_place_0 : decode cX3_place 0 = .ok (.iload_n 1, 1) := by decide +kernel
theorem dX3_place_1 : decode cX3_place 1 = .ok (.iconst 1, 1) := by decide +kernel
theorem dX3_place_2 : decode cX3_place 2 = .ok (.iadd, 1) := by decide +kernel
theorem dX3_place_3 : decode cX3_place 3 = .ok (.istore_n 2, 1) := by decide +kernel
theorem dX3_place_4 : decode cX3_place 4 = .ok (.iload_n 2, 1) := by decide +kernel
theorem dX3_place_5 : decode cX3_place 5 = .ok (.aload_n 0, 1) := by decide +kernel
theorem dX3_place_6 : decode cX3_place 6 = .ok (.getfield 30, 3) := by decide +kernel
theorem dX3_place_9 : decode cX3_place 9 = .ok (.if_icmp .ge 54, 3) := by decide +kernel
theorem dX3_place_12 : decode cX3_place 12 = .ok (.aload_n 0, 1) := by decide +kernel
theorem dX3_place_13 : decode cX3_place 13 = .ok (.aload_n 0, 1) := by decide +kernel
theorem dX3_place_14 : decode cX3_place 14 = .ok (.getfield 55, 3) := by decide +kernel
theorem dX3_place_17 : decode cX3_place 17 = .ok (.iload_n 2, 1) := by decide +kernel
theorem dX3_place_18 : decode cX3_place 18 = .ok (.iaload, 1) := by decide +kernel
theorem dX3_place_19 : decode cX3_place 19 = .ok (.aload_n 0, 1) := by decide +kernel
theorem dX3_place_20 : decode cX3_place 20 = .ok (.getfield 55, 3) := by decide +kernel
theorem dX3_place_23 : decode cX3_place 23 = .ok (.iload_n 1, 1) := by decide +kernel
theorem dX3_place_24 : decode cX3_place 24 = .ok (.iaload, 1) := by decide +kernel
theorem dX3_place_25 : decode cX3_place 25 = .ok (.invokevirtual 118, 3) := by decide +kernel
theorem dX3_place_28 : decode cX3_place 28 = .ok (.ifCond .eq 29, 3) := by decide +kernel
theorem dX3_place_31 : decode cX3_place 31 = .ok (.aload_n 0, 1) := by decide +kernel
theorem dX3_place_32 : decode cX3_place 32 = .ok (.getfield 55, 3) := by decide +kernel
theorem dX3_place_35 : decode cX3_place 35 = .ok (.iload_n 1, 1) := by decide +kernel
theorem dX3_place_36 : decode cX3_place 36 = .ok (.iaload, 1) := by decide +kernel
theorem dX3_place_37 : decode cX3_place 37 = .ok (.istore_n 3, 1) := by decide +kernel
theorem dX3_place_38 : decode cX3_place 38 = .ok (.aload_n 0, 1) := by decide +kernel
theorem dX3_place_39 : decode cX3_place 39 = .ok (.getfield 55, 3) := by decide +kernel
theorem dX3_place_42 : decode cX3_place 42 = .ok (.iload_n 1, 1) := by decide +kernel
theorem dX3_place_43 : decode cX3_place 43 = .ok (.aload_n 0, 1) := by decide +kernel
theorem dX3_place_44 : decode cX3_place 44 = .ok (.getfield 55, 3) := by decide +kernel
theorem dX3_place_47 : decode cX3_place 47 = .ok (.iload_n 2, 1) := by decide +kernel
theorem dX3_place_48 : decode cX3_place 48 = .ok (.iaload, 1) := by decide +kernel
theorem dX3_place_49 : decode cX3_place 49 = .ok (.iastore, 1) := by decide +kernel
theorem dX3_place_50 : decode cX3_place 50 = .ok (.aload_n 0, 1) := by decide +kernel
theorem dX3_place_51 : decode cX3_place 51 = .ok (.getfield 55, 3) := by decide +kernel
theorem dX3_place_54 : decode cX3_place 54 = .ok (.iload_n 2, 1) := by decide +kernel
theorem dX3_place_55 : decode cX3_place 55 = .ok (.iload_n 3, 1) := by decide +kernel
theorem dX3_place_56 : decode cX3_place 56 = .ok (.iastore, 1) := by decide +kernel
theorem dX3_place_57 : decode cX3_place 57 = .ok (.iinc 2 1, 3) := by decide +kernel
theorem dX3_place_60 : decode cX3_place 60 = .ok (.goto (-56), 3) := by decide +kernel
theorem dX3_place_63 : decode cX3_place 63 = .ok (.aload_n 0, 1) := by decide +kernel
theorem dX3_place_64 : decode cX3_place 64 = .ok (.getfield 55, 3) := by decide +kernel
theorem dX3_place_67 : decode cX3_place 67 = .ok (.iload_n 1, 1) := by decide +kernel
theorem dX3_place_68 : decode cX3_place 68 = .ok (.iaload, 1) := by decide +kernel
theorem dX3_place_69 : decode cX3_place 69 = .ok (.istore_n 2, 1) := by decide +kernel
theorem dX3_place_70 : decode cX3_place 70 = .ok (.aload_n 0, 1) := by decide +kernel
theorem dX3_place_71 : decode cX3_place 71 = .ok (.iload_n 2, 1) := by decide +kernel
theorem dX3_place_72 : decode cX3_place 72 = .ok (.iload_n 1, 1) := by decide +kernel
theorem dX3_place_73 : decode cX3_place 73 = .ok (.invokevirtual 122, 3) := by decide +kernel
theorem dX3_place_76 : decode cX3_place 76 = .ok (.istore_n 3, 1) := by decide +kernel
theorem dX3_place_77 : decode cX3_place 77 = .ok (.iconst 0, 1) := by decide +kernel
theorem dX3_place_78 : decode cX3_place 78 = .ok (.istore 4, 2) := by decide +kernel
theorem dX3_place_80 : decode cX3_place 80 = .ok (.iload 4, 2) := by decide +kernel
theorem dX3_place_82 : decode cX3_place 82 = .ok (.aload_n 0, 1) := by decide +kernel
theorem dX3_place_83 : decode cX3_place 83 = .ok (.getfield 58, 3) := by decide +kernel
theorem dX3_place_86 : decode cX3_place 86 = .ok (.if_icmp .ge 28, 3) := by decide +kernel
theorem dX3_place_89 : decode cX3_place 89 = .ok (.aload_n 0, 1) := by decide +kernel
theorem dX3_place_90 : decode cX3_place 90 = .ok (.getfield 43, 3) := by decide +kernel
theorem dX3_place_93 : decode cX3_place 93 = .ok (.iload 4, 2) := by decide +kernel
theorem dX3_place_95 : decode cX3_place 95 = .ok (.iaload, 1) := by decide +kernel
theorem dX3_place_96 : decode cX3_place 96 = .ok (.iload_n 2, 1) := by decide +kernel
theorem dX3_place_97 : decode cX3_place 97 = .ok (.if_icmp .ne 11, 3) := by decide +kernel
theorem dX3_place_100 : decode cX3_place 100 = .ok (.aload_n 0, 1) := by decide +kernel
theorem dX3_place_101 : decode cX3_place 101 = .ok (.getfield 21, 3) := by decide +kernel
theorem dX3_place_104 : decode cX3_place 104 = .ok (.iload 4, 2) := by decide +kernel
theorem dX3_place_106 : decode cX3_place 106 = .ok (.iload_n 3, 1) := by decide +kernel
theorem dX3_place_107 : decode cX3_place 107 = .ok (.iastore, 1) := by decide +kernel
theorem dX3_place_108 : decode cX3_place 108 = .ok (.iinc 4 1, 3) := by decide +kernel
theorem dX3_place_111 : decode cX3_place 111 = .ok (.goto (-31), 3) := by decide +kernel
theorem dX3_place_114 : decode cX3_place 114 = .ok (.aload_n 0, 1) := by decide +kernel
theorem dX3_place_115 : decode cX3_place 115 = .ok (.aload_n 0, 1) := by decide +kernel
theorem dX3_place_116 : decode cX3_place 116 = .ok (.getfield 34, 3) := by decide +kernel
theorem dX3_place_119 : decode cX3_place 119 = .ok (.iload_n 3, 1) := by decide +kernel
theorem dX3_place_120 : decode cX3_place 120 = .ok (.iconst 1, 1) := by decide +kernel
theorem dX3_place_121 : decode cX3_place 121 = .ok (.iadd, 1) := by decide +kernel
theorem dX3_place_122 : decode cX3_place 122 = .ok (.invokestatic 115, 3) := by decide +kernel
theorem dX3_place_125 : decode cX3_place 125 = .ok (.putfield 34, 3) := by decide +kernel
theorem dX3_place_128 : decode cX3_place 128 = .ok (.return_, 1) := by decide +kernel
theorem dX3_comesBefore_0 : decode cX3_comesBefore 0 = .ok (.aload_n 0, 1) := by decide +kernel
theorem dX3_comesBefore_1 : decode cX3_comesBefore 1 = .ok (.getfield 49, 3) := by decide +kernel
theorem dX3_comesBefore_4 : decode cX3_comesBefore 4 = .ok (.iload_n 1, 1) := by decide +kernel
theorem dX3_comesBefore_5 : decode cX3_comesBefore 5 = .ok (.iaload, 1) := by decide +kernel
theorem dX3_comesBefore_6 : decode cX3_comesBefore 6 = .ok (.aload_n 0, 1) := by decide +kernel
theorem dX3_comesBefore_7 : decode cX3_comesBefore 7 = .ok (.getfield 46, 3) := by decide +kernel
theorem dX3_comesBefore_10 : decode cX3_comesBefore 10 = .ok (.iload_n 1, 1) := by decide +kernel
theorem dX3_comesBefore_11 : decode cX3_comesBefore 11 = .ok (.iaload, 1) := by decide +kernel
theorem dX3_comesBefore_12 : decode cX3_comesBefore 12 = .ok (.isub, 1) := by decide +kernel
theorem dX3_comesBefore_13 : decode cX3_comesBefore 13 = .ok (.aload_n 0, 1) := by decide +kernel
theorem dX3_comesBefore_14 : decode cX3_comesBefore 14 = .ok (.getfield 49, 3) := by decide +kernel
theorem dX3_comesBefore_17 : decode cX3_comesBefore 17 = .ok (.iload_n 2, 1) := by decide +kernel
theorem dX3_comesBefore_18 : decode cX3_comesBefore 18 = .ok (.iaload, 1) := by decide +kernel
theorem dX3_comesBefore_19 : decode cX3_comesBefore 19 = .ok (.aload_n 0, 1) := by decide +kernel
theorem dX3_comesBefore_20 : decode cX3_comesBefore 20 = .ok (.getfield 46, 3) := by decide +kernel
theorem dX3_comesBefore_23 : decode cX3_comesBefore 23 = .ok (.iload_n 2, 1) := by decide +kernel
theorem dX3_comesBefore_24 : decode cX3_comesBefore 24 = .ok (.iaload, 1) := by decide +kernel
theorem dX3_comesBefore_25 : decode cX3_comesBefore 25 = .ok (.isub, 1) := by decide +kernel
theorem dX3_comesBefore_26 : decode cX3_comesBefore 26 = .ok (.isub, 1) := by decide +kernel
theorem dX3_comesBefore_27 : decode cX3_comesBefore 27 = .ok (.istore_n 3, 1) := by decide +kernel
theorem dX3_comesBefore_28 : decode cX3_comesBefore 28 = .ok (.iload_n 3, 1) := by decide +kernel
theorem dX3_comesBefore_29 : decode cX3_comesBefore 29 = .ok (.ifCond .eq 13, 3) := by decide +kernel
theorem dX3_comesBefore_32 : decode cX3_comesBefore 32 = .ok (.iload_n 3, 1) := by decide +kernel
theorem dX3_comesBefore_33 : decode cX3_comesBefore 33 = .ok (.ifCond .ge 7, 3) := by decide +kernel
theorem dX3_comesBefore_36 : decode cX3_comesBefore 36 = .ok (.iconst 1, 1) := by decide +kernel
theorem dX3_comesBefore_37 : decode cX3_comesBefore 37 = .ok (.goto 4, 3) := by decide +kernel
theorem dX3_comesBefore_40 : decode cX3_comesBefore 40 = .ok (.iconst 0, 1) := by decide +kernel
theorem dX3_comesBefore_41 : decode cX3_comesBefore 41 = .ok (.ireturn, 1) := by decide +kernel
theorem dX3_comesBefore_42 : decode cX3_comesBefore 42 = .ok (.aload_n 0, 1) := by decide +kernel
theorem dX3_comesBefore_43 : decode cX3_comesBefore 43 = .ok (.getfield 46, 3) := by decide +kernel
theorem dX3_comesBefore_46 : decode cX3_comesBefore 46 = .ok (.iload_n 1, 1) := by decide +kernel
theorem dX3_comesBefore_47 : decode cX3_comesBefore 47 = .ok (.iaload, 1) := by decide +kernel
theorem dX3_comesBefore_48 : decode cX3_comesBefore 48 = .ok (.aload_n 0, 1) := by decide +kernel
theorem dX3_comesBefore_49 : decode cX3_comesBefore 49 = .ok (.getfield 46, 3) := by decide +kernel
theorem dX3_comesBefore_52 : decode cX3_comesBefore 52 = .ok (.iload_n 2, 1) := by decide +kernel
theorem dX3_comesBefore_53 : decode cX3_comesBefore 53 = .ok (.iaload, 1) := by decide +kernel
theorem dX3_comesBefore_54 : decode cX3_comesBefore 54 = .ok (.if_icmp .eq 24, 3) := by decide +kernel
theorem dX3_comesBefore_57 : decode cX3_comesBefore 57 = .ok (.aload_n 0, 1) := by decide +kernel
theorem dX3_comesBefore_58 : decode cX3_comesBefore 58 = .ok (.getfield 46, 3) := by decide +kernel
theorem dX3_comesBefore_61 : decode cX3_comesBefore 61 = .ok (.iload_n 1, 1) := by decide +kernel
theorem dX3_comesBefore_62 : decode cX3_comesBefore 62 = .ok (.iaload, 1) := by decide +kernel
theorem dX3_comesBefore_63 : decode cX3_comesBefore 63 = .ok (.aload_n 0, 1) := by decide +kernel
theorem dX3_comesBefore_64 : decode cX3_comesBefore 64 = .ok (.getfield 46, 3) := by decide +kernel
theorem dX3_comesBefore_67 : decode cX3_comesBefore 67 = .ok (.iload_n 2, 1) := by decide +kernel
theorem dX3_comesBefore_68 : decode cX3_comesBefore 68 = .ok (.iaload, 1) := by decide +kernel
theorem dX3_comesBefore_69 : decode cX3_comesBefore 69 = .ok (.if_icmp .ge 7, 3) := by decide +kernel
theorem dX3_comesBefore_72 : decode cX3_comesBefore 72 = .ok (.iconst 1, 1) := by decide +kernel
theorem dX3_comesBefore_73 : decode cX3_comesBefore 73 = .ok (.goto 4, 3) := by decide +kernel
theorem dX3_comesBefore_76 : decode cX3_comesBefore 76 = .ok (.iconst 0, 1) := by decide +kernel
theorem dX3_comesBefore_77 : decode cX3_comesBefore 77 = .ok (.ireturn, 1) := by decide +kernel
theorem dX3_comesBefore_78 : decode cX3_comesBefore 78 = .ok (.iload_n 1, 1) := by decide +kernel
theorem dX3_comesBefore_79 : decode cX3_comesBefore 79 = .ok (.iload_n 2, 1) := by decide +kernel
theorem dX3_comesBefore_80 : decode cX3_comesBefore 80 = .ok (.if_icmp .ge 7, 3) := by decide +kernel
theorem dX3_comesBefore_83 : decode cX3_comesBefore 83 = .ok (.iconst 1, 1) := by decide +kernel
theorem dX3_comesBefore_84 : decode cX3_comesBefore 84 = .ok (.goto 4, 3) := by decide +kernel
theorem dX3_comesBefore_87 : decode cX3_comesBefore 87 = .ok (.iconst 0, 1) := by decide +kernel
theorem dX3_comesBefore_88 : decode cX3_comesBefore 88 = .ok (.ireturn, 1) := by decide +kernel
theorem dX3_lowestLaneFor_0 : decode cX3_lowestLaneFor 0 = .ok (.aload_n 0, 1) := by decide +kernel
theorem dX3_lowestLaneFor_1 : decode cX3_lowestLaneFor 1 = .ok (.getfield 52, 3) := by decide +kernel
theorem dX3_lowestLaneFor_4 : decode cX3_lowestLaneFor 4 = .ok (.iload_n 1, 1) := by decide +kernel
theorem dX3_lowestLaneFor_5 : decode cX3_lowestLaneFor 5 = .ok (.iaload, 1) := by decide +kernel
theorem dX3_lowestLaneFor_6 : decode cX3_lowestLaneFor 6 = .ok (.istore_n 3, 1) := by decide +kernel
theorem dX3_lowestLaneFor_7 : decode cX3_lowestLaneFor 7 = .ok (.iconst 0, 1) := by decide +kernel
theorem dX3_lowestLaneFor_8 : decode cX3_lowestLaneFor 8 = .ok (.istore 4, 2) := by decide +kernel
theorem dX3_lowestLaneFor_10 : decode cX3_lowestLaneFor 10 = .ok (.iload 4, 2) := by decide +kernel
theorem dX3_lowestLaneFor_12 : decode cX3_lowestLaneFor 12 = .ok (.iload_n 2, 1) := by decide +kernel
theorem dX3_lowestLaneFor_13 : decode cX3_lowestLaneFor 13 = .ok (.if_icmp .ge 64, 3) := by decide +kernel
theorem dX3_lowestLaneFor_16 : decode cX3_lowestLaneFor 16 = .ok (.aload_n 0, 1) := by decide +kernel
theorem dX3_lowestLaneFor_17 : decode cX3_lowestLaneFor 17 = .ok (.getfield 55, 3) := by decide +kernel
theorem dX3_lowestLaneFor_20 : decode cX3_lowestLaneFor 20 = .ok (.iload 4, 2) := by decide +kernel
theorem dX3_lowestLaneFor_22 : decode cX3_lowestLaneFor 22 = .ok (.iaload, 1) := by decide +kernel
theorem dX3_lowestLaneFor_23 : decode cX3_lowestLaneFor 23 = .ok (.istore 5, 2) := by decide +kernel
theorem dX3_lowestLaneFor_25 : decode cX3_lowestLaneFor 25 = .ok (.aload_n 0, 1) := by decide +kernel
theorem dX3_lowestLaneFor_26 : decode cX3_lowestLaneFor 26 = .ok (.getfield 46, 3) := by decide +kernel
theorem dX3_lowestLaneFor_29 : decode cX3_lowestLaneFor 29 = .ok (.iload_n 1, 1) := by decide +kernel
theorem dX3_lowestLaneFor_30 : decode cX3_lowestLaneFor 30 = .ok (.iaload, 1) := by decide +kernel
theorem dX3_lowestLaneFor_31 : decode cX3_lowestLaneFor 31 = .ok (.aload_n 0, 1) := by decide +kernel
theorem dX3_lowestLaneFor_32 : decode cX3_lowestLaneFor 32 = .ok (.getfield 46, 3) := by decide +kernel
theorem dX3_lowestLaneFor_35 : decode cX3_lowestLaneFor 35 = .ok (.iload 5, 2) := by decide +kernel
theorem dX3_lowestLaneFor_37 : decode cX3_lowestLaneFor 37 = .ok (.iaload, 1) := by decide +kernel
theorem dX3_lowestLaneFor_38 : decode cX3_lowestLaneFor 38 = .ok (.if_icmp .gt 33, 3) := by decide +kernel
theorem dX3_lowestLaneFor_41 : decode cX3_lowestLaneFor 41 = .ok (.aload_n 0, 1) := by decide +kernel
theorem dX3_lowestLaneFor_42 : decode cX3_lowestLaneFor 42 = .ok (.getfield 49, 3) := by decide +kernel
theorem dX3_lowestLaneFor_45 : decode cX3_lowestLaneFor 45 = .ok (.iload 5, 2) := by decide +kernel
theorem dX3_lowestLaneFor_47 : decode cX3_lowestLaneFor 47 = .ok (.iaload, 1) := by decide +kernel
theorem dX3_lowestLaneFor_48 : decode cX3_lowestLaneFor 48 = .ok (.aload_n 0, 1) := by decide +kernel
theorem dX3_lowestLaneFor_49 : decode cX3_lowestLaneFor 49 = .ok (.getfield 49, 3) := by decide +kernel
theorem dX3_lowestLaneFor_52 : decode cX3_lowestLaneFor 52 = .ok (.iload_n 1, 1) := by decide +kernel
theorem dX3_lowestLaneFor_53 : decode cX3_lowestLaneFor 53 = .ok (.iaload, 1) := by decide +kernel
theorem dX3_lowestLaneFor_54 : decode cX3_lowestLaneFor 54 = .ok (.if_icmp .gt 17, 3) := by decide +kernel
theorem dX3_lowestLaneFor_57 : decode cX3_lowestLaneFor 57 = .ok (.iload_n 3, 1) := by decide +kernel
theorem dX3_lowestLaneFor_58 : decode cX3_lowestLaneFor 58 = .ok (.aload_n 0, 1) := by decide +kernel
theorem dX3_lowestLaneFor_59 : decode cX3_lowestLaneFor 59 = .ok (.getfield 21, 3) := by decide +kernel
theorem dX3_lowestLaneFor_62 : decode cX3_lowestLaneFor 62 = .ok (.iload 5, 2) := by decide +kernel
theorem dX3_lowestLaneFor_64 : decode cX3_lowestLaneFor 64 = .ok (.iaload, 1) := by decide +kernel
theorem dX3_lowestLaneFor_65 : decode cX3_lowestLaneFor 65 = .ok (.iconst 1, 1) := by decide +kernel
theorem dX3_lowestLaneFor_66 : decode cX3_lowestLaneFor 66 = .ok (.iadd, 1) := by decide +kernel
theorem dX3_lowestLaneFor_67 : decode cX3_lowestLaneFor 67 = .ok (.invokestatic 115, 3) := by decide +kernel
theorem dX3_lowestLaneFor_70 : decode cX3_lowestLaneFor 70 = .ok (.istore_n 3, 1) := by decide +kernel
theorem dX3_lowestLaneFor_71 : decode cX3_lowestLaneFor 71 = .ok (.iinc 4 1, 3) := by decide +kernel
theorem dX3_lowestLaneFor_74 : decode cX3_lowestLaneFor 74 = .ok (.goto (-64), 3) := by decide +kernel
theorem dX3_lowestLaneFor_77 : decode cX3_lowestLaneFor 77 = .ok (.iconst 0, 1) := by decide +kernel
theorem dX3_lowestLaneFor_78 : decode cX3_lowestLaneFor 78 = .ok (.istore 4, 2) := by decide +kernel
theorem dX3_lowestLaneFor_80 : decode cX3_lowestLaneFor 80 = .ok (.iload 4, 2) := by decide +kernel
theorem dX3_lowestLaneFor_82 : decode cX3_lowestLaneFor 82 = .ok (.iload_n 2, 1) := by decide +kernel
theorem dX3_lowestLaneFor_83 : decode cX3_lowestLaneFor 83 = .ok (.if_icmp .ge 21, 3) := by decide +kernel
theorem dX3_lowestLaneFor_86 : decode cX3_lowestLaneFor 86 = .ok (.aload_n 0, 1) := by decide +kernel
theorem dX3_lowestLaneFor_87 : decode cX3_lowestLaneFor 87 = .ok (.iload_n 3, 1) := by decide +kernel
theorem dX3_lowestLaneFor_88 : decode cX3_lowestLaneFor 88 = .ok (.iload_n 1, 1) := by decide +kernel
theorem dX3_lowestLaneFor_89 : decode cX3_lowestLaneFor 89 = .ok (.invokevirtual 125, 3) := by decide +kernel
theorem dX3_lowestLaneFor_92 : decode cX3_lowestLaneFor 92 = .ok (.ifCond .eq 12, 3) := by decide +kernel
theorem dX3_lowestLaneFor_95 : decode cX3_lowestLaneFor 95 = .ok (.iinc 3 1, 3) := by decide +kernel
theorem dX3_lowestLaneFor_98 : decode cX3_lowestLaneFor 98 = .ok (.iinc 4 1, 3) := by decide +kernel
theorem dX3_lowestLaneFor_101 : decode cX3_lowestLaneFor 101 = .ok (.goto (-21), 3) := by decide +kernel
theorem dX3_lowestLaneFor_104 : decode cX3_lowestLaneFor 104 = .ok (.iload_n 3, 1) := by decide +kernel
theorem dX3_lowestLaneFor_105 : decode cX3_lowestLaneFor 105 = .ok (.ireturn, 1) := by decide +kernel
theorem dX3_isTaken_0 : decode cX3_isTaken 0 = .ok (.iconst 0, 1) := by decide +kernel
theorem dX3_isTaken_1 : decode cX3_isTaken 1 = .ok (.istore_n 3, 1) := by decide +kernel
theorem dX3_isTaken_2 : decode cX3_isTaken 2 = .ok (.iload_n 3, 1) := by decide +kernel
theorem dX3_isTaken_3 : decode cX3_isTaken 3 = .ok (.aload_n 0, 1) := by decide +kernel
theorem dX3_isTaken_4 : decode cX3_isTaken 4 = .ok (.getfield 58, 3) := by decide +kernel
theorem dX3_isTaken_7 : decode cX3_isTaken 7 = .ok (.if_icmp .ge 82, 3) := by decide +kernel
theorem dX3_isTaken_10 : decode cX3_isTaken 10 = .ok (.iconst 0, 1) := by decide +kernel
theorem dX3_isTaken_11 : decode cX3_isTaken 11 = .ok (.istore 4, 2) := by decide +kernel
theorem dX3_isTaken_13 : decode cX3_isTaken 13 = .ok (.aload_n 0, 1) := by decide +kernel
theorem dX3_isTaken_14 : decode cX3_isTaken 14 = .ok (.getfield 43, 3) := by decide +kernel
theorem dX3_isTaken_17 : decode cX3_isTaken 17 = .ok (.iload_n 3, 1) := by decide +kernel
theorem dX3_isTaken_18 : decode cX3_isTaken 18 = .ok (.iaload, 1) := by decide +kernel
theorem dX3_isTaken_19 : decode cX3_isTaken 19 = .ok (.iload_n 2, 1) := by decide +kernel
theorem dX3_isTaken_20 : decode cX3_isTaken 20 = .ok (.if_icmp .ne 63, 3) := by decide +kernel
theorem dX3_isTaken_23 : decode cX3_isTaken 23 = .ok (.iload 4, 2) := by decide +kernel
theorem dX3_isTaken_25 : decode cX3_isTaken 25 = .ok (.aload_n 0, 1) := by decide +kernel
theorem dX3_isTaken_26 : decode cX3_isTaken 26 = .ok (.getfield 58, 3) := by decide +kernel
theorem dX3_isTaken_29 : decode cX3_isTaken 29 = .ok (.if_icmp .ge 54, 3) := by decide +kernel
theorem dX3_isTaken_32 : decode cX3_isTaken 32 = .ok (.aload_n 0, 1) := by decide +kernel
theorem dX3_isTaken_33 : decode cX3_isTaken 33 = .ok (.getfield 21, 3) := by decide +kernel
theorem dX3_isTaken_36 : decode cX3_isTaken 36 = .ok (.iload 4, 2) := by decide +kernel
theorem dX3_isTaken_38 : decode cX3_isTaken 38 = .ok (.iaload, 1) := by decide +kernel
theorem dX3_isTaken_39 : decode cX3_isTaken 39 = .ok (.iload_n 1, 1) := by decide +kernel
theorem dX3_isTaken_40 : decode cX3_isTaken 40 = .ok (.if_icmp .ne 37, 3) := by decide +kernel
theorem dX3_isTaken_43 : decode cX3_isTaken 43 = .ok (.aload_n 0, 1) := by decide +kernel
theorem dX3_isTaken_44 : decode cX3_isTaken 44 = .ok (.getfield 15, 3) := by decide +kernel
theorem dX3_isTaken_47 : decode cX3_isTaken 47 = .ok (.iload 4, 2) := by decide +kernel
theorem dX3_isTaken_49 : decode cX3_isTaken 49 = .ok (.iaload, 1) := by decide +kernel
theorem dX3_isTaken_50 : decode cX3_isTaken 50 = .ok (.aload_n 0, 1) := by decide +kernel
theorem dX3_isTaken_51 : decode cX3_isTaken 51 = .ok (.getfield 18, 3) := by decide +kernel
theorem dX3_isTaken_54 : decode cX3_isTaken 54 = .ok (.iload_n 3, 1) := by decide +kernel
theorem dX3_isTaken_55 : decode cX3_isTaken 55 = .ok (.iaload, 1) := by decide +kernel
theorem dX3_isTaken_56 : decode cX3_isTaken 56 = .ok (.if_icmp .gt 21, 3) := by decide +kernel
theorem dX3_isTaken_59 : decode cX3_isTaken 59 = .ok (.aload_n 0, 1) := by decide +kernel
theorem dX3_isTaken_60 : decode cX3_isTaken 60 = .ok (.getfield 15, 3) := by decide +kernel
theorem dX3_isTaken_63 : decode cX3_isTaken 63 = .ok (.iload_n 3, 1) := by decide +kernel
theorem dX3_isTaken_64 : decode cX3_isTaken 64 = .ok (.iaload, 1) := by decide +kernel
theorem dX3_isTaken_65 : decode cX3_isTaken 65 = .ok (.aload_n 0, 1) := by decide +kernel
theorem dX3_isTaken_66 : decode cX3_isTaken 66 = .ok (.getfield 18, 3) := by decide +kernel
theorem dX3_isTaken_69 : decode cX3_isTaken 69 = .ok (.iload 4, 2) := by decide +kernel
theorem dX3_isTaken_71 : decode cX3_isTaken 71 = .ok (.iaload, 1) := by decide +kernel
theorem dX3_isTaken_72 : decode cX3_isTaken 72 = .ok (.if_icmp .gt 5, 3) := by decide +kernel
theorem dX3_isTaken_75 : decode cX3_isTaken 75 = .ok (.iconst 1, 1) := by decide +kernel
theorem dX3_isTaken_76 : decode cX3_isTaken 76 = .ok (.ireturn, 1) := by decide +kernel
theorem dX3_isTaken_77 : decode cX3_isTaken 77 = .ok (.iinc 4 1, 3) := by decide +kernel
theorem dX3_isTaken_80 : decode cX3_isTaken 80 = .ok (.goto (-67), 3) := by decide +kernel
theorem dX3_isTaken_83 : decode cX3_isTaken 83 = .ok (.iinc 3 1, 3) := by decide +kernel
theorem dX3_isTaken_86 : decode cX3_isTaken 86 = .ok (.goto (-84), 3) := by decide +kernel
theorem dX3_isTaken_89 : decode cX3_isTaken 89 = .ok (.iconst 0, 1) := by decide +kernel
theorem dX3_isTaken_90 : decode cX3_isTaken 90 = .ok (.ireturn, 1) := by decide +kernel
theorem dX3_drawWitnessLines_0 : decode cX3_drawWitnessLines 0 = .ok (.aload_n 0, 1) := by decide +kernel
theorem dX3_drawWitnessLines_1 : decode cX3_drawWitnessLines 1 = .ok (.iconst 0, 1) := by decide +kernel
theorem dX3_drawWitnessLines_2 : decode cX3_drawWitnessLines 2 = .ok (.putfield 37, 3) := by decide +kernel
theorem dX3_drawWitnessLines_5 : decode cX3_drawWitnessLines 5 = .ok (.aload_n 0, 1) := by decide +kernel
theorem dX3_drawWitnessLines_6 : decode cX3_drawWitnessLines 6 = .ok (.getfield 24, 3) := by decide +kernel
theorem dX3_drawWitnessLines_9 : decode cX3_drawWitnessLines 9 = .ok (.iconst 0, 1) := by decide +kernel
theorem dX3_drawWitnessLines_10 : decode cX3_drawWitnessLines 10 = .ok (.invokestatic 128, 3) := by decide +kernel
theorem dX3_drawWitnessLines_13 : decode cX3_drawWitnessLines 13 = .ok (.iconst 0, 1) := by decide +kernel
theorem dX3_drawWitnessLines_14 : decode cX3_drawWitnessLines 14 = .ok (.istore_n 2, 1) := by decide +kernel
theorem dX3_drawWitnessLines_15 : decode cX3_drawWitnessLines 15 = .ok (.iload_n 2, 1) := by decide +kernel
theorem dX3_drawWitnessLines_16 : decode cX3_drawWitnessLines 16 = .ok (.aload_n 1, 1) := by decide +kernel
theorem dX3_drawWitnessLines_17 : decode cX3_drawWitnessLines 17 = .ok (.getfield 134, 3) := by decide +kernel
theorem dX3_drawWitnessLines_20 : decode cX3_drawWitnessLines 20 = .ok (.if_icmp .ge 68, 3) := by decide +kernel
theorem dX3_drawWitnessLines_23 : decode cX3_drawWitnessLines 23 = .ok (.aload_n 0, 1) := by decide +kernel
theorem dX3_drawWitnessLines_24 : decode cX3_drawWitnessLines 24 = .ok (.getfield 40, 3) := by decide +kernel
theorem dX3_drawWitnessLines_27 : decode cX3_drawWitnessLines 27 = .ok (.iload_n 2, 1) := by decide +kernel
theorem dX3_drawWitnessLines_28 : decode cX3_drawWitnessLines 28 = .ok (.iconst (-1), 1) := by decide +kernel
theorem dX3_drawWitnessLines_29 : decode cX3_drawWitnessLines 29 = .ok (.iastore, 1) := by decide +kernel
theorem dX3_drawWitnessLines_30 : decode cX3_drawWitnessLines 30 = .ok (.iconst 0, 1) := by decide +kernel
theorem dX3_drawWitnessLines_31 : decode cX3_drawWitnessLines 31 = .ok (.istore_n 3, 1) := by decide +kernel
theorem dX3_drawWitnessLines_32 : decode cX3_drawWitnessLines 32 = .ok (.iload_n 3, 1) := by decide +kernel
theorem dX3_drawWitnessLines_33 : decode cX3_drawWitnessLines 33 = .ok (.aload_n 0, 1) := by decide +kernel
theorem dX3_drawWitnessLines_34 : decode cX3_drawWitnessLines 34 = .ok (.getfield 58, 3) := by decide +kernel
theorem dX3_drawWitnessLines_37 : decode cX3_drawWitnessLines 37 = .ok (.if_icmp .ge 39, 3) := by decide +kernel
theorem dX3_drawWitnessLines_40 : decode cX3_drawWitnessLines 40 = .ok (.aload_n 1, 1) := by decide +kernel
theorem dX3_drawWitnessLines_41 : decode cX3_drawWitnessLines 41 = .ok (.iload_n 3, 1) := by decide +kernel
theorem dX3_drawWitnessLines_42 : decode cX3_drawWitnessLines 42 = .ok (.iload_n 2, 1) := by decide +kernel
theorem dX3_drawWitnessLines_43 : decode cX3_drawWitnessLines 43 = .ok (.invokevirtual 137, 3) := by decide +kernel
theorem dX3_drawWitnessLines_46 : decode cX3_drawWitnessLines 46 = .ok (.ifCond .eq 24, 3) := by decide +kernel
theorem dX3_drawWitnessLines_49 : decode cX3_drawWitnessLines 49 = .ok (.aload_n 0, 1) := by decide +kernel
theorem dX3_drawWitnessLines_50 : decode cX3_drawWitnessLines 50 = .ok (.getfield 40, 3) := by decide +kernel
theorem dX3_drawWitnessLines_53 : decode cX3_drawWitnessLines 53 = .ok (.iload_n 2, 1) := by decide +kernel
theorem dX3_drawWitnessLines_54 : decode cX3_drawWitnessLines 54 = .ok (.aload_n 0, 1) := by decide +kernel
theorem dX3_drawWitnessLines_55 : decode cX3_drawWitnessLines 55 = .ok (.getfield 40, 3) := by decide +kernel
theorem dX3_drawWitnessLines_58 : decode cX3_drawWitnessLines 58 = .ok (.iload_n 2, 1) := by decide +kernel
theorem dX3_drawWitnessLines_59 : decode cX3_drawWitnessLines 59 = .ok (.iaload, 1) := by decide +kernel
theorem dX3_drawWitnessLines_60 : decode cX3_drawWitnessLines 60 = .ok (.aload_n 0, 1) := by decide +kernel
theorem dX3_drawWitnessLines_61 : decode cX3_drawWitnessLines 61 = .ok (.getfield 21, 3) := by decide +kernel
theorem dX3_drawWitnessLines_64 : decode cX3_drawWitnessLines 64 = .ok (.iload_n 3, 1) := by decide +kernel
theorem dX3_drawWitnessLines_65 : decode cX3_drawWitnessLines 65 = .ok (.iaload, 1) := by decide +kernel
theorem dX3_drawWitnessLines_66 : decode cX3_drawWitnessLines 66 = .ok (.invokestatic 115, 3) := by decide +kernel
theorem dX3_drawWitnessLines_69 : decode cX3_drawWitnessLines 69 = .ok (.iastore, 1) := by decide +kernel
theorem dX3_drawWitnessLines_70 : decode cX3_drawWitnessLines 70 = .ok (.iinc 3 1, 3) := by decide +kernel
theorem dX3_drawWitnessLines_73 : decode cX3_drawWitnessLines 73 = .ok (.goto (-41), 3) := by decide +kernel
theorem dX3_drawWitnessLines_76 : decode cX3_drawWitnessLines 76 = .ok (.aload_n 0, 1) := by decide +kernel
theorem dX3_drawWitnessLines_77 : decode cX3_drawWitnessLines 77 = .ok (.aload_n 1, 1) := by decide +kernel
theorem dX3_drawWitnessLines_78 : decode cX3_drawWitnessLines 78 = .ok (.iload_n 2, 1) := by decide +kernel
theorem dX3_drawWitnessLines_79 : decode cX3_drawWitnessLines 79 = .ok (.invokevirtual 140, 3) := by decide +kernel
theorem dX3_drawWitnessLines_82 : decode cX3_drawWitnessLines 82 = .ok (.iinc 2 1, 3) := by decide +kernel
theorem dX3_drawWitnessLines_85 : decode cX3_drawWitnessLines 85 = .ok (.goto (-70), 3) := by decide +kernel
theorem dX3_drawWitnessLines_88 : decode cX3_drawWitnessLines 88 = .ok (.return_, 1) := by decide +kernel
theorem dX3_countCrossings_0 : decode cX3_countCrossings 0 = .ok (.aload_n 0, 1) := by decide +kernel
theorem dX3_countCrossings_1 : decode cX3_countCrossings 1 = .ok (.getfield 27, 3) := by decide +kernel
theorem dX3_countCrossings_4 : decode cX3_countCrossings 4 = .ok (.iload_n 2, 1) := by decide +kernel
theorem dX3_countCrossings_5 : decode cX3_countCrossings 5 = .ok (.iconst 0, 1) := by decide +kernel
theorem dX3_countCrossings_6 : decode cX3_countCrossings 6 = .ok (.iastore, 1) := by decide +kernel
theorem dX3_countCrossings_7 : decode cX3_countCrossings 7 = .ok (.iconst 0, 1) := by decide +kernel
theorem dX3_countCrossings_8 : decode cX3_countCrossings 8 = .ok (.istore_n 3, 1) := by decide +kernel
theorem dX3_countCrossings_9 : decode cX3_countCrossings 9 = .ok (.iload_n 3, 1) := by decide +kernel
theorem dX3_countCrossings_10 : decode cX3_countCrossings 10 = .ok (.aload_n 0, 1) := by decide +kernel
theorem dX3_countCrossings_11 : decode cX3_countCrossings 11 = .ok (.getfield 58, 3) := by decide +kernel
theorem dX3_countCrossings_14 : decode cX3_countCrossings 14 = .ok (.if_icmp .ge 74, 3) := by decide +kernel
theorem dX3_countCrossings_17 : decode cX3_countCrossings 17 = .ok (.aload_n 0, 1) := by decide +kernel
theorem dX3_countCrossings_18 : decode cX3_countCrossings 18 = .ok (.getfield 21, 3) := by decide +kernel
theorem dX3_countCrossings_21 : decode cX3_countCrossings 21 = .ok (.iload_n 3, 1) := by decide +kernel
theorem dX3_countCrossings_22 : decode cX3_countCrossings 22 = .ok (.iaload, 1) := by decide +kernel
theorem dX3_countCrossings_23 : decode cX3_countCrossings 23 = .ok (.aload_n 0, 1) := by decide +kernel
theorem dX3_countCrossings_24 : decode cX3_countCrossings 24 = .ok (.getfield 40, 3) := by decide +kernel
theorem dX3_countCrossings_27 : decode cX3_countCrossings 27 = .ok (.iload_n 2, 1) := by decide +kernel
theorem dX3_countCrossings_28 : decode cX3_countCrossings 28 = .ok (.iaload, 1) := by decide +kernel
theorem dX3_countCrossings_29 : decode cX3_countCrossings 29 = .ok (.if_icmp .ge 53, 3) := by decide +kernel
theorem dX3_countCrossings_32 : decode cX3_countCrossings 32 = .ok (.aload_n 1, 1) := by decide +kernel
theorem dX3_countCrossings_33 : decode cX3_countCrossings 33 = .ok (.getfield 96, 3) := by decide +kernel
theorem dX3_countCrossings_36 : decode cX3_countCrossings 36 = .ok (.iload_n 3, 1) := by decide +kernel
theorem dX3_countCrossings_37 : decode cX3_countCrossings 37 = .ok (.iaload, 1) := by decide +kernel
theorem dX3_countCrossings_38 : decode cX3_countCrossings 38 = .ok (.iload_n 2, 1) := by decide +kernel
theorem dX3_countCrossings_39 : decode cX3_countCrossings 39 = .ok (.if_icmp .ge 43, 3) := by decide +kernel
theorem dX3_countCrossings_42 : decode cX3_countCrossings 42 = .ok (.iload_n 2, 1) := by decide +kernel
theorem dX3_countCrossings_43 : decode cX3_countCrossings 43 = .ok (.aload_n 1, 1) := by decide +kernel
theorem dX3_countCrossings_44 : decode cX3_countCrossings 44 = .ok (.getfield 99, 3) := by decide +kernel
theorem dX3_countCrossings_47 : decode cX3_countCrossings 47 = .ok (.iload_n 3, 1) := by decide +kernel
theorem dX3_countCrossings_48 : decode cX3_countCrossings 48 = .ok (.iaload, 1) := by decide +kernel
theorem dX3_countCrossings_49 : decode cX3_countCrossings 49 = .ok (.if_icmp .ge 33, 3) := by decide +kernel
theorem dX3_countCrossings_52 : decode cX3_countCrossings 52 = .ok (.aload_n 0, 1) := by decide +kernel
theorem dX3_countCrossings_53 : decode cX3_countCrossings 53 = .ok (.getfield 27, 3) := by decide +kernel
theorem dX3_countCrossings_56 : decode cX3_countCrossings 56 = .ok (.iload_n 2, 1) := by decide +kernel
theorem dX3_countCrossings_57 : decode cX3_countCrossings 57 = .ok (.dup2, 1) := by decide +kernel
theorem dX3_countCrossings_58 : decode cX3_countCrossings 58 = .ok (.iaload, 1) := by decide +kernel
theorem dX3_countCrossings_59 : decode cX3_countCrossings 59 = .ok (.iconst 1, 1) := by decide +kernel
theorem dX3_countCrossings_60 : decode cX3_countCrossings 60 = .ok (.iadd, 1) := by decide +kernel
theorem dX3_countCrossings_61 : decode cX3_countCrossings 61 = .ok (.iastore, 1) := by decide +kernel
theorem dX3_countCrossings_62 : decode cX3_countCrossings 62 = .ok (.aload_n 0, 1) := by decide +kernel
theorem dX3_countCrossings_63 : decode cX3_countCrossings 63 = .ok (.getfield 24, 3) := by decide +kernel
theorem dX3_countCrossings_66 : decode cX3_countCrossings 66 = .ok (.iload_n 3, 1) := by decide +kernel
theorem dX3_countCrossings_67 : decode cX3_countCrossings 67 = .ok (.dup2, 1) := by decide +kernel
theorem dX3_countCrossings_68 : decode cX3_countCrossings 68 = .ok (.iaload, 1) := by decide +kernel
theorem dX3_countCrossings_69 : decode cX3_countCrossings 69 = .ok (.iconst 1, 1) := by decide +kernel
theorem dX3_countCrossings_70 : decode cX3_countCrossings 70 = .ok (.iadd, 1) := by decide +kernel
theorem dX3_countCrossings_71 : decode cX3_countCrossings 71 = .ok (.iastore, 1) := by decide +kernel
theorem dX3_countCrossings_72 : decode cX3_countCrossings 72 = .ok (.aload_n 0, 1) := by decide +kernel
theorem dX3_countCrossings_73 : decode cX3_countCrossings 73 = .ok (.dup, 1) := by decide +kernel
theorem dX3_countCrossings_74 : decode cX3_countCrossings 74 = .ok (.getfield 37, 3) := by decide +kernel
theorem dX3_countCrossings_77 : decode cX3_countCrossings 77 = .ok (.iconst 1, 1) := by decide +kernel
theorem dX3_countCrossings_78 : decode cX3_countCrossings 78 = .ok (.iadd, 1) := by decide +kernel
theorem dX3_countCrossings_79 : decode cX3_countCrossings 79 = .ok (.putfield 37, 3) := by decide +kernel
theorem dX3_countCrossings_82 : decode cX3_countCrossings 82 = .ok (.iinc 3 1, 3) := by decide +kernel
theorem dX3_countCrossings_85 : decode cX3_countCrossings 85 = .ok (.goto (-76), 3) := by decide +kernel
theorem dX3_countCrossings_88 : decode cX3_countCrossings 88 = .ok (.return_, 1) := by decide +kernel
