theorem dX0_init_0 : decode cX0_init 0 = .ok (.aload_n 0, 1) := by decide +kernel
theorem dX0_init_1 : decode cX0_init 1 = .ok (.invokespecial 3, 3) := by decide +kernel
theorem dX0_init_4 : decode cX0_init 4 = .ok (.aload_n 0, 1) := by decide +kernel
theorem dX0_init_5 : decode cX0_init 5 = .ok (.bipush 12, 2) := by decide +kernel
theorem dX0_init_7 : decode cX0_init 7 = .ok (.bipush 12, 2) := by decide +kernel
theorem dX0_init_9 : decode cX0_init 9 = .ok (.multianewarray 9 2, 4) := by decide +kernel
theorem dX0_init_13 : decode cX0_init 13 = .ok (.putfield 11, 3) := by decide +kernel
theorem dX0_init_16 : decode cX0_init 16 = .ok (.aload_n 0, 1) := by decide +kernel
theorem dX0_init_17 : decode cX0_init 17 = .ok (.bipush 12, 2) := by decide +kernel
theorem dX0_init_19 : decode cX0_init 19 = .ok (.newarray .int, 2) := by decide +kernel
theorem dX0_init_21 : decode cX0_init 21 = .ok (.putfield 16, 3) := by decide +kernel
theorem dX0_init_24 : decode cX0_init 24 = .ok (.aload_n 0, 1) := by decide +kernel
theorem dX0_init_25 : decode cX0_init 25 = .ok (.bipush 16, 2) := by decide +kernel
theorem dX0_init_27 : decode cX0_init 27 = .ok (.newarray .boolean, 2) := by decide +kernel
theorem dX0_init_29 : decode cX0_init 29 = .ok (.putfield 20, 3) := by decide +kernel
theorem dX0_init_32 : decode cX0_init 32 = .ok (.aload_n 0, 1) := by decide +kernel
theorem dX0_init_33 : decode cX0_init 33 = .ok (.iconst 0, 1) := by decide +kernel
theorem dX0_init_34 : decode cX0_init 34 = .ok (.putfield 24, 3) := by decide +kernel
theorem dX0_init_37 : decode cX0_init 37 = .ok (.aload_n 0, 1) := by decide +kernel
theorem dX0_init_38 : decode cX0_init 38 = .ok (.iconst 0, 1) := by decide +kernel
theorem dX0_init_39 : decode cX0_init 39 = .ok (.putfield 28, 3) := by decide +kernel
theorem dX0_init_42 : decode cX0_init 42 = .ok (.aload_n 0, 1) := by decide +kernel
theorem dX0_init_43 : decode cX0_init 43 = .ok (.iconst 0, 1) := by decide +kernel
theorem dX0_init_44 : decode cX0_init 44 = .ok (.putfield 31, 3) := by decide +kernel
theorem dX0_init_47 : decode cX0_init 47 = .ok (.aload_n 0, 1) := by decide +kernel
theorem dX0_init_48 : decode cX0_init 48 = .ok (.bipush 16, 2) := by decide +kernel
theorem dX0_init_50 : decode cX0_init 50 = .ok (.newarray .boolean, 2) := by decide +kernel
theorem dX0_init_52 : decode cX0_init 52 = .ok (.putfield 34, 3) := by decide +kernel
theorem dX0_init_55 : decode cX0_init 55 = .ok (.aload_n 0, 1) := by decide +kernel
theorem dX0_init_56 : decode cX0_init 56 = .ok (.bipush 12, 2) := by decide +kernel
theorem dX0_init_58 : decode cX0_init 58 = .ok (.newarray .int, 2) := by decide +kernel
theorem dX0_init_60 : decode cX0_init 60 = .ok (.putfield 37, 3) := by decide +kernel
theorem dX0_init_63 : decode cX0_init 63 = .ok (.aload_n 0, 1) := by decide +kernel
theorem dX0_init_64 : decode cX0_init 64 = .ok (.bipush 32, 2) := by decide +kernel
theorem dX0_init_66 : decode cX0_init 66 = .ok (.newarray .int, 2) := by decide +kernel
theorem dX0_init_68 : decode cX0_init 68 = .ok (.putfield 40, 3) := by decide +kernel
theorem dX0_init_71 : decode cX0_init 71 = .ok (.aload_n 0, 1) := by decide +kernel
theorem dX0_init_72 : decode cX0_init 72 = .ok (.bipush 32, 2) := by decide +kernel
theorem dX0_init_74 : decode cX0_init 74 = .ok (.newarray .int, 2) := by decide +kernel
theorem dX0_init_76 : decode cX0_init 76 = .ok (.putfield 43, 3) := by decide +kernel
theorem dX0_init_79 : decode cX0_init 79 = .ok (.aload_n 0, 1) := by decide +kernel
theorem dX0_init_80 : decode cX0_init 80 = .ok (.bipush 32, 2) := by decide +kernel
theorem dX0_init_82 : decode cX0_init 82 = .ok (.newarray .int, 2) := by decide +kernel
theorem dX0_init_84 : decode cX0_init 84 = .ok (.putfield 46, 3) := by decide +kernel
theorem dX0_init_87 : decode cX0_init 87 = .ok (.return_, 1) := by decide +kernel
theorem dX0_workOut_0 : decode cX0_workOut 0 = .ok (.aload_n 0, 1) := by decide +kernel
theorem dX0_workOut_1 : decode cX0_workOut 1 = .ok (.aload_n 1, 1) := by decide +kernel
theorem dX0_workOut_2 : decode cX0_workOut 2 = .ok (.invokevirtual 49, 3) := by decide +kernel
theorem dX0_workOut_5 : decode cX0_workOut 5 = .ok (.aload_n 0, 1) := by decide +kernel
theorem dX0_workOut_6 : decode cX0_workOut 6 = .ok (.invokevirtual 53, 3) := by decide +kernel
theorem dX0_workOut_9 : decode cX0_workOut 9 = .ok (.iconst 0, 1) := by decide +kernel
theorem dX0_workOut_10 : decode cX0_workOut 10 = .ok (.istore_n 2, 1) := by decide +kernel
theorem dX0_workOut_11 : decode cX0_workOut 11 = .ok (.iload_n 2, 1) := by decide +kernel
theorem dX0_workOut_12 : decode cX0_workOut 12 = .ok (.aload_n 1, 1) := by decide +kernel
theorem dX0_workOut_13 : decode cX0_workOut 13 = .ok (.getfield 56, 3) := by decide +kernel
theorem dX0_workOut_16 : decode cX0_workOut 16 = .ok (.if_icmp .ge 20, 3) := by decide +kernel
theorem dX0_workOut_19 : decode cX0_workOut 19 = .ok (.aload_n 0, 1) := by decide +kernel
theorem dX0_workOut_20 : decode cX0_workOut 20 = .ok (.iload_n 2, 1) := by decide +kernel
theorem dX0_workOut_21 : decode cX0_workOut 21 = .ok (.aload_n 0, 1) := by decide +kernel
theorem dX0_workOut_22 : decode cX0_workOut 22 = .ok (.getfield 11, 3) := by decide +kernel
theorem dX0_workOut_25 : decode cX0_workOut 25 = .ok (.iload_n 2, 1) := by decide +kernel
theorem dX0_workOut_26 : decode cX0_workOut 26 = .ok (.aaload, 1) := by decide +kernel
theorem dX0_workOut_27 : decode cX0_workOut 27 = .ok (.invokevirtual 61, 3) := by decide +kernel
theorem dX0_workOut_30 : decode cX0_workOut 30 = .ok (.iinc 2 1, 3) := by decide +kernel
theorem dX0_workOut_33 : decode cX0_workOut 33 = .ok (.goto (-22), 3) := by decide +kernel
theorem dX0_workOut_36 : decode cX0_workOut 36 = .ok (.aload_n 0, 1) := by decide +kernel
theorem dX0_workOut_37 : decode cX0_workOut 37 = .ok (.aload_n 1, 1) := by decide +kernel
theorem dX0_workOut_38 : decode cX0_workOut 38 = .ok (.getfield 56, 3) := by decide +kernel
theorem dX0_workOut_41 : decode cX0_workOut 41 = .ok (.invokevirtual 65, 3) := by decide +kernel
theorem dX0_workOut_44 : decode cX0_workOut 44 = .ok (.aload_n 0, 1) := by decide +kernel
theorem dX0_workOut_45 : decode cX0_workOut 45 = .ok (.iconst 0, 1) := by decide +kernel
theorem dX0_workOut_46 : decode cX0_workOut 46 = .ok (.putfield 28, 3) := by decide +kernel
theorem dX0_workOut_49 : decode cX0_workOut 49 = .ok (.iconst 0, 1) := by decide +kernel
theorem dX0_workOut_50 : decode cX0_workOut 50 = .ok (.istore_n 2, 1) := by decide +kernel
theorem dX0_workOut_51 : decode cX0_workOut 51 = .ok (.iload_n 2, 1) := by decide +kernel
theorem dX0_workOut_52 : decode cX0_workOut 52 = .ok (.aload_n 0, 1) := by decide +kernel
theorem dX0_workOut_53 : decode cX0_workOut 53 = .ok (.getfield 31, 3) := by decide +kernel
theorem dX0_workOut_56 : decode cX0_workOut 56 = .ok (.if_icmp .ge 43, 3) := by decide +kernel
theorem dX0_workOut_59 : decode cX0_workOut 59 = .ok (.aload_n 0, 1) := by decide +kernel
theorem dX0_workOut_60 : decode cX0_workOut 60 = .ok (.getfield 20, 3) := by decide +kernel
theorem dX0_workOut_63 : decode cX0_workOut 63 = .ok (.iload_n 2, 1) := by decide +kernel
theorem dX0_workOut_64 : decode cX0_workOut 64 = .ok (.aload_n 0, 1) := by decide +kernel
theorem dX0_workOut_65 : decode cX0_workOut 65 = .ok (.iload_n 2, 1) := by decide +kernel
theorem dX0_workOut_66 : decode cX0_workOut 66 = .ok (.invokevirtual 69, 3) := by decide +kernel
theorem dX0_workOut_69 : decode cX0_workOut 69 = .ok (.bastore, 1) := by decide +kernel
theorem dX0_workOut_70 : decode cX0_workOut 70 = .ok (.aload_n 0, 1) := by decide +kernel
theorem dX0_workOut_71 : decode cX0_workOut 71 = .ok (.dup, 1) := by decide +kernel
theorem dX0_workOut_72 : decode cX0_workOut 72 = .ok (.getfield 28, 3) := by decide +kernel
theorem dX0_workOut_75 : decode cX0_workOut 75 = .ok (.aload_n 0, 1) := by decide +kernel
theorem dX0_workOut_76 : decode cX0_workOut 76 = .ok (.getfield 20, 3) := by decide +kernel
theorem dX0_workOut_79 : decode cX0_workOut 79 = .ok (.iload_n 2, 1) := by decide +kernel
theorem dX0_workOut_80 : decode cX0_workOut 80 = .ok (.baload, 1) := by decide +kernel
theorem dX0_workOut_81 : decode cX0_workOut 81 = .ok (.ifCond .eq 7, 3) := by decide +kernel
theorem dX0_workOut_84 : decode cX0_workOut 84 = .ok (.iconst 1, 1) := by decide +kernel
theorem dX0_workOut_85 : decode cX0_workOut 85 = .ok (.goto 4, 3) := by decide +kernel
theorem dX0_workOut_88 : decode cX0_workOut 88 = .ok (.iconst 0, 1) := by decide +kernel
theorem dX0_workOut_89 : decode cX0_workOut 89 = .ok (.iadd, 1) := by decide +kernel
theorem dX0_workOut_90 : decode cX0_workOut 90 = .ok (.putfield 28, 3) := by decide +kernel
theorem dX0_workOut_93 : decode cX0_workOut 93 = .ok (.iinc 2 1, 3) := by decide +kernel
theorem dX0_workOut_96 : decode cX0_workOut 96 = .ok (.goto (-45), 3) := by decide +kernel
theorem dX0_workOut_99 : decode cX0_workOut 99 = .ok (.return_, 1) := by decide +kernel
theorem dX0_areBound_0 : decode cX0_areBound 0 = .ok (.aload_n 0, 1) := by decide +kernel
theorem dX0_areBound_1 : decode cX0_areBound 1 = .ok (.getfield 11, 3) := by decide +kernel
theorem dX0_areBound_4 : decode cX0_areBound 4 = .ok (.iload_n 1, 1) := by decide +kernel
theorem dX0_areBound_5 : decode cX0_areBound 5 = .ok (.aaload, 1) := by decide +kernel
theorem dX0_areBound_6 : decode cX0_areBound 6 = .ok (.iload_n 2, 1) := by decide +kernel
theorem dX0_areBound_7 : decode cX0_areBound 7 = .ok (.iaload, 1) := by decide +kernel
theorem dX0_areBound_8 : decode cX0_areBound 8 = .ok (.ldc 73, 2) := by decide +kernel
theorem dX0_areBound_10 : decode cX0_areBound 10 = .ok (.if_icmp .eq 7, 3) := by decide +kernel
theorem dX0_areBound_13 : decode cX0_areBound 13 = .ok (.iconst 1, 1) := by decide +kernel
theorem dX0_areBound_14 : decode cX0_areBound 14 = .ok (.goto 4, 3) := by decide +kernel
theorem dX0_areBound_17 : decode cX0_areBound 17 = .ok (.iconst 0, 1) := by decide +kernel
theorem dX0_areBound_18 : decode cX0_areBound 18 = .ok (.ireturn, 1) := by decide +kernel
theorem dX0_gain_0 : decode cX0_gain 0 = .ok (.aload_n 0, 1) := by decide +kernel
theorem dX0_gain_1 : decode cX0_gain 1 = .ok (.getfield 11, 3) := by decide +kernel
theorem dX0_gain_4 : decode cX0_gain 4 = .ok (.iload_n 3, 1) := by decide +kernel
theorem dX0_gain_5 : decode cX0_gain 5 = .ok (.aaload, 1) := by decide +kernel
theorem dX0_gain_6 : decode cX0_gain 6 = .ok (.iload 4, 2) := by decide +kernel
theorem dX0_gain_8 : decode cX0_gain 8 = .ok (.iaload, 1) := by decide +kernel
theorem dX0_gain_9 : decode cX0_gain 9 = .ok (.aload_n 0, 1) := by decide +kernel
theorem dX0_gain_10 : decode cX0_gain 10 = .ok (.aload_n 1, 1) := by decide +kernel
theorem dX0_gain_11 : decode cX0_gain 11 = .ok (.iload_n 2, 1) := by decide +kernel
theorem dX0_gain_12 : decode cX0_gain 12 = .ok (.iload_n 3, 1) := by decide +kernel
theorem dX0_gain_13 : decode cX0_gain 13 = .ok (.iload 4, 2) := by decide +kernel
theorem dX0_gain_15 : decode cX0_gain 15 = .ok (.invokevirtual 74, 3) := by decide +kernel
theorem dX0_gain_18 : decode cX0_gain 18 = .ok (.isub, 1) := by decide +kernel
theorem dX0_gain_19 : decode cX0_gain 19 = .ok (.aload_n 0, 1) := by decide +kernel
theorem dX0_gain_20 : decode cX0_gain 20 = .ok (.getfield 11, 3) := by decide +kernel
theorem dX0_gain_23 : decode cX0_gain 23 = .ok (.iload 4, 2) := by decide +kernel
theorem dX0_gain_25 : decode cX0_gain 25 = .ok (.aaload, 1) := by decide +kernel
theorem dX0_gain_26 : decode cX0_gain 26 = .ok (.iload_n 3, 1) := by decide +kernel
theorem dX0_gain_27 : decode cX0_gain 27 = .ok (.iaload, 1) := by decide +kernel
theorem dX0_gain_28 : decode cX0_gain 28 = .ok (.iadd, 1) := by decide +kernel
theorem dX0_gain_29 : decode cX0_gain 29 = .ok (.aload_n 0, 1) := by decide +kernel
theorem dX0_gain_30 : decode cX0_gain 30 = .ok (.aload_n 1, 1) := by decide +kernel
theorem dX0_gain_31 : decode cX0_gain 31 = .ok (.iload_n 2, 1) := by decide +kernel
theorem dX0_gain_32 : decode cX0_gain 32 = .ok (.iload 4, 2) := by decide +kernel
theorem dX0_gain_34 : decode cX0_gain 34 = .ok (.iload_n 3, 1) := by decide +kernel
theorem dX0_gain_35 : decode cX0_gain 35 = .ok (.invokevirtual 74, 3) := by decide +kernel
theorem dX0_gain_38 : decode cX0_gain 38 = .ok (.isub, 1) := by decide +kernel
theorem dX0_gain_39 : decode cX0_gain 39 = .ok (.ireturn, 1) := by decide +kernel
theorem dX0_bestToMakeExact_0 : decode cX0_bestToMakeExact 0 = .ok (.iconst 0, 1) := by decide +kernel
theorem dX0_bestToMakeExact_1 : decode cX0_bestToMakeExact 1 = .ok (.istore 4, 2) := by decide +kernel
theorem dX0_bestToMakeExact_3 : decode cX0_bestToMakeExact 3 = .ok (.iconst 1, 1) := by decide +kernel
theorem dX0_bestToMakeExact_4 : decode cX0_bestToMakeExact 4 = .ok (.istore 5, 2) := by decide +kernel
theorem dX0_bestToMakeExact_6 : decode cX0_bestToMakeExact 6 = .ok (.iload 5, 2) := by decide +kernel
theorem dX0_bestToMakeExact_8 : decode cX0_bestToMakeExact 8 = .ok (.aload_n 0, 1) := by decide +kernel
theorem dX0_bestToMakeExact_9 : decode cX0_bestToMakeExact 9 = .ok (.getfield 31, 3) := by decide +kernel
theorem dX0_bestToMakeExact_12 : decode cX0_bestToMakeExact 12 = .ok (.if_icmp .ge 34, 3) := by decide +kernel
theorem dX0_bestToMakeExact_15 : decode cX0_bestToMakeExact 15 = .ok (.aload_n 0, 1) := by decide +kernel
theorem dX0_bestToMakeExact_16 : decode cX0_bestToMakeExact 16 = .ok (.aload_n 1, 1) := by decide +kernel
theorem dX0_bestToMakeExact_17 : decode cX0_bestToMakeExact 17 = .ok (.iload 5, 2) := by decide +kernel
theorem dX0_bestToMakeExact_19 : decode cX0_bestToMakeExact 19 = .ok (.iload_n 2, 1) := by decide +kernel
theorem dX0_bestToMakeExact_20 : decode cX0_bestToMakeExact 20 = .ok (.iload_n 3, 1) := by decide +kernel
theorem dX0_bestToMakeExact_21 : decode cX0_bestToMakeExact 21 = .ok (.invokevirtual 78, 3) := by decide +kernel
theorem dX0_bestToMakeExact_24 : decode cX0_bestToMakeExact 24 = .ok (.aload_n 0, 1) := by decide +kernel
theorem dX0_bestToMakeExact_25 : decode cX0_bestToMakeExact 25 = .ok (.aload_n 1, 1) := by decide +kernel
theorem dX0_bestToMakeExact_26 : decode cX0_bestToMakeExact 26 = .ok (.iload 4, 2) := by decide +kernel
theorem dX0_bestToMakeExact_28 : decode cX0_bestToMakeExact 28 = .ok (.iload_n 2, 1) := by decide +kernel
theorem dX0_bestToMakeExact_29 : decode cX0_bestToMakeExact 29 = .ok (.iload_n 3, 1) := by decide +kernel
theorem dX0_bestToMakeExact_30 : decode cX0_bestToMakeExact 30 = .ok (.invokevirtual 78, 3) := by decide +kernel
theorem dX0_bestToMakeExact_33 : decode cX0_bestToMakeExact 33 = .ok (.if_icmp .le 7, 3) := by decide +kernel
theorem dX0_bestToMakeExact_36 : decode cX0_bestToMakeExact 36 = .ok (.iload 5, 2) := by decide +kernel
theorem dX0_bestToMakeExact_38 : decode cX0_bestToMakeExact 38 = .ok (.istore 4, 2) := by decide +kernel
theorem dX0_bestToMakeExact_40 : decode cX0_bestToMakeExact 40 = .ok (.iinc 5 1, 3) := by decide +kernel
theorem dX0_bestToMakeExact_43 : decode cX0_bestToMakeExact 43 = .ok (.goto (-37), 3) := by decide +kernel
theorem dX0_bestToMakeExact_46 : decode cX0_bestToMakeExact 46 = .ok (.iload 4, 2) := by decide +kernel
theorem dX0_bestToMakeExact_48 : decode cX0_bestToMakeExact 48 = .ok (.ireturn, 1) := by decide +kernel
theorem dX0_countLeft_0 : decode cX0_countLeft 0 = .ok (.aload_n 0, 1) := by decide +kernel
theorem dX0_countLeft_1 : decode cX0_countLeft 1 = .ok (.invokevirtual 53, 3) := by decide +kernel
theorem dX0_countLeft_4 : decode cX0_countLeft 4 = .ok (.aload_n 0, 1) := by decide +kernel
theorem dX0_countLeft_5 : decode cX0_countLeft 5 = .ok (.getfield 31, 3) := by decide +kernel
theorem dX0_countLeft_8 : decode cX0_countLeft 8 = .ok (.istore_n 1, 1) := by decide +kernel
theorem dX0_countLeft_9 : decode cX0_countLeft 9 = .ok (.aload_n 0, 1) := by decide +kernel
theorem dX0_countLeft_10 : decode cX0_countLeft 10 = .ok (.getfield 31, 3) := by decide +kernel
theorem dX0_countLeft_13 : decode cX0_countLeft 13 = .ok (.iconst 1, 1) := by decide +kernel
theorem dX0_countLeft_14 : decode cX0_countLeft 14 = .ok (.isub, 1) := by decide +kernel
theorem dX0_countLeft_15 : decode cX0_countLeft 15 = .ok (.istore_n 2, 1) := by decide +kernel
theorem dX0_countLeft_16 : decode cX0_countLeft 16 = .ok (.iload_n 2, 1) := by decide +kernel
theorem dX0_countLeft_17 : decode cX0_countLeft 17 = .ok (.ifCond .lt 27, 3) := by decide +kernel
theorem dX0_countLeft_20 : decode cX0_countLeft 20 = .ok (.aload_n 0, 1) := by decide +kernel
theorem dX0_countLeft_21 : decode cX0_countLeft 21 = .ok (.iload_n 2, 1) := by decide +kernel
theorem dX0_countLeft_22 : decode cX0_countLeft 22 = .ok (.invokevirtual 69, 3) := by decide +kernel
theorem dX0_countLeft_25 : decode cX0_countLeft 25 = .ok (.ifCond .eq 13, 3) := by decide +kernel
theorem dX0_countLeft_28 : decode cX0_countLeft 28 = .ok (.aload_n 0, 1) := by decide +kernel
theorem dX0_countLeft_29 : decode cX0_countLeft 29 = .ok (.getfield 34, 3) := by decide +kernel
theorem dX0_countLeft_32 : decode cX0_countLeft 32 = .ok (.iload_n 2, 1) := by decide +kernel
theorem dX0_countLeft_33 : decode cX0_countLeft 33 = .ok (.iconst 1, 1) := by decide +kernel
theorem dX0_countLeft_34 : decode cX0_countLeft 34 = .ok (.bastore, 1) := by decide +kernel
theorem dX0_countLeft_35 : decode cX0_countLeft 35 = .ok (.iinc 1 (-1), 3) := by decide +kernel
theorem dX0_countLeft_38 : decode cX0_countLeft 38 = .ok (.iinc 2 (-1), 3) := by decide +kernel
theorem dX0_countLeft_41 : decode cX0_countLeft 41 = .ok (.goto (-25), 3) := by decide +kernel
theorem dX0_countLeft_44 : decode cX0_countLeft 44 = .ok (.iload_n 1, 1) := by decide +kernel
theorem dX0_countLeft_45 : decode cX0_countLeft 45 = .ok (.ireturn, 1) := by decide +kernel
theorem dX0_greatestIfExact_0 : decode cX0_greatestIfExact 0 = .ok (.aload_n 1, 1) := by decide +kernel
theorem dX0_greatestIfExact_1 : decode cX0_greatestIfExact 1 = .ok (.getfield 81, 3) := by decide +kernel
theorem dX0_greatestIfExact_4 : decode cX0_greatestIfExact 4 = .ok (.iload_n 2, 1) := by decide +kernel
theorem dX0_greatestIfExact_5 : decode cX0_greatestIfExact 5 = .ok (.iaload, 1) := by decide +kernel
theorem dX0_greatestIfExact_6 : decode cX0_greatestIfExact 6 = .ok (.istore 5, 2) := by decide +kernel
theorem dX0_greatestIfExact_8 : decode cX0_greatestIfExact 8 = .ok (.aload_n 1, 1) := by decide +kernel
theorem dX0_greatestIfExact_9 : decode cX0_greatestIfExact 9 = .ok (.getfield 84, 3) := by decide +kernel
theorem dX0_greatestIfExact_12 : decode cX0_greatestIfExact 12 = .ok (.iload_n 2, 1) := by decide +kernel
theorem dX0_greatestIfExact_13 : decode cX0_greatestIfExact 13 = .ok (.iaload, 1) := by decide +kernel
theorem dX0_greatestIfExact_14 : decode cX0_greatestIfExact 14 = .ok (.istore 6, 2) := by decide +kernel
theorem dX0_greatestIfExact_16 : decode cX0_greatestIfExact 16 = .ok (.aload_n 1, 1) := by decide +kernel
theorem dX0_greatestIfExact_17 : decode cX0_greatestIfExact 17 = .ok (.iload_n 2, 1) := by decide +kernel
theorem dX0_greatestIfExact_18 : decode cX0_greatestIfExact 18 = .ok (.invokevirtual 87, 3) := by decide +kernel
theorem dX0_greatestIfExact_21 : decode cX0_greatestIfExact 21 = .ok (.istore 7, 2) := by decide +kernel
theorem dX0_greatestIfExact_23 : decode cX0_greatestIfExact 23 = .ok (.aload_n 0, 1) := by decide +kernel
theorem dX0_greatestIfExact_24 : decode cX0_greatestIfExact 24 = .ok (.getfield 11, 3) := by decide +kernel
theorem dX0_greatestIfExact_27 : decode cX0_greatestIfExact 27 = .ok (.iload_n 3, 1) := by decide +kernel
theorem dX0_greatestIfExact_28 : decode cX0_greatestIfExact 28 = .ok (.aaload, 1) := by decide +kernel
theorem dX0_greatestIfExact_29 : decode cX0_greatestIfExact 29 = .ok (.iload 5, 2) := by decide +kernel
theorem dX0_greatestIfExact_31 : decode cX0_greatestIfExact 31 = .ok (.iaload, 1) := by decide +kernel
theorem dX0_greatestIfExact_32 : decode cX0_greatestIfExact 32 = .ok (.iload 7, 2) := by decide +kernel
theorem dX0_greatestIfExact_34 : decode cX0_greatestIfExact 34 = .ok (.iadd, 1) := by decide +kernel
theorem dX0_greatestIfExact_35 : decode cX0_greatestIfExact 35 = .ok (.aload_n 0, 1) := by decide +kernel
theorem dX0_greatestIfExact_36 : decode cX0_greatestIfExact 36 = .ok (.getfield 11, 3) := by decide +kernel
theorem dX0_greatestIfExact_39 : decode cX0_greatestIfExact 39 = .ok (.iload 6, 2) := by decide +kernel
theorem dX0_greatestIfExact_41 : decode cX0_greatestIfExact 41 = .ok (.aaload, 1) := by decide +kernel
theorem dX0_greatestIfExact_42 : decode cX0_greatestIfExact 42 = .ok (.iload 4, 2) := by decide +kernel
theorem dX0_greatestIfExact_44 : decode cX0_greatestIfExact 44 = .ok (.iaload, 1) := by decide +kernel
theorem dX0_greatestIfExact_45 : decode cX0_greatestIfExact 45 = .ok (.iadd, 1) := by decide +kernel
theorem dX0_greatestIfExact_46 : decode cX0_greatestIfExact 46 = .ok (.istore 8, 2) := by decide +kernel
theorem dX0_greatestIfExact_48 : decode cX0_greatestIfExact 48 = .ok (.aload_n 0, 1) := by decide +kernel
theorem dX0_greatestIfExact_49 : decode cX0_greatestIfExact 49 = .ok (.getfield 11, 3) := by decide +kernel
theorem dX0_greatestIfExact_52 : decode cX0_greatestIfExact 52 = .ok (.iload_n 3, 1) := by decide +kernel
theorem dX0_greatestIfExact_53 : decode cX0_greatestIfExact 53 = .ok (.aaload, 1) := by decide +kernel
theorem dX0_greatestIfExact_54 : decode cX0_greatestIfExact 54 = .ok (.iload 6, 2) := by decide +kernel
theorem dX0_greatestIfExact_56 : decode cX0_greatestIfExact 56 = .ok (.iaload, 1) := by decide +kernel
theorem dX0_greatestIfExact_57 : decode cX0_greatestIfExact 57 = .ok (.iload 7, 2) := by decide +kernel
theorem dX0_greatestIfExact_59 : decode cX0_greatestIfExact 59 = .ok (.isub, 1) := by decide +kernel
theorem dX0_greatestIfExact_60 : decode cX0_greatestIfExact 60 = .ok (.aload_n 0, 1) := by decide +kernel
theorem dX0_greatestIfExact_61 : decode cX0_greatestIfExact 61 = .ok (.getfield 11, 3) := by decide +kernel
theorem dX0_greatestIfExact_64 : decode cX0_greatestIfExact 64 = .ok (.iload 5, 2) := by decide +kernel
theorem dX0_greatestIfExact_66 : decode cX0_greatestIfExact 66 = .ok (.aaload, 1) := by decide +kernel
theorem dX0_greatestIfExact_67 : decode cX0_greatestIfExact 67 = .ok (.iload 4, 2) := by decide +kernel
theorem dX0_greatestIfExact_69 : decode cX0_greatestIfExact 69 = .ok (.iaload, 1) := by decide +kernel
theorem dX0_greatestIfExact_70 : decode cX0_greatestIfExact 70 = .ok (.iadd, 1) := by decide +kernel
theorem dX0_greatestIfExact_71 : decode cX0_greatestIfExact 71 = .ok (.istore 9, 2) := by decide +kernel
theorem dX0_greatestIfExact_73 : decode cX0_greatestIfExact 73 = .ok (.aload_n 0, 1) := by decide +kernel
theorem dX0_greatestIfExact_74 : decode cX0_greatestIfExact 74 = .ok (.getfield 11, 3) := by decide +kernel
theorem dX0_greatestIfExact_77 : decode cX0_greatestIfExact 77 = .ok (.iload_n 3, 1) := by decide +kernel
theorem dX0_greatestIfExact_78 : decode cX0_greatestIfExact 78 = .ok (.aaload, 1) := by decide +kernel
theorem dX0_greatestIfExact_79 : decode cX0_greatestIfExact 79 = .ok (.iload 4, 2) := by decide +kernel
theorem dX0_greatestIfExact_81 : decode cX0_greatestIfExact 81 = .ok (.iaload, 1) := by decide +kernel
theorem dX0_greatestIfExact_82 : decode cX0_greatestIfExact 82 = .ok (.iload 8, 2) := by decide +kernel
theorem dX0_greatestIfExact_84 : decode cX0_greatestIfExact 84 = .ok (.iload 9, 2) := by decide +kernel
theorem dX0_greatestIfExact_86 : decode cX0_greatestIfExact 86 = .ok (.invokestatic 91, 3) := by decide +kernel
theorem dX0_greatestIfExact_89 : decode cX0_greatestIfExact 89 = .ok (.invokestatic 91, 3) := by decide +kernel
theorem dX0_greatestIfExact_92 : decode cX0_greatestIfExact 92 = .ok (.ireturn, 1) := by decide +kernel
theorem dX0_listSteps_0 : decode cX0_listSteps 0 = .ok (.aload_n 0, 1) := by decide +kernel
theorem dX0_listSteps_1 : decode cX0_listSteps 1 = .ok (.aload_n 1, 1) := by decide +kernel
theorem dX0_listSteps_2 : decode cX0_listSteps 2 = .ok (.getfield 97, 3) := by decide +kernel
theorem dX0_listSteps_5 : decode cX0_listSteps 5 = .ok (.putfield 31, 3) := by decide +kernel
theorem dX0_listSteps_8 : decode cX0_listSteps 8 = .ok (.iconst 0, 1) := by decide +kernel
theorem dX0_listSteps_9 : decode cX0_listSteps 9 = .ok (.istore_n 2, 1) := by decide +kernel
theorem dX0_listSteps_10 : decode cX0_listSteps 10 = .ok (.iload_n 2, 1) := by decide +kernel
theorem dX0_listSteps_11 : decode cX0_listSteps 11 = .ok (.aload_n 0, 1) := by decide +kernel
theorem dX0_listSteps_12 : decode cX0_listSteps 12 = .ok (.getfield 31, 3) := by decide +kernel
theorem dX0_listSteps_15 : decode cX0_listSteps 15 = .ok (.if_icmp .ge 109, 3) := by decide +kernel
theorem dX0_listSteps_18 : decode cX0_listSteps 18 = .ok (.aload_n 1, 1) := by decide +kernel
theorem dX0_listSteps_19 : decode cX0_listSteps 19 = .ok (.iload_n 2, 1) := by decide +kernel
theorem dX0_listSteps_20 : decode cX0_listSteps 20 = .ok (.invokevirtual 87, 3) := by decide +kernel
theorem dX0_listSteps_23 : decode cX0_listSteps 23 = .ok (.istore_n 3, 1) := by decide +kernel
theorem dX0_listSteps_24 : decode cX0_listSteps 24 = .ok (.aload_n 0, 1) := by decide +kernel
theorem dX0_listSteps_25 : decode cX0_listSteps 25 = .ok (.getfield 40, 3) := by decide +kernel
theorem dX0_listSteps_28 : decode cX0_listSteps 28 = .ok (.iconst 2, 1) := by decide +kernel
theorem dX0_listSteps_29 : decode cX0_listSteps 29 = .ok (.iload_n 2, 1) := by decide +kernel
theorem dX0_listSteps_30 : decode cX0_listSteps 30 = .ok (.imul, 1) := by decide +kernel
theorem dX0_listSteps_31 : decode cX0_listSteps 31 = .ok (.aload_n 1, 1) := by decide +kernel
theorem dX0_listSteps_32 : decode cX0_listSteps 32 = .ok (.getfield 81, 3) := by decide +kernel
theorem dX0_listSteps_35 : decode cX0_listSteps 35 = .ok (.iload_n 2, 1) := by decide +kernel
theorem dX0_listSteps_36 : decode cX0_listSteps 36 = .ok (.iaload, 1) := by decide +kernel
theorem dX0_listSteps_37 : decode cX0_listSteps 37 = .ok (.iastore, 1) := by decide +kernel
theorem dX0_listSteps_38 : decode cX0_listSteps 38 = .ok (.aload_n 0, 1) := by decide +kernel
theorem dX0_listSteps_39 : decode cX0_listSteps 39 = .ok (.getfield 43, 3) := by decide +kernel
theorem dX0_listSteps_42 : decode cX0_listSteps 42 = .ok (.iconst 2, 1) := by decide +kernel
theorem dX0_listSteps_43 : decode cX0_listSteps 43 = .ok (.iload_n 2, 1) := by decide +kernel
theorem dX0_listSteps_44 : decode cX0_listSteps 44 = .ok (.imul, 1) := by decide +kernel
theorem dX0_listSteps_45 : decode cX0_listSteps 45 = .ok (.aload_n 1, 1) := by decide +kernel
theorem dX0_listSteps_46 : decode cX0_listSteps 46 = .ok (.getfield 84, 3) := by decide +kernel
theorem dX0_listSteps_49 : decode cX0_listSteps 49 = .ok (.iload_n 2, 1) := by decide +kernel
theorem dX0_listSteps_50 : decode cX0_listSteps 50 = .ok (.iaload, 1) := by decide +kernel
theorem dX0_listSteps_51 : decode cX0_listSteps 51 = .ok (.iastore, 1) := by decide +kernel
theorem dX0_listSteps_52 : decode cX0_listSteps 52 = .ok (.aload_n 0, 1) := by decide +kernel
theorem dX0_listSteps_53 : decode cX0_listSteps 53 = .ok (.getfield 46, 3) := by decide +kernel
theorem dX0_listSteps_56 : decode cX0_listSteps 56 = .ok (.iconst 2, 1) := by decide +kernel
theorem dX0_listSteps_57 : decode cX0_listSteps 57 = .ok (.iload_n 2, 1) := by decide +kernel
theorem dX0_listSteps_58 : decode cX0_listSteps 58 = .ok (.imul, 1) := by decide +kernel
theorem dX0_listSteps_59 : decode cX0_listSteps 59 = .ok (.iload_n 3, 1) := by decide +kernel
theorem dX0_listSteps_60 : decode cX0_listSteps 60 = .ok (.aload_n 1, 1) := by decide +kernel
theorem dX0_listSteps_61 : decode cX0_listSteps 61 = .ok (.getfield 98, 3) := by decide +kernel
theorem dX0_listSteps_64 : decode cX0_listSteps 64 = .ok (.iload_n 2, 1) := by decide +kernel
theorem dX0_listSteps_65 : decode cX0_listSteps 65 = .ok (.iaload, 1) := by decide +kernel
theorem dX0_listSteps_66 : decode cX0_listSteps 66 = .ok (.iadd, 1) := by decide +kernel
theorem dX0_listSteps_67 : decode cX0_listSteps 67 = .ok (.iastore, 1) := by decide +kernel
theorem dX0_listSteps_68 : decode cX0_listSteps 68 = .ok (.aload_n 0, 1) := by decide +kernel
theorem dX0_listSteps_69 : decode cX0_listSteps 69 = .ok (.getfield 40, 3) := by decide +kernel
theorem dX0_listSteps_72 : decode cX0_listSteps 72 = .ok (.iconst 2, 1) := by decide +kernel
theorem dX0_listSteps_73 : decode cX0_listSteps 73 = .ok (.iload_n 2, 1) := by decide +kernel
theorem dX0_listSteps_74 : decode cX0_listSteps 74 = .ok (.imul, 1) := by decide +kernel
theorem dX0_listSteps_75 : decode cX0_listSteps 75 = .ok (.iconst 1, 1) := by decide +kernel
theorem dX0_listSteps_76 : decode cX0_listSteps 76 = .ok (.iadd, 1) := by decide +kernel
theorem dX0_listSteps_77 : decode cX0_listSteps 77 = .ok (.aload_n 1, 1) := by decide +kernel
theorem dX0_listSteps_78 : decode cX0_listSteps 78 = .ok (.getfield 84, 3) := by decide +kernel
theorem dX0_listSteps_81 : decode cX0_listSteps 81 = .ok (.iload_n 2, 1) := by decide +kernel
theorem dX0_listSteps_82 : decode cX0_listSteps 82 = .ok (.iaload, 1) := by decide +kernel
theorem dX0_listSteps_83 : decode cX0_listSteps 83 = .ok (.iastore, 1) := by decide +kernel
theorem dX0_listSteps_84 : decode cX0_listSteps 84 = .ok (.aload_n 0, 1) := by decide +kernel
theorem dX0_listSteps_85 : decode cX0_listSteps 85 = .ok (.getfield 43, 3) := by decide +kernel
theorem dX0_listSteps_88 : decode cX0_listSteps 88 = .ok (.iconst 2, 1) := by decide +kernel
theorem dX0_listSteps_89 : decode cX0_listSteps 89 = .ok (.iload_n 2, 1) := by decide +kernel
theorem dX0_listSteps_90 : decode cX0_listSteps 90 = .ok (.imul, 1) := by decide +kernel
theorem dX0_listSteps_91 : decode cX0_listSteps 91 = .ok (.iconst 1, 1) := by decide +kernel
theorem dX0_listSteps_92 : decode cX0_listSteps 92 = .ok (.iadd, 1) := by decide +kernel
theorem dX0_listSteps_93 : decode cX0_listSteps 93 = .ok (.aload_n 1, 1) := by decide +kernel
theorem dX0_listSteps_94 : decode cX0_listSteps 94 = .ok (.getfield 81, 3) := by decide +kernel
theorem dX0_listSteps_97 : decode cX0_listSteps 97 = .ok (.iload_n 2, 1) := by decide +kernel
theorem dX0_listSteps_98 : decode cX0_listSteps 98 = .ok (.iaload, 1) := by decide +kernel
theorem dX0_listSteps_99 : decode cX0_listSteps 99 = .ok (.iastore, 1) := by decide +kernel
theorem dX0_listSteps_100 : decode cX0_listSteps 100 = .ok (.aload_n 0, 1) := by decide +kernel
theorem dX0_listSteps_101 : decode cX0_listSteps 101 = .ok (.getfield 46, 3) := by decide +kernel
theorem dX0_listSteps_104 : decode cX0_listSteps 104 = .ok (.iconst 2, 1) := by decide +kernel
theorem dX0_listSteps_105 : decode cX0_listSteps 105 = .ok (.iload_n 2, 1) := by decide +kernel
theorem dX0_listSteps_106 : decode cX0_listSteps 106 = .ok (.imul, 1) := by decide +kernel
theorem dX0_listSteps_107 : decode cX0_listSteps 107 = .ok (.iconst 1, 1) := by decide +kernel
theorem dX0_listSteps_108 : decode cX0_listSteps 108 = .ok (.iadd, 1) := by decide +kernel
theorem dX0_listSteps_109 : decode cX0_listSteps 109 = .ok (.aload_n 1, 1) := by decide +kernel
theorem dX0_listSteps_110 : decode cX0_listSteps 110 = .ok (.getfield 101, 3) := by decide +kernel
theorem dX0_listSteps_113 : decode cX0_listSteps 113 = .ok (.iload_n 2, 1) := by decide +kernel
theorem dX0_listSteps_114 : decode cX0_listSteps 114 = .ok (.iaload, 1) := by decide +kernel
theorem dX0_listSteps_115 : decode cX0_listSteps 115 = .ok (.iload_n 3, 1) := by decide +kernel
theorem dX0_listSteps_116 : decode cX0_listSteps 116 = .ok (.isub, 1) := by decide +kernel
theorem dX0_listSteps_117 : decode cX0_listSteps 117 = .ok (.iastore, 1) := by decide +kernel
theorem dX0_listSteps_118 : decode cX0_listSteps 118 = .ok (.iinc 2 1, 3) := by decide +kernel
theorem dX0_listSteps_121 : decode cX0_listSteps 121 = .ok (.goto (-111), 3) := by decide +kernel
theorem dX0_listSteps_124 : decode cX0_listSteps 124 = .ok (.return_, 1) := by decide +kernel
theorem dX0_removeNone_0 : decode cX0_removeNone 0 = .ok (.iconst 0, 1) := by decide +kernel
theorem dX0_removeNone_1 : decode cX0_removeNone 1 = .ok (.istore_n 1, 1) := by decide +kernel
theorem dX0_removeNone_2 : decode cX0_removeNone 2 = .ok (.iload_n 1, 1) := by decide +kernel
theorem dX0_removeNone_3 : decode cX0_removeNone 3 = .ok (.bipush 16, 2) := by decide +kernel
theorem dX0_removeNone_5 : decode cX0_removeNone 5 = .ok (.if_icmp .ge 16, 3) := by decide +kernel
theorem dX0_removeNone_8 : decode cX0_removeNone 8 = .ok (.aload_n 0, 1) := by decide +kernel
theorem dX0_removeNone_9 : decode cX0_removeNone 9 = .ok (.getfield 34, 3) := by decide +kernel
theorem dX0_removeNone_12 : decode cX0_removeNone 12 = .ok (.iload_n 1, 1) := by decide +kernel
theorem dX0_removeNone_13 : decode cX0_removeNone 13 = .ok (.iconst 0, 1) := by decide +kernel
theorem dX0_removeNone_14 : decode cX0_removeNone 14 = .ok (.bastore, 1) := by decide +kernel
theorem dX0_removeNone_15 : decode cX0_removeNone 15 = .ok (.iinc 1 1, 3) := by decide +kernel
theorem dX0_removeNone_18 : decode cX0_removeNone 18 = .ok (.goto (-16), 3) := by decide +kernel
theorem dX0_removeNone_21 : decode cX0_removeNone 21 = .ok (.return_, 1) := by decide +kernel
theorem dX0_isSuperfluous_0 : decode cX0_isSuperfluous 0 = .ok (.iconst 2, 1) := by decide +kernel
theorem dX0_isSuperfluous_1 : decode cX0_isSuperfluous 1 = .ok (.iload_n 1, 1) := by decide +kernel
theorem dX0_isSuperfluous_2 : decode cX0_isSuperfluous 2 = .ok (.imul, 1) := by decide +kernel
theorem dX0_isSuperfluous_3 : decode cX0_isSuperfluous 3 = .ok (.istore_n 2, 1) := by decide +kernel
theorem dX0_isSuperfluous_4 : decode cX0_isSuperfluous 4 = .ok (.iconst 2, 1) := by decide +kernel
theorem dX0_isSuperfluous_5 : decode cX0_isSuperfluous 5 = .ok (.iload_n 1, 1) := by decide +kernel
theorem dX0_isSuperfluous_6 : decode cX0_isSuperfluous 6 = .ok (.imul, 1) := by decide +kernel
theorem dX0_isSuperfluous_7 : decode cX0_isSuperfluous 7 = .ok (.iconst 1, 1) := by decide +kernel
theorem dX0_isSuperfluous_8 : decode cX0_isSuperfluous 8 = .ok (.iadd, 1) := by decide +kernel
theorem dX0_isSuperfluous_9 : decode cX0_isSuperfluous 9 = .ok (.istore_n 3, 1) := by decide +kernel
theorem dX0_isSuperfluous_10 : decode cX0_isSuperfluous 10 = .ok (.aload_n 0, 1) := by decide +kernel
theorem dX0_isSuperfluous_11 : decode cX0_isSuperfluous 11 = .ok (.getfield 34, 3) := by decide +kernel
theorem dX0_isSuperfluous_14 : decode cX0_isSuperfluous 14 = .ok (.iload_n 1, 1) := by decide +kernel
theorem dX0_isSuperfluous_15 : decode cX0_isSuperfluous 15 = .ok (.iconst 1, 1) := by decide +kernel
theorem dX0_isSuperfluous_16 : decode cX0_isSuperfluous 16 = .ok (.bastore, 1) := by decide +kernel
theorem dX0_isSuperfluous_17 : decode cX0_isSuperfluous 17 = .ok (.aload_n 0, 1) := by decide +kernel
theorem dX0_isSuperfluous_18 : decode cX0_isSuperfluous 18 = .ok (.aload_n 0, 1) := by decide +kernel
theorem dX0_isSuperfluous_19 : decode cX0_isSuperfluous 19 = .ok (.getfield 40, 3) := by decide +kernel
theorem dX0_isSuperfluous_22 : decode cX0_isSuperfluous 22 = .ok (.iload_n 2, 1) := by decide +kernel
theorem dX0_isSuperfluous_23 : decode cX0_isSuperfluous 23 = .ok (.iaload, 1) := by decide +kernel
theorem dX0_isSuperfluous_24 : decode cX0_isSuperfluous 24 = .ok (.aload_n 0, 1) := by decide +kernel
theorem dX0_isSuperfluous_25 : decode cX0_isSuperfluous 25 = .ok (.getfield 37, 3) := by decide +kernel
theorem dX0_isSuperfluous_28 : decode cX0_isSuperfluous 28 = .ok (.invokevirtual 61, 3) := by decide +kernel
theorem dX0_isSuperfluous_31 : decode cX0_isSuperfluous 31 = .ok (.aload_n 0, 1) := by decide +kernel
theorem dX0_isSuperfluous_32 : decode cX0_isSuperfluous 32 = .ok (.getfield 37, 3) := by decide +kernel
theorem dX0_isSuperfluous_35 : decode cX0_isSuperfluous 35 = .ok (.aload_n 0, 1) := by decide +kernel
theorem dX0_isSuperfluous_36 : decode cX0_isSuperfluous 36 = .ok (.getfield 43, 3) := by decide +kernel
theorem dX0_isSuperfluous_39 : decode cX0_isSuperfluous 39 = .ok (.iload_n 2, 1) := by decide +kernel
theorem dX0_isSuperfluous_40 : decode cX0_isSuperfluous 40 = .ok (.iaload, 1) := by decide +kernel
theorem dX0_isSuperfluous_41 : decode cX0_isSuperfluous 41 = .ok (.iaload, 1) := by decide +kernel
theorem dX0_isSuperfluous_42 : decode cX0_isSuperfluous 42 = .ok (.aload_n 0, 1) := by decide +kernel
theorem dX0_isSuperfluous_43 : decode cX0_isSuperfluous 43 = .ok (.getfield 46, 3) := by decide +kernel
theorem dX0_isSuperfluous_46 : decode cX0_isSuperfluous 46 = .ok (.iload_n 2, 1) := by decide +kernel
theorem dX0_isSuperfluous_47 : decode cX0_isSuperfluous 47 = .ok (.iaload, 1) := by decide +kernel
theorem dX0_isSuperfluous_48 : decode cX0_isSuperfluous 48 = .ok (.if_icmp .gt 7, 3) := by decide +kernel
theorem dX0_isSuperfluous_51 : decode cX0_isSuperfluous 51 = .ok (.iconst 1, 1) := by decide +kernel
theorem dX0_isSuperfluous_52 : decode cX0_isSuperfluous 52 = .ok (.goto 4, 3) := by decide +kernel
theorem dX0_isSuperfluous_55 : decode cX0_isSuperfluous 55 = .ok (.iconst 0, 1) := by decide +kernel
theorem dX0_isSuperfluous_56 : decode cX0_isSuperfluous 56 = .ok (.istore 4, 2) := by decide +kernel
theorem dX0_isSuperfluous_58 : decode cX0_isSuperfluous 58 = .ok (.aload_n 0, 1) := by decide +kernel
theorem dX0_isSuperfluous_59 : decode cX0_isSuperfluous 59 = .ok (.aload_n 0, 1) := by decide +kernel
theorem dX0_isSuperfluous_60 : decode cX0_isSuperfluous 60 = .ok (.getfield 40, 3) := by decide +kernel
theorem dX0_isSuperfluous_63 : decode cX0_isSuperfluous 63 = .ok (.iload_n 3, 1) := by decide +kernel
theorem dX0_isSuperfluous_64 : decode cX0_isSuperfluous 64 = .ok (.iaload, 1) := by decide +kernel
theorem dX0_isSuperfluous_65 : decode cX0_isSuperfluous 65 = .ok (.aload_n 0, 1) := by decide +kernel
theorem dX0_isSuperfluous_66 : decode cX0_isSuperfluous 66 = .ok (.getfield 37, 3) := by decide +kernel
theorem dX0_isSuperfluous_69 : decode cX0_isSuperfluous 69 = .ok (.invokevirtual 61, 3) := by decide +kernel
theorem dX0_isSuperfluous_72 : decode cX0_isSuperfluous 72 = .ok (.iload 4, 2) := by decide +kernel
theorem dX0_isSuperfluous_74 : decode cX0_isSuperfluous 74 = .ok (.ifCond .eq 27, 3) := by decide +kernel
theorem dX0_isSuperfluous_77 : decode cX0_isSuperfluous 77 = .ok (.aload_n 0, 1) := by decide +kernel
theorem dX0_isSuperfluous_78 : decode cX0_isSuperfluous 78 = .ok (.getfield 37, 3) := by decide +kernel
theorem dX0_isSuperfluous_81 : decode cX0_isSuperfluous 81 = .ok (.aload_n 0, 1) := by decide +kernel
theorem dX0_isSuperfluous_82 : decode cX0_isSuperfluous 82 = .ok (.getfield 43, 3) := by decide +kernel
theorem dX0_isSuperfluous_85 : decode cX0_isSuperfluous 85 = .ok (.iload_n 3, 1) := by decide +kernel
theorem dX0_isSuperfluous_86 : decode cX0_isSuperfluous 86 = .ok (.iaload, 1) := by decide +kernel
theorem dX0_isSuperfluous_87 : decode cX0_isSuperfluous 87 = .ok (.iaload, 1) := by decide +kernel
theorem dX0_isSuperfluous_88 : decode cX0_isSuperfluous 88 = .ok (.aload_n 0, 1) := by decide +kernel
theorem dX0_isSuperfluous_89 : decode cX0_isSuperfluous 89 = .ok (.getfield 46, 3) := by decide +kernel
theorem dX0_isSuperfluous_92 : decode cX0_isSuperfluous 92 = .ok (.iload_n 3, 1) := by decide +kernel
theorem dX0_isSuperfluous_93 : decode cX0_isSuperfluous 93 = .ok (.iaload, 1) := by decide +kernel
theorem dX0_isSuperfluous_94 : decode cX0_isSuperfluous 94 = .ok (.if_icmp .gt 7, 3) := by decide +kernel
theorem dX0_isSuperfluous_97 : decode cX0_isSuperfluous 97 = .ok (.iconst 1, 1) := by decide +kernel
theorem dX0_isSuperfluous_98 : decode cX0_isSuperfluous 98 = .ok (.goto 4, 3) := by decide +kernel
theorem dX0_isSuperfluous_101 : decode cX0_isSuperfluous 101 = .ok (.iconst 0, 1) := by decide +kernel
theorem dX0_isSuperfluous_102 : decode cX0_isSuperfluous 102 = .ok (.istore 4, 2) := by decide +kernel
theorem dX0_isSuperfluous_104 : decode cX0_isSuperfluous 104 = .ok (.aload_n 0, 1) := by decide +kernel
theorem dX0_isSuperfluous_105 : decode cX0_isSuperfluous 105 = .ok (.getfield 34, 3) := by decide +kernel
theorem dX0_isSuperfluous_108 : decode cX0_isSuperfluous 108 = .ok (.iload_n 1, 1) := by decide +kernel
theorem dX0_isSuperfluous_109 : decode cX0_isSuperfluous 109 = .ok (.iconst 0, 1) := by decide +kernel
theorem dX0_isSuperfluous_110 : decode cX0_isSuperfluous 110 = .ok (.bastore, 1) := by decide +kernel
theorem dX0_isSuperfluous_111 : decode cX0_isSuperfluous 111 = .ok (.iload 4, 2) := by decide +kernel
theorem dX0_isSuperfluous_113 : decode cX0_isSuperfluous 113 = .ok (.ireturn, 1) := by decide +kernel
theorem dX0_findWays_0 : decode cX0_findWays 0 = .ok (.aload_n 2, 1) := by decide +kernel
theorem dX0_findWays_1 : decode cX0_findWays 1 = .ok (.ldc 73, 2) := by decide +kernel
theorem dX0_findWays_3 : decode cX0_findWays 3 = .ok (.invokestatic 104, 3) := by decide +kernel
theorem dX0_findWays_6 : decode cX0_findWays 6 = .ok (.aload_n 2, 1) := by decide +kernel
theorem dX0_findWays_7 : decode cX0_findWays 7 = .ok (.iload_n 1, 1) := by decide +kernel
theorem dX0_findWays_8 : decode cX0_findWays 8 = .ok (.iconst 0, 1) := by decide +kernel
theorem dX0_findWays_9 : decode cX0_findWays 9 = .ok (.iastore, 1) := by decide +kernel
theorem dX0_findWays_10 : decode cX0_findWays 10 = .ok (.iconst 1, 1) := by decide +kernel
theorem dX0_findWays_11 : decode cX0_findWays 11 = .ok (.istore_n 3, 1) := by decide +kernel
theorem dX0_findWays_12 : decode cX0_findWays 12 = .ok (.iconst 0, 1) := by decide +kernel
theorem dX0_findWays_13 : decode cX0_findWays 13 = .ok (.istore 4, 2) := by decide +kernel
theorem dX0_findWays_15 : decode cX0_findWays 15 = .ok (.iload_n 3, 1) := by decide +kernel
theorem dX0_findWays_16 : decode cX0_findWays 16 = .ok (.ifCond .eq 107, 3) := by decide +kernel
theorem dX0_findWays_19 : decode cX0_findWays 19 = .ok (.iload 4, 2) := by decide +kernel
theorem dX0_findWays_21 : decode cX0_findWays 21 = .ok (.bipush 12, 2) := by decide +kernel
theorem dX0_findWays_23 : decode cX0_findWays 23 = .ok (.if_icmp .ge 100, 3) := by decide +kernel
theorem dX0_findWays_26 : decode cX0_findWays 26 = .ok (.iconst 0, 1) := by decide +kernel
theorem dX0_findWays_27 : decode cX0_findWays 27 = .ok (.istore_n 3, 1) := by decide +kernel
theorem dX0_findWays_28 : decode cX0_findWays 28 = .ok (.iconst 0, 1) := by decide +kernel
theorem dX0_findWays_29 : decode cX0_findWays 29 = .ok (.istore 5, 2) := by decide +kernel
theorem dX0_findWays_31 : decode cX0_findWays 31 = .ok (.iload 5, 2) := by decide +kernel
theorem dX0_findWays_33 : decode cX0_findWays 33 = .ok (.iconst 2, 1) := by decide +kernel
theorem dX0_findWays_34 : decode cX0_findWays 34 = .ok (.aload_n 0, 1) := by decide +kernel
theorem dX0_findWays_35 : decode cX0_findWays 35 = .ok (.getfield 31, 3) := by decide +kernel
theorem dX0_findWays_38 : decode cX0_findWays 38 = .ok (.imul, 1) := by decide +kernel
theorem dX0_findWays_39 : decode cX0_findWays 39 = .ok (.if_icmp .ge 78, 3) := by decide +kernel
theorem dX0_findWays_42 : decode cX0_findWays 42 = .ok (.aload_n 2, 1) := by decide +kernel
theorem dX0_findWays_43 : decode cX0_findWays 43 = .ok (.aload_n 0, 1) := by decide +kernel
theorem dX0_findWays_44 : decode cX0_findWays 44 = .ok (.getfield 40, 3) := by decide +kernel
theorem dX0_findWays_47 : decode cX0_findWays 47 = .ok (.iload 5, 2) := by decide +kernel
theorem dX0_findWays_49 : decode cX0_findWays 49 = .ok (.iaload, 1) := by decide +kernel
theorem dX0_findWays_50 : decode cX0_findWays 50 = .ok (.iaload, 1) := by decide +kernel
theorem dX0_findWays_51 : decode cX0_findWays 51 = .ok (.istore 6, 2) := by decide +kernel
theorem dX0_findWays_53 : decode cX0_findWays 53 = .ok (.iload 6, 2) := by decide +kernel
theorem dX0_findWays_55 : decode cX0_findWays 55 = .ok (.aload_n 0, 1) := by decide +kernel
theorem dX0_findWays_56 : decode cX0_findWays 56 = .ok (.getfield 46, 3) := by decide +kernel
theorem dX0_findWays_59 : decode cX0_findWays 59 = .ok (.iload 5, 2) := by decide +kernel
theorem dX0_findWays_61 : decode cX0_findWays 61 = .ok (.iaload, 1) := by decide +kernel
theorem dX0_findWays_62 : decode cX0_findWays 62 = .ok (.iadd, 1) := by decide +kernel
theorem dX0_findWays_63 : decode cX0_findWays 63 = .ok (.istore 7, 2) := by decide +kernel
theorem dX0_findWays_65 : decode cX0_findWays 65 = .ok (.aload_n 0, 1) := by decide +kernel
theorem dX0_findWays_66 : decode cX0_findWays 66 = .ok (.getfield 34, 3) := by decide +kernel
theorem dX0_findWays_69 : decode cX0_findWays 69 = .ok (.iload 5, 2) := by decide +kernel
theorem dX0_findWays_71 : decode cX0_findWays 71 = .ok (.iconst 2, 1) := by decide +kernel
theorem dX0_findWays_72 : decode cX0_findWays 72 = .ok (.idiv, 1) := by decide +kernel
theorem dX0_findWays_73 : decode cX0_findWays 73 = .ok (.baload, 1) := by decide +kernel
theorem dX0_findWays_74 : decode cX0_findWays 74 = .ok (.ifCond .ne 37, 3) := by decide +kernel
theorem dX0_findWays_77 : decode cX0_findWays 77 = .ok (.iload 6, 2) := by decide +kernel
theorem dX0_findWays_79 : decode cX0_findWays 79 = .ok (.ldc 73, 2) := by decide +kernel
theorem dX0_findWays_81 : decode cX0_findWays 81 = .ok (.if_icmp .eq 30, 3) := by decide +kernel
theorem dX0_findWays_84 : decode cX0_findWays 84 = .ok (.iload 7, 2) := by decide +kernel
theorem dX0_findWays_86 : decode cX0_findWays 86 = .ok (.aload_n 2, 1) := by decide +kernel
theorem dX0_findWays_87 : decode cX0_findWays 87 = .ok (.aload_n 0, 1) := by decide +kernel
theorem dX0_findWays_88 : decode cX0_findWays 88 = .ok (.getfield 43, 3) := by decide +kernel
theorem dX0_findWays_91 : decode cX0_findWays 91 = .ok (.iload 5, 2) := by decide +kernel
theorem dX0_findWays_93 : decode cX0_findWays 93 = .ok (.iaload, 1) := by decide +kernel
theorem dX0_findWays_94 : decode cX0_findWays 94 = .ok (.iaload, 1) := by decide +kernel
theorem dX0_findWays_95 : decode cX0_findWays 95 = .ok (.if_icmp .ge 16, 3) := by decide +kernel
theorem dX0_findWays_98 : decode cX0_findWays 98 = .ok (.aload_n 2, 1) := by decide +kernel
theorem dX0_findWays_99 : decode cX0_findWays 99 = .ok (.aload_n 0, 1) := by decide +kernel
theorem dX0_findWays_100 : decode cX0_findWays 100 = .ok (.getfield 43, 3) := by decide +kernel
theorem dX0_findWays_103 : decode cX0_findWays 103 = .ok (.iload 5, 2) := by decide +kernel
theorem dX0_findWays_105 : decode cX0_findWays 105 = .ok (.iaload, 1) := by decide +kernel
theorem dX0_findWays_106 : decode cX0_findWays 106 = .ok (.iload 7, 2) := by decide +kernel
theorem dX0_findWays_108 : decode cX0_findWays 108 = .ok (.iastore, 1) := by decide +kernel
theorem dX0_findWays_109 : decode cX0_findWays 109 = .ok (.iconst 1, 1) := by decide +kernel
theorem dX0_findWays_110 : decode cX0_findWays 110 = .ok (.istore_n 3, 1) := by decide +kernel
theorem dX0_findWays_111 : decode cX0_findWays 111 = .ok (.iinc 5 1, 3) := by decide +kernel
theorem dX0_findWays_114 : decode cX0_findWays 114 = .ok (.goto (-83), 3) := by decide +kernel
theorem dX0_findWays_117 : decode cX0_findWays 117 = .ok (.iinc 4 1, 3) := by decide +kernel
theorem dX0_findWays_120 : decode cX0_findWays 120 = .ok (.goto (-105), 3) := by decide +kernel
theorem dX0_findWays_123 : decode cX0_findWays 123 = .ok (.return_, 1) := by decide +kernel
theorem dX0_formGroups_0 : decode cX0_formGroups 0 = .ok (.aload_n 0, 1) := by decide +kernel
theorem dX0_formGroups_1 : decode cX0_formGroups 1 = .ok (.iconst 0, 1) := by decide +kernel
theorem dX0_formGroups_2 : decode cX0_formGroups 2 = .ok (.putfield 24, 3) := by decide +kernel
theorem dX0_formGroups_5 : decode cX0_formGroups 5 = .ok (.iconst 0, 1) := by decide +kernel
theorem dX0_formGroups_6 : decode cX0_formGroups 6 = .ok (.istore_n 2, 1) := by decide +kernel
theorem dX0_formGroups_7 : decode cX0_formGroups 7 = .ok (.iload_n 2, 1) := by decide +kernel
theorem dX0_formGroups_8 : decode cX0_formGroups 8 = .ok (.iload_n 1, 1) := by decide +kernel
theorem dX0_formGroups_9 : decode cX0_formGroups 9 = .ok (.if_icmp .ge 71, 3) := by decide +kernel
theorem dX0_formGroups_12 : decode cX0_formGroups 12 = .ok (.iconst 0, 1) := by decide +kernel
theorem dX0_formGroups_13 : decode cX0_formGroups 13 = .ok (.istore_n 3, 1) := by decide +kernel
theorem dX0_formGroups_14 : decode cX0_formGroups 14 = .ok (.iload_n 3, 1) := by decide +kernel
theorem dX0_formGroups_15 : decode cX0_formGroups 15 = .ok (.iload_n 2, 1) := by decide +kernel
theorem dX0_formGroups_16 : decode cX0_formGroups 16 = .ok (.if_icmp .ge 18, 3) := by decide +kernel
theorem dX0_formGroups_19 : decode cX0_formGroups 19 = .ok (.aload_n 0, 1) := by decide +kernel
theorem dX0_formGroups_20 : decode cX0_formGroups 20 = .ok (.iload_n 3, 1) := by decide +kernel
theorem dX0_formGroups_21 : decode cX0_formGroups 21 = .ok (.iload_n 2, 1) := by decide +kernel
theorem dX0_formGroups_22 : decode cX0_formGroups 22 = .ok (.invokevirtual 110, 3) := by decide +kernel
theorem dX0_formGroups_25 : decode cX0_formGroups 25 = .ok (.ifCond .ne 9, 3) := by decide +kernel
theorem dX0_formGroups_28 : decode cX0_formGroups 28 = .ok (.iinc 3 1, 3) := by decide +kernel
theorem dX0_formGroups_31 : decode cX0_formGroups 31 = .ok (.goto (-17), 3) := by decide +kernel
theorem dX0_formGroups_34 : decode cX0_formGroups 34 = .ok (.iload_n 3, 1) := by decide +kernel
theorem dX0_formGroups_35 : decode cX0_formGroups 35 = .ok (.iload_n 2, 1) := by decide +kernel
theorem dX0_formGroups_36 : decode cX0_formGroups 36 = .ok (.if_icmp .ne 26, 3) := by decide +kernel
theorem dX0_formGroups_39 : decode cX0_formGroups 39 = .ok (.aload_n 0, 1) := by decide +kernel
theorem dX0_formGroups_40 : decode cX0_formGroups 40 = .ok (.getfield 16, 3) := by decide +kernel
theorem dX0_formGroups_43 : decode cX0_formGroups 43 = .ok (.iload_n 2, 1) := by decide +kernel
theorem dX0_formGroups_44 : decode cX0_formGroups 44 = .ok (.aload_n 0, 1) := by decide +kernel
theorem dX0_formGroups_45 : decode cX0_formGroups 45 = .ok (.getfield 24, 3) := by decide +kernel
theorem dX0_formGroups_48 : decode cX0_formGroups 48 = .ok (.iastore, 1) := by decide +kernel
theorem dX0_formGroups_49 : decode cX0_formGroups 49 = .ok (.aload_n 0, 1) := by decide +kernel
theorem dX0_formGroups_50 : decode cX0_formGroups 50 = .ok (.dup, 1) := by decide +kernel
theorem dX0_formGroups_51 : decode cX0_formGroups 51 = .ok (.getfield 24, 3) := by decide +kernel
theorem dX0_formGroups_54 : decode cX0_formGroups 54 = .ok (.iconst 1, 1) := by decide +kernel
theorem dX0_formGroups_55 : decode cX0_formGroups 55 = .ok (.iadd, 1) := by decide +kernel
theorem dX0_formGroups_56 : decode cX0_formGroups 56 = .ok (.putfield 24, 3) := by decide +kernel
theorem dX0_formGroups_59 : decode cX0_formGroups 59 = .ok (.goto 15, 3) := by decide +kernel
theorem dX0_formGroups_62 : decode cX0_formGroups 62 = .ok (.aload_n 0, 1) := by decide +kernel
theorem dX0_formGroups_63 : decode cX0_formGroups 63 = .ok (.getfield 16, 3) := by decide +kernel
theorem dX0_formGroups_66 : decode cX0_formGroups 66 = .ok (.iload_n 2, 1) := by decide +kernel
theorem dX0_formGroups_67 : decode cX0_formGroups 67 = .ok (.aload_n 0, 1) := by decide +kernel
theorem dX0_formGroups_68 : decode cX0_formGroups 68 = .ok (.getfield 16, 3) := by decide +kernel
theorem dX0_formGroups_71 : decode cX0_formGroups 71 = .ok (.iload_n 3, 1) := by decide +kernel
theorem dX0_formGroups_72 : decode cX0_formGroups 72 = .ok (.iaload, 1) := by decide +kernel
theorem dX0_formGroups_73 : decode cX0_formGroups 73 = .ok (.iastore, 1) := by decide +kernel
theorem dX0_formGroups_74 : decode cX0_formGroups 74 = .ok (.iinc 2 1, 3) := by decide +kernel
theorem dX0_formGroups_77 : decode cX0_formGroups 77 = .ok (.goto (-70), 3) := by decide +kernel
theorem dX0_formGroups_80 : decode cX0_formGroups 80 = .ok (.return_, 1) := by decide +kernel
