theorem dX6_init_0 : decode cX6_init 0 = .ok (.aload_n 0, 1) := by decide +kernel
theorem dX6_init_1 : decode cX6_init 1 = .ok (.invokespecial 1, 3) := by decide +kernel
theorem dX6_init_4 : decode cX6_init 4 = .ok (.aload_n 0, 1) := by decide +kernel
theorem dX6_init_5 : decode cX6_init 5 = .ok (.sipush 1120, 3) := by decide +kernel
theorem dX6_init_8 : decode cX6_init 8 = .ok (.newarray .int, 2) := by decide +kernel
theorem dX6_init_10 : decode cX6_init 10 = .ok (.putfield 7, 3) := by decide +kernel
theorem dX6_init_13 : decode cX6_init 13 = .ok (.aload_n 0, 1) := by decide +kernel
theorem dX6_init_14 : decode cX6_init 14 = .ok (.bipush 80, 2) := by decide +kernel
theorem dX6_init_16 : decode cX6_init 16 = .ok (.newarray .int, 2) := by decide +kernel
theorem dX6_init_18 : decode cX6_init 18 = .ok (.putfield 13, 3) := by decide +kernel
theorem dX6_init_21 : decode cX6_init 21 = .ok (.aload_n 0, 1) := by decide +kernel
theorem dX6_init_22 : decode cX6_init 22 = .ok (.bipush 16, 2) := by decide +kernel
theorem dX6_init_24 : decode cX6_init 24 = .ok (.newarray .int, 2) := by decide +kernel
theorem dX6_init_26 : decode cX6_init 26 = .ok (.putfield 16, 3) := by decide +kernel
theorem dX6_init_29 : decode cX6_init 29 = .ok (.aload_n 0, 1) := by decide +kernel
theorem dX6_init_30 : decode cX6_init 30 = .ok (.bipush 16, 2) := by decide +kernel
theorem dX6_init_32 : decode cX6_init 32 = .ok (.newarray .int, 2) := by decide +kernel
theorem dX6_init_34 : decode cX6_init 34 = .ok (.putfield 19, 3) := by decide +kernel
theorem dX6_init_37 : decode cX6_init 37 = .ok (.aload_n 0, 1) := by decide +kernel
theorem dX6_init_38 : decode cX6_init 38 = .ok (.bipush 16, 2) := by decide +kernel
theorem dX6_init_40 : decode cX6_init 40 = .ok (.newarray .int, 2) := by decide +kernel
theorem dX6_init_42 : decode cX6_init 42 = .ok (.putfield 22, 3) := by decide +kernel
theorem dX6_init_45 : decode cX6_init 45 = .ok (.aload_n 0, 1) := by decide +kernel
theorem dX6_init_46 : decode cX6_init 46 = .ok (.bipush 16, 2) := by decide +kernel
theorem dX6_init_48 : decode cX6_init 48 = .ok (.newarray .int, 2) := by decide +kernel
theorem dX6_init_50 : decode cX6_init 50 = .ok (.putfield 25, 3) := by decide +kernel
theorem dX6_init_53 : decode cX6_init 53 = .ok (.aload_n 0, 1) := by decide +kernel
theorem dX6_init_54 : decode cX6_init 54 = .ok (.bipush 16, 2) := by decide +kernel
theorem dX6_init_56 : decode cX6_init 56 = .ok (.newarray .int, 2) := by decide +kernel
theorem dX6_init_58 : decode cX6_init 58 = .ok (.putfield 28, 3) := by decide +kernel
theorem dX6_init_61 : decode cX6_init 61 = .ok (.aload_n 0, 1) := by decide +kernel
theorem dX6_init_62 : decode cX6_init 62 = .ok (.bipush 16, 2) := by decide +kernel
theorem dX6_init_64 : decode cX6_init 64 = .ok (.newarray .boolean, 2) := by decide +kernel
theorem dX6_init_66 : decode cX6_init 66 = .ok (.putfield 31, 3) := by decide +kernel
theorem dX6_init_69 : decode cX6_init 69 = .ok (.aload_n 0, 1) := by decide +kernel
theorem dX6_init_70 : decode cX6_init 70 = .ok (.sipush 144, 3) := by decide +kernel
theorem dX6_init_73 : decode cX6_init 73 = .ok (.newarray .int, 2) := by decide +kernel
theorem dX6_init_75 : decode cX6_init 75 = .ok (.putfield 35, 3) := by decide +kernel
theorem dX6_init_78 : decode cX6_init 78 = .ok (.aload_n 0, 1) := by decide +kernel
theorem dX6_init_79 : decode cX6_init 79 = .ok (.getfield 7, 3) := by decide +kernel
theorem dX6_init_82 : decode cX6_init 82 = .ok (.bipush 110, 2) := by decide +kernel
theorem dX6_init_84 : decode cX6_init 84 = .ok (.iconst 4, 1) := by decide +kernel
theorem dX6_init_85 : decode cX6_init 85 = .ok (.iastore, 1) := by decide +kernel
theorem dX6_init_86 : decode cX6_init 86 = .ok (.aload_n 0, 1) := by decide +kernel
theorem dX6_init_87 : decode cX6_init 87 = .ok (.getfield 7, 3) := by decide +kernel
theorem dX6_init_90 : decode cX6_init 90 = .ok (.bipush 111, 2) := by decide +kernel
theorem dX6_init_92 : decode cX6_init 92 = .ok (.iconst 3, 1) := by decide +kernel
theorem dX6_init_93 : decode cX6_init 93 = .ok (.iastore, 1) := by decide +kernel
theorem dX6_init_94 : decode cX6_init 94 = .ok (.return_, 1) := by decide +kernel
theorem dX6_in_0 : decode cX6_in 0 = .ok (.iload_n 0, 1) := by decide +kernel
theorem dX6_in_1 : decode cX6_in 1 = .ok (.iload_n 1, 1) := by decide +kernel
theorem dX6_in_2 : decode cX6_in 2 = .ok (.if_icmp .lt 12, 3) := by decide +kernel
theorem dX6_in_5 : decode cX6_in 5 = .ok (.iload_n 0, 1) := by decide +kernel
theorem dX6_in_6 : decode cX6_in 6 = .ok (.iload_n 2, 1) := by decide +kernel
theorem dX6_in_7 : decode cX6_in 7 = .ok (.if_icmp .gt 7, 3) := by decide +kernel
theorem dX6_in_10 : decode cX6_in 10 = .ok (.iconst 1, 1) := by decide +kernel
theorem dX6_in_11 : decode cX6_in 11 = .ok (.goto 4, 3) := by decide +kernel
theorem dX6_in_14 : decode cX6_in 14 = .ok (.iconst 0, 1) := by decide +kernel
theorem dX6_in_15 : decode cX6_in 15 = .ok (.ireturn, 1) := by decide +kernel
theorem dX6_copies_0 : decode cX6_copies 0 = .ok (.iconst 0, 1) := by decide +kernel
theorem dX6_copies_1 : decode cX6_copies 1 = .ok (.istore_n 3, 1) := by decide +kernel
theorem dX6_copies_2 : decode cX6_copies 2 = .ok (.iload_n 3, 1) := by decide +kernel
theorem dX6_copies_3 : decode cX6_copies 3 = .ok (.bipush 112, 2) := by decide +kernel
theorem dX6_copies_5 : decode cX6_copies 5 = .ok (.if_icmp .ge 31, 3) := by decide +kernel
theorem dX6_copies_8 : decode cX6_copies 8 = .ok (.aload_n 0, 1) := by decide +kernel
theorem dX6_copies_9 : decode cX6_copies 9 = .ok (.getfield 7, 3) := by decide +kernel
theorem dX6_copies_12 : decode cX6_copies 12 = .ok (.bipush 112, 2) := by decide +kernel
theorem dX6_copies_14 : decode cX6_copies 14 = .ok (.iload_n 2, 1) := by decide +kernel
theorem dX6_copies_15 : decode cX6_copies 15 = .ok (.imul, 1) := by decide +kernel
theorem dX6_copies_16 : decode cX6_copies 16 = .ok (.iload_n 3, 1) := by decide +kernel
theorem dX6_copies_17 : decode cX6_copies 17 = .ok (.iadd, 1) := by decide +kernel
theorem dX6_copies_18 : decode cX6_copies 18 = .ok (.aload_n 0, 1) := by decide +kernel
theorem dX6_copies_19 : decode cX6_copies 19 = .ok (.getfield 7, 3) := by decide +kernel
theorem dX6_copies_22 : decode cX6_copies 22 = .ok (.bipush 112, 2) := by decide +kernel
theorem dX6_copies_24 : decode cX6_copies 24 = .ok (.iload_n 1, 1) := by decide +kernel
theorem dX6_copies_25 : decode cX6_copies 25 = .ok (.imul, 1) := by decide +kernel
theorem dX6_copies_26 : decode cX6_copies 26 = .ok (.iload_n 3, 1) := by decide +kernel
theorem dX6_copies_27 : decode cX6_copies 27 = .ok (.iadd, 1) := by decide +kernel
theorem dX6_copies_28 : decode cX6_copies 28 = .ok (.iaload, 1) := by decide +kernel
theorem dX6_copies_29 : decode cX6_copies 29 = .ok (.iastore, 1) := by decide +kernel
theorem dX6_copies_30 : decode cX6_copies 30 = .ok (.iinc 3 1, 3) := by decide +kernel
theorem dX6_copies_33 : decode cX6_copies 33 = .ok (.goto (-31), 3) := by decide +kernel
theorem dX6_copies_36 : decode cX6_copies 36 = .ok (.return_, 1) := by decide +kernel
theorem dX6_records_0 : decode cX6_records 0 = .ok (.aload_n 0, 1) := by decide +kernel
theorem dX6_records_1 : decode cX6_records 1 = .ok (.getfield 38, 3) := by decide +kernel
theorem dX6_records_4 : decode cX6_records 4 = .ok (.bipush 8, 2) := by decide +kernel
theorem dX6_records_6 : decode cX6_records 6 = .ok (.if_icmp .ne 35, 3) := by decide +kernel
theorem dX6_records_9 : decode cX6_records 9 = .ok (.iconst 1, 1) := by decide +kernel
theorem dX6_records_10 : decode cX6_records 10 = .ok (.istore_n 1, 1) := by decide +kernel
theorem dX6_records_11 : decode cX6_records 11 = .ok (.iload_n 1, 1) := by decide +kernel
theorem dX6_records_12 : decode cX6_records 12 = .ok (.bipush 8, 2) := by decide +kernel
theorem dX6_records_14 : decode cX6_records 14 = .ok (.if_icmp .ge 17, 3) := by decide +kernel
theorem dX6_records_17 : decode cX6_records 17 = .ok (.aload_n 0, 1) := by decide +kernel
theorem dX6_records_18 : decode cX6_records 18 = .ok (.iload_n 1, 1) := by decide +kernel
theorem dX6_records_19 : decode cX6_records 19 = .ok (.iconst 1, 1) := by decide +kernel
theorem dX6_records_20 : decode cX6_records 20 = .ok (.iadd, 1) := by decide +kernel
theorem dX6_records_21 : decode cX6_records 21 = .ok (.iload_n 1, 1) := by decide +kernel
theorem dX6_records_22 : decode cX6_records 22 = .ok (.invokevirtual 42, 3) := by decide +kernel
theorem dX6_records_25 : decode cX6_records 25 = .ok (.iinc 1 1, 3) := by decide +kernel
theorem dX6_records_28 : decode cX6_records 28 = .ok (.goto (-17), 3) := by decide +kernel
theorem dX6_records_31 : decode cX6_records 31 = .ok (.aload_n 0, 1) := by decide +kernel
theorem dX6_records_32 : decode cX6_records 32 = .ok (.dup, 1) := by decide +kernel
theorem dX6_records_33 : decode cX6_records 33 = .ok (.getfield 38, 3) := by decide +kernel
theorem dX6_records_36 : decode cX6_records 36 = .ok (.iconst 1, 1) := by decide +kernel
theorem dX6_records_37 : decode cX6_records 37 = .ok (.isub, 1) := by decide +kernel
theorem dX6_records_38 : decode cX6_records 38 = .ok (.putfield 38, 3) := by decide +kernel
theorem dX6_records_41 : decode cX6_records 41 = .ok (.aload_n 0, 1) := by decide +kernel
theorem dX6_records_42 : decode cX6_records 42 = .ok (.dup, 1) := by decide +kernel
theorem dX6_records_43 : decode cX6_records 43 = .ok (.getfield 38, 3) := by decide +kernel
theorem dX6_records_46 : decode cX6_records 46 = .ok (.iconst 1, 1) := by decide +kernel
theorem dX6_records_47 : decode cX6_records 47 = .ok (.iadd, 1) := by decide +kernel
theorem dX6_records_48 : decode cX6_records 48 = .ok (.putfield 38, 3) := by decide +kernel
theorem dX6_records_51 : decode cX6_records 51 = .ok (.aload_n 0, 1) := by decide +kernel
theorem dX6_records_52 : decode cX6_records 52 = .ok (.iconst 0, 1) := by decide +kernel
theorem dX6_records_53 : decode cX6_records 53 = .ok (.aload_n 0, 1) := by decide +kernel
theorem dX6_records_54 : decode cX6_records 54 = .ok (.getfield 38, 3) := by decide +kernel
theorem dX6_records_57 : decode cX6_records 57 = .ok (.invokevirtual 42, 3) := by decide +kernel
theorem dX6_records_60 : decode cX6_records 60 = .ok (.return_, 1) := by decide +kernel
theorem dX6_undo_0 : decode cX6_undo 0 = .ok (.aload_n 0, 1) := by decide +kernel
theorem dX6_undo_1 : decode cX6_undo 1 = .ok (.getfield 38, 3) := by decide +kernel
theorem dX6_undo_4 : decode cX6_undo 4 = .ok (.ifCond .ne 6, 3) := by decide +kernel
theorem dX6_undo_7 : decode cX6_undo 7 = .ok (.bipush (-2), 2) := by decide +kernel
theorem dX6_undo_9 : decode cX6_undo 9 = .ok (.ireturn, 1) := by decide +kernel
theorem dX6_undo_10 : decode cX6_undo 10 = .ok (.aload_n 0, 1) := by decide +kernel
theorem dX6_undo_11 : decode cX6_undo 11 = .ok (.aload_n 0, 1) := by decide +kernel
theorem dX6_undo_12 : decode cX6_undo 12 = .ok (.getfield 38, 3) := by decide +kernel
theorem dX6_undo_15 : decode cX6_undo 15 = .ok (.iconst 0, 1) := by decide +kernel
theorem dX6_undo_16 : decode cX6_undo 16 = .ok (.invokevirtual 42, 3) := by decide +kernel
theorem dX6_undo_19 : decode cX6_undo 19 = .ok (.aload_n 0, 1) := by decide +kernel
theorem dX6_undo_20 : decode cX6_undo 20 = .ok (.dup, 1) := by decide +kernel
theorem dX6_undo_21 : decode cX6_undo 21 = .ok (.getfield 38, 3) := by decide +kernel
theorem dX6_undo_24 : decode cX6_undo 24 = .ok (.iconst 1, 1) := by decide +kernel
theorem dX6_undo_25 : decode cX6_undo 25 = .ok (.isub, 1) := by decide +kernel
theorem dX6_undo_26 : decode cX6_undo 26 = .ok (.putfield 38, 3) := by decide +kernel
theorem dX6_undo_29 : decode cX6_undo 29 = .ok (.aload_n 0, 1) := by decide +kernel
theorem dX6_undo_30 : decode cX6_undo 30 = .ok (.getfield 38, 3) := by decide +kernel
theorem dX6_undo_33 : decode cX6_undo 33 = .ok (.ireturn, 1) := by decide +kernel
theorem dX6_isPoint_0 : decode cX6_isPoint 0 = .ok (.iload_n 1, 1) := by decide +kernel
theorem dX6_isPoint_1 : decode cX6_isPoint 1 = .ok (.iconst 0, 1) := by decide +kernel
theorem dX6_isPoint_2 : decode cX6_isPoint 2 = .ok (.aload_n 0, 1) := by decide +kernel
theorem dX6_isPoint_3 : decode cX6_isPoint 3 = .ok (.getfield 7, 3) := by decide +kernel
theorem dX6_isPoint_6 : decode cX6_isPoint 6 = .ok (.iconst 0, 1) := by decide +kernel
theorem dX6_isPoint_7 : decode cX6_isPoint 7 = .ok (.iaload, 1) := by decide +kernel
theorem dX6_isPoint_8 : decode cX6_isPoint 8 = .ok (.iconst 1, 1) := by decide +kernel
theorem dX6_isPoint_9 : decode cX6_isPoint 9 = .ok (.isub, 1) := by decide +kernel
theorem dX6_isPoint_10 : decode cX6_isPoint 10 = .ok (.invokestatic 46, 3) := by decide +kernel
theorem dX6_isPoint_13 : decode cX6_isPoint 13 = .ok (.ireturn, 1) := by decide +kernel
theorem dX6_isDimension_0 : decode cX6_isDimension 0 = .ok (.iload_n 1, 1) := by decide +kernel
theorem dX6_isDimension_1 : decode cX6_isDimension 1 = .ok (.iconst 0, 1) := by decide +kernel
theorem dX6_isDimension_2 : decode cX6_isDimension 2 = .ok (.aload_n 0, 1) := by decide +kernel
theorem dX6_isDimension_3 : decode cX6_isDimension 3 = .ok (.getfield 7, 3) := by decide +kernel
theorem dX6_isDimension_6 : decode cX6_isDimension 6 = .ok (.bipush 13, 2) := by decide +kernel
theorem dX6_isDimension_8 : decode cX6_isDimension 8 = .ok (.iaload, 1) := by decide +kernel
theorem dX6_isDimension_9 : decode cX6_isDimension 9 = .ok (.iconst 1, 1) := by decide +kernel
theorem dX6_isDimension_10 : decode cX6_isDimension 10 = .ok (.isub, 1) := by decide +kernel
theorem dX6_isDimension_11 : decode cX6_isDimension 11 = .ok (.invokestatic 46, 3) := by decide +kernel
theorem dX6_isDimension_14 : decode cX6_isDimension 14 = .ok (.ireturn, 1) := by decide +kernel
theorem dX6_of_0 : decode cX6_of 0 = .ok (.aload_n 0, 1) := by decide +kernel
theorem dX6_of_1 : decode cX6_of 1 = .ok (.getfield 7, 3) := by decide +kernel
theorem dX6_of_4 : decode cX6_of 4 = .ok (.bipush 14, 2) := by decide +kernel
theorem dX6_of_6 : decode cX6_of 6 = .ok (.bipush 6, 2) := by decide +kernel
theorem dX6_of_8 : decode cX6_of 8 = .ok (.iload_n 1, 1) := by decide +kernel
theorem dX6_of_9 : decode cX6_of 9 = .ok (.imul, 1) := by decide +kernel
theorem dX6_of_10 : decode cX6_of 10 = .ok (.iadd, 1) := by decide +kernel
theorem dX6_of_11 : decode cX6_of 11 = .ok (.iload_n 2, 1) := by decide +kernel
theorem dX6_of_12 : decode cX6_of 12 = .ok (.iadd, 1) := by decide +kernel
theorem dX6_of_13 : decode cX6_of 13 = .ok (.iaload, 1) := by decide +kernel
theorem dX6_of_14 : decode cX6_of 14 = .ok (.ireturn, 1) := by decide +kernel
theorem dX6_sets_0 : decode cX6_sets 0 = .ok (.aload_n 0, 1) := by decide +kernel
theorem dX6_sets_1 : decode cX6_sets 1 = .ok (.getfield 7, 3) := by decide +kernel
theorem dX6_sets_4 : decode cX6_sets 4 = .ok (.bipush 14, 2) := by decide +kernel
theorem dX6_sets_6 : decode cX6_sets 6 = .ok (.bipush 6, 2) := by decide +kernel
theorem dX6_sets_8 : decode cX6_sets 8 = .ok (.iload_n 1, 1) := by decide +kernel
theorem dX6_sets_9 : decode cX6_sets 9 = .ok (.imul, 1) := by decide +kernel
theorem dX6_sets_10 : decode cX6_sets 10 = .ok (.iadd, 1) := by decide +kernel
theorem dX6_sets_11 : decode cX6_sets 11 = .ok (.iload_n 2, 1) := by decide +kernel
theorem dX6_sets_12 : decode cX6_sets 12 = .ok (.iadd, 1) := by decide +kernel
theorem dX6_sets_13 : decode cX6_sets 13 = .ok (.iload_n 3, 1) := by decide +kernel
theorem dX6_sets_14 : decode cX6_sets 14 = .ok (.iastore, 1) := by decide +kernel
theorem dX6_sets_15 : decode cX6_sets 15 = .ok (.return_, 1) := by decide +kernel
theorem dX6_position_0 : decode cX6_position 0 = .ok (.aload_n 0, 1) := by decide +kernel
theorem dX6_position_1 : decode cX6_position 1 = .ok (.getfield 7, 3) := by decide +kernel
theorem dX6_position_4 : decode cX6_position 4 = .ok (.iconst 1, 1) := by decide +kernel
theorem dX6_position_5 : decode cX6_position 5 = .ok (.iload_n 1, 1) := by decide +kernel
theorem dX6_position_6 : decode cX6_position 6 = .ok (.iadd, 1) := by decide +kernel
theorem dX6_position_7 : decode cX6_position 7 = .ok (.iaload, 1) := by decide +kernel
theorem dX6_position_8 : decode cX6_position 8 = .ok (.ireturn, 1) := by decide +kernel
theorem dX6_from_0 : decode cX6_from 0 = .ok (.aload_n 0, 1) := by decide +kernel
theorem dX6_from_1 : decode cX6_from 1 = .ok (.aload_n 0, 1) := by decide +kernel
theorem dX6_from_2 : decode cX6_from 2 = .ok (.iload_n 1, 1) := by decide +kernel
theorem dX6_from_3 : decode cX6_from 3 = .ok (.iconst 0, 1) := by decide +kernel
theorem dX6_from_4 : decode cX6_from 4 = .ok (.invokevirtual 50, 3) := by decide +kernel
theorem dX6_from_7 : decode cX6_from 7 = .ok (.invokevirtual 54, 3) := by decide +kernel
theorem dX6_from_10 : decode cX6_from 10 = .ok (.ireturn, 1) := by decide +kernel
theorem dX6_to_0 : decode cX6_to 0 = .ok (.aload_n 0, 1) := by decide +kernel
theorem dX6_to_1 : decode cX6_to 1 = .ok (.aload_n 0, 1) := by decide +kernel
theorem dX6_to_2 : decode cX6_to 2 = .ok (.iload_n 1, 1) := by decide +kernel
theorem dX6_to_3 : decode cX6_to 3 = .ok (.iconst 1, 1) := by decide +kernel
theorem dX6_to_4 : decode cX6_to 4 = .ok (.invokevirtual 50, 3) := by decide +kernel
theorem dX6_to_7 : decode cX6_to 7 = .ok (.invokevirtual 54, 3) := by decide +kernel
theorem dX6_to_10 : decode cX6_to 10 = .ok (.ireturn, 1) := by decide +kernel
theorem dX6_value_0 : decode cX6_value 0 = .ok (.aload_n 0, 1) := by decide +kernel
theorem dX6_value_1 : decode cX6_value 1 = .ok (.iload_n 1, 1) := by decide +kernel
theorem dX6_value_2 : decode cX6_value 2 = .ok (.invokevirtual 58, 3) := by decide +kernel
theorem dX6_value_5 : decode cX6_value 5 = .ok (.aload_n 0, 1) := by decide +kernel
theorem dX6_value_6 : decode cX6_value 6 = .ok (.iload_n 1, 1) := by decide +kernel
theorem dX6_value_7 : decode cX6_value 7 = .ok (.invokevirtual 61, 3) := by decide +kernel
theorem dX6_value_10 : decode cX6_value 10 = .ok (.isub, 1) := by decide +kernel
theorem dX6_value_11 : decode cX6_value 11 = .ok (.ireturn, 1) := by decide +kernel
theorem dX6_pointWith_0 : decode cX6_pointWith 0 = .ok (.iconst 0, 1) := by decide +kernel
theorem dX6_pointWith_1 : decode cX6_pointWith 1 = .ok (.istore_n 2, 1) := by decide +kernel
theorem dX6_pointWith_2 : decode cX6_pointWith 2 = .ok (.iload_n 2, 1) := by decide +kernel
theorem dX6_pointWith_3 : decode cX6_pointWith 3 = .ok (.aload_n 0, 1) := by decide +kernel
theorem dX6_pointWith_4 : decode cX6_pointWith 4 = .ok (.getfield 7, 3) := by decide +kernel
theorem dX6_pointWith_7 : decode cX6_pointWith 7 = .ok (.iconst 0, 1) := by decide +kernel
theorem dX6_pointWith_8 : decode cX6_pointWith 8 = .ok (.iaload, 1) := by decide +kernel
theorem dX6_pointWith_9 : decode cX6_pointWith 9 = .ok (.if_icmp .ge 20, 3) := by decide +kernel
theorem dX6_pointWith_12 : decode cX6_pointWith 12 = .ok (.aload_n 0, 1) := by decide +kernel
theorem dX6_pointWith_13 : decode cX6_pointWith 13 = .ok (.iload_n 2, 1) := by decide +kernel
theorem dX6_pointWith_14 : decode cX6_pointWith 14 = .ok (.invokevirtual 54, 3) := by decide +kernel
theorem dX6_pointWith_17 : decode cX6_pointWith 17 = .ok (.iload_n 1, 1) := by decide +kernel
theorem dX6_pointWith_18 : decode cX6_pointWith 18 = .ok (.if_icmp .ne 5, 3) := by decide +kernel
theorem dX6_pointWith_21 : decode cX6_pointWith 21 = .ok (.iload_n 2, 1) := by decide +kernel
theorem dX6_pointWith_22 : decode cX6_pointWith 22 = .ok (.ireturn, 1) := by decide +kernel
theorem dX6_pointWith_23 : decode cX6_pointWith 23 = .ok (.iinc 2 1, 3) := by decide +kernel
theorem dX6_pointWith_26 : decode cX6_pointWith 26 = .ok (.goto (-24), 3) := by decide +kernel
theorem dX6_pointWith_29 : decode cX6_pointWith 29 = .ok (.sipush (-999), 3) := by decide +kernel
theorem dX6_pointWith_32 : decode cX6_pointWith 32 = .ok (.ireturn, 1) := by decide +kernel
theorem dX6_comes_0 : decode cX6_comes 0 = .ok (.aload_n 0, 1) := by decide +kernel
theorem dX6_comes_1 : decode cX6_comes 1 = .ok (.getfield 7, 3) := by decide +kernel
theorem dX6_comes_4 : decode cX6_comes 4 = .ok (.iconst 0, 1) := by decide +kernel
theorem dX6_comes_5 : decode cX6_comes 5 = .ok (.iaload, 1) := by decide +kernel
theorem dX6_comes_6 : decode cX6_comes 6 = .ok (.istore_n 2, 1) := by decide +kernel
theorem dX6_comes_7 : decode cX6_comes 7 = .ok (.iload_n 2, 1) := by decide +kernel
theorem dX6_comes_8 : decode cX6_comes 8 = .ok (.ifCond .le 38, 3) := by decide +kernel
theorem dX6_comes_11 : decode cX6_comes 11 = .ok (.aload_n 0, 1) := by decide +kernel
theorem dX6_comes_12 : decode cX6_comes 12 = .ok (.iload_n 2, 1) := by decide +kernel
theorem dX6_comes_13 : decode cX6_comes 13 = .ok (.iconst 1, 1) := by decide +kernel
theorem dX6_comes_14 : decode cX6_comes 14 = .ok (.isub, 1) := by decide +kernel
theorem dX6_comes_15 : decode cX6_comes 15 = .ok (.invokevirtual 54, 3) := by decide +kernel
theorem dX6_comes_18 : decode cX6_comes 18 = .ok (.iload_n 1, 1) := by decide +kernel
theorem dX6_comes_19 : decode cX6_comes 19 = .ok (.if_icmp .le 27, 3) := by decide +kernel
theorem dX6_comes_22 : decode cX6_comes 22 = .ok (.aload_n 0, 1) := by decide +kernel
theorem dX6_comes_23 : decode cX6_comes 23 = .ok (.getfield 7, 3) := by decide +kernel
theorem dX6_comes_26 : decode cX6_comes 26 = .ok (.iconst 1, 1) := by decide +kernel
theorem dX6_comes_27 : decode cX6_comes 27 = .ok (.iload_n 2, 1) := by decide +kernel
theorem dX6_comes_28 : decode cX6_comes 28 = .ok (.iadd, 1) := by decide +kernel
theorem dX6_comes_29 : decode cX6_comes 29 = .ok (.aload_n 0, 1) := by decide +kernel
theorem dX6_comes_30 : decode cX6_comes 30 = .ok (.getfield 7, 3) := by decide +kernel
theorem dX6_comes_33 : decode cX6_comes 33 = .ok (.iconst 1, 1) := by decide +kernel
theorem dX6_comes_34 : decode cX6_comes 34 = .ok (.iload_n 2, 1) := by decide +kernel
theorem dX6_comes_35 : decode cX6_comes 35 = .ok (.iadd, 1) := by decide +kernel
theorem dX6_comes_36 : decode cX6_comes 36 = .ok (.iconst 1, 1) := by decide +kernel
theorem dX6_comes_37 : decode cX6_comes 37 = .ok (.isub, 1) := by decide +kernel
theorem dX6_comes_38 : decode cX6_comes 38 = .ok (.iaload, 1) := by decide +kernel
theorem dX6_comes_39 : decode cX6_comes 39 = .ok (.iastore, 1) := by decide +kernel
theorem dX6_comes_40 : decode cX6_comes 40 = .ok (.iinc 2 (-1), 3) := by decide +kernel
theorem dX6_comes_43 : decode cX6_comes 43 = .ok (.goto (-36), 3) := by decide +kernel
theorem dX6_comes_46 : decode cX6_comes 46 = .ok (.aload_n 0, 1) := by decide +kernel
theorem dX6_comes_47 : decode cX6_comes 47 = .ok (.getfield 7, 3) := by decide +kernel
theorem dX6_comes_50 : decode cX6_comes 50 = .ok (.iconst 1, 1) := by decide +kernel
theorem dX6_comes_51 : decode cX6_comes 51 = .ok (.iload_n 2, 1) := by decide +kernel
theorem dX6_comes_52 : decode cX6_comes 52 = .ok (.iadd, 1) := by decide +kernel
theorem dX6_comes_53 : decode cX6_comes 53 = .ok (.iload_n 1, 1) := by decide +kernel
theorem dX6_comes_54 : decode cX6_comes 54 = .ok (.iastore, 1) := by decide +kernel
theorem dX6_comes_55 : decode cX6_comes 55 = .ok (.aload_n 0, 1) := by decide +kernel
theorem dX6_comes_56 : decode cX6_comes 56 = .ok (.getfield 7, 3) := by decide +kernel
theorem dX6_comes_59 : decode cX6_comes 59 = .ok (.iconst 0, 1) := by decide +kernel
theorem dX6_comes_60 : decode cX6_comes 60 = .ok (.dup2, 1) := by decide +kernel
theorem dX6_comes_61 : decode cX6_comes 61 = .ok (.iaload, 1) := by decide +kernel
theorem dX6_comes_62 : decode cX6_comes 62 = .ok (.iconst 1, 1) := by decide +kernel
theorem dX6_comes_63 : decode cX6_comes 63 = .ok (.iadd, 1) := by decide +kernel
theorem dX6_comes_64 : decode cX6_comes 64 = .ok (.iastore, 1) := by decide +kernel
theorem dX6_comes_65 : decode cX6_comes 65 = .ok (.iconst 0, 1) := by decide +kernel
theorem dX6_comes_66 : decode cX6_comes 66 = .ok (.istore_n 3, 1) := by decide +kernel
theorem dX6_comes_67 : decode cX6_comes 67 = .ok (.iload_n 3, 1) := by decide +kernel
theorem dX6_comes_68 : decode cX6_comes 68 = .ok (.iconst 2, 1) := by decide +kernel
theorem dX6_comes_69 : decode cX6_comes 69 = .ok (.aload_n 0, 1) := by decide +kernel
theorem dX6_comes_70 : decode cX6_comes 70 = .ok (.getfield 7, 3) := by decide +kernel
theorem dX6_comes_73 : decode cX6_comes 73 = .ok (.bipush 13, 2) := by decide +kernel
theorem dX6_comes_75 : decode cX6_comes 75 = .ok (.iaload, 1) := by decide +kernel
theorem dX6_comes_76 : decode cX6_comes 76 = .ok (.imul, 1) := by decide +kernel
theorem dX6_comes_77 : decode cX6_comes 77 = .ok (.if_icmp .ge 46, 3) := by decide +kernel
theorem dX6_comes_80 : decode cX6_comes 80 = .ok (.aload_n 0, 1) := by decide +kernel
theorem dX6_comes_81 : decode cX6_comes 81 = .ok (.iload_n 3, 1) := by decide +kernel
theorem dX6_comes_82 : decode cX6_comes 82 = .ok (.iconst 2, 1) := by decide +kernel
theorem dX6_comes_83 : decode cX6_comes 83 = .ok (.idiv, 1) := by decide +kernel
theorem dX6_comes_84 : decode cX6_comes 84 = .ok (.iload_n 3, 1) := by decide +kernel
theorem dX6_comes_85 : decode cX6_comes 85 = .ok (.iconst 2, 1) := by decide +kernel
theorem dX6_comes_86 : decode cX6_comes 86 = .ok (.irem, 1) := by decide +kernel
theorem dX6_comes_87 : decode cX6_comes 87 = .ok (.invokevirtual 50, 3) := by decide +kernel
theorem dX6_comes_90 : decode cX6_comes 90 = .ok (.istore 4, 2) := by decide +kernel
theorem dX6_comes_92 : decode cX6_comes 92 = .ok (.aload_n 0, 1) := by decide +kernel
theorem dX6_comes_93 : decode cX6_comes 93 = .ok (.iload_n 3, 1) := by decide +kernel
theorem dX6_comes_94 : decode cX6_comes 94 = .ok (.iconst 2, 1) := by decide +kernel
theorem dX6_comes_95 : decode cX6_comes 95 = .ok (.idiv, 1) := by decide +kernel
theorem dX6_comes_96 : decode cX6_comes 96 = .ok (.iload_n 3, 1) := by decide +kernel
theorem dX6_comes_97 : decode cX6_comes 97 = .ok (.iconst 2, 1) := by decide +kernel
theorem dX6_comes_98 : decode cX6_comes 98 = .ok (.irem, 1) := by decide +kernel
theorem dX6_comes_99 : decode cX6_comes 99 = .ok (.iload 4, 2) := by decide +kernel
theorem dX6_comes_101 : decode cX6_comes 101 = .ok (.iload_n 2, 1) := by decide +kernel
theorem dX6_comes_102 : decode cX6_comes 102 = .ok (.if_icmp .lt 10, 3) := by decide +kernel
theorem dX6_comes_105 : decode cX6_comes 105 = .ok (.iload 4, 2) := by decide +kernel
theorem dX6_comes_107 : decode cX6_comes 107 = .ok (.iconst 1, 1) := by decide +kernel
theorem dX6_comes_108 : decode cX6_comes 108 = .ok (.iadd, 1) := by decide +kernel
theorem dX6_comes_109 : decode cX6_comes 109 = .ok (.goto 5, 3) := by decide +kernel
theorem dX6_comes_112 : decode cX6_comes 112 = .ok (.iload 4, 2) := by decide +kernel
theorem dX6_comes_114 : decode cX6_comes 114 = .ok (.invokevirtual 64, 3) := by decide +kernel
theorem dX6_comes_117 : decode cX6_comes 117 = .ok (.iinc 3 1, 3) := by decide +kernel
theorem dX6_comes_120 : decode cX6_comes 120 = .ok (.goto (-53), 3) := by decide +kernel
theorem dX6_comes_123 : decode cX6_comes 123 = .ok (.iload_n 2, 1) := by decide +kernel
theorem dX6_comes_124 : decode cX6_comes 124 = .ok (.ireturn, 1) := by decide +kernel
theorem dX6_addPoint_0 : decode cX6_addPoint 0 = .ok (.iload_n 1, 1) := by decide +kernel
theorem dX6_addPoint_1 : decode cX6_addPoint 1 = .ok (.iconst 0, 1) := by decide +kernel
theorem dX6_addPoint_2 : decode cX6_addPoint 2 = .ok (.sipush 300, 3) := by decide +kernel
theorem dX6_addPoint_5 : decode cX6_addPoint 5 = .ok (.invokestatic 46, 3) := by decide +kernel
theorem dX6_addPoint_8 : decode cX6_addPoint 8 = .ok (.ifCond .ne 5, 3) := by decide +kernel
theorem dX6_addPoint_11 : decode cX6_addPoint 11 = .ok (.iconst (-1), 1) := by decide +kernel
theorem dX6_addPoint_12 : decode cX6_addPoint 12 = .ok (.ireturn, 1) := by decide +kernel
theorem dX6_addPoint_13 : decode cX6_addPoint 13 = .ok (.aload_n 0, 1) := by decide +kernel
theorem dX6_addPoint_14 : decode cX6_addPoint 14 = .ok (.iload_n 1, 1) := by decide +kernel
theorem dX6_addPoint_15 : decode cX6_addPoint 15 = .ok (.invokevirtual 68, 3) := by decide +kernel
theorem dX6_addPoint_18 : decode cX6_addPoint 18 = .ok (.sipush (-999), 3) := by decide +kernel
theorem dX6_addPoint_21 : decode cX6_addPoint 21 = .ok (.if_icmp .eq 6, 3) := by decide +kernel
theorem dX6_addPoint_24 : decode cX6_addPoint 24 = .ok (.bipush (-2), 2) := by decide +kernel
theorem dX6_addPoint_26 : decode cX6_addPoint 26 = .ok (.ireturn, 1) := by decide +kernel
theorem dX6_addPoint_27 : decode cX6_addPoint 27 = .ok (.aload_n 0, 1) := by decide +kernel
theorem dX6_addPoint_28 : decode cX6_addPoint 28 = .ok (.getfield 7, 3) := by decide +kernel
theorem dX6_addPoint_31 : decode cX6_addPoint 31 = .ok (.iconst 0, 1) := by decide +kernel
theorem dX6_addPoint_32 : decode cX6_addPoint 32 = .ok (.iaload, 1) := by decide +kernel
theorem dX6_addPoint_33 : decode cX6_addPoint 33 = .ok (.bipush 12, 2) := by decide +kernel
theorem dX6_addPoint_35 : decode cX6_addPoint 35 = .ok (.if_icmp .ne 6, 3) := by decide +kernel
theorem dX6_addPoint_38 : decode cX6_addPoint 38 = .ok (.bipush (-3), 2) := by decide +kernel
theorem dX6_addPoint_40 : decode cX6_addPoint 40 = .ok (.ireturn, 1) := by decide +kernel
theorem dX6_addPoint_41 : decode cX6_addPoint 41 = .ok (.aload_n 0, 1) := by decide +kernel
theorem dX6_addPoint_42 : decode cX6_addPoint 42 = .ok (.invokevirtual 71, 3) := by decide +kernel
theorem dX6_addPoint_45 : decode cX6_addPoint 45 = .ok (.aload_n 0, 1) := by decide +kernel
theorem dX6_addPoint_46 : decode cX6_addPoint 46 = .ok (.iload_n 1, 1) := by decide +kernel
theorem dX6_addPoint_47 : decode cX6_addPoint 47 = .ok (.invokevirtual 74, 3) := by decide +kernel
theorem dX6_addPoint_50 : decode cX6_addPoint 50 = .ok (.ireturn, 1) := by decide +kernel
theorem dX6_goes_0 : decode cX6_goes 0 = .ok (.aload_n 0, 1) := by decide +kernel
theorem dX6_goes_1 : decode cX6_goes 1 = .ok (.getfield 7, 3) := by decide +kernel
theorem dX6_goes_4 : decode cX6_goes 4 = .ok (.iconst 0, 1) := by decide +kernel
theorem dX6_goes_5 : decode cX6_goes 5 = .ok (.dup2, 1) := by decide +kernel
theorem dX6_goes_6 : decode cX6_goes 6 = .ok (.iaload, 1) := by decide +kernel
theorem dX6_goes_7 : decode cX6_goes 7 = .ok (.iconst 1, 1) := by decide +kernel
theorem dX6_goes_8 : decode cX6_goes 8 = .ok (.isub, 1) := by decide +kernel
theorem dX6_goes_9 : decode cX6_goes 9 = .ok (.iastore, 1) := by decide +kernel
theorem dX6_goes_10 : decode cX6_goes 10 = .ok (.iload_n 1, 1) := by decide +kernel
theorem dX6_goes_11 : decode cX6_goes 11 = .ok (.istore_n 2, 1) := by decide +kernel
theorem dX6_goes_12 : decode cX6_goes 12 = .ok (.iload_n 2, 1) := by decide +kernel
theorem dX6_goes_13 : decode cX6_goes 13 = .ok (.aload_n 0, 1) := by decide +kernel
theorem dX6_goes_14 : decode cX6_goes 14 = .ok (.getfield 7, 3) := by decide +kernel
theorem dX6_goes_17 : decode cX6_goes 17 = .ok (.iconst 0, 1) := by decide +kernel
theorem dX6_goes_18 : decode cX6_goes 18 = .ok (.iaload, 1) := by decide +kernel
theorem dX6_goes_19 : decode cX6_goes 19 = .ok (.if_icmp .ge 27, 3) := by decide +kernel
theorem dX6_goes_22 : decode cX6_goes 22 = .ok (.aload_n 0, 1) := by decide +kernel
theorem dX6_goes_23 : decode cX6_goes 23 = .ok (.getfield 7, 3) := by decide +kernel
theorem dX6_goes_26 : decode cX6_goes 26 = .ok (.iconst 1, 1) := by decide +kernel
theorem dX6_goes_27 : decode cX6_goes 27 = .ok (.iload_n 2, 1) := by decide +kernel
theorem dX6_goes_28 : decode cX6_goes 28 = .ok (.iadd, 1) := by decide +kernel
theorem dX6_goes_29 : decode cX6_goes 29 = .ok (.aload_n 0, 1) := by decide +kernel
theorem dX6_goes_30 : decode cX6_goes 30 = .ok (.getfield 7, 3) := by decide +kernel
theorem dX6_goes_33 : decode cX6_goes 33 = .ok (.iconst 1, 1) := by decide +kernel
theorem dX6_goes_34 : decode cX6_goes 34 = .ok (.iload_n 2, 1) := by decide +kernel
theorem dX6_goes_35 : decode cX6_goes 35 = .ok (.iadd, 1) := by decide +kernel
theorem dX6_goes_36 : decode cX6_goes 36 = .ok (.iconst 1, 1) := by decide +kernel
theorem dX6_goes_37 : decode cX6_goes 37 = .ok (.iadd, 1) := by decide +kernel
theorem dX6_goes_38 : decode cX6_goes 38 = .ok (.iaload, 1) := by decide +kernel
theorem dX6_goes_39 : decode cX6_goes 39 = .ok (.iastore, 1) := by decide +kernel
theorem dX6_goes_40 : decode cX6_goes 40 = .ok (.iinc 2 1, 3) := by decide +kernel
theorem dX6_goes_43 : decode cX6_goes 43 = .ok (.goto (-31), 3) := by decide +kernel
theorem dX6_goes_46 : decode cX6_goes 46 = .ok (.iconst 0, 1) := by decide +kernel
theorem dX6_goes_47 : decode cX6_goes 47 = .ok (.istore_n 2, 1) := by decide +kernel
theorem dX6_goes_48 : decode cX6_goes 48 = .ok (.iload_n 2, 1) := by decide +kernel
theorem dX6_goes_49 : decode cX6_goes 49 = .ok (.iconst 2, 1) := by decide +kernel
theorem dX6_goes_50 : decode cX6_goes 50 = .ok (.aload_n 0, 1) := by decide +kernel
theorem dX6_goes_51 : decode cX6_goes 51 = .ok (.getfield 7, 3) := by decide +kernel
theorem dX6_goes_54 : decode cX6_goes 54 = .ok (.bipush 13, 2) := by decide +kernel
theorem dX6_goes_56 : decode cX6_goes 56 = .ok (.iaload, 1) := by decide +kernel
theorem dX6_goes_57 : decode cX6_goes 57 = .ok (.imul, 1) := by decide +kernel
theorem dX6_goes_58 : decode cX6_goes 58 = .ok (.if_icmp .ge 51, 3) := by decide +kernel
theorem dX6_goes_61 : decode cX6_goes 61 = .ok (.aload_n 0, 1) := by decide +kernel
theorem dX6_goes_62 : decode cX6_goes 62 = .ok (.iload_n 2, 1) := by decide +kernel
theorem dX6_goes_63 : decode cX6_goes 63 = .ok (.iconst 2, 1) := by decide +kernel
theorem dX6_goes_64 : decode cX6_goes 64 = .ok (.idiv, 1) := by decide +kernel
theorem dX6_goes_65 : decode cX6_goes 65 = .ok (.iload_n 2, 1) := by decide +kernel
theorem dX6_goes_66 : decode cX6_goes 66 = .ok (.iconst 2, 1) := by decide +kernel
theorem dX6_goes_67 : decode cX6_goes 67 = .ok (.irem, 1) := by decide +kernel
theorem dX6_goes_68 : decode cX6_goes 68 = .ok (.invokevirtual 50, 3) := by decide +kernel
theorem dX6_goes_71 : decode cX6_goes 71 = .ok (.istore_n 3, 1) := by decide +kernel
theorem dX6_goes_72 : decode cX6_goes 72 = .ok (.aload_n 0, 1) := by decide +kernel
theorem dX6_goes_73 : decode cX6_goes 73 = .ok (.iload_n 2, 1) := by decide +kernel
theorem dX6_goes_74 : decode cX6_goes 74 = .ok (.iconst 2, 1) := by decide +kernel
theorem dX6_goes_75 : decode cX6_goes 75 = .ok (.idiv, 1) := by decide +kernel
theorem dX6_goes_76 : decode cX6_goes 76 = .ok (.iload_n 2, 1) := by decide +kernel
theorem dX6_goes_77 : decode cX6_goes 77 = .ok (.iconst 2, 1) := by decide +kernel
theorem dX6_goes_78 : decode cX6_goes 78 = .ok (.irem, 1) := by decide +kernel
theorem dX6_goes_79 : decode cX6_goes 79 = .ok (.iload_n 3, 1) := by decide +kernel
theorem dX6_goes_80 : decode cX6_goes 80 = .ok (.iload_n 1, 1) := by decide +kernel
theorem dX6_goes_81 : decode cX6_goes 81 = .ok (.if_icmp .ne 7, 3) := by decide +kernel
theorem dX6_goes_84 : decode cX6_goes 84 = .ok (.iconst (-1), 1) := by decide +kernel
theorem dX6_goes_85 : decode cX6_goes 85 = .ok (.goto 15, 3) := by decide +kernel
theorem dX6_goes_88 : decode cX6_goes 88 = .ok (.iload_n 3, 1) := by decide +kernel
theorem dX6_goes_89 : decode cX6_goes 89 = .ok (.iload_n 1, 1) := by decide +kernel
theorem dX6_goes_90 : decode cX6_goes 90 = .ok (.if_icmp .le 9, 3) := by decide +kernel
theorem dX6_goes_93 : decode cX6_goes 93 = .ok (.iload_n 3, 1) := by decide +kernel
theorem dX6_goes_94 : decode cX6_goes 94 = .ok (.iconst 1, 1) := by decide +kernel
theorem dX6_goes_95 : decode cX6_goes 95 = .ok (.isub, 1) := by decide +kernel
theorem dX6_goes_96 : decode cX6_goes 96 = .ok (.goto 4, 3) := by decide +kernel
theorem dX6_goes_99 : decode cX6_goes 99 = .ok (.iload_n 3, 1) := by decide +kernel
theorem dX6_goes_100 : decode cX6_goes 100 = .ok (.invokevirtual 64, 3) := by decide +kernel
theorem dX6_goes_103 : decode cX6_goes 103 = .ok (.iinc 2 1, 3) := by decide +kernel
theorem dX6_goes_106 : decode cX6_goes 106 = .ok (.goto (-58), 3) := by decide +kernel
theorem dX6_goes_109 : decode cX6_goes 109 = .ok (.return_, 1) := by decide +kernel
theorem dX6_movePoint_0 : decode cX6_movePoint 0 = .ok (.aload_n 0, 1) := by decide +kernel
theorem dX6_movePoint_1 : decode cX6_movePoint 1 = .ok (.iload_n 1, 1) := by decide +kernel
theorem dX6_movePoint_2 : decode cX6_movePoint 2 = .ok (.invokevirtual 77, 3) := by decide +kernel
theorem dX6_movePoint_5 : decode cX6_movePoint 5 = .ok (.ifCond .eq 14, 3) := by decide +kernel
theorem dX6_movePoint_8 : decode cX6_movePoint 8 = .ok (.iload_n 2, 1) := by decide +kernel
theorem dX6_movePoint_9 : decode cX6_movePoint 9 = .ok (.iconst 0, 1) := by decide +kernel
theorem dX6_movePoint_10 : decode cX6_movePoint 10 = .ok (.sipush 300, 3) := by decide +kernel
theorem dX6_movePoint_13 : decode cX6_movePoint 13 = .ok (.invokestatic 46, 3) := by decide +kernel
theorem dX6_movePoint_16 : decode cX6_movePoint 16 = .ok (.ifCond .ne 5, 3) := by decide +kernel
theorem dX6_movePoint_19 : decode cX6_movePoint 19 = .ok (.iconst (-1), 1) := by decide +kernel
theorem dX6_movePoint_20 : decode cX6_movePoint 20 = .ok (.ireturn, 1) := by decide +kernel
theorem dX6_movePoint_21 : decode cX6_movePoint 21 = .ok (.aload_n 0, 1) := by decide +kernel
theorem dX6_movePoint_22 : decode cX6_movePoint 22 = .ok (.iload_n 2, 1) := by decide +kernel
theorem dX6_movePoint_23 : decode cX6_movePoint 23 = .ok (.invokevirtual 68, 3) := by decide +kernel
theorem dX6_movePoint_26 : decode cX6_movePoint 26 = .ok (.istore_n 3, 1) := by decide +kernel
theorem dX6_movePoint_27 : decode cX6_movePoint 27 = .ok (.iload_n 3, 1) := by decide +kernel
theorem dX6_movePoint_28 : decode cX6_movePoint 28 = .ok (.sipush (-999), 3) := by decide +kernel
theorem dX6_movePoint_31 : decode cX6_movePoint 31 = .ok (.if_icmp .eq 11, 3) := by decide +kernel
theorem dX6_movePoint_34 : decode cX6_movePoint 34 = .ok (.iload_n 3, 1) := by decide +kernel
theorem dX6_movePoint_35 : decode cX6_movePoint 35 = .ok (.iload_n 1, 1) := by decide +kernel
theorem dX6_movePoint_36 : decode cX6_movePoint 36 = .ok (.if_icmp .eq 6, 3) := by decide +kernel
theorem dX6_movePoint_39 : decode cX6_movePoint 39 = .ok (.bipush (-2), 2) := by decide +kernel
theorem dX6_movePoint_41 : decode cX6_movePoint 41 = .ok (.ireturn, 1) := by decide +kernel
theorem dX6_movePoint_42 : decode cX6_movePoint 42 = .ok (.aload_n 0, 1) := by decide +kernel
theorem dX6_movePoint_43 : decode cX6_movePoint 43 = .ok (.invokevirtual 71, 3) := by decide +kernel
theorem dX6_movePoint_46 : decode cX6_movePoint 46 = .ok (.aload_n 0, 1) := by decide +kernel
theorem dX6_movePoint_47 : decode cX6_movePoint 47 = .ok (.iload_n 1, 1) := by decide +kernel
theorem dX6_movePoint_48 : decode cX6_movePoint 48 = .ok (.invokevirtual 81, 3) := by decide +kernel
theorem dX6_movePoint_51 : decode cX6_movePoint 51 = .ok (.aload_n 0, 1) := by decide +kernel
theorem dX6_movePoint_52 : decode cX6_movePoint 52 = .ok (.iload_n 2, 1) := by decide +kernel
theorem dX6_movePoint_53 : decode cX6_movePoint 53 = .ok (.invokevirtual 74, 3) := by decide +kernel
theorem dX6_movePoint_56 : decode cX6_movePoint 56 = .ok (.istore 4, 2) := by decide +kernel
theorem dX6_movePoint_58 : decode cX6_movePoint 58 = .ok (.iconst 0, 1) := by decide +kernel
theorem dX6_movePoint_59 : decode cX6_movePoint 59 = .ok (.istore 5, 2) := by decide +kernel
theorem dX6_movePoint_61 : decode cX6_movePoint 61 = .ok (.iload 5, 2) := by decide +kernel
theorem dX6_movePoint_63 : decode cX6_movePoint 63 = .ok (.aload_n 0, 1) := by decide +kernel
theorem dX6_movePoint_64 : decode cX6_movePoint 64 = .ok (.getfield 7, 3) := by decide +kernel
theorem dX6_movePoint_67 : decode cX6_movePoint 67 = .ok (.bipush 13, 2) := by decide +kernel
theorem dX6_movePoint_69 : decode cX6_movePoint 69 = .ok (.iaload, 1) := by decide +kernel
theorem dX6_movePoint_70 : decode cX6_movePoint 70 = .ok (.if_icmp .ge 101, 3) := by decide +kernel
theorem dX6_movePoint_73 : decode cX6_movePoint 73 = .ok (.aload_n 0, 1) := by decide +kernel
theorem dX6_movePoint_74 : decode cX6_movePoint 74 = .ok (.iload 5, 2) := by decide +kernel
theorem dX6_movePoint_76 : decode cX6_movePoint 76 = .ok (.iconst 0, 1) := by decide +kernel
theorem dX6_movePoint_77 : decode cX6_movePoint 77 = .ok (.invokevirtual 50, 3) := by decide +kernel
theorem dX6_movePoint_80 : decode cX6_movePoint 80 = .ok (.iconst (-1), 1) := by decide +kernel
theorem dX6_movePoint_81 : decode cX6_movePoint 81 = .ok (.if_icmp .ne 8, 3) := by decide +kernel
theorem dX6_movePoint_84 : decode cX6_movePoint 84 = .ok (.iload 4, 2) := by decide +kernel
theorem dX6_movePoint_86 : decode cX6_movePoint 86 = .ok (.goto 10, 3) := by decide +kernel
theorem dX6_movePoint_89 : decode cX6_movePoint 89 = .ok (.aload_n 0, 1) := by decide +kernel
theorem dX6_movePoint_90 : decode cX6_movePoint 90 = .ok (.iload 5, 2) := by decide +kernel
theorem dX6_movePoint_92 : decode cX6_movePoint 92 = .ok (.iconst 0, 1) := by decide +kernel
theorem dX6_movePoint_93 : decode cX6_movePoint 93 = .ok (.invokevirtual 50, 3) := by decide +kernel
theorem dX6_movePoint_96 : decode cX6_movePoint 96 = .ok (.istore 6, 2) := by decide +kernel
theorem dX6_movePoint_98 : decode cX6_movePoint 98 = .ok (.aload_n 0, 1) := by decide +kernel
theorem dX6_movePoint_99 : decode cX6_movePoint 99 = .ok (.iload 5, 2) := by decide +kernel
theorem dX6_movePoint_101 : decode cX6_movePoint 101 = .ok (.iconst 1, 1) := by decide +kernel
theorem dX6_movePoint_102 : decode cX6_movePoint 102 = .ok (.invokevirtual 50, 3) := by decide +kernel
theorem dX6_movePoint_105 : decode cX6_movePoint 105 = .ok (.iconst (-1), 1) := by decide +kernel
theorem dX6_movePoint_106 : decode cX6_movePoint 106 = .ok (.if_icmp .ne 8, 3) := by decide +kernel
theorem dX6_movePoint_109 : decode cX6_movePoint 109 = .ok (.iload 4, 2) := by decide +kernel
theorem dX6_movePoint_111 : decode cX6_movePoint 111 = .ok (.goto 10, 3) := by decide +kernel
theorem dX6_movePoint_114 : decode cX6_movePoint 114 = .ok (.aload_n 0, 1) := by decide +kernel
theorem dX6_movePoint_115 : decode cX6_movePoint 115 = .ok (.iload 5, 2) := by decide +kernel
theorem dX6_movePoint_117 : decode cX6_movePoint 117 = .ok (.iconst 1, 1) := by decide +kernel
theorem dX6_movePoint_118 : decode cX6_movePoint 118 = .ok (.invokevirtual 50, 3) := by decide +kernel
theorem dX6_movePoint_121 : decode cX6_movePoint 121 = .ok (.istore 7, 2) := by decide +kernel
theorem dX6_movePoint_123 : decode cX6_movePoint 123 = .ok (.aload_n 0, 1) := by decide +kernel
theorem dX6_movePoint_124 : decode cX6_movePoint 124 = .ok (.iload 5, 2) := by decide +kernel
theorem dX6_movePoint_126 : decode cX6_movePoint 126 = .ok (.iconst 0, 1) := by decide +kernel
theorem dX6_movePoint_127 : decode cX6_movePoint 127 = .ok (.iload 6, 2) := by decide +kernel
theorem dX6_movePoint_129 : decode cX6_movePoint 129 = .ok (.iload 7, 2) := by decide +kernel
theorem dX6_movePoint_131 : decode cX6_movePoint 131 = .ok (.if_icmp .ge 8, 3) := by decide +kernel
theorem dX6_movePoint_134 : decode cX6_movePoint 134 = .ok (.iload 6, 2) := by decide +kernel
theorem dX6_movePoint_136 : decode cX6_movePoint 136 = .ok (.goto 5, 3) := by decide +kernel
theorem dX6_movePoint_139 : decode cX6_movePoint 139 = .ok (.iload 7, 2) := by decide +kernel
theorem dX6_movePoint_141 : decode cX6_movePoint 141 = .ok (.invokevirtual 64, 3) := by decide +kernel
theorem dX6_movePoint_144 : decode cX6_movePoint 144 = .ok (.aload_n 0, 1) := by decide +kernel
theorem dX6_movePoint_145 : decode cX6_movePoint 145 = .ok (.iload 5, 2) := by decide +kernel
theorem dX6_movePoint_147 : decode cX6_movePoint 147 = .ok (.iconst 1, 1) := by decide +kernel
theorem dX6_movePoint_148 : decode cX6_movePoint 148 = .ok (.iload 6, 2) := by decide +kernel
theorem dX6_movePoint_150 : decode cX6_movePoint 150 = .ok (.iload 7, 2) := by decide +kernel
theorem dX6_movePoint_152 : decode cX6_movePoint 152 = .ok (.if_icmp .ge 8, 3) := by decide +kernel
theorem dX6_movePoint_155 : decode cX6_movePoint 155 = .ok (.iload 7, 2) := by decide +kernel
theorem dX6_movePoint_157 : decode cX6_movePoint 157 = .ok (.goto 5, 3) := by decide +kernel
theorem dX6_movePoint_160 : decode cX6_movePoint 160 = .ok (.iload 6, 2) := by decide +kernel
theorem dX6_movePoint_162 : decode cX6_movePoint 162 = .ok (.invokevirtual 64, 3) := by decide +kernel
theorem dX6_movePoint_165 : decode cX6_movePoint 165 = .ok (.iinc 5 1, 3) := by decide +kernel
theorem dX6_movePoint_168 : decode cX6_movePoint 168 = .ok (.goto (-107), 3) := by decide +kernel
theorem dX6_movePoint_171 : decode cX6_movePoint 171 = .ok (.iload 4, 2) := by decide +kernel
theorem dX6_movePoint_173 : decode cX6_movePoint 173 = .ok (.ireturn, 1) := by decide +kernel
theorem dX6_ends_0 : decode cX6_ends 0 = .ok (.iconst 0, 1) := by decide +kernel
theorem dX6_ends_1 : decode cX6_ends 1 = .ok (.istore_n 2, 1) := by decide +kernel
theorem dX6_ends_2 : decode cX6_ends 2 = .ok (.iconst 0, 1) := by decide +kernel
theorem dX6_ends_3 : decode cX6_ends 3 = .ok (.istore_n 3, 1) := by decide +kernel
theorem dX6_ends_4 : decode cX6_ends 4 = .ok (.iload_n 3, 1) := by decide +kernel
theorem dX6_ends_5 : decode cX6_ends 5 = .ok (.aload_n 0, 1) := by decide +kernel
theorem dX6_ends_6 : decode cX6_ends 6 = .ok (.getfield 7, 3) := by decide +kernel
theorem dX6_ends_9 : decode cX6_ends 9 = .ok (.bipush 13, 2) := by decide +kernel
theorem dX6_ends_11 : decode cX6_ends 11 = .ok (.iaload, 1) := by decide +kernel
theorem dX6_ends_12 : decode cX6_ends 12 = .ok (.if_icmp .ge 37, 3) := by decide +kernel
theorem dX6_ends_15 : decode cX6_ends 15 = .ok (.iload_n 2, 1) := by decide +kernel
theorem dX6_ends_16 : decode cX6_ends 16 = .ok (.aload_n 0, 1) := by decide +kernel
theorem dX6_ends_17 : decode cX6_ends 17 = .ok (.iload_n 3, 1) := by decide +kernel
theorem dX6_ends_18 : decode cX6_ends 18 = .ok (.iconst 0, 1) := by decide +kernel
theorem dX6_ends_19 : decode cX6_ends 19 = .ok (.invokevirtual 50, 3) := by decide +kernel
theorem dX6_ends_22 : decode cX6_ends 22 = .ok (.iload_n 1, 1) := by decide +kernel
theorem dX6_ends_23 : decode cX6_ends 23 = .ok (.if_icmp .eq 13, 3) := by decide +kernel
theorem dX6_ends_26 : decode cX6_ends 26 = .ok (.aload_n 0, 1) := by decide +kernel
theorem dX6_ends_27 : decode cX6_ends 27 = .ok (.iload_n 3, 1) := by decide +kernel
theorem dX6_ends_28 : decode cX6_ends 28 = .ok (.iconst 1, 1) := by decide +kernel
theorem dX6_ends_29 : decode cX6_ends 29 = .ok (.invokevirtual 50, 3) := by decide +kernel
theorem dX6_ends_32 : decode cX6_ends 32 = .ok (.iload_n 1, 1) := by decide +kernel
theorem dX6_ends_33 : decode cX6_ends 33 = .ok (.if_icmp .ne 7, 3) := by decide +kernel
theorem dX6_ends_36 : decode cX6_ends 36 = .ok (.iconst 1, 1) := by decide +kernel
theorem dX6_ends_37 : decode cX6_ends 37 = .ok (.goto 4, 3) := by decide +kernel
theorem dX6_ends_40 : decode cX6_ends 40 = .ok (.iconst 0, 1) := by decide +kernel
theorem dX6_ends_41 : decode cX6_ends 41 = .ok (.iadd, 1) := by decide +kernel
theorem dX6_ends_42 : decode cX6_ends 42 = .ok (.istore_n 2, 1) := by decide +kernel
theorem dX6_ends_43 : decode cX6_ends 43 = .ok (.iinc 3 1, 3) := by decide +kernel
theorem dX6_ends_46 : decode cX6_ends 46 = .ok (.goto (-42), 3) := by decide +kernel
theorem dX6_ends_49 : decode cX6_ends 49 = .ok (.iload_n 2, 1) := by decide +kernel
theorem dX6_ends_50 : decode cX6_ends 50 = .ok (.ireturn, 1) := by decide +kernel
theorem dX6_dropPoint_0 : decode cX6_dropPoint 0 = .ok (.aload_n 0, 1) := by decide +kernel
theorem dX6_dropPoint_1 : decode cX6_dropPoint 1 = .ok (.iload_n 1, 1) := by decide +kernel
theorem dX6_dropPoint_2 : decode cX6_dropPoint 2 = .ok (.invokevirtual 77, 3) := by decide +kernel
theorem dX6_dropPoint_5 : decode cX6_dropPoint 5 = .ok (.ifCond .ne 5, 3) := by decide +kernel
theorem dX6_dropPoint_8 : decode cX6_dropPoint 8 = .ok (.iconst (-1), 1) := by decide +kernel
theorem dX6_dropPoint_9 : decode cX6_dropPoint 9 = .ok (.ireturn, 1) := by decide +kernel
theorem dX6_dropPoint_10 : decode cX6_dropPoint 10 = .ok (.aload_n 0, 1) := by decide +kernel
theorem dX6_dropPoint_11 : decode cX6_dropPoint 11 = .ok (.iload_n 1, 1) := by decide +kernel
theorem dX6_dropPoint_12 : decode cX6_dropPoint 12 = .ok (.invokevirtual 85, 3) := by decide +kernel
theorem dX6_dropPoint_15 : decode cX6_dropPoint 15 = .ok (.ifCond .le 6, 3) := by decide +kernel
theorem dX6_dropPoint_18 : decode cX6_dropPoint 18 = .ok (.bipush (-2), 2) := by decide +kernel
theorem dX6_dropPoint_20 : decode cX6_dropPoint 20 = .ok (.ireturn, 1) := by decide +kernel
theorem dX6_dropPoint_21 : decode cX6_dropPoint 21 = .ok (.aload_n 0, 1) := by decide +kernel
theorem dX6_dropPoint_22 : decode cX6_dropPoint 22 = .ok (.invokevirtual 71, 3) := by decide +kernel
theorem dX6_dropPoint_25 : decode cX6_dropPoint 25 = .ok (.aload_n 0, 1) := by decide +kernel
theorem dX6_dropPoint_26 : decode cX6_dropPoint 26 = .ok (.iload_n 1, 1) := by decide +kernel
theorem dX6_dropPoint_27 : decode cX6_dropPoint 27 = .ok (.invokevirtual 81, 3) := by decide +kernel
theorem dX6_dropPoint_30 : decode cX6_dropPoint 30 = .ok (.aload_n 0, 1) := by decide +kernel
theorem dX6_dropPoint_31 : decode cX6_dropPoint 31 = .ok (.getfield 7, 3) := by decide +kernel
theorem dX6_dropPoint_34 : decode cX6_dropPoint 34 = .ok (.iconst 0, 1) := by decide +kernel
theorem dX6_dropPoint_35 : decode cX6_dropPoint 35 = .ok (.iaload, 1) := by decide +kernel
theorem dX6_dropPoint_36 : decode cX6_dropPoint 36 = .ok (.ireturn, 1) := by decide +kernel
theorem dX6_lays_0 : decode cX6_lays 0 = .ok (.aload_n 0, 1) := by decide +kernel
theorem dX6_lays_1 : decode cX6_lays 1 = .ok (.getfield 7, 3) := by decide +kernel
theorem dX6_lays_4 : decode cX6_lays 4 = .ok (.bipush 13, 2) := by decide +kernel
theorem dX6_lays_6 : decode cX6_lays 6 = .ok (.iaload, 1) := by decide +kernel
theorem dX6_lays_7 : decode cX6_lays 7 = .ok (.istore 6, 2) := by decide +kernel
theorem dX6_lays_9 : decode cX6_lays 9 = .ok (.aload_n 0, 1) := by decide +kernel
theorem dX6_lays_10 : decode cX6_lays 10 = .ok (.getfield 7, 3) := by decide +kernel
theorem dX6_lays_13 : decode cX6_lays 13 = .ok (.bipush 13, 2) := by decide +kernel
theorem dX6_lays_15 : decode cX6_lays 15 = .ok (.dup2, 1) := by decide +kernel
theorem dX6_lays_16 : decode cX6_lays 16 = .ok (.iaload, 1) := by decide +kernel
theorem dX6_lays_17 : decode cX6_lays 17 = .ok (.iconst 1, 1) := by decide +kernel
theorem dX6_lays_18 : decode cX6_lays 18 = .ok (.iadd, 1) := by decide +kernel
theorem dX6_lays_19 : decode cX6_lays 19 = .ok (.iastore, 1) := by decide +kernel
theorem dX6_lays_20 : decode cX6_lays 20 = .ok (.aload_n 0, 1) := by decide +kernel
theorem dX6_lays_21 : decode cX6_lays 21 = .ok (.iload 6, 2) := by decide +kernel
theorem dX6_lays_23 : decode cX6_lays 23 = .ok (.iconst 0, 1) := by decide +kernel
theorem dX6_lays_24 : decode cX6_lays 24 = .ok (.iload_n 1, 1) := by decide +kernel
theorem dX6_lays_25 : decode cX6_lays 25 = .ok (.invokevirtual 64, 3) := by decide +kernel
theorem dX6_lays_28 : decode cX6_lays 28 = .ok (.aload_n 0, 1) := by decide +kernel
theorem dX6_lays_29 : decode cX6_lays 29 = .ok (.iload 6, 2) := by decide +kernel
theorem dX6_lays_31 : decode cX6_lays 31 = .ok (.iconst 1, 1) := by decide +kernel
theorem dX6_lays_32 : decode cX6_lays 32 = .ok (.iload_n 2, 1) := by decide +kernel
theorem dX6_lays_33 : decode cX6_lays 33 = .ok (.invokevirtual 64, 3) := by decide +kernel
theorem dX6_lays_36 : decode cX6_lays 36 = .ok (.aload_n 0, 1) := by decide +kernel
theorem dX6_lays_37 : decode cX6_lays 37 = .ok (.iload 6, 2) := by decide +kernel
theorem dX6_lays_39 : decode cX6_lays 39 = .ok (.iconst 2, 1) := by decide +kernel
theorem dX6_lays_40 : decode cX6_lays 40 = .ok (.iload_n 3, 1) := by decide +kernel
theorem dX6_lays_41 : decode cX6_lays 41 = .ok (.invokevirtual 64, 3) := by decide +kernel
theorem dX6_lays_44 : decode cX6_lays 44 = .ok (.aload_n 0, 1) := by decide +kernel
theorem dX6_lays_45 : decode cX6_lays 45 = .ok (.iload 6, 2) := by decide +kernel
theorem dX6_lays_47 : decode cX6_lays 47 = .ok (.iconst 3, 1) := by decide +kernel
theorem dX6_lays_48 : decode cX6_lays 48 = .ok (.iload 4, 2) := by decide +kernel
theorem dX6_lays_50 : decode cX6_lays 50 = .ok (.invokevirtual 64, 3) := by decide +kernel
theorem dX6_lays_53 : decode cX6_lays 53 = .ok (.aload_n 0, 1) := by decide +kernel
theorem dX6_lays_54 : decode cX6_lays 54 = .ok (.iload 6, 2) := by decide +kernel
theorem dX6_lays_56 : decode cX6_lays 56 = .ok (.iconst 4, 1) := by decide +kernel
theorem dX6_lays_57 : decode cX6_lays 57 = .ok (.iload 5, 2) := by decide +kernel
theorem dX6_lays_59 : decode cX6_lays 59 = .ok (.invokevirtual 64, 3) := by decide +kernel
theorem dX6_lays_62 : decode cX6_lays 62 = .ok (.aload_n 0, 1) := by decide +kernel
theorem dX6_lays_63 : decode cX6_lays 63 = .ok (.iload 6, 2) := by decide +kernel
theorem dX6_lays_65 : decode cX6_lays 65 = .ok (.iconst 5, 1) := by decide +kernel
theorem dX6_lays_66 : decode cX6_lays 66 = .ok (.iconst 0, 1) := by decide +kernel
theorem dX6_lays_67 : decode cX6_lays 67 = .ok (.invokevirtual 64, 3) := by decide +kernel
theorem dX6_lays_70 : decode cX6_lays 70 = .ok (.return_, 1) := by decide +kernel
theorem dX6_add_0 : decode cX6_add 0 = .ok (.aload_n 0, 1) := by decide +kernel
theorem dX6_add_1 : decode cX6_add 1 = .ok (.iload_n 1, 1) := by decide +kernel
theorem dX6_add_2 : decode cX6_add 2 = .ok (.invokevirtual 77, 3) := by decide +kernel
theorem dX6_add_5 : decode cX6_add 5 = .ok (.ifCond .eq 16, 3) := by decide +kernel
theorem dX6_add_8 : decode cX6_add 8 = .ok (.aload_n 0, 1) := by decide +kernel
theorem dX6_add_9 : decode cX6_add 9 = .ok (.iload_n 2, 1) := by decide +kernel
theorem dX6_add_10 : decode cX6_add 10 = .ok (.invokevirtual 77, 3) := by decide +kernel
theorem dX6_add_13 : decode cX6_add 13 = .ok (.ifCond .eq 8, 3) := by decide +kernel
theorem dX6_add_16 : decode cX6_add 16 = .ok (.iload_n 1, 1) := by decide +kernel
theorem dX6_add_17 : decode cX6_add 17 = .ok (.iload_n 2, 1) := by decide +kernel
theorem dX6_add_18 : decode cX6_add 18 = .ok (.if_icmp .ne 5, 3) := by decide +kernel
theorem dX6_add_21 : decode cX6_add 21 = .ok (.iconst (-1), 1) := by decide +kernel
theorem dX6_add_22 : decode cX6_add 22 = .ok (.ireturn, 1) := by decide +kernel
theorem dX6_add_23 : decode cX6_add 23 = .ok (.aload_n 0, 1) := by decide +kernel
theorem dX6_add_24 : decode cX6_add 24 = .ok (.getfield 7, 3) := by decide +kernel
theorem dX6_add_27 : decode cX6_add 27 = .ok (.bipush 13, 2) := by decide +kernel
theorem dX6_add_29 : decode cX6_add 29 = .ok (.iaload, 1) := by decide +kernel
theorem dX6_add_30 : decode cX6_add 30 = .ok (.bipush 16, 2) := by decide +kernel
theorem dX6_add_32 : decode cX6_add 32 = .ok (.if_icmp .ne 6, 3) := by decide +kernel
theorem dX6_add_35 : decode cX6_add 35 = .ok (.bipush (-3), 2) := by decide +kernel
theorem dX6_add_37 : decode cX6_add 37 = .ok (.ireturn, 1) := by decide +kernel
theorem dX6_add_38 : decode cX6_add 38 = .ok (.aload_n 0, 1) := by decide +kernel
theorem dX6_add_39 : decode cX6_add 39 = .ok (.invokevirtual 71, 3) := by decide +kernel
theorem dX6_add_42 : decode cX6_add 42 = .ok (.aload_n 0, 1) := by decide +kernel
theorem dX6_add_43 : decode cX6_add 43 = .ok (.iload_n 1, 1) := by decide +kernel
theorem dX6_add_44 : decode cX6_add 44 = .ok (.iload_n 2, 1) := by decide +kernel
theorem dX6_add_45 : decode cX6_add 45 = .ok (.if_icmp .ge 7, 3) := by decide +kernel
theorem dX6_add_48 : decode cX6_add 48 = .ok (.iload_n 1, 1) := by decide +kernel
theorem dX6_add_49 : decode cX6_add 49 = .ok (.goto 4, 3) := by decide +kernel
theorem dX6_add_52 : decode cX6_add 52 = .ok (.iload_n 2, 1) := by decide +kernel
theorem dX6_add_53 : decode cX6_add 53 = .ok (.iload_n 1, 1) := by decide +kernel
theorem dX6_add_54 : decode cX6_add 54 = .ok (.iload_n 2, 1) := by decide +kernel
theorem dX6_add_55 : decode cX6_add 55 = .ok (.if_icmp .ge 7, 3) := by decide +kernel
theorem dX6_add_58 : decode cX6_add 58 = .ok (.iload_n 2, 1) := by decide +kernel
theorem dX6_add_59 : decode cX6_add 59 = .ok (.goto 4, 3) := by decide +kernel
theorem dX6_add_62 : decode cX6_add 62 = .ok (.iload_n 1, 1) := by decide +kernel
theorem dX6_add_63 : decode cX6_add 63 = .ok (.iconst 0, 1) := by decide +kernel
theorem dX6_add_64 : decode cX6_add 64 = .ok (.iconst 0, 1) := by decide +kernel
theorem dX6_add_65 : decode cX6_add 65 = .ok (.iconst 0, 1) := by decide +kernel
theorem dX6_add_66 : decode cX6_add 66 = .ok (.invokevirtual 88, 3) := by decide +kernel
theorem dX6_add_69 : decode cX6_add 69 = .ok (.aload_n 0, 1) := by decide +kernel
theorem dX6_add_70 : decode cX6_add 70 = .ok (.getfield 7, 3) := by decide +kernel
theorem dX6_add_73 : decode cX6_add 73 = .ok (.bipush 13, 2) := by decide +kernel
theorem dX6_add_75 : decode cX6_add 75 = .ok (.iaload, 1) := by decide +kernel
theorem dX6_add_76 : decode cX6_add 76 = .ok (.iconst 1, 1) := by decide +kernel
theorem dX6_add_77 : decode cX6_add 77 = .ok (.isub, 1) := by decide +kernel
theorem dX6_add_78 : decode cX6_add 78 = .ok (.ireturn, 1) := by decide +kernel
theorem dX6_drop_0 : decode cX6_drop 0 = .ok (.aload_n 0, 1) := by decide +kernel
theorem dX6_drop_1 : decode cX6_drop 1 = .ok (.iload_n 1, 1) := by decide +kernel
theorem dX6_drop_2 : decode cX6_drop 2 = .ok (.invokevirtual 92, 3) := by decide +kernel
theorem dX6_drop_5 : decode cX6_drop 5 = .ok (.ifCond .ne 5, 3) := by decide +kernel
theorem dX6_drop_8 : decode cX6_drop 8 = .ok (.iconst (-1), 1) := by decide +kernel
theorem dX6_drop_9 : decode cX6_drop 9 = .ok (.ireturn, 1) := by decide +kernel
theorem dX6_drop_10 : decode cX6_drop 10 = .ok (.aload_n 0, 1) := by decide +kernel
theorem dX6_drop_11 : decode cX6_drop 11 = .ok (.invokevirtual 71, 3) := by decide +kernel
theorem dX6_drop_14 : decode cX6_drop 14 = .ok (.aload_n 0, 1) := by decide +kernel
theorem dX6_drop_15 : decode cX6_drop 15 = .ok (.getfield 7, 3) := by decide +kernel
theorem dX6_drop_18 : decode cX6_drop 18 = .ok (.bipush 13, 2) := by decide +kernel
theorem dX6_drop_20 : decode cX6_drop 20 = .ok (.dup2, 1) := by decide +kernel
theorem dX6_drop_21 : decode cX6_drop 21 = .ok (.iaload, 1) := by decide +kernel
theorem dX6_drop_22 : decode cX6_drop 22 = .ok (.iconst 1, 1) := by decide +kernel
theorem dX6_drop_23 : decode cX6_drop 23 = .ok (.isub, 1) := by decide +kernel
theorem dX6_drop_24 : decode cX6_drop 24 = .ok (.iastore, 1) := by decide +kernel
theorem dX6_drop_25 : decode cX6_drop 25 = .ok (.bipush 14, 2) := by decide +kernel
theorem dX6_drop_27 : decode cX6_drop 27 = .ok (.bipush 6, 2) := by decide +kernel
theorem dX6_drop_29 : decode cX6_drop 29 = .ok (.iload_n 1, 1) := by decide +kernel
theorem dX6_drop_30 : decode cX6_drop 30 = .ok (.imul, 1) := by decide +kernel
theorem dX6_drop_31 : decode cX6_drop 31 = .ok (.iadd, 1) := by decide +kernel
theorem dX6_drop_32 : decode cX6_drop 32 = .ok (.istore_n 2, 1) := by decide +kernel
theorem dX6_drop_33 : decode cX6_drop 33 = .ok (.iload_n 2, 1) := by decide +kernel
theorem dX6_drop_34 : decode cX6_drop 34 = .ok (.bipush 14, 2) := by decide +kernel
theorem dX6_drop_36 : decode cX6_drop 36 = .ok (.bipush 6, 2) := by decide +kernel
theorem dX6_drop_38 : decode cX6_drop 38 = .ok (.aload_n 0, 1) := by decide +kernel
theorem dX6_drop_39 : decode cX6_drop 39 = .ok (.getfield 7, 3) := by decide +kernel
theorem dX6_drop_42 : decode cX6_drop 42 = .ok (.bipush 13, 2) := by decide +kernel
theorem dX6_drop_44 : decode cX6_drop 44 = .ok (.iaload, 1) := by decide +kernel
theorem dX6_drop_45 : decode cX6_drop 45 = .ok (.imul, 1) := by decide +kernel
theorem dX6_drop_46 : decode cX6_drop 46 = .ok (.iadd, 1) := by decide +kernel
theorem dX6_drop_47 : decode cX6_drop 47 = .ok (.if_icmp .ge 24, 3) := by decide +kernel
theorem dX6_drop_50 : decode cX6_drop 50 = .ok (.aload_n 0, 1) := by decide +kernel
theorem dX6_drop_51 : decode cX6_drop 51 = .ok (.getfield 7, 3) := by decide +kernel
theorem dX6_drop_54 : decode cX6_drop 54 = .ok (.iload_n 2, 1) := by decide +kernel
theorem dX6_drop_55 : decode cX6_drop 55 = .ok (.aload_n 0, 1) := by decide +kernel
theorem dX6_drop_56 : decode cX6_drop 56 = .ok (.getfield 7, 3) := by decide +kernel
theorem dX6_drop_59 : decode cX6_drop 59 = .ok (.iload_n 2, 1) := by decide +kernel
theorem dX6_drop_60 : decode cX6_drop 60 = .ok (.bipush 6, 2) := by decide +kernel
theorem dX6_drop_62 : decode cX6_drop 62 = .ok (.iadd, 1) := by decide +kernel
theorem dX6_drop_63 : decode cX6_drop 63 = .ok (.iaload, 1) := by decide +kernel
theorem dX6_drop_64 : decode cX6_drop 64 = .ok (.iastore, 1) := by decide +kernel
theorem dX6_drop_65 : decode cX6_drop 65 = .ok (.iinc 2 1, 3) := by decide +kernel
theorem dX6_drop_68 : decode cX6_drop 68 = .ok (.goto (-35), 3) := by decide +kernel
theorem dX6_drop_71 : decode cX6_drop 71 = .ok (.aload_n 0, 1) := by decide +kernel
theorem dX6_drop_72 : decode cX6_drop 72 = .ok (.getfield 7, 3) := by decide +kernel
theorem dX6_drop_75 : decode cX6_drop 75 = .ok (.bipush 13, 2) := by decide +kernel
theorem dX6_drop_77 : decode cX6_drop 77 = .ok (.iaload, 1) := by decide +kernel
theorem dX6_drop_78 : decode cX6_drop 78 = .ok (.ireturn, 1) := by decide +kernel
theorem dX6_setTolerance_0 : decode cX6_setTolerance 0 = .ok (.aload_n 0, 1) := by decide +kernel
theorem dX6_setTolerance_1 : decode cX6_setTolerance 1 = .ok (.iload_n 1, 1) := by decide +kernel
theorem dX6_setTolerance_2 : decode cX6_setTolerance 2 = .ok (.invokevirtual 92, 3) := by decide +kernel
theorem dX6_setTolerance_5 : decode cX6_setTolerance 5 = .ok (.ifCond .eq 23, 3) := by decide +kernel
theorem dX6_setTolerance_8 : decode cX6_setTolerance 8 = .ok (.iload_n 2, 1) := by decide +kernel
theorem dX6_setTolerance_9 : decode cX6_setTolerance 9 = .ok (.iconst 0, 1) := by decide +kernel
theorem dX6_setTolerance_10 : decode cX6_setTolerance 10 = .ok (.bipush 20, 2) := by decide +kernel
theorem dX6_setTolerance_12 : decode cX6_setTolerance 12 = .ok (.invokestatic 46, 3) := by decide +kernel
theorem dX6_setTolerance_15 : decode cX6_setTolerance 15 = .ok (.ifCond .eq 13, 3) := by decide +kernel
theorem dX6_setTolerance_18 : decode cX6_setTolerance 18 = .ok (.iload_n 3, 1) := by decide +kernel
theorem dX6_setTolerance_19 : decode cX6_setTolerance 19 = .ok (.iconst 0, 1) := by decide +kernel
theorem dX6_setTolerance_20 : decode cX6_setTolerance 20 = .ok (.bipush 20, 2) := by decide +kernel
theorem dX6_setTolerance_22 : decode cX6_setTolerance 22 = .ok (.invokestatic 46, 3) := by decide +kernel
theorem dX6_setTolerance_25 : decode cX6_setTolerance 25 = .ok (.ifCond .ne 5, 3) := by decide +kernel
theorem dX6_setTolerance_28 : decode cX6_setTolerance 28 = .ok (.iconst (-1), 1) := by decide +kernel
theorem dX6_setTolerance_29 : decode cX6_setTolerance 29 = .ok (.ireturn, 1) := by decide +kernel
theorem dX6_setTolerance_30 : decode cX6_setTolerance 30 = .ok (.aload_n 0, 1) := by decide +kernel
theorem dX6_setTolerance_31 : decode cX6_setTolerance 31 = .ok (.invokevirtual 71, 3) := by decide +kernel
theorem dX6_setTolerance_34 : decode cX6_setTolerance 34 = .ok (.bipush 100, 2) := by decide +kernel
theorem dX6_setTolerance_36 : decode cX6_setTolerance 36 = .ok (.aload_n 0, 1) := by decide +kernel
theorem dX6_setTolerance_37 : decode cX6_setTolerance 37 = .ok (.iload_n 1, 1) := by decide +kernel
theorem dX6_setTolerance_38 : decode cX6_setTolerance 38 = .ok (.iconst 2, 1) := by decide +kernel
theorem dX6_setTolerance_39 : decode cX6_setTolerance 39 = .ok (.invokevirtual 50, 3) := by decide +kernel
theorem dX6_setTolerance_42 : decode cX6_setTolerance 42 = .ok (.imul, 1) := by decide +kernel
theorem dX6_setTolerance_43 : decode cX6_setTolerance 43 = .ok (.aload_n 0, 1) := by decide +kernel
theorem dX6_setTolerance_44 : decode cX6_setTolerance 44 = .ok (.iload_n 1, 1) := by decide +kernel
theorem dX6_setTolerance_45 : decode cX6_setTolerance 45 = .ok (.iconst 3, 1) := by decide +kernel
theorem dX6_setTolerance_46 : decode cX6_setTolerance 46 = .ok (.invokevirtual 50, 3) := by decide +kernel
theorem dX6_setTolerance_49 : decode cX6_setTolerance 49 = .ok (.iadd, 1) := by decide +kernel
theorem dX6_setTolerance_50 : decode cX6_setTolerance 50 = .ok (.istore 4, 2) := by decide +kernel
theorem dX6_setTolerance_52 : decode cX6_setTolerance 52 = .ok (.aload_n 0, 1) := by decide +kernel
theorem dX6_setTolerance_53 : decode cX6_setTolerance 53 = .ok (.iload_n 1, 1) := by decide +kernel
theorem dX6_setTolerance_54 : decode cX6_setTolerance 54 = .ok (.iconst 2, 1) := by decide +kernel
theorem dX6_setTolerance_55 : decode cX6_setTolerance 55 = .ok (.iload_n 2, 1) := by decide +kernel
theorem dX6_setTolerance_56 : decode cX6_setTolerance 56 = .ok (.invokevirtual 64, 3) := by decide +kernel
theorem dX6_setTolerance_59 : decode cX6_setTolerance 59 = .ok (.aload_n 0, 1) := by decide +kernel
theorem dX6_setTolerance_60 : decode cX6_setTolerance 60 = .ok (.iload_n 1, 1) := by decide +kernel
theorem dX6_setTolerance_61 : decode cX6_setTolerance 61 = .ok (.iconst 3, 1) := by decide +kernel
theorem dX6_setTolerance_62 : decode cX6_setTolerance 62 = .ok (.iload_n 3, 1) := by decide +kernel
theorem dX6_setTolerance_63 : decode cX6_setTolerance 63 = .ok (.invokevirtual 64, 3) := by decide +kernel
theorem dX6_setTolerance_66 : decode cX6_setTolerance 66 = .ok (.iload 4, 2) := by decide +kernel
theorem dX6_setTolerance_68 : decode cX6_setTolerance 68 = .ok (.ireturn, 1) := by decide +kernel
theorem dX6_becomes_0 : decode cX6_becomes 0 = .ok (.aload_n 0, 1) := by decide +kernel
theorem dX6_becomes_1 : decode cX6_becomes 1 = .ok (.invokevirtual 71, 3) := by decide +kernel
theorem dX6_becomes_4 : decode cX6_becomes 4 = .ok (.aload_n 0, 1) := by decide +kernel
theorem dX6_becomes_5 : decode cX6_becomes 5 = .ok (.iload_n 1, 1) := by decide +kernel
theorem dX6_becomes_6 : decode cX6_becomes 6 = .ok (.iload_n 2, 1) := by decide +kernel
theorem dX6_becomes_7 : decode cX6_becomes 7 = .ok (.invokevirtual 50, 3) := by decide +kernel
theorem dX6_becomes_10 : decode cX6_becomes 10 = .ok (.istore 4, 2) := by decide +kernel
theorem dX6_becomes_12 : decode cX6_becomes 12 = .ok (.aload_n 0, 1) := by decide +kernel
theorem dX6_becomes_13 : decode cX6_becomes 13 = .ok (.iload_n 1, 1) := by decide +kernel
theorem dX6_becomes_14 : decode cX6_becomes 14 = .ok (.iload_n 2, 1) := by decide +kernel
theorem dX6_becomes_15 : decode cX6_becomes 15 = .ok (.iload_n 3, 1) := by decide +kernel
theorem dX6_becomes_16 : decode cX6_becomes 16 = .ok (.invokevirtual 64, 3) := by decide +kernel
theorem dX6_becomes_19 : decode cX6_becomes 19 = .ok (.iload 4, 2) := by decide +kernel
theorem dX6_becomes_21 : decode cX6_becomes 21 = .ok (.ireturn, 1) := by decide +kernel
theorem dX6_setChain_0 : decode cX6_setChain 0 = .ok (.aload_n 0, 1) := by decide +kernel
theorem dX6_setChain_1 : decode cX6_setChain 1 = .ok (.iload_n 1, 1) := by decide +kernel
theorem dX6_setChain_2 : decode cX6_setChain 2 = .ok (.invokevirtual 92, 3) := by decide +kernel
theorem dX6_setChain_5 : decode cX6_setChain 5 = .ok (.ifCond .eq 22, 3) := by decide +kernel
theorem dX6_setChain_8 : decode cX6_setChain 8 = .ok (.iload_n 2, 1) := by decide +kernel
theorem dX6_setChain_9 : decode cX6_setChain 9 = .ok (.iconst 0, 1) := by decide +kernel
theorem dX6_setChain_10 : decode cX6_setChain 10 = .ok (.iconst 5, 1) := by decide +kernel
theorem dX6_setChain_11 : decode cX6_setChain 11 = .ok (.invokestatic 46, 3) := by decide +kernel
theorem dX6_setChain_14 : decode cX6_setChain 14 = .ok (.ifCond .eq 13, 3) := by decide +kernel
theorem dX6_setChain_17 : decode cX6_setChain 17 = .ok (.aload_n 0, 1) := by decide +kernel
theorem dX6_setChain_18 : decode cX6_setChain 18 = .ok (.iload_n 1, 1) := by decide +kernel
theorem dX6_setChain_19 : decode cX6_setChain 19 = .ok (.iconst 4, 1) := by decide +kernel
theorem dX6_setChain_20 : decode cX6_setChain 20 = .ok (.iload_n 2, 1) := by decide +kernel
theorem dX6_setChain_21 : decode cX6_setChain 21 = .ok (.invokevirtual 95, 3) := by decide +kernel
theorem dX6_setChain_24 : decode cX6_setChain 24 = .ok (.goto 4, 3) := by decide +kernel
theorem dX6_setChain_27 : decode cX6_setChain 27 = .ok (.iconst (-1), 1) := by decide +kernel
theorem dX6_setChain_28 : decode cX6_setChain 28 = .ok (.ireturn, 1) := by decide +kernel
theorem dX6_setLeast_0 : decode cX6_setLeast 0 = .ok (.aload_n 0, 1) := by decide +kernel
theorem dX6_setLeast_1 : decode cX6_setLeast 1 = .ok (.iload_n 1, 1) := by decide +kernel
theorem dX6_setLeast_2 : decode cX6_setLeast 2 = .ok (.invokevirtual 92, 3) := by decide +kernel
theorem dX6_setLeast_5 : decode cX6_setLeast 5 = .ok (.ifCond .eq 23, 3) := by decide +kernel
theorem dX6_setLeast_8 : decode cX6_setLeast 8 = .ok (.iload_n 2, 1) := by decide +kernel
theorem dX6_setLeast_9 : decode cX6_setLeast 9 = .ok (.iconst 0, 1) := by decide +kernel
theorem dX6_setLeast_10 : decode cX6_setLeast 10 = .ok (.bipush 9, 2) := by decide +kernel
theorem dX6_setLeast_12 : decode cX6_setLeast 12 = .ok (.invokestatic 46, 3) := by decide +kernel
theorem dX6_setLeast_15 : decode cX6_setLeast 15 = .ok (.ifCond .eq 13, 3) := by decide +kernel
theorem dX6_setLeast_18 : decode cX6_setLeast 18 = .ok (.aload_n 0, 1) := by decide +kernel
theorem dX6_setLeast_19 : decode cX6_setLeast 19 = .ok (.iload_n 1, 1) := by decide +kernel
theorem dX6_setLeast_20 : decode cX6_setLeast 20 = .ok (.iconst 5, 1) := by decide +kernel
theorem dX6_setLeast_21 : decode cX6_setLeast 21 = .ok (.iload_n 2, 1) := by decide +kernel
theorem dX6_setLeast_22 : decode cX6_setLeast 22 = .ok (.invokevirtual 95, 3) := by decide +kernel
theorem dX6_setLeast_25 : decode cX6_setLeast 25 = .ok (.goto 4, 3) := by decide +kernel
theorem dX6_setLeast_28 : decode cX6_setLeast 28 = .ok (.iconst (-1), 1) := by decide +kernel
theorem dX6_setLeast_29 : decode cX6_setLeast 29 = .ok (.ireturn, 1) := by decide +kernel
theorem dX6_setting_0 : decode cX6_setting 0 = .ok (.iload_n 2, 1) := by decide +kernel
theorem dX6_setting_1 : decode cX6_setting 1 = .ok (.iconst 1, 1) := by decide +kernel
theorem dX6_setting_2 : decode cX6_setting 2 = .ok (.bipush 9, 2) := by decide +kernel
theorem dX6_setting_4 : decode cX6_setting 4 = .ok (.invokestatic 46, 3) := by decide +kernel
theorem dX6_setting_7 : decode cX6_setting 7 = .ok (.ifCond .ne 5, 3) := by decide +kernel
theorem dX6_setting_10 : decode cX6_setting 10 = .ok (.iconst (-1), 1) := by decide +kernel
theorem dX6_setting_11 : decode cX6_setting 11 = .ok (.ireturn, 1) := by decide +kernel
theorem dX6_setting_12 : decode cX6_setting 12 = .ok (.aload_n 0, 1) := by decide +kernel
theorem dX6_setting_13 : decode cX6_setting 13 = .ok (.invokevirtual 71, 3) := by decide +kernel
theorem dX6_setting_16 : decode cX6_setting 16 = .ok (.aload_n 0, 1) := by decide +kernel
theorem dX6_setting_17 : decode cX6_setting 17 = .ok (.getfield 7, 3) := by decide +kernel
theorem dX6_setting_20 : decode cX6_setting 20 = .ok (.iload_n 1, 1) := by decide +kernel
theorem dX6_setting_21 : decode cX6_setting 21 = .ok (.iaload, 1) := by decide +kernel
theorem dX6_setting_22 : decode cX6_setting 22 = .ok (.istore_n 3, 1) := by decide +kernel
theorem dX6_setting_23 : decode cX6_setting 23 = .ok (.aload_n 0, 1) := by decide +kernel
theorem dX6_setting_24 : decode cX6_setting 24 = .ok (.getfield 7, 3) := by decide +kernel
theorem dX6_setting_27 : decode cX6_setting 27 = .ok (.iload_n 1, 1) := by decide +kernel
theorem dX6_setting_28 : decode cX6_setting 28 = .ok (.iload_n 2, 1) := by decide +kernel
theorem dX6_setting_29 : decode cX6_setting 29 = .ok (.iastore, 1) := by decide +kernel
theorem dX6_setting_30 : decode cX6_setting 30 = .ok (.iload_n 3, 1) := by decide +kernel
theorem dX6_setting_31 : decode cX6_setting 31 = .ok (.ireturn, 1) := by decide +kernel
theorem dX6_setLetter_0 : decode cX6_setLetter 0 = .ok (.aload_n 0, 1) := by decide +kernel
theorem dX6_setLetter_1 : decode cX6_setLetter 1 = .ok (.bipush 110, 2) := by decide +kernel
theorem dX6_setLetter_3 : decode cX6_setLetter 3 = .ok (.iload_n 1, 1) := by decide +kernel
theorem dX6_setLetter_4 : decode cX6_setLetter 4 = .ok (.invokevirtual 99, 3) := by decide +kernel
theorem dX6_setLetter_7 : decode cX6_setLetter 7 = .ok (.ireturn, 1) := by decide +kernel
theorem dX6_setArrow_0 : decode cX6_setArrow 0 = .ok (.aload_n 0, 1) := by decide +kernel
theorem dX6_setArrow_1 : decode cX6_setArrow 1 = .ok (.bipush 111, 2) := by decide +kernel
theorem dX6_setArrow_3 : decode cX6_setArrow 3 = .ok (.iload_n 1, 1) := by decide +kernel
theorem dX6_setArrow_4 : decode cX6_setArrow 4 = .ok (.invokevirtual 99, 3) := by decide +kernel
theorem dX6_setArrow_7 : decode cX6_setArrow 7 = .ok (.ireturn, 1) := by decide +kernel
theorem dX6_type_0 : decode cX6_type 0 = .ok (.iload_n 1, 1) := by decide +kernel
theorem dX6_type_1 : decode cX6_type 1 = .ok (.bipush 32, 2) := by decide +kernel
theorem dX6_type_3 : decode cX6_type 3 = .ok (.bipush 126, 2) := by decide +kernel
theorem dX6_type_5 : decode cX6_type 5 = .ok (.invokestatic 46, 3) := by decide +kernel
theorem dX6_type_8 : decode cX6_type 8 = .ok (.ifCond .ne 5, 3) := by decide +kernel
theorem dX6_type_11 : decode cX6_type 11 = .ok (.iconst (-1), 1) := by decide +kernel
theorem dX6_type_12 : decode cX6_type 12 = .ok (.ireturn, 1) := by decide +kernel
theorem dX6_type_13 : decode cX6_type 13 = .ok (.aload_n 0, 1) := by decide +kernel
theorem dX6_type_14 : decode cX6_type 14 = .ok (.getfield 102, 3) := by decide +kernel
theorem dX6_type_17 : decode cX6_type 17 = .ok (.bipush 80, 2) := by decide +kernel
theorem dX6_type_19 : decode cX6_type 19 = .ok (.if_icmp .ne 6, 3) := by decide +kernel
theorem dX6_type_22 : decode cX6_type 22 = .ok (.bipush (-3), 2) := by decide +kernel
theorem dX6_type_24 : decode cX6_type 24 = .ok (.ireturn, 1) := by decide +kernel
theorem dX6_type_25 : decode cX6_type 25 = .ok (.aload_n 0, 1) := by decide +kernel
theorem dX6_type_26 : decode cX6_type 26 = .ok (.getfield 13, 3) := by decide +kernel
theorem dX6_type_29 : decode cX6_type 29 = .ok (.aload_n 0, 1) := by decide +kernel
theorem dX6_type_30 : decode cX6_type 30 = .ok (.getfield 102, 3) := by decide +kernel
theorem dX6_type_33 : decode cX6_type 33 = .ok (.iload_n 1, 1) := by decide +kernel
theorem dX6_type_34 : decode cX6_type 34 = .ok (.iastore, 1) := by decide +kernel
theorem dX6_type_35 : decode cX6_type 35 = .ok (.aload_n 0, 1) := by decide +kernel
theorem dX6_type_36 : decode cX6_type 36 = .ok (.dup, 1) := by decide +kernel
theorem dX6_type_37 : decode cX6_type 37 = .ok (.getfield 102, 3) := by decide +kernel
theorem dX6_type_40 : decode cX6_type 40 = .ok (.iconst 1, 1) := by decide +kernel
theorem dX6_type_41 : decode cX6_type 41 = .ok (.iadd, 1) := by decide +kernel
theorem dX6_type_42 : decode cX6_type 42 = .ok (.putfield 102, 3) := by decide +kernel
theorem dX6_type_45 : decode cX6_type 45 = .ok (.aload_n 0, 1) := by decide +kernel
theorem dX6_type_46 : decode cX6_type 46 = .ok (.getfield 102, 3) := by decide +kernel
theorem dX6_type_49 : decode cX6_type 49 = .ok (.ireturn, 1) := by decide +kernel
theorem dX6_clearText_0 : decode cX6_clearText 0 = .ok (.aload_n 0, 1) := by decide +kernel
theorem dX6_clearText_1 : decode cX6_clearText 1 = .ok (.getfield 102, 3) := by decide +kernel
theorem dX6_clearText_4 : decode cX6_clearText 4 = .ok (.istore_n 1, 1) := by decide +kernel
theorem dX6_clearText_5 : decode cX6_clearText 5 = .ok (.aload_n 0, 1) := by decide +kernel
theorem dX6_clearText_6 : decode cX6_clearText 6 = .ok (.iconst 0, 1) := by decide +kernel
theorem dX6_clearText_7 : decode cX6_clearText 7 = .ok (.putfield 102, 3) := by decide +kernel
theorem dX6_clearText_10 : decode cX6_clearText 10 = .ok (.iload_n 1, 1) := by decide +kernel
theorem dX6_clearText_11 : decode cX6_clearText 11 = .ok (.ireturn, 1) := by decide +kernel
theorem dX6_here_0 : decode cX6_here 0 = .ok (.aload_n 0, 1) := by decide +kernel
theorem dX6_here_1 : decode cX6_here 1 = .ok (.getfield 105, 3) := by decide +kernel
theorem dX6_here_4 : decode cX6_here 4 = .ok (.aload_n 0, 1) := by decide +kernel
theorem dX6_here_5 : decode cX6_here 5 = .ok (.getfield 102, 3) := by decide +kernel
theorem dX6_here_8 : decode cX6_here 8 = .ok (.if_icmp .ge 15, 3) := by decide +kernel
theorem dX6_here_11 : decode cX6_here 11 = .ok (.aload_n 0, 1) := by decide +kernel
theorem dX6_here_12 : decode cX6_here 12 = .ok (.getfield 13, 3) := by decide +kernel
theorem dX6_here_15 : decode cX6_here 15 = .ok (.aload_n 0, 1) := by decide +kernel
theorem dX6_here_16 : decode cX6_here 16 = .ok (.getfield 105, 3) := by decide +kernel
theorem dX6_here_19 : decode cX6_here 19 = .ok (.iaload, 1) := by decide +kernel
theorem dX6_here_20 : decode cX6_here 20 = .ok (.goto 6, 3) := by decide +kernel
theorem dX6_here_23 : decode cX6_here 23 = .ok (.sipush (-999), 3) := by decide +kernel
theorem dX6_here_26 : decode cX6_here 26 = .ok (.ireturn, 1) := by decide +kernel
theorem dX6_isDigit_0 : decode cX6_isDigit 0 = .ok (.aload_n 0, 1) := by decide +kernel
theorem dX6_isDigit_1 : decode cX6_isDigit 1 = .ok (.invokevirtual 108, 3) := by decide +kernel
theorem dX6_isDigit_4 : decode cX6_isDigit 4 = .ok (.bipush 48, 2) := by decide +kernel
theorem dX6_isDigit_6 : decode cX6_isDigit 6 = .ok (.bipush 57, 2) := by decide +kernel
theorem dX6_isDigit_8 : decode cX6_isDigit 8 = .ok (.invokestatic 46, 3) := by decide +kernel
theorem dX6_isDigit_11 : decode cX6_isDigit 11 = .ok (.ireturn, 1) := by decide +kernel
theorem dX6_fails_0 : decode cX6_fails 0 = .ok (.aload_n 0, 1) := by decide +kernel
theorem dX6_fails_1 : decode cX6_fails 1 = .ok (.iload_n 1, 1) := by decide +kernel
theorem dX6_fails_2 : decode cX6_fails 2 = .ok (.putfield 112, 3) := by decide +kernel
theorem dX6_fails_5 : decode cX6_fails 5 = .ok (.aload_n 0, 1) := by decide +kernel
theorem dX6_fails_6 : decode cX6_fails 6 = .ok (.iload_n 2, 1) := by decide +kernel
theorem dX6_fails_7 : decode cX6_fails 7 = .ok (.putfield 115, 3) := by decide +kernel
theorem dX6_fails_10 : decode cX6_fails 10 = .ok (.iconst 0, 1) := by decide +kernel
theorem dX6_fails_11 : decode cX6_fails 11 = .ok (.ireturn, 1) := by decide +kernel
theorem dX6_readsNumber_0 : decode cX6_readsNumber 0 = .ok (.aload_n 0, 1) := by decide +kernel
theorem dX6_readsNumber_1 : decode cX6_readsNumber 1 = .ok (.getfield 105, 3) := by decide +kernel
theorem dX6_readsNumber_4 : decode cX6_readsNumber 4 = .ok (.istore 4, 2) := by decide +kernel
theorem dX6_readsNumber_6 : decode cX6_readsNumber 6 = .ok (.aload_n 0, 1) := by decide +kernel
theorem dX6_readsNumber_7 : decode cX6_readsNumber 7 = .ok (.iconst 0, 1) := by decide +kernel
theorem dX6_readsNumber_8 : decode cX6_readsNumber 8 = .ok (.putfield 118, 3) := by decide +kernel
theorem dX6_readsNumber_11 : decode cX6_readsNumber 11 = .ok (.aload_n 0, 1) := by decide +kernel
theorem dX6_readsNumber_12 : decode cX6_readsNumber 12 = .ok (.invokevirtual 121, 3) := by decide +kernel
theorem dX6_readsNumber_15 : decode cX6_readsNumber 15 = .ok (.ifCond .eq 46, 3) := by decide +kernel
theorem dX6_readsNumber_18 : decode cX6_readsNumber 18 = .ok (.aload_n 0, 1) := by decide +kernel
theorem dX6_readsNumber_19 : decode cX6_readsNumber 19 = .ok (.getfield 105, 3) := by decide +kernel
theorem dX6_readsNumber_22 : decode cX6_readsNumber 22 = .ok (.iload 4, 2) := by decide +kernel
theorem dX6_readsNumber_24 : decode cX6_readsNumber 24 = .ok (.iload_n 1, 1) := by decide +kernel
theorem dX6_readsNumber_25 : decode cX6_readsNumber 25 = .ok (.iadd, 1) := by decide +kernel
theorem dX6_readsNumber_26 : decode cX6_readsNumber 26 = .ok (.if_icmp .ge 35, 3) := by decide +kernel
theorem dX6_readsNumber_29 : decode cX6_readsNumber 29 = .ok (.aload_n 0, 1) := by decide +kernel
theorem dX6_readsNumber_30 : decode cX6_readsNumber 30 = .ok (.bipush 10, 2) := by decide +kernel
theorem dX6_readsNumber_32 : decode cX6_readsNumber 32 = .ok (.aload_n 0, 1) := by decide +kernel
theorem dX6_readsNumber_33 : decode cX6_readsNumber 33 = .ok (.getfield 118, 3) := by decide +kernel
theorem dX6_readsNumber_36 : decode cX6_readsNumber 36 = .ok (.imul, 1) := by decide +kernel
theorem dX6_readsNumber_37 : decode cX6_readsNumber 37 = .ok (.aload_n 0, 1) := by decide +kernel
theorem dX6_readsNumber_38 : decode cX6_readsNumber 38 = .ok (.invokevirtual 108, 3) := by decide +kernel
theorem dX6_readsNumber_41 : decode cX6_readsNumber 41 = .ok (.iadd, 1) := by decide +kernel
theorem dX6_readsNumber_42 : decode cX6_readsNumber 42 = .ok (.bipush 48, 2) := by decide +kernel
theorem dX6_readsNumber_44 : decode cX6_readsNumber 44 = .ok (.isub, 1) := by decide +kernel
theorem dX6_readsNumber_45 : decode cX6_readsNumber 45 = .ok (.putfield 118, 3) := by decide +kernel
theorem dX6_readsNumber_48 : decode cX6_readsNumber 48 = .ok (.aload_n 0, 1) := by decide +kernel
theorem dX6_readsNumber_49 : decode cX6_readsNumber 49 = .ok (.dup, 1) := by decide +kernel
theorem dX6_readsNumber_50 : decode cX6_readsNumber 50 = .ok (.getfield 105, 3) := by decide +kernel
theorem dX6_readsNumber_53 : decode cX6_readsNumber 53 = .ok (.iconst 1, 1) := by decide +kernel
theorem dX6_readsNumber_54 : decode cX6_readsNumber 54 = .ok (.iadd, 1) := by decide +kernel
theorem dX6_readsNumber_55 : decode cX6_readsNumber 55 = .ok (.putfield 105, 3) := by decide +kernel
theorem dX6_readsNumber_58 : decode cX6_readsNumber 58 = .ok (.goto (-47), 3) := by decide +kernel
theorem dX6_readsNumber_61 : decode cX6_readsNumber 61 = .ok (.aload_n 0, 1) := by decide +kernel
theorem dX6_readsNumber_62 : decode cX6_readsNumber 62 = .ok (.getfield 105, 3) := by decide +kernel
theorem dX6_readsNumber_65 : decode cX6_readsNumber 65 = .ok (.iload 4, 2) := by decide +kernel
theorem dX6_readsNumber_67 : decode cX6_readsNumber 67 = .ok (.if_icmp .eq 10, 3) := by decide +kernel
theorem dX6_readsNumber_70 : decode cX6_readsNumber 70 = .ok (.aload_n 0, 1) := by decide +kernel
theorem dX6_readsNumber_71 : decode cX6_readsNumber 71 = .ok (.invokevirtual 121, 3) := by decide +kernel
theorem dX6_readsNumber_74 : decode cX6_readsNumber 74 = .ok (.ifCond .eq 13, 3) := by decide +kernel
theorem dX6_readsNumber_77 : decode cX6_readsNumber 77 = .ok (.aload_n 0, 1) := by decide +kernel
theorem dX6_readsNumber_78 : decode cX6_readsNumber 78 = .ok (.iconst 1, 1) := by decide +kernel
theorem dX6_readsNumber_79 : decode cX6_readsNumber 79 = .ok (.aload_n 0, 1) := by decide +kernel
theorem dX6_readsNumber_80 : decode cX6_readsNumber 80 = .ok (.getfield 105, 3) := by decide +kernel
theorem dX6_readsNumber_83 : decode cX6_readsNumber 83 = .ok (.invokevirtual 125, 3) := by decide +kernel
theorem dX6_readsNumber_86 : decode cX6_readsNumber 86 = .ok (.ireturn, 1) := by decide +kernel
theorem dX6_readsNumber_87 : decode cX6_readsNumber 87 = .ok (.aload_n 0, 1) := by decide +kernel
theorem dX6_readsNumber_88 : decode cX6_readsNumber 88 = .ok (.getfield 118, 3) := by decide +kernel
theorem dX6_readsNumber_91 : decode cX6_readsNumber 91 = .ok (.iload_n 2, 1) := by decide +kernel
theorem dX6_readsNumber_92 : decode cX6_readsNumber 92 = .ok (.iload_n 3, 1) := by decide +kernel
theorem dX6_readsNumber_93 : decode cX6_readsNumber 93 = .ok (.invokestatic 46, 3) := by decide +kernel
theorem dX6_readsNumber_96 : decode cX6_readsNumber 96 = .ok (.ifCond .ne 13, 3) := by decide +kernel
theorem dX6_readsNumber_99 : decode cX6_readsNumber 99 = .ok (.aload_n 0, 1) := by decide +kernel
theorem dX6_readsNumber_100 : decode cX6_readsNumber 100 = .ok (.iconst 2, 1) := by decide +kernel
theorem dX6_readsNumber_101 : decode cX6_readsNumber 101 = .ok (.iload 4, 2) := by decide +kernel
theorem dX6_readsNumber_103 : decode cX6_readsNumber 103 = .ok (.invokevirtual 125, 3) := by decide +kernel
theorem dX6_readsNumber_106 : decode cX6_readsNumber 106 = .ok (.ifCond .eq 7, 3) := by decide +kernel
theorem dX6_readsNumber_109 : decode cX6_readsNumber 109 = .ok (.iconst 1, 1) := by decide +kernel
theorem dX6_readsNumber_110 : decode cX6_readsNumber 110 = .ok (.goto 4, 3) := by decide +kernel
theorem dX6_readsNumber_113 : decode cX6_readsNumber 113 = .ok (.iconst 0, 1) := by decide +kernel
theorem dX6_readsNumber_114 : decode cX6_readsNumber 114 = .ok (.ireturn, 1) := by decide +kernel
theorem dX6_reads_0 : decode cX6_reads 0 = .ok (.aload_n 0, 1) := by decide +kernel
theorem dX6_reads_1 : decode cX6_reads 1 = .ok (.invokevirtual 108, 3) := by decide +kernel
theorem dX6_reads_4 : decode cX6_reads 4 = .ok (.iload_n 1, 1) := by decide +kernel
theorem dX6_reads_5 : decode cX6_reads 5 = .ok (.if_icmp .eq 13, 3) := by decide +kernel
theorem dX6_reads_8 : decode cX6_reads 8 = .ok (.aload_n 0, 1) := by decide +kernel
theorem dX6_reads_9 : decode cX6_reads 9 = .ok (.iconst 1, 1) := by decide +kernel
theorem dX6_reads_10 : decode cX6_reads 10 = .ok (.aload_n 0, 1) := by decide +kernel
theorem dX6_reads_11 : decode cX6_reads 11 = .ok (.getfield 105, 3) := by decide +kernel
theorem dX6_reads_14 : decode cX6_reads 14 = .ok (.invokevirtual 125, 3) := by decide +kernel
theorem dX6_reads_17 : decode cX6_reads 17 = .ok (.ireturn, 1) := by decide +kernel
theorem dX6_reads_18 : decode cX6_reads 18 = .ok (.aload_n 0, 1) := by decide +kernel
theorem dX6_reads_19 : decode cX6_reads 19 = .ok (.dup, 1) := by decide +kernel
theorem dX6_reads_20 : decode cX6_reads 20 = .ok (.getfield 105, 3) := by decide +kernel
theorem dX6_reads_23 : decode cX6_reads 23 = .ok (.iconst 1, 1) := by decide +kernel
theorem dX6_reads_24 : decode cX6_reads 24 = .ok (.iadd, 1) := by decide +kernel
theorem dX6_reads_25 : decode cX6_reads 25 = .ok (.putfield 105, 3) := by decide +kernel
theorem dX6_reads_28 : decode cX6_reads 28 = .ok (.iconst 1, 1) := by decide +kernel
theorem dX6_reads_29 : decode cX6_reads 29 = .ok (.ireturn, 1) := by decide +kernel
theorem dX6_readsPositions_0 : decode cX6_readsPositions 0 = .ok (.iconst (-1), 1) := by decide +kernel
theorem dX6_readsPositions_1 : decode cX6_readsPositions 1 = .ok (.istore_n 1, 1) := by decide +kernel
theorem dX6_readsPositions_2 : decode cX6_readsPositions 2 = .ok (.aload_n 0, 1) := by decide +kernel
theorem dX6_readsPositions_3 : decode cX6_readsPositions 3 = .ok (.bipush 112, 2) := by decide +kernel
theorem dX6_readsPositions_5 : decode cX6_readsPositions 5 = .ok (.invokevirtual 129, 3) := by decide +kernel
theorem dX6_readsPositions_8 : decode cX6_readsPositions 8 = .ok (.istore_n 2, 1) := by decide +kernel
theorem dX6_readsPositions_9 : decode cX6_readsPositions 9 = .ok (.iload_n 2, 1) := by decide +kernel
theorem dX6_readsPositions_10 : decode cX6_readsPositions 10 = .ok (.ifCond .eq 98, 3) := by decide +kernel
theorem dX6_readsPositions_13 : decode cX6_readsPositions 13 = .ok (.aload_n 0, 1) := by decide +kernel
theorem dX6_readsPositions_14 : decode cX6_readsPositions 14 = .ok (.iconst 3, 1) := by decide +kernel
theorem dX6_readsPositions_15 : decode cX6_readsPositions 15 = .ok (.iload_n 1, 1) := by decide +kernel
theorem dX6_readsPositions_16 : decode cX6_readsPositions 16 = .ok (.iconst 1, 1) := by decide +kernel
theorem dX6_readsPositions_17 : decode cX6_readsPositions 17 = .ok (.iadd, 1) := by decide +kernel
theorem dX6_readsPositions_18 : decode cX6_readsPositions 18 = .ok (.sipush 300, 3) := by decide +kernel
theorem dX6_readsPositions_21 : decode cX6_readsPositions 21 = .ok (.invokevirtual 132, 3) := by decide +kernel
theorem dX6_readsPositions_24 : decode cX6_readsPositions 24 = .ok (.ifCond .ne 5, 3) := by decide +kernel
theorem dX6_readsPositions_27 : decode cX6_readsPositions 27 = .ok (.iconst 0, 1) := by decide +kernel
theorem dX6_readsPositions_28 : decode cX6_readsPositions 28 = .ok (.ireturn, 1) := by decide +kernel
theorem dX6_readsPositions_29 : decode cX6_readsPositions 29 = .ok (.aload_n 0, 1) := by decide +kernel
theorem dX6_readsPositions_30 : decode cX6_readsPositions 30 = .ok (.getfield 118, 3) := by decide +kernel
theorem dX6_readsPositions_33 : decode cX6_readsPositions 33 = .ok (.istore_n 1, 1) := by decide +kernel
theorem dX6_readsPositions_34 : decode cX6_readsPositions 34 = .ok (.aload_n 0, 1) := by decide +kernel
theorem dX6_readsPositions_35 : decode cX6_readsPositions 35 = .ok (.getfield 7, 3) := by decide +kernel
theorem dX6_readsPositions_38 : decode cX6_readsPositions 38 = .ok (.iconst 1, 1) := by decide +kernel
theorem dX6_readsPositions_39 : decode cX6_readsPositions 39 = .ok (.aload_n 0, 1) := by decide +kernel
theorem dX6_readsPositions_40 : decode cX6_readsPositions 40 = .ok (.getfield 7, 3) := by decide +kernel
theorem dX6_readsPositions_43 : decode cX6_readsPositions 43 = .ok (.iconst 0, 1) := by decide +kernel
theorem dX6_readsPositions_44 : decode cX6_readsPositions 44 = .ok (.iaload, 1) := by decide +kernel
theorem dX6_readsPositions_45 : decode cX6_readsPositions 45 = .ok (.iadd, 1) := by decide +kernel
theorem dX6_readsPositions_46 : decode cX6_readsPositions 46 = .ok (.aload_n 0, 1) := by decide +kernel
theorem dX6_readsPositions_47 : decode cX6_readsPositions 47 = .ok (.getfield 118, 3) := by decide +kernel
theorem dX6_readsPositions_50 : decode cX6_readsPositions 50 = .ok (.iastore, 1) := by decide +kernel
theorem dX6_readsPositions_51 : decode cX6_readsPositions 51 = .ok (.aload_n 0, 1) := by decide +kernel
theorem dX6_readsPositions_52 : decode cX6_readsPositions 52 = .ok (.getfield 7, 3) := by decide +kernel
theorem dX6_readsPositions_55 : decode cX6_readsPositions 55 = .ok (.iconst 0, 1) := by decide +kernel
theorem dX6_readsPositions_56 : decode cX6_readsPositions 56 = .ok (.dup2, 1) := by decide +kernel
theorem dX6_readsPositions_57 : decode cX6_readsPositions 57 = .ok (.iaload, 1) := by decide +kernel
theorem dX6_readsPositions_58 : decode cX6_readsPositions 58 = .ok (.iconst 1, 1) := by decide +kernel
theorem dX6_readsPositions_59 : decode cX6_readsPositions 59 = .ok (.iadd, 1) := by decide +kernel
theorem dX6_readsPositions_60 : decode cX6_readsPositions 60 = .ok (.iastore, 1) := by decide +kernel
theorem dX6_readsPositions_61 : decode cX6_readsPositions 61 = .ok (.aload_n 0, 1) := by decide +kernel
theorem dX6_readsPositions_62 : decode cX6_readsPositions 62 = .ok (.invokevirtual 108, 3) := by decide +kernel
theorem dX6_readsPositions_65 : decode cX6_readsPositions 65 = .ok (.bipush 44, 2) := by decide +kernel
theorem dX6_readsPositions_67 : decode cX6_readsPositions 67 = .ok (.if_icmp .ne 18, 3) := by decide +kernel
theorem dX6_readsPositions_70 : decode cX6_readsPositions 70 = .ok (.aload_n 0, 1) := by decide +kernel
theorem dX6_readsPositions_71 : decode cX6_readsPositions 71 = .ok (.getfield 7, 3) := by decide +kernel
theorem dX6_readsPositions_74 : decode cX6_readsPositions 74 = .ok (.iconst 0, 1) := by decide +kernel
theorem dX6_readsPositions_75 : decode cX6_readsPositions 75 = .ok (.iaload, 1) := by decide +kernel
theorem dX6_readsPositions_76 : decode cX6_readsPositions 76 = .ok (.bipush 12, 2) := by decide +kernel
theorem dX6_readsPositions_78 : decode cX6_readsPositions 78 = .ok (.if_icmp .ge 7, 3) := by decide +kernel
theorem dX6_readsPositions_81 : decode cX6_readsPositions 81 = .ok (.iconst 1, 1) := by decide +kernel
theorem dX6_readsPositions_82 : decode cX6_readsPositions 82 = .ok (.goto 4, 3) := by decide +kernel
theorem dX6_readsPositions_85 : decode cX6_readsPositions 85 = .ok (.iconst 0, 1) := by decide +kernel
theorem dX6_readsPositions_86 : decode cX6_readsPositions 86 = .ok (.istore_n 2, 1) := by decide +kernel
theorem dX6_readsPositions_87 : decode cX6_readsPositions 87 = .ok (.aload_n 0, 1) := by decide +kernel
theorem dX6_readsPositions_88 : decode cX6_readsPositions 88 = .ok (.dup, 1) := by decide +kernel
theorem dX6_readsPositions_89 : decode cX6_readsPositions 89 = .ok (.getfield 105, 3) := by decide +kernel
theorem dX6_readsPositions_92 : decode cX6_readsPositions 92 = .ok (.iload_n 2, 1) := by decide +kernel
theorem dX6_readsPositions_93 : decode cX6_readsPositions 93 = .ok (.ifCond .eq 7, 3) := by decide +kernel
theorem dX6_readsPositions_96 : decode cX6_readsPositions 96 = .ok (.iconst 1, 1) := by decide +kernel
theorem dX6_readsPositions_97 : decode cX6_readsPositions 97 = .ok (.goto 4, 3) := by decide +kernel
theorem dX6_readsPositions_100 : decode cX6_readsPositions 100 = .ok (.iconst 0, 1) := by decide +kernel
theorem dX6_readsPositions_101 : decode cX6_readsPositions 101 = .ok (.iadd, 1) := by decide +kernel
theorem dX6_readsPositions_102 : decode cX6_readsPositions 102 = .ok (.putfield 105, 3) := by decide +kernel
theorem dX6_readsPositions_105 : decode cX6_readsPositions 105 = .ok (.goto (-96), 3) := by decide +kernel
theorem dX6_readsPositions_108 : decode cX6_readsPositions 108 = .ok (.aload_n 0, 1) := by decide +kernel
theorem dX6_readsPositions_109 : decode cX6_readsPositions 109 = .ok (.getfield 112, 3) := by decide +kernel
theorem dX6_readsPositions_112 : decode cX6_readsPositions 112 = .ok (.ifCond .ne 7, 3) := by decide +kernel
theorem dX6_readsPositions_115 : decode cX6_readsPositions 115 = .ok (.iconst 1, 1) := by decide +kernel
theorem dX6_readsPositions_116 : decode cX6_readsPositions 116 = .ok (.goto 4, 3) := by decide +kernel
theorem dX6_readsPositions_119 : decode cX6_readsPositions 119 = .ok (.iconst 0, 1) := by decide +kernel
theorem dX6_readsPositions_120 : decode cX6_readsPositions 120 = .ok (.ireturn, 1) := by decide +kernel
theorem dX6_readsBehind_0 : decode cX6_readsBehind 0 = .ok (.aload_n 0, 1) := by decide +kernel
theorem dX6_readsBehind_1 : decode cX6_readsBehind 1 = .ok (.iconst 0, 1) := by decide +kernel
theorem dX6_readsBehind_2 : decode cX6_readsBehind 2 = .ok (.putfield 118, 3) := by decide +kernel
theorem dX6_readsBehind_5 : decode cX6_readsBehind 5 = .ok (.aload_n 0, 1) := by decide +kernel
theorem dX6_readsBehind_6 : decode cX6_readsBehind 6 = .ok (.invokevirtual 108, 3) := by decide +kernel
theorem dX6_readsBehind_9 : decode cX6_readsBehind 9 = .ok (.iload_n 1, 1) := by decide +kernel
theorem dX6_readsBehind_10 : decode cX6_readsBehind 10 = .ok (.if_icmp .eq 5, 3) := by decide +kernel
theorem dX6_readsBehind_13 : decode cX6_readsBehind 13 = .ok (.iconst 1, 1) := by decide +kernel
theorem dX6_readsBehind_14 : decode cX6_readsBehind 14 = .ok (.ireturn, 1) := by decide +kernel
theorem dX6_readsBehind_15 : decode cX6_readsBehind 15 = .ok (.aload_n 0, 1) := by decide +kernel
theorem dX6_readsBehind_16 : decode cX6_readsBehind 16 = .ok (.dup, 1) := by decide +kernel
theorem dX6_readsBehind_17 : decode cX6_readsBehind 17 = .ok (.getfield 105, 3) := by decide +kernel
theorem dX6_readsBehind_20 : decode cX6_readsBehind 20 = .ok (.iconst 1, 1) := by decide +kernel
theorem dX6_readsBehind_21 : decode cX6_readsBehind 21 = .ok (.iadd, 1) := by decide +kernel
theorem dX6_readsBehind_22 : decode cX6_readsBehind 22 = .ok (.putfield 105, 3) := by decide +kernel
theorem dX6_readsBehind_25 : decode cX6_readsBehind 25 = .ok (.aload_n 0, 1) := by decide +kernel
theorem dX6_readsBehind_26 : decode cX6_readsBehind 26 = .ok (.iload_n 2, 1) := by decide +kernel
theorem dX6_readsBehind_27 : decode cX6_readsBehind 27 = .ok (.iload_n 3, 1) := by decide +kernel
theorem dX6_readsBehind_28 : decode cX6_readsBehind 28 = .ok (.iload 4, 2) := by decide +kernel
theorem dX6_readsBehind_30 : decode cX6_readsBehind 30 = .ok (.invokevirtual 132, 3) := by decide +kernel
theorem dX6_readsBehind_33 : decode cX6_readsBehind 33 = .ok (.ireturn, 1) := by decide +kernel
theorem dX6_readsDimension_0 : decode cX6_readsDimension 0 = .ok (.aload_n 0, 1) := by decide +kernel
theorem dX6_readsDimension_1 : decode cX6_readsDimension 1 = .ok (.iconst 1, 1) := by decide +kernel
theorem dX6_readsDimension_2 : decode cX6_readsDimension 2 = .ok (.iconst 0, 1) := by decide +kernel
theorem dX6_readsDimension_3 : decode cX6_readsDimension 3 = .ok (.aload_n 0, 1) := by decide +kernel
theorem dX6_readsDimension_4 : decode cX6_readsDimension 4 = .ok (.getfield 7, 3) := by decide +kernel
theorem dX6_readsDimension_7 : decode cX6_readsDimension 7 = .ok (.iconst 0, 1) := by decide +kernel
theorem dX6_readsDimension_8 : decode cX6_readsDimension 8 = .ok (.iaload, 1) := by decide +kernel
theorem dX6_readsDimension_9 : decode cX6_readsDimension 9 = .ok (.iconst 1, 1) := by decide +kernel
theorem dX6_readsDimension_10 : decode cX6_readsDimension 10 = .ok (.isub, 1) := by decide +kernel
theorem dX6_readsDimension_11 : decode cX6_readsDimension 11 = .ok (.invokevirtual 132, 3) := by decide +kernel
theorem dX6_readsDimension_14 : decode cX6_readsDimension 14 = .ok (.ifCond .ne 5, 3) := by decide +kernel
theorem dX6_readsDimension_17 : decode cX6_readsDimension 17 = .ok (.iconst 0, 1) := by decide +kernel
theorem dX6_readsDimension_18 : decode cX6_readsDimension 18 = .ok (.ireturn, 1) := by decide +kernel
theorem dX6_readsDimension_19 : decode cX6_readsDimension 19 = .ok (.aload_n 0, 1) := by decide +kernel
theorem dX6_readsDimension_20 : decode cX6_readsDimension 20 = .ok (.getfield 118, 3) := by decide +kernel
theorem dX6_readsDimension_23 : decode cX6_readsDimension 23 = .ok (.istore_n 1, 1) := by decide +kernel
theorem dX6_readsDimension_24 : decode cX6_readsDimension 24 = .ok (.aload_n 0, 1) := by decide +kernel
theorem dX6_readsDimension_25 : decode cX6_readsDimension 25 = .ok (.bipush 45, 2) := by decide +kernel
theorem dX6_readsDimension_27 : decode cX6_readsDimension 27 = .ok (.invokevirtual 129, 3) := by decide +kernel
theorem dX6_readsDimension_30 : decode cX6_readsDimension 30 = .ok (.ifCond .eq 22, 3) := by decide +kernel
theorem dX6_readsDimension_33 : decode cX6_readsDimension 33 = .ok (.aload_n 0, 1) := by decide +kernel
theorem dX6_readsDimension_34 : decode cX6_readsDimension 34 = .ok (.iconst 1, 1) := by decide +kernel
theorem dX6_readsDimension_35 : decode cX6_readsDimension 35 = .ok (.iload_n 1, 1) := by decide +kernel
theorem dX6_readsDimension_36 : decode cX6_readsDimension 36 = .ok (.iconst 1, 1) := by decide +kernel
theorem dX6_readsDimension_37 : decode cX6_readsDimension 37 = .ok (.iadd, 1) := by decide +kernel
theorem dX6_readsDimension_38 : decode cX6_readsDimension 38 = .ok (.aload_n 0, 1) := by decide +kernel
theorem dX6_readsDimension_39 : decode cX6_readsDimension 39 = .ok (.getfield 7, 3) := by decide +kernel
theorem dX6_readsDimension_42 : decode cX6_readsDimension 42 = .ok (.iconst 0, 1) := by decide +kernel
theorem dX6_readsDimension_43 : decode cX6_readsDimension 43 = .ok (.iaload, 1) := by decide +kernel
theorem dX6_readsDimension_44 : decode cX6_readsDimension 44 = .ok (.iconst 1, 1) := by decide +kernel
theorem dX6_readsDimension_45 : decode cX6_readsDimension 45 = .ok (.isub, 1) := by decide +kernel
theorem dX6_readsDimension_46 : decode cX6_readsDimension 46 = .ok (.invokevirtual 132, 3) := by decide +kernel
theorem dX6_readsDimension_49 : decode cX6_readsDimension 49 = .ok (.ifCond .ne 5, 3) := by decide +kernel
theorem dX6_readsDimension_52 : decode cX6_readsDimension 52 = .ok (.iconst 0, 1) := by decide +kernel
theorem dX6_readsDimension_53 : decode cX6_readsDimension 53 = .ok (.ireturn, 1) := by decide +kernel
theorem dX6_readsDimension_54 : decode cX6_readsDimension 54 = .ok (.aload_n 0, 1) := by decide +kernel
theorem dX6_readsDimension_55 : decode cX6_readsDimension 55 = .ok (.getfield 118, 3) := by decide +kernel
theorem dX6_readsDimension_58 : decode cX6_readsDimension 58 = .ok (.istore_n 2, 1) := by decide +kernel
theorem dX6_readsDimension_59 : decode cX6_readsDimension 59 = .ok (.aload_n 0, 1) := by decide +kernel
theorem dX6_readsDimension_60 : decode cX6_readsDimension 60 = .ok (.bipush 43, 2) := by decide +kernel
theorem dX6_readsDimension_62 : decode cX6_readsDimension 62 = .ok (.iconst 2, 1) := by decide +kernel
theorem dX6_readsDimension_63 : decode cX6_readsDimension 63 = .ok (.iconst 0, 1) := by decide +kernel
theorem dX6_readsDimension_64 : decode cX6_readsDimension 64 = .ok (.bipush 20, 2) := by decide +kernel
theorem dX6_readsDimension_66 : decode cX6_readsDimension 66 = .ok (.invokevirtual 135, 3) := by decide +kernel
theorem dX6_readsDimension_69 : decode cX6_readsDimension 69 = .ok (.ifCond .ne 5, 3) := by decide +kernel
theorem dX6_readsDimension_72 : decode cX6_readsDimension 72 = .ok (.iconst 0, 1) := by decide +kernel
theorem dX6_readsDimension_73 : decode cX6_readsDimension 73 = .ok (.ireturn, 1) := by decide +kernel
theorem dX6_readsDimension_74 : decode cX6_readsDimension 74 = .ok (.aload_n 0, 1) := by decide +kernel
theorem dX6_readsDimension_75 : decode cX6_readsDimension 75 = .ok (.getfield 118, 3) := by decide +kernel
theorem dX6_readsDimension_78 : decode cX6_readsDimension 78 = .ok (.istore_n 3, 1) := by decide +kernel
theorem dX6_readsDimension_79 : decode cX6_readsDimension 79 = .ok (.aload_n 0, 1) := by decide +kernel
theorem dX6_readsDimension_80 : decode cX6_readsDimension 80 = .ok (.bipush 45, 2) := by decide +kernel
theorem dX6_readsDimension_82 : decode cX6_readsDimension 82 = .ok (.iconst 2, 1) := by decide +kernel
theorem dX6_readsDimension_83 : decode cX6_readsDimension 83 = .ok (.iconst 0, 1) := by decide +kernel
theorem dX6_readsDimension_84 : decode cX6_readsDimension 84 = .ok (.bipush 20, 2) := by decide +kernel
theorem dX6_readsDimension_86 : decode cX6_readsDimension 86 = .ok (.invokevirtual 135, 3) := by decide +kernel
theorem dX6_readsDimension_89 : decode cX6_readsDimension 89 = .ok (.ifCond .ne 5, 3) := by decide +kernel
theorem dX6_readsDimension_92 : decode cX6_readsDimension 92 = .ok (.iconst 0, 1) := by decide +kernel
theorem dX6_readsDimension_93 : decode cX6_readsDimension 93 = .ok (.ireturn, 1) := by decide +kernel
theorem dX6_readsDimension_94 : decode cX6_readsDimension 94 = .ok (.aload_n 0, 1) := by decide +kernel
theorem dX6_readsDimension_95 : decode cX6_readsDimension 95 = .ok (.getfield 118, 3) := by decide +kernel
theorem dX6_readsDimension_98 : decode cX6_readsDimension 98 = .ok (.istore 4, 2) := by decide +kernel
theorem dX6_readsDimension_100 : decode cX6_readsDimension 100 = .ok (.aload_n 0, 1) := by decide +kernel
theorem dX6_readsDimension_101 : decode cX6_readsDimension 101 = .ok (.bipush 99, 2) := by decide +kernel
theorem dX6_readsDimension_103 : decode cX6_readsDimension 103 = .ok (.iconst 1, 1) := by decide +kernel
theorem dX6_readsDimension_104 : decode cX6_readsDimension 104 = .ok (.iconst 0, 1) := by decide +kernel
theorem dX6_readsDimension_105 : decode cX6_readsDimension 105 = .ok (.iconst 5, 1) := by decide +kernel
theorem dX6_readsDimension_106 : decode cX6_readsDimension 106 = .ok (.invokevirtual 135, 3) := by decide +kernel
theorem dX6_readsDimension_109 : decode cX6_readsDimension 109 = .ok (.ifCond .ne 5, 3) := by decide +kernel
theorem dX6_readsDimension_112 : decode cX6_readsDimension 112 = .ok (.iconst 0, 1) := by decide +kernel
theorem dX6_readsDimension_113 : decode cX6_readsDimension 113 = .ok (.ireturn, 1) := by decide +kernel
theorem dX6_readsDimension_114 : decode cX6_readsDimension 114 = .ok (.aload_n 0, 1) := by decide +kernel
theorem dX6_readsDimension_115 : decode cX6_readsDimension 115 = .ok (.iload_n 1, 1) := by decide +kernel
theorem dX6_readsDimension_116 : decode cX6_readsDimension 116 = .ok (.iload_n 2, 1) := by decide +kernel
theorem dX6_readsDimension_117 : decode cX6_readsDimension 117 = .ok (.iload 4, 2) := by decide +kernel
theorem dX6_readsDimension_119 : decode cX6_readsDimension 119 = .ok (.iload_n 3, 1) := by decide +kernel
theorem dX6_readsDimension_120 : decode cX6_readsDimension 120 = .ok (.aload_n 0, 1) := by decide +kernel
theorem dX6_readsDimension_121 : decode cX6_readsDimension 121 = .ok (.getfield 118, 3) := by decide +kernel
theorem dX6_readsDimension_124 : decode cX6_readsDimension 124 = .ok (.invokevirtual 88, 3) := by decide +kernel
theorem dX6_readsDimension_127 : decode cX6_readsDimension 127 = .ok (.iconst 1, 1) := by decide +kernel
theorem dX6_readsDimension_128 : decode cX6_readsDimension 128 = .ok (.ireturn, 1) := by decide +kernel
theorem dX6_readsAll_0 : decode cX6_readsAll 0 = .ok (.aload_n 0, 1) := by decide +kernel
theorem dX6_readsAll_1 : decode cX6_readsAll 1 = .ok (.iconst 0, 1) := by decide +kernel
theorem dX6_readsAll_2 : decode cX6_readsAll 2 = .ok (.putfield 112, 3) := by decide +kernel
theorem dX6_readsAll_5 : decode cX6_readsAll 5 = .ok (.aload_n 0, 1) := by decide +kernel
theorem dX6_readsAll_6 : decode cX6_readsAll 6 = .ok (.iconst 0, 1) := by decide +kernel
theorem dX6_readsAll_7 : decode cX6_readsAll 7 = .ok (.putfield 105, 3) := by decide +kernel
theorem dX6_readsAll_10 : decode cX6_readsAll 10 = .ok (.aload_n 0, 1) := by decide +kernel
theorem dX6_readsAll_11 : decode cX6_readsAll 11 = .ok (.invokevirtual 139, 3) := by decide +kernel
theorem dX6_readsAll_14 : decode cX6_readsAll 14 = .ok (.istore_n 1, 1) := by decide +kernel
theorem dX6_readsAll_15 : decode cX6_readsAll 15 = .ok (.iload_n 1, 1) := by decide +kernel
theorem dX6_readsAll_16 : decode cX6_readsAll 16 = .ok (.ifCond .eq 91, 3) := by decide +kernel
theorem dX6_readsAll_19 : decode cX6_readsAll 19 = .ok (.aload_n 0, 1) := by decide +kernel
theorem dX6_readsAll_20 : decode cX6_readsAll 20 = .ok (.getfield 105, 3) := by decide +kernel
theorem dX6_readsAll_23 : decode cX6_readsAll 23 = .ok (.aload_n 0, 1) := by decide +kernel
theorem dX6_readsAll_24 : decode cX6_readsAll 24 = .ok (.getfield 102, 3) := by decide +kernel
theorem dX6_readsAll_27 : decode cX6_readsAll 27 = .ok (.if_icmp .ge 80, 3) := by decide +kernel
theorem dX6_readsAll_30 : decode cX6_readsAll 30 = .ok (.aload_n 0, 1) := by decide +kernel
theorem dX6_readsAll_31 : decode cX6_readsAll 31 = .ok (.invokevirtual 108, 3) := by decide +kernel
theorem dX6_readsAll_34 : decode cX6_readsAll 34 = .ok (.bipush 59, 2) := by decide +kernel
theorem dX6_readsAll_36 : decode cX6_readsAll 36 = .ok (.if_icmp .ne 15, 3) := by decide +kernel
theorem dX6_readsAll_39 : decode cX6_readsAll 39 = .ok (.aload_n 0, 1) := by decide +kernel
theorem dX6_readsAll_40 : decode cX6_readsAll 40 = .ok (.getfield 7, 3) := by decide +kernel
theorem dX6_readsAll_43 : decode cX6_readsAll 43 = .ok (.bipush 13, 2) := by decide +kernel
theorem dX6_readsAll_45 : decode cX6_readsAll 45 = .ok (.iaload, 1) := by decide +kernel
theorem dX6_readsAll_46 : decode cX6_readsAll 46 = .ok (.bipush 16, 2) := by decide +kernel
theorem dX6_readsAll_48 : decode cX6_readsAll 48 = .ok (.if_icmp .lt 15, 3) := by decide +kernel
theorem dX6_readsAll_51 : decode cX6_readsAll 51 = .ok (.aload_n 0, 1) := by decide +kernel
theorem dX6_readsAll_52 : decode cX6_readsAll 52 = .ok (.iconst 1, 1) := by decide +kernel
theorem dX6_readsAll_53 : decode cX6_readsAll 53 = .ok (.aload_n 0, 1) := by decide +kernel
theorem dX6_readsAll_54 : decode cX6_readsAll 54 = .ok (.getfield 105, 3) := by decide +kernel
theorem dX6_readsAll_57 : decode cX6_readsAll 57 = .ok (.invokevirtual 125, 3) := by decide +kernel
theorem dX6_readsAll_60 : decode cX6_readsAll 60 = .ok (.ifCond .eq 7, 3) := by decide +kernel
theorem dX6_readsAll_63 : decode cX6_readsAll 63 = .ok (.iconst 1, 1) := by decide +kernel
theorem dX6_readsAll_64 : decode cX6_readsAll 64 = .ok (.goto 4, 3) := by decide +kernel
theorem dX6_readsAll_67 : decode cX6_readsAll 67 = .ok (.iconst 0, 1) := by decide +kernel
theorem dX6_readsAll_68 : decode cX6_readsAll 68 = .ok (.istore_n 1, 1) := by decide +kernel
theorem dX6_readsAll_69 : decode cX6_readsAll 69 = .ok (.aload_n 0, 1) := by decide +kernel
theorem dX6_readsAll_70 : decode cX6_readsAll 70 = .ok (.dup, 1) := by decide +kernel
theorem dX6_readsAll_71 : decode cX6_readsAll 71 = .ok (.getfield 105, 3) := by decide +kernel
theorem dX6_readsAll_74 : decode cX6_readsAll 74 = .ok (.iload_n 1, 1) := by decide +kernel
theorem dX6_readsAll_75 : decode cX6_readsAll 75 = .ok (.ifCond .eq 7, 3) := by decide +kernel
theorem dX6_readsAll_78 : decode cX6_readsAll 78 = .ok (.iconst 1, 1) := by decide +kernel
theorem dX6_readsAll_79 : decode cX6_readsAll 79 = .ok (.goto 4, 3) := by decide +kernel
theorem dX6_readsAll_82 : decode cX6_readsAll 82 = .ok (.iconst 0, 1) := by decide +kernel
theorem dX6_readsAll_83 : decode cX6_readsAll 83 = .ok (.iadd, 1) := by decide +kernel
theorem dX6_readsAll_84 : decode cX6_readsAll 84 = .ok (.putfield 105, 3) := by decide +kernel
theorem dX6_readsAll_87 : decode cX6_readsAll 87 = .ok (.iload_n 1, 1) := by decide +kernel
theorem dX6_readsAll_88 : decode cX6_readsAll 88 = .ok (.ifCond .eq 14, 3) := by decide +kernel
theorem dX6_readsAll_91 : decode cX6_readsAll 91 = .ok (.aload_n 0, 1) := by decide +kernel
theorem dX6_readsAll_92 : decode cX6_readsAll 92 = .ok (.invokevirtual 142, 3) := by decide +kernel
theorem dX6_readsAll_95 : decode cX6_readsAll 95 = .ok (.ifCond .eq 7, 3) := by decide +kernel
theorem dX6_readsAll_98 : decode cX6_readsAll 98 = .ok (.iconst 1, 1) := by decide +kernel
theorem dX6_readsAll_99 : decode cX6_readsAll 99 = .ok (.goto 4, 3) := by decide +kernel
theorem dX6_readsAll_102 : decode cX6_readsAll 102 = .ok (.iconst 0, 1) := by decide +kernel
theorem dX6_readsAll_103 : decode cX6_readsAll 103 = .ok (.istore_n 1, 1) := by decide +kernel
theorem dX6_readsAll_104 : decode cX6_readsAll 104 = .ok (.goto (-89), 3) := by decide +kernel
theorem dX6_readsAll_107 : decode cX6_readsAll 107 = .ok (.return_, 1) := by decide +kernel
theorem dX6_load_0 : decode cX6_load 0 = .ok (.aload_n 0, 1) := by decide +kernel
theorem dX6_load_1 : decode cX6_load 1 = .ok (.iconst 0, 1) := by decide +kernel
theorem dX6_load_2 : decode cX6_load 2 = .ok (.bipush 9, 2) := by decide +kernel
theorem dX6_load_4 : decode cX6_load 4 = .ok (.invokevirtual 42, 3) := by decide +kernel
theorem dX6_load_7 : decode cX6_load 7 = .ok (.aload_n 0, 1) := by decide +kernel
theorem dX6_load_8 : decode cX6_load 8 = .ok (.getfield 7, 3) := by decide +kernel
theorem dX6_load_11 : decode cX6_load 11 = .ok (.iconst 0, 1) := by decide +kernel
theorem dX6_load_12 : decode cX6_load 12 = .ok (.iconst 0, 1) := by decide +kernel
theorem dX6_load_13 : decode cX6_load 13 = .ok (.iastore, 1) := by decide +kernel
theorem dX6_load_14 : decode cX6_load 14 = .ok (.aload_n 0, 1) := by decide +kernel
theorem dX6_load_15 : decode cX6_load 15 = .ok (.getfield 7, 3) := by decide +kernel
theorem dX6_load_18 : decode cX6_load 18 = .ok (.bipush 13, 2) := by decide +kernel
theorem dX6_load_20 : decode cX6_load 20 = .ok (.iconst 0, 1) := by decide +kernel
theorem dX6_load_21 : decode cX6_load 21 = .ok (.iastore, 1) := by decide +kernel
theorem dX6_load_22 : decode cX6_load 22 = .ok (.aload_n 0, 1) := by decide +kernel
theorem dX6_load_23 : decode cX6_load 23 = .ok (.invokevirtual 145, 3) := by decide +kernel
theorem dX6_load_26 : decode cX6_load 26 = .ok (.aload_n 0, 1) := by decide +kernel
theorem dX6_load_27 : decode cX6_load 27 = .ok (.getfield 112, 3) := by decide +kernel
theorem dX6_load_30 : decode cX6_load 30 = .ok (.ifCond .eq 18, 3) := by decide +kernel
theorem dX6_load_33 : decode cX6_load 33 = .ok (.aload_n 0, 1) := by decide +kernel
theorem dX6_load_34 : decode cX6_load 34 = .ok (.bipush 9, 2) := by decide +kernel
theorem dX6_load_36 : decode cX6_load 36 = .ok (.iconst 0, 1) := by decide +kernel
theorem dX6_load_37 : decode cX6_load 37 = .ok (.invokevirtual 42, 3) := by decide +kernel
theorem dX6_load_40 : decode cX6_load 40 = .ok (.bipush (-10), 2) := by decide +kernel
theorem dX6_load_42 : decode cX6_load 42 = .ok (.aload_n 0, 1) := by decide +kernel
theorem dX6_load_43 : decode cX6_load 43 = .ok (.getfield 115, 3) := by decide +kernel
theorem dX6_load_46 : decode cX6_load 46 = .ok (.isub, 1) := by decide +kernel
theorem dX6_load_47 : decode cX6_load 47 = .ok (.ireturn, 1) := by decide +kernel
theorem dX6_load_48 : decode cX6_load 48 = .ok (.iconst 0, 1) := by decide +kernel
theorem dX6_load_49 : decode cX6_load 49 = .ok (.istore_n 1, 1) := by decide +kernel
theorem dX6_load_50 : decode cX6_load 50 = .ok (.iload_n 1, 1) := by decide +kernel
theorem dX6_load_51 : decode cX6_load 51 = .ok (.bipush 112, 2) := by decide +kernel
theorem dX6_load_53 : decode cX6_load 53 = .ok (.if_icmp .ge 43, 3) := by decide +kernel
theorem dX6_load_56 : decode cX6_load 56 = .ok (.aload_n 0, 1) := by decide +kernel
theorem dX6_load_57 : decode cX6_load 57 = .ok (.getfield 7, 3) := by decide +kernel
theorem dX6_load_60 : decode cX6_load 60 = .ok (.iload_n 1, 1) := by decide +kernel
theorem dX6_load_61 : decode cX6_load 61 = .ok (.iaload, 1) := by decide +kernel
theorem dX6_load_62 : decode cX6_load 62 = .ok (.istore_n 2, 1) := by decide +kernel
theorem dX6_load_63 : decode cX6_load 63 = .ok (.aload_n 0, 1) := by decide +kernel
theorem dX6_load_64 : decode cX6_load 64 = .ok (.getfield 7, 3) := by decide +kernel
theorem dX6_load_67 : decode cX6_load 67 = .ok (.iload_n 1, 1) := by decide +kernel
theorem dX6_load_68 : decode cX6_load 68 = .ok (.aload_n 0, 1) := by decide +kernel
theorem dX6_load_69 : decode cX6_load 69 = .ok (.getfield 7, 3) := by decide +kernel
theorem dX6_load_72 : decode cX6_load 72 = .ok (.sipush 1008, 3) := by decide +kernel
theorem dX6_load_75 : decode cX6_load 75 = .ok (.iload_n 1, 1) := by decide +kernel
theorem dX6_load_76 : decode cX6_load 76 = .ok (.iadd, 1) := by decide +kernel
theorem dX6_load_77 : decode cX6_load 77 = .ok (.iaload, 1) := by decide +kernel
theorem dX6_load_78 : decode cX6_load 78 = .ok (.iastore, 1) := by decide +kernel
theorem dX6_load_79 : decode cX6_load 79 = .ok (.aload_n 0, 1) := by decide +kernel
theorem dX6_load_80 : decode cX6_load 80 = .ok (.getfield 7, 3) := by decide +kernel
theorem dX6_load_83 : decode cX6_load 83 = .ok (.sipush 1008, 3) := by decide +kernel
theorem dX6_load_86 : decode cX6_load 86 = .ok (.iload_n 1, 1) := by decide +kernel
theorem dX6_load_87 : decode cX6_load 87 = .ok (.iadd, 1) := by decide +kernel
theorem dX6_load_88 : decode cX6_load 88 = .ok (.iload_n 2, 1) := by decide +kernel
theorem dX6_load_89 : decode cX6_load 89 = .ok (.iastore, 1) := by decide +kernel
theorem dX6_load_90 : decode cX6_load 90 = .ok (.iinc 1 1, 3) := by decide +kernel
theorem dX6_load_93 : decode cX6_load 93 = .ok (.goto (-43), 3) := by decide +kernel
theorem dX6_load_96 : decode cX6_load 96 = .ok (.aload_n 0, 1) := by decide +kernel
theorem dX6_load_97 : decode cX6_load 97 = .ok (.invokevirtual 71, 3) := by decide +kernel
theorem dX6_load_100 : decode cX6_load 100 = .ok (.aload_n 0, 1) := by decide +kernel
theorem dX6_load_101 : decode cX6_load 101 = .ok (.bipush 9, 2) := by decide +kernel
theorem dX6_load_103 : decode cX6_load 103 = .ok (.iconst 0, 1) := by decide +kernel
theorem dX6_load_104 : decode cX6_load 104 = .ok (.invokevirtual 42, 3) := by decide +kernel
theorem dX6_load_107 : decode cX6_load 107 = .ok (.aload_n 0, 1) := by decide +kernel
theorem dX6_load_108 : decode cX6_load 108 = .ok (.getfield 7, 3) := by decide +kernel
theorem dX6_load_111 : decode cX6_load 111 = .ok (.bipush 13, 2) := by decide +kernel
theorem dX6_load_113 : decode cX6_load 113 = .ok (.iaload, 1) := by decide +kernel
theorem dX6_load_114 : decode cX6_load 114 = .ok (.ireturn, 1) := by decide +kernel
theorem dX6_faultKind_0 : decode cX6_faultKind 0 = .ok (.aload_n 0, 1) := by decide +kernel
theorem dX6_faultKind_1 : decode cX6_faultKind 1 = .ok (.getfield 112, 3) := by decide +kernel
theorem dX6_faultKind_4 : decode cX6_faultKind 4 = .ok (.ireturn, 1) := by decide +kernel
theorem dX6_width_0 : decode cX6_width 0 = .ok (.aload_n 0, 1) := by decide +kernel
theorem dX6_width_1 : decode cX6_width 1 = .ok (.iload_n 1, 1) := by decide +kernel
theorem dX6_width_2 : decode cX6_width 2 = .ok (.invokevirtual 148, 3) := by decide +kernel
theorem dX6_width_5 : decode cX6_width 5 = .ok (.istore_n 2, 1) := by decide +kernel
theorem dX6_width_6 : decode cX6_width 6 = .ok (.aload_n 0, 1) := by decide +kernel
theorem dX6_width_7 : decode cX6_width 7 = .ok (.getfield 7, 3) := by decide +kernel
theorem dX6_width_10 : decode cX6_width 10 = .ok (.bipush 110, 2) := by decide +kernel
theorem dX6_width_12 : decode cX6_width 12 = .ok (.iaload, 1) := by decide +kernel
theorem dX6_width_13 : decode cX6_width 13 = .ok (.iload_n 2, 1) := by decide +kernel
theorem dX6_width_14 : decode cX6_width 14 = .ok (.bipush 99, 2) := by decide +kernel
theorem dX6_width_16 : decode cX6_width 16 = .ok (.if_icmp .le 7, 3) := by decide +kernel
theorem dX6_width_19 : decode cX6_width 19 = .ok (.iconst 3, 1) := by decide +kernel
theorem dX6_width_20 : decode cX6_width 20 = .ok (.goto 14, 3) := by decide +kernel
theorem dX6_width_23 : decode cX6_width 23 = .ok (.iload_n 2, 1) := by decide +kernel
theorem dX6_width_24 : decode cX6_width 24 = .ok (.bipush 9, 2) := by decide +kernel
theorem dX6_width_26 : decode cX6_width 26 = .ok (.if_icmp .le 7, 3) := by decide +kernel
theorem dX6_width_29 : decode cX6_width 29 = .ok (.iconst 2, 1) := by decide +kernel
theorem dX6_width_30 : decode cX6_width 30 = .ok (.goto 4, 3) := by decide +kernel
theorem dX6_width_33 : decode cX6_width 33 = .ok (.iconst 1, 1) := by decide +kernel
theorem dX6_width_34 : decode cX6_width 34 = .ok (.imul, 1) := by decide +kernel
theorem dX6_width_35 : decode cX6_width 35 = .ok (.ireturn, 1) := by decide +kernel
theorem dX6_form_0 : decode cX6_form 0 = .ok (.aload_n 0, 1) := by decide +kernel
theorem dX6_form_1 : decode cX6_form 1 = .ok (.iload_n 1, 1) := by decide +kernel
theorem dX6_form_2 : decode cX6_form 2 = .ok (.invokevirtual 148, 3) := by decide +kernel
theorem dX6_form_5 : decode cX6_form 5 = .ok (.aload_n 0, 1) := by decide +kernel
theorem dX6_form_6 : decode cX6_form 6 = .ok (.iload_n 1, 1) := by decide +kernel
theorem dX6_form_7 : decode cX6_form 7 = .ok (.invokevirtual 151, 3) := by decide +kernel
theorem dX6_form_10 : decode cX6_form 10 = .ok (.iconst 2, 1) := by decide +kernel
theorem dX6_form_11 : decode cX6_form 11 = .ok (.aload_n 0, 1) := by decide +kernel
theorem dX6_form_12 : decode cX6_form 12 = .ok (.getfield 7, 3) := by decide +kernel
theorem dX6_form_15 : decode cX6_form 15 = .ok (.bipush 111, 2) := by decide +kernel
theorem dX6_form_17 : decode cX6_form 17 = .ok (.iaload, 1) := by decide +kernel
theorem dX6_form_18 : decode cX6_form 18 = .ok (.imul, 1) := by decide +kernel
theorem dX6_form_19 : decode cX6_form 19 = .ok (.iadd, 1) := by decide +kernel
theorem dX6_form_20 : decode cX6_form 20 = .ok (.if_icmp .lt 7, 3) := by decide +kernel
theorem dX6_form_23 : decode cX6_form 23 = .ok (.iconst 0, 1) := by decide +kernel
theorem dX6_form_24 : decode cX6_form 24 = .ok (.goto 21, 3) := by decide +kernel
theorem dX6_form_27 : decode cX6_form 27 = .ok (.aload_n 0, 1) := by decide +kernel
theorem dX6_form_28 : decode cX6_form 28 = .ok (.iload_n 1, 1) := by decide +kernel
theorem dX6_form_29 : decode cX6_form 29 = .ok (.invokevirtual 148, 3) := by decide +kernel
theorem dX6_form_32 : decode cX6_form 32 = .ok (.aload_n 0, 1) := by decide +kernel
theorem dX6_form_33 : decode cX6_form 33 = .ok (.iload_n 1, 1) := by decide +kernel
theorem dX6_form_34 : decode cX6_form 34 = .ok (.invokevirtual 151, 3) := by decide +kernel
theorem dX6_form_37 : decode cX6_form 37 = .ok (.if_icmp .lt 7, 3) := by decide +kernel
theorem dX6_form_40 : decode cX6_form 40 = .ok (.iconst 1, 1) := by decide +kernel
theorem dX6_form_41 : decode cX6_form 41 = .ok (.goto 4, 3) := by decide +kernel
theorem dX6_form_44 : decode cX6_form 44 = .ok (.iconst 2, 1) := by decide +kernel
theorem dX6_form_45 : decode cX6_form 45 = .ok (.ireturn, 1) := by decide +kernel
theorem dX6_begins_0 : decode cX6_begins 0 = .ok (.aload_n 0, 1) := by decide +kernel
theorem dX6_begins_1 : decode cX6_begins 1 = .ok (.iload_n 1, 1) := by decide +kernel
theorem dX6_begins_2 : decode cX6_begins 2 = .ok (.invokevirtual 61, 3) := by decide +kernel
theorem dX6_begins_5 : decode cX6_begins 5 = .ok (.aload_n 0, 1) := by decide +kernel
theorem dX6_begins_6 : decode cX6_begins 6 = .ok (.iload_n 1, 1) := by decide +kernel
theorem dX6_begins_7 : decode cX6_begins 7 = .ok (.invokevirtual 154, 3) := by decide +kernel
theorem dX6_begins_10 : decode cX6_begins 10 = .ok (.ifCond .ne 7, 3) := by decide +kernel
theorem dX6_begins_13 : decode cX6_begins 13 = .ok (.iconst 0, 1) := by decide +kernel
theorem dX6_begins_14 : decode cX6_begins 14 = .ok (.goto 10, 3) := by decide +kernel
theorem dX6_begins_17 : decode cX6_begins 17 = .ok (.aload_n 0, 1) := by decide +kernel
theorem dX6_begins_18 : decode cX6_begins 18 = .ok (.getfield 7, 3) := by decide +kernel
theorem dX6_begins_21 : decode cX6_begins 21 = .ok (.bipush 111, 2) := by decide +kernel
theorem dX6_begins_23 : decode cX6_begins 23 = .ok (.iaload, 1) := by decide +kernel
theorem dX6_begins_24 : decode cX6_begins 24 = .ok (.isub, 1) := by decide +kernel
theorem dX6_begins_25 : decode cX6_begins 25 = .ok (.ireturn, 1) := by decide +kernel
theorem dX6_reaches_0 : decode cX6_reaches 0 = .ok (.aload_n 0, 1) := by decide +kernel
theorem dX6_reaches_1 : decode cX6_reaches 1 = .ok (.iload_n 1, 1) := by decide +kernel
theorem dX6_reaches_2 : decode cX6_reaches 2 = .ok (.invokevirtual 58, 3) := by decide +kernel
theorem dX6_reaches_5 : decode cX6_reaches 5 = .ok (.aload_n 0, 1) := by decide +kernel
theorem dX6_reaches_6 : decode cX6_reaches 6 = .ok (.iload_n 1, 1) := by decide +kernel
theorem dX6_reaches_7 : decode cX6_reaches 7 = .ok (.invokevirtual 154, 3) := by decide +kernel
theorem dX6_reaches_10 : decode cX6_reaches 10 = .ok (.ifCond .ne 7, 3) := by decide +kernel
theorem dX6_reaches_13 : decode cX6_reaches 13 = .ok (.iconst 0, 1) := by decide +kernel
theorem dX6_reaches_14 : decode cX6_reaches 14 = .ok (.goto 10, 3) := by decide +kernel
theorem dX6_reaches_17 : decode cX6_reaches 17 = .ok (.aload_n 0, 1) := by decide +kernel
theorem dX6_reaches_18 : decode cX6_reaches 18 = .ok (.getfield 7, 3) := by decide +kernel
theorem dX6_reaches_21 : decode cX6_reaches 21 = .ok (.bipush 111, 2) := by decide +kernel
theorem dX6_reaches_23 : decode cX6_reaches 23 = .ok (.iaload, 1) := by decide +kernel
theorem dX6_reaches_24 : decode cX6_reaches 24 = .ok (.iadd, 1) := by decide +kernel
theorem dX6_reaches_25 : decode cX6_reaches 25 = .ok (.aload_n 0, 1) := by decide +kernel
theorem dX6_reaches_26 : decode cX6_reaches 26 = .ok (.iload_n 1, 1) := by decide +kernel
theorem dX6_reaches_27 : decode cX6_reaches 27 = .ok (.invokevirtual 154, 3) := by decide +kernel
theorem dX6_reaches_30 : decode cX6_reaches 30 = .ok (.iconst 2, 1) := by decide +kernel
theorem dX6_reaches_31 : decode cX6_reaches 31 = .ok (.if_icmp .ne 11, 3) := by decide +kernel
theorem dX6_reaches_34 : decode cX6_reaches 34 = .ok (.aload_n 0, 1) := by decide +kernel
theorem dX6_reaches_35 : decode cX6_reaches 35 = .ok (.iload_n 1, 1) := by decide +kernel
theorem dX6_reaches_36 : decode cX6_reaches 36 = .ok (.invokevirtual 151, 3) := by decide +kernel
theorem dX6_reaches_39 : decode cX6_reaches 39 = .ok (.goto 4, 3) := by decide +kernel
theorem dX6_reaches_42 : decode cX6_reaches 42 = .ok (.iconst 0, 1) := by decide +kernel
theorem dX6_reaches_43 : decode cX6_reaches 43 = .ok (.iadd, 1) := by decide +kernel
theorem dX6_reaches_44 : decode cX6_reaches 44 = .ok (.ireturn, 1) := by decide +kernel
theorem dX6_unitOf_0 : decode cX6_unitOf 0 = .ok (.iconst 0, 1) := by decide +kernel
theorem dX6_unitOf_1 : decode cX6_unitOf 1 = .ok (.istore_n 2, 1) := by decide +kernel
theorem dX6_unitOf_2 : decode cX6_unitOf 2 = .ok (.iload_n 2, 1) := by decide +kernel
theorem dX6_unitOf_3 : decode cX6_unitOf 3 = .ok (.iload_n 1, 1) := by decide +kernel
theorem dX6_unitOf_4 : decode cX6_unitOf 4 = .ok (.if_icmp .ge 35, 3) := by decide +kernel
theorem dX6_unitOf_7 : decode cX6_unitOf 7 = .ok (.aload_n 0, 1) := by decide +kernel
theorem dX6_unitOf_8 : decode cX6_unitOf 8 = .ok (.iload_n 1, 1) := by decide +kernel
theorem dX6_unitOf_9 : decode cX6_unitOf 9 = .ok (.iconst 4, 1) := by decide +kernel
theorem dX6_unitOf_10 : decode cX6_unitOf 10 = .ok (.invokevirtual 50, 3) := by decide +kernel
theorem dX6_unitOf_13 : decode cX6_unitOf 13 = .ok (.ifCond .le 20, 3) := by decide +kernel
theorem dX6_unitOf_16 : decode cX6_unitOf 16 = .ok (.aload_n 0, 1) := by decide +kernel
theorem dX6_unitOf_17 : decode cX6_unitOf 17 = .ok (.iload_n 2, 1) := by decide +kernel
theorem dX6_unitOf_18 : decode cX6_unitOf 18 = .ok (.iconst 4, 1) := by decide +kernel
theorem dX6_unitOf_19 : decode cX6_unitOf 19 = .ok (.invokevirtual 50, 3) := by decide +kernel
theorem dX6_unitOf_22 : decode cX6_unitOf 22 = .ok (.aload_n 0, 1) := by decide +kernel
theorem dX6_unitOf_23 : decode cX6_unitOf 23 = .ok (.iload_n 1, 1) := by decide +kernel
theorem dX6_unitOf_24 : decode cX6_unitOf 24 = .ok (.iconst 4, 1) := by decide +kernel
theorem dX6_unitOf_25 : decode cX6_unitOf 25 = .ok (.invokevirtual 50, 3) := by decide +kernel
theorem dX6_unitOf_28 : decode cX6_unitOf 28 = .ok (.if_icmp .ne 5, 3) := by decide +kernel
theorem dX6_unitOf_31 : decode cX6_unitOf 31 = .ok (.iload_n 2, 1) := by decide +kernel
theorem dX6_unitOf_32 : decode cX6_unitOf 32 = .ok (.ireturn, 1) := by decide +kernel
theorem dX6_unitOf_33 : decode cX6_unitOf 33 = .ok (.iinc 2 1, 3) := by decide +kernel
theorem dX6_unitOf_36 : decode cX6_unitOf 36 = .ok (.goto (-34), 3) := by decide +kernel
theorem dX6_unitOf_39 : decode cX6_unitOf 39 = .ok (.iload_n 1, 1) := by decide +kernel
theorem dX6_unitOf_40 : decode cX6_unitOf 40 = .ok (.ireturn, 1) := by decide +kernel
theorem dX6_laysUnits_0 : decode cX6_laysUnits 0 = .ok (.iconst 0, 1) := by decide +kernel
theorem dX6_laysUnits_1 : decode cX6_laysUnits 1 = .ok (.istore_n 1, 1) := by decide +kernel
theorem dX6_laysUnits_2 : decode cX6_laysUnits 2 = .ok (.iload_n 1, 1) := by decide +kernel
theorem dX6_laysUnits_3 : decode cX6_laysUnits 3 = .ok (.aload_n 0, 1) := by decide +kernel
theorem dX6_laysUnits_4 : decode cX6_laysUnits 4 = .ok (.getfield 7, 3) := by decide +kernel
theorem dX6_laysUnits_7 : decode cX6_laysUnits 7 = .ok (.bipush 13, 2) := by decide +kernel
theorem dX6_laysUnits_9 : decode cX6_laysUnits 9 = .ok (.iaload, 1) := by decide +kernel
theorem dX6_laysUnits_10 : decode cX6_laysUnits 10 = .ok (.if_icmp .ge 148, 3) := by decide +kernel
theorem dX6_laysUnits_13 : decode cX6_laysUnits 13 = .ok (.aload_n 0, 1) := by decide +kernel
theorem dX6_laysUnits_14 : decode cX6_laysUnits 14 = .ok (.iload_n 1, 1) := by decide +kernel
theorem dX6_laysUnits_15 : decode cX6_laysUnits 15 = .ok (.invokevirtual 157, 3) := by decide +kernel
theorem dX6_laysUnits_18 : decode cX6_laysUnits 18 = .ok (.istore_n 2, 1) := by decide +kernel
theorem dX6_laysUnits_19 : decode cX6_laysUnits 19 = .ok (.aload_n 0, 1) := by decide +kernel
theorem dX6_laysUnits_20 : decode cX6_laysUnits 20 = .ok (.getfield 16, 3) := by decide +kernel
theorem dX6_laysUnits_23 : decode cX6_laysUnits 23 = .ok (.iload_n 1, 1) := by decide +kernel
theorem dX6_laysUnits_24 : decode cX6_laysUnits 24 = .ok (.iload_n 2, 1) := by decide +kernel
theorem dX6_laysUnits_25 : decode cX6_laysUnits 25 = .ok (.iastore, 1) := by decide +kernel
theorem dX6_laysUnits_26 : decode cX6_laysUnits 26 = .ok (.aload_n 0, 1) := by decide +kernel
theorem dX6_laysUnits_27 : decode cX6_laysUnits 27 = .ok (.getfield 31, 3) := by decide +kernel
theorem dX6_laysUnits_30 : decode cX6_laysUnits 30 = .ok (.iload_n 1, 1) := by decide +kernel
theorem dX6_laysUnits_31 : decode cX6_laysUnits 31 = .ok (.iconst 0, 1) := by decide +kernel
theorem dX6_laysUnits_32 : decode cX6_laysUnits 32 = .ok (.bastore, 1) := by decide +kernel
theorem dX6_laysUnits_33 : decode cX6_laysUnits 33 = .ok (.aload_n 0, 1) := by decide +kernel
theorem dX6_laysUnits_34 : decode cX6_laysUnits 34 = .ok (.getfield 19, 3) := by decide +kernel
theorem dX6_laysUnits_37 : decode cX6_laysUnits 37 = .ok (.iload_n 2, 1) := by decide +kernel
theorem dX6_laysUnits_38 : decode cX6_laysUnits 38 = .ok (.iload_n 2, 1) := by decide +kernel
theorem dX6_laysUnits_39 : decode cX6_laysUnits 39 = .ok (.iload_n 1, 1) := by decide +kernel
theorem dX6_laysUnits_40 : decode cX6_laysUnits 40 = .ok (.if_icmp .eq 17, 3) := by decide +kernel
theorem dX6_laysUnits_43 : decode cX6_laysUnits 43 = .ok (.aload_n 0, 1) := by decide +kernel
theorem dX6_laysUnits_44 : decode cX6_laysUnits 44 = .ok (.iload_n 1, 1) := by decide +kernel
theorem dX6_laysUnits_45 : decode cX6_laysUnits 45 = .ok (.invokevirtual 61, 3) := by decide +kernel
theorem dX6_laysUnits_48 : decode cX6_laysUnits 48 = .ok (.aload_n 0, 1) := by decide +kernel
theorem dX6_laysUnits_49 : decode cX6_laysUnits 49 = .ok (.getfield 19, 3) := by decide +kernel
theorem dX6_laysUnits_52 : decode cX6_laysUnits 52 = .ok (.iload_n 2, 1) := by decide +kernel
theorem dX6_laysUnits_53 : decode cX6_laysUnits 53 = .ok (.iaload, 1) := by decide +kernel
theorem dX6_laysUnits_54 : decode cX6_laysUnits 54 = .ok (.if_icmp .ge 11, 3) := by decide +kernel
theorem dX6_laysUnits_57 : decode cX6_laysUnits 57 = .ok (.aload_n 0, 1) := by decide +kernel
theorem dX6_laysUnits_58 : decode cX6_laysUnits 58 = .ok (.iload_n 1, 1) := by decide +kernel
theorem dX6_laysUnits_59 : decode cX6_laysUnits 59 = .ok (.invokevirtual 61, 3) := by decide +kernel
theorem dX6_laysUnits_62 : decode cX6_laysUnits 62 = .ok (.goto 9, 3) := by decide +kernel
theorem dX6_laysUnits_65 : decode cX6_laysUnits 65 = .ok (.aload_n 0, 1) := by decide +kernel
theorem dX6_laysUnits_66 : decode cX6_laysUnits 66 = .ok (.getfield 19, 3) := by decide +kernel
theorem dX6_laysUnits_69 : decode cX6_laysUnits 69 = .ok (.iload_n 2, 1) := by decide +kernel
theorem dX6_laysUnits_70 : decode cX6_laysUnits 70 = .ok (.iaload, 1) := by decide +kernel
theorem dX6_laysUnits_71 : decode cX6_laysUnits 71 = .ok (.iastore, 1) := by decide +kernel
theorem dX6_laysUnits_72 : decode cX6_laysUnits 72 = .ok (.aload_n 0, 1) := by decide +kernel
theorem dX6_laysUnits_73 : decode cX6_laysUnits 73 = .ok (.getfield 22, 3) := by decide +kernel
theorem dX6_laysUnits_76 : decode cX6_laysUnits 76 = .ok (.iload_n 2, 1) := by decide +kernel
theorem dX6_laysUnits_77 : decode cX6_laysUnits 77 = .ok (.iload_n 2, 1) := by decide +kernel
theorem dX6_laysUnits_78 : decode cX6_laysUnits 78 = .ok (.iload_n 1, 1) := by decide +kernel
theorem dX6_laysUnits_79 : decode cX6_laysUnits 79 = .ok (.if_icmp .eq 17, 3) := by decide +kernel
theorem dX6_laysUnits_82 : decode cX6_laysUnits 82 = .ok (.aload_n 0, 1) := by decide +kernel
theorem dX6_laysUnits_83 : decode cX6_laysUnits 83 = .ok (.iload_n 1, 1) := by decide +kernel
theorem dX6_laysUnits_84 : decode cX6_laysUnits 84 = .ok (.invokevirtual 58, 3) := by decide +kernel
theorem dX6_laysUnits_87 : decode cX6_laysUnits 87 = .ok (.aload_n 0, 1) := by decide +kernel
theorem dX6_laysUnits_88 : decode cX6_laysUnits 88 = .ok (.getfield 22, 3) := by decide +kernel
theorem dX6_laysUnits_91 : decode cX6_laysUnits 91 = .ok (.iload_n 2, 1) := by decide +kernel
theorem dX6_laysUnits_92 : decode cX6_laysUnits 92 = .ok (.iaload, 1) := by decide +kernel
theorem dX6_laysUnits_93 : decode cX6_laysUnits 93 = .ok (.if_icmp .le 11, 3) := by decide +kernel
theorem dX6_laysUnits_96 : decode cX6_laysUnits 96 = .ok (.aload_n 0, 1) := by decide +kernel
theorem dX6_laysUnits_97 : decode cX6_laysUnits 97 = .ok (.iload_n 1, 1) := by decide +kernel
theorem dX6_laysUnits_98 : decode cX6_laysUnits 98 = .ok (.invokevirtual 58, 3) := by decide +kernel
theorem dX6_laysUnits_101 : decode cX6_laysUnits 101 = .ok (.goto 9, 3) := by decide +kernel
theorem dX6_laysUnits_104 : decode cX6_laysUnits 104 = .ok (.aload_n 0, 1) := by decide +kernel
theorem dX6_laysUnits_105 : decode cX6_laysUnits 105 = .ok (.getfield 22, 3) := by decide +kernel
theorem dX6_laysUnits_108 : decode cX6_laysUnits 108 = .ok (.iload_n 2, 1) := by decide +kernel
theorem dX6_laysUnits_109 : decode cX6_laysUnits 109 = .ok (.iaload, 1) := by decide +kernel
theorem dX6_laysUnits_110 : decode cX6_laysUnits 110 = .ok (.iastore, 1) := by decide +kernel
theorem dX6_laysUnits_111 : decode cX6_laysUnits 111 = .ok (.aload_n 0, 1) := by decide +kernel
theorem dX6_laysUnits_112 : decode cX6_laysUnits 112 = .ok (.getfield 25, 3) := by decide +kernel
theorem dX6_laysUnits_115 : decode cX6_laysUnits 115 = .ok (.iload_n 2, 1) := by decide +kernel
theorem dX6_laysUnits_116 : decode cX6_laysUnits 116 = .ok (.iload_n 2, 1) := by decide +kernel
theorem dX6_laysUnits_117 : decode cX6_laysUnits 117 = .ok (.iload_n 1, 1) := by decide +kernel
theorem dX6_laysUnits_118 : decode cX6_laysUnits 118 = .ok (.if_icmp .eq 18, 3) := by decide +kernel
theorem dX6_laysUnits_121 : decode cX6_laysUnits 121 = .ok (.aload_n 0, 1) := by decide +kernel
theorem dX6_laysUnits_122 : decode cX6_laysUnits 122 = .ok (.iload_n 1, 1) := by decide +kernel
theorem dX6_laysUnits_123 : decode cX6_laysUnits 123 = .ok (.iconst 5, 1) := by decide +kernel
theorem dX6_laysUnits_124 : decode cX6_laysUnits 124 = .ok (.invokevirtual 50, 3) := by decide +kernel
theorem dX6_laysUnits_127 : decode cX6_laysUnits 127 = .ok (.aload_n 0, 1) := by decide +kernel
theorem dX6_laysUnits_128 : decode cX6_laysUnits 128 = .ok (.getfield 25, 3) := by decide +kernel
theorem dX6_laysUnits_131 : decode cX6_laysUnits 131 = .ok (.iload_n 2, 1) := by decide +kernel
theorem dX6_laysUnits_132 : decode cX6_laysUnits 132 = .ok (.iaload, 1) := by decide +kernel
theorem dX6_laysUnits_133 : decode cX6_laysUnits 133 = .ok (.if_icmp .le 12, 3) := by decide +kernel
theorem dX6_laysUnits_136 : decode cX6_laysUnits 136 = .ok (.aload_n 0, 1) := by decide +kernel
theorem dX6_laysUnits_137 : decode cX6_laysUnits 137 = .ok (.iload_n 1, 1) := by decide +kernel
theorem dX6_laysUnits_138 : decode cX6_laysUnits 138 = .ok (.iconst 5, 1) := by decide +kernel
theorem dX6_laysUnits_139 : decode cX6_laysUnits 139 = .ok (.invokevirtual 50, 3) := by decide +kernel
theorem dX6_laysUnits_142 : decode cX6_laysUnits 142 = .ok (.goto 9, 3) := by decide +kernel
theorem dX6_laysUnits_145 : decode cX6_laysUnits 145 = .ok (.aload_n 0, 1) := by decide +kernel
theorem dX6_laysUnits_146 : decode cX6_laysUnits 146 = .ok (.getfield 25, 3) := by decide +kernel
theorem dX6_laysUnits_149 : decode cX6_laysUnits 149 = .ok (.iload_n 2, 1) := by decide +kernel
theorem dX6_laysUnits_150 : decode cX6_laysUnits 150 = .ok (.iaload, 1) := by decide +kernel
theorem dX6_laysUnits_151 : decode cX6_laysUnits 151 = .ok (.iastore, 1) := by decide +kernel
theorem dX6_laysUnits_152 : decode cX6_laysUnits 152 = .ok (.iinc 1 1, 3) := by decide +kernel
theorem dX6_laysUnits_155 : decode cX6_laysUnits 155 = .ok (.goto (-153), 3) := by decide +kernel
theorem dX6_laysUnits_158 : decode cX6_laysUnits 158 = .ok (.return_, 1) := by decide +kernel
theorem dX6_isUnit_0 : decode cX6_isUnit 0 = .ok (.aload_n 0, 1) := by decide +kernel
theorem dX6_isUnit_1 : decode cX6_isUnit 1 = .ok (.getfield 16, 3) := by decide +kernel
theorem dX6_isUnit_4 : decode cX6_isUnit 4 = .ok (.iload_n 1, 1) := by decide +kernel
theorem dX6_isUnit_5 : decode cX6_isUnit 5 = .ok (.iaload, 1) := by decide +kernel
theorem dX6_isUnit_6 : decode cX6_isUnit 6 = .ok (.iload_n 1, 1) := by decide +kernel
theorem dX6_isUnit_7 : decode cX6_isUnit 7 = .ok (.if_icmp .ne 7, 3) := by decide +kernel
theorem dX6_isUnit_10 : decode cX6_isUnit 10 = .ok (.iconst 1, 1) := by decide +kernel
theorem dX6_isUnit_11 : decode cX6_isUnit 11 = .ok (.goto 4, 3) := by decide +kernel
theorem dX6_isUnit_14 : decode cX6_isUnit 14 = .ok (.iconst 0, 1) := by decide +kernel
theorem dX6_isUnit_15 : decode cX6_isUnit 15 = .ok (.ireturn, 1) := by decide +kernel
theorem dX6_isSooner_0 : decode cX6_isSooner 0 = .ok (.aload_n 0, 1) := by decide +kernel
theorem dX6_isSooner_1 : decode cX6_isSooner 1 = .ok (.getfield 22, 3) := by decide +kernel
theorem dX6_isSooner_4 : decode cX6_isSooner 4 = .ok (.iload_n 1, 1) := by decide +kernel
theorem dX6_isSooner_5 : decode cX6_isSooner 5 = .ok (.iaload, 1) := by decide +kernel
theorem dX6_isSooner_6 : decode cX6_isSooner 6 = .ok (.aload_n 0, 1) := by decide +kernel
theorem dX6_isSooner_7 : decode cX6_isSooner 7 = .ok (.getfield 19, 3) := by decide +kernel
theorem dX6_isSooner_10 : decode cX6_isSooner 10 = .ok (.iload_n 1, 1) := by decide +kernel
theorem dX6_isSooner_11 : decode cX6_isSooner 11 = .ok (.iaload, 1) := by decide +kernel
theorem dX6_isSooner_12 : decode cX6_isSooner 12 = .ok (.isub, 1) := by decide +kernel
theorem dX6_isSooner_13 : decode cX6_isSooner 13 = .ok (.istore_n 3, 1) := by decide +kernel
theorem dX6_isSooner_14 : decode cX6_isSooner 14 = .ok (.aload_n 0, 1) := by decide +kernel
theorem dX6_isSooner_15 : decode cX6_isSooner 15 = .ok (.getfield 22, 3) := by decide +kernel
theorem dX6_isSooner_18 : decode cX6_isSooner 18 = .ok (.iload_n 2, 1) := by decide +kernel
theorem dX6_isSooner_19 : decode cX6_isSooner 19 = .ok (.iaload, 1) := by decide +kernel
theorem dX6_isSooner_20 : decode cX6_isSooner 20 = .ok (.aload_n 0, 1) := by decide +kernel
theorem dX6_isSooner_21 : decode cX6_isSooner 21 = .ok (.getfield 19, 3) := by decide +kernel
theorem dX6_isSooner_24 : decode cX6_isSooner 24 = .ok (.iload_n 2, 1) := by decide +kernel
theorem dX6_isSooner_25 : decode cX6_isSooner 25 = .ok (.iaload, 1) := by decide +kernel
theorem dX6_isSooner_26 : decode cX6_isSooner 26 = .ok (.isub, 1) := by decide +kernel
theorem dX6_isSooner_27 : decode cX6_isSooner 27 = .ok (.istore 4, 2) := by decide +kernel
theorem dX6_isSooner_29 : decode cX6_isSooner 29 = .ok (.iload_n 3, 1) := by decide +kernel
theorem dX6_isSooner_30 : decode cX6_isSooner 30 = .ok (.iload 4, 2) := by decide +kernel
theorem dX6_isSooner_32 : decode cX6_isSooner 32 = .ok (.if_icmp .eq 17, 3) := by decide +kernel
theorem dX6_isSooner_35 : decode cX6_isSooner 35 = .ok (.iload_n 3, 1) := by decide +kernel
theorem dX6_isSooner_36 : decode cX6_isSooner 36 = .ok (.iload 4, 2) := by decide +kernel
theorem dX6_isSooner_38 : decode cX6_isSooner 38 = .ok (.if_icmp .ge 7, 3) := by decide +kernel
theorem dX6_isSooner_41 : decode cX6_isSooner 41 = .ok (.iconst 1, 1) := by decide +kernel
theorem dX6_isSooner_42 : decode cX6_isSooner 42 = .ok (.goto 55, 3) := by decide +kernel
theorem dX6_isSooner_45 : decode cX6_isSooner 45 = .ok (.iconst 0, 1) := by decide +kernel
theorem dX6_isSooner_46 : decode cX6_isSooner 46 = .ok (.goto 51, 3) := by decide +kernel
theorem dX6_isSooner_49 : decode cX6_isSooner 49 = .ok (.aload_n 0, 1) := by decide +kernel
theorem dX6_isSooner_50 : decode cX6_isSooner 50 = .ok (.getfield 19, 3) := by decide +kernel
theorem dX6_isSooner_53 : decode cX6_isSooner 53 = .ok (.iload_n 1, 1) := by decide +kernel
theorem dX6_isSooner_54 : decode cX6_isSooner 54 = .ok (.iaload, 1) := by decide +kernel
theorem dX6_isSooner_55 : decode cX6_isSooner 55 = .ok (.aload_n 0, 1) := by decide +kernel
theorem dX6_isSooner_56 : decode cX6_isSooner 56 = .ok (.getfield 19, 3) := by decide +kernel
theorem dX6_isSooner_59 : decode cX6_isSooner 59 = .ok (.iload_n 2, 1) := by decide +kernel
theorem dX6_isSooner_60 : decode cX6_isSooner 60 = .ok (.iaload, 1) := by decide +kernel
theorem dX6_isSooner_61 : decode cX6_isSooner 61 = .ok (.if_icmp .eq 26, 3) := by decide +kernel
theorem dX6_isSooner_64 : decode cX6_isSooner 64 = .ok (.aload_n 0, 1) := by decide +kernel
theorem dX6_isSooner_65 : decode cX6_isSooner 65 = .ok (.getfield 19, 3) := by decide +kernel
theorem dX6_isSooner_68 : decode cX6_isSooner 68 = .ok (.iload_n 1, 1) := by decide +kernel
theorem dX6_isSooner_69 : decode cX6_isSooner 69 = .ok (.iaload, 1) := by decide +kernel
theorem dX6_isSooner_70 : decode cX6_isSooner 70 = .ok (.aload_n 0, 1) := by decide +kernel
theorem dX6_isSooner_71 : decode cX6_isSooner 71 = .ok (.getfield 19, 3) := by decide +kernel
theorem dX6_isSooner_74 : decode cX6_isSooner 74 = .ok (.iload_n 2, 1) := by decide +kernel
theorem dX6_isSooner_75 : decode cX6_isSooner 75 = .ok (.iaload, 1) := by decide +kernel
theorem dX6_isSooner_76 : decode cX6_isSooner 76 = .ok (.if_icmp .ge 7, 3) := by decide +kernel
theorem dX6_isSooner_79 : decode cX6_isSooner 79 = .ok (.iconst 1, 1) := by decide +kernel
theorem dX6_isSooner_80 : decode cX6_isSooner 80 = .ok (.goto 17, 3) := by decide +kernel
theorem dX6_isSooner_83 : decode cX6_isSooner 83 = .ok (.iconst 0, 1) := by decide +kernel
theorem dX6_isSooner_84 : decode cX6_isSooner 84 = .ok (.goto 13, 3) := by decide +kernel
theorem dX6_isSooner_87 : decode cX6_isSooner 87 = .ok (.iload_n 1, 1) := by decide +kernel
theorem dX6_isSooner_88 : decode cX6_isSooner 88 = .ok (.iload_n 2, 1) := by decide +kernel
theorem dX6_isSooner_89 : decode cX6_isSooner 89 = .ok (.if_icmp .ge 7, 3) := by decide +kernel
theorem dX6_isSooner_92 : decode cX6_isSooner 92 = .ok (.iconst 1, 1) := by decide +kernel
theorem dX6_isSooner_93 : decode cX6_isSooner 93 = .ok (.goto 4, 3) := by decide +kernel
theorem dX6_isSooner_96 : decode cX6_isSooner 96 = .ok (.iconst 0, 1) := by decide +kernel
theorem dX6_isSooner_97 : decode cX6_isSooner 97 = .ok (.ireturn, 1) := by decide +kernel
theorem dX6_nextUnit_0 : decode cX6_nextUnit 0 = .ok (.sipush (-999), 3) := by decide +kernel
theorem dX6_nextUnit_3 : decode cX6_nextUnit 3 = .ok (.istore_n 1, 1) := by decide +kernel
theorem dX6_nextUnit_4 : decode cX6_nextUnit 4 = .ok (.iconst 0, 1) := by decide +kernel
theorem dX6_nextUnit_5 : decode cX6_nextUnit 5 = .ok (.istore_n 2, 1) := by decide +kernel
theorem dX6_nextUnit_6 : decode cX6_nextUnit 6 = .ok (.iload_n 2, 1) := by decide +kernel
theorem dX6_nextUnit_7 : decode cX6_nextUnit 7 = .ok (.aload_n 0, 1) := by decide +kernel
theorem dX6_nextUnit_8 : decode cX6_nextUnit 8 = .ok (.getfield 7, 3) := by decide +kernel
theorem dX6_nextUnit_11 : decode cX6_nextUnit 11 = .ok (.bipush 13, 2) := by decide +kernel
theorem dX6_nextUnit_13 : decode cX6_nextUnit 13 = .ok (.iaload, 1) := by decide +kernel
theorem dX6_nextUnit_14 : decode cX6_nextUnit 14 = .ok (.if_icmp .ge 48, 3) := by decide +kernel
theorem dX6_nextUnit_17 : decode cX6_nextUnit 17 = .ok (.aload_n 0, 1) := by decide +kernel
theorem dX6_nextUnit_18 : decode cX6_nextUnit 18 = .ok (.iload_n 2, 1) := by decide +kernel
theorem dX6_nextUnit_19 : decode cX6_nextUnit 19 = .ok (.invokevirtual 160, 3) := by decide +kernel
theorem dX6_nextUnit_22 : decode cX6_nextUnit 22 = .ok (.ifCond .eq 32, 3) := by decide +kernel
theorem dX6_nextUnit_25 : decode cX6_nextUnit 25 = .ok (.aload_n 0, 1) := by decide +kernel
theorem dX6_nextUnit_26 : decode cX6_nextUnit 26 = .ok (.getfield 31, 3) := by decide +kernel
theorem dX6_nextUnit_29 : decode cX6_nextUnit 29 = .ok (.iload_n 2, 1) := by decide +kernel
theorem dX6_nextUnit_30 : decode cX6_nextUnit 30 = .ok (.baload, 1) := by decide +kernel
theorem dX6_nextUnit_31 : decode cX6_nextUnit 31 = .ok (.ifCond .ne 23, 3) := by decide +kernel
theorem dX6_nextUnit_34 : decode cX6_nextUnit 34 = .ok (.iload_n 1, 1) := by decide +kernel
theorem dX6_nextUnit_35 : decode cX6_nextUnit 35 = .ok (.sipush (-999), 3) := by decide +kernel
theorem dX6_nextUnit_38 : decode cX6_nextUnit 38 = .ok (.if_icmp .eq 12, 3) := by decide +kernel
theorem dX6_nextUnit_41 : decode cX6_nextUnit 41 = .ok (.aload_n 0, 1) := by decide +kernel
theorem dX6_nextUnit_42 : decode cX6_nextUnit 42 = .ok (.iload_n 2, 1) := by decide +kernel
theorem dX6_nextUnit_43 : decode cX6_nextUnit 43 = .ok (.iload_n 1, 1) := by decide +kernel
theorem dX6_nextUnit_44 : decode cX6_nextUnit 44 = .ok (.invokevirtual 163, 3) := by decide +kernel
theorem dX6_nextUnit_47 : decode cX6_nextUnit 47 = .ok (.ifCond .eq 7, 3) := by decide +kernel
theorem dX6_nextUnit_50 : decode cX6_nextUnit 50 = .ok (.iload_n 2, 1) := by decide +kernel
theorem dX6_nextUnit_51 : decode cX6_nextUnit 51 = .ok (.goto 4, 3) := by decide +kernel
theorem dX6_nextUnit_54 : decode cX6_nextUnit 54 = .ok (.iload_n 1, 1) := by decide +kernel
theorem dX6_nextUnit_55 : decode cX6_nextUnit 55 = .ok (.istore_n 1, 1) := by decide +kernel
theorem dX6_nextUnit_56 : decode cX6_nextUnit 56 = .ok (.iinc 2 1, 3) := by decide +kernel
theorem dX6_nextUnit_59 : decode cX6_nextUnit 59 = .ok (.goto (-53), 3) := by decide +kernel
theorem dX6_nextUnit_62 : decode cX6_nextUnit 62 = .ok (.iload_n 1, 1) := by decide +kernel
theorem dX6_nextUnit_63 : decode cX6_nextUnit 63 = .ok (.ireturn, 1) := by decide +kernel
theorem dX6_covers_0 : decode cX6_covers 0 = .ok (.aload_n 0, 1) := by decide +kernel
theorem dX6_covers_1 : decode cX6_covers 1 = .ok (.getfield 19, 3) := by decide +kernel
theorem dX6_covers_4 : decode cX6_covers 4 = .ok (.iload_n 1, 1) := by decide +kernel
theorem dX6_covers_5 : decode cX6_covers 5 = .ok (.iaload, 1) := by decide +kernel
theorem dX6_covers_6 : decode cX6_covers 6 = .ok (.aload_n 0, 1) := by decide +kernel
theorem dX6_covers_7 : decode cX6_covers 7 = .ok (.getfield 19, 3) := by decide +kernel
theorem dX6_covers_10 : decode cX6_covers 10 = .ok (.iload_n 2, 1) := by decide +kernel
theorem dX6_covers_11 : decode cX6_covers 11 = .ok (.iaload, 1) := by decide +kernel
theorem dX6_covers_12 : decode cX6_covers 12 = .ok (.if_icmp .gt 22, 3) := by decide +kernel
theorem dX6_covers_15 : decode cX6_covers 15 = .ok (.aload_n 0, 1) := by decide +kernel
theorem dX6_covers_16 : decode cX6_covers 16 = .ok (.getfield 22, 3) := by decide +kernel
theorem dX6_covers_19 : decode cX6_covers 19 = .ok (.iload_n 2, 1) := by decide +kernel
theorem dX6_covers_20 : decode cX6_covers 20 = .ok (.iaload, 1) := by decide +kernel
theorem dX6_covers_21 : decode cX6_covers 21 = .ok (.aload_n 0, 1) := by decide +kernel
theorem dX6_covers_22 : decode cX6_covers 22 = .ok (.getfield 22, 3) := by decide +kernel
theorem dX6_covers_25 : decode cX6_covers 25 = .ok (.iload_n 1, 1) := by decide +kernel
theorem dX6_covers_26 : decode cX6_covers 26 = .ok (.iaload, 1) := by decide +kernel
theorem dX6_covers_27 : decode cX6_covers 27 = .ok (.if_icmp .gt 7, 3) := by decide +kernel
theorem dX6_covers_30 : decode cX6_covers 30 = .ok (.iconst 1, 1) := by decide +kernel
theorem dX6_covers_31 : decode cX6_covers 31 = .ok (.goto 4, 3) := by decide +kernel
theorem dX6_covers_34 : decode cX6_covers 34 = .ok (.iconst 0, 1) := by decide +kernel
theorem dX6_covers_35 : decode cX6_covers 35 = .ok (.ireturn, 1) := by decide +kernel
theorem dX6_meets_0 : decode cX6_meets 0 = .ok (.iconst 0, 1) := by decide +kernel
theorem dX6_meets_1 : decode cX6_meets 1 = .ok (.istore_n 3, 1) := by decide +kernel
theorem dX6_meets_2 : decode cX6_meets 2 = .ok (.iconst 0, 1) := by decide +kernel
theorem dX6_meets_3 : decode cX6_meets 3 = .ok (.istore 4, 2) := by decide +kernel
theorem dX6_meets_5 : decode cX6_meets 5 = .ok (.iload 4, 2) := by decide +kernel
theorem dX6_meets_7 : decode cX6_meets 7 = .ok (.aload_n 0, 1) := by decide +kernel
theorem dX6_meets_8 : decode cX6_meets 8 = .ok (.getfield 7, 3) := by decide +kernel
theorem dX6_meets_11 : decode cX6_meets 11 = .ok (.bipush 13, 2) := by decide +kernel
theorem dX6_meets_13 : decode cX6_meets 13 = .ok (.iaload, 1) := by decide +kernel
theorem dX6_meets_14 : decode cX6_meets 14 = .ok (.if_icmp .ge 124, 3) := by decide +kernel
theorem dX6_meets_17 : decode cX6_meets 17 = .ok (.iconst 0, 1) := by decide +kernel
theorem dX6_meets_18 : decode cX6_meets 18 = .ok (.istore 5, 2) := by decide +kernel
theorem dX6_meets_20 : decode cX6_meets 20 = .ok (.iload 5, 2) := by decide +kernel
theorem dX6_meets_22 : decode cX6_meets 22 = .ok (.aload_n 0, 1) := by decide +kernel
theorem dX6_meets_23 : decode cX6_meets 23 = .ok (.getfield 7, 3) := by decide +kernel
theorem dX6_meets_26 : decode cX6_meets 26 = .ok (.bipush 13, 2) := by decide +kernel
theorem dX6_meets_28 : decode cX6_meets 28 = .ok (.iaload, 1) := by decide +kernel
theorem dX6_meets_29 : decode cX6_meets 29 = .ok (.if_icmp .ge 103, 3) := by decide +kernel
theorem dX6_meets_32 : decode cX6_meets 32 = .ok (.aload_n 0, 1) := by decide +kernel
theorem dX6_meets_33 : decode cX6_meets 33 = .ok (.getfield 16, 3) := by decide +kernel
theorem dX6_meets_36 : decode cX6_meets 36 = .ok (.iload 4, 2) := by decide +kernel
theorem dX6_meets_38 : decode cX6_meets 38 = .ok (.iaload, 1) := by decide +kernel
theorem dX6_meets_39 : decode cX6_meets 39 = .ok (.iload_n 1, 1) := by decide +kernel
theorem dX6_meets_40 : decode cX6_meets 40 = .ok (.if_icmp .ne 92, 3) := by decide +kernel
theorem dX6_meets_43 : decode cX6_meets 43 = .ok (.aload_n 0, 1) := by decide +kernel
theorem dX6_meets_44 : decode cX6_meets 44 = .ok (.getfield 31, 3) := by decide +kernel
theorem dX6_meets_47 : decode cX6_meets 47 = .ok (.aload_n 0, 1) := by decide +kernel
theorem dX6_meets_48 : decode cX6_meets 48 = .ok (.getfield 16, 3) := by decide +kernel
theorem dX6_meets_51 : decode cX6_meets 51 = .ok (.iload 5, 2) := by decide +kernel
theorem dX6_meets_53 : decode cX6_meets 53 = .ok (.iaload, 1) := by decide +kernel
theorem dX6_meets_54 : decode cX6_meets 54 = .ok (.baload, 1) := by decide +kernel
theorem dX6_meets_55 : decode cX6_meets 55 = .ok (.ifCond .eq 23, 3) := by decide +kernel
theorem dX6_meets_58 : decode cX6_meets 58 = .ok (.aload_n 0, 1) := by decide +kernel
theorem dX6_meets_59 : decode cX6_meets 59 = .ok (.getfield 28, 3) := by decide +kernel
theorem dX6_meets_62 : decode cX6_meets 62 = .ok (.aload_n 0, 1) := by decide +kernel
theorem dX6_meets_63 : decode cX6_meets 63 = .ok (.getfield 16, 3) := by decide +kernel
theorem dX6_meets_66 : decode cX6_meets 66 = .ok (.iload 5, 2) := by decide +kernel
theorem dX6_meets_68 : decode cX6_meets 68 = .ok (.iaload, 1) := by decide +kernel
theorem dX6_meets_69 : decode cX6_meets 69 = .ok (.iaload, 1) := by decide +kernel
theorem dX6_meets_70 : decode cX6_meets 70 = .ok (.iload_n 2, 1) := by decide +kernel
theorem dX6_meets_71 : decode cX6_meets 71 = .ok (.if_icmp .ne 7, 3) := by decide +kernel
theorem dX6_meets_74 : decode cX6_meets 74 = .ok (.iconst 1, 1) := by decide +kernel
theorem dX6_meets_75 : decode cX6_meets 75 = .ok (.goto 4, 3) := by decide +kernel
theorem dX6_meets_78 : decode cX6_meets 78 = .ok (.iconst 0, 1) := by decide +kernel
theorem dX6_meets_79 : decode cX6_meets 79 = .ok (.istore 6, 2) := by decide +kernel
theorem dX6_meets_81 : decode cX6_meets 81 = .ok (.iload_n 3, 1) := by decide +kernel
theorem dX6_meets_82 : decode cX6_meets 82 = .ok (.ifCond .ne 38, 3) := by decide +kernel
theorem dX6_meets_85 : decode cX6_meets 85 = .ok (.iload 6, 2) := by decide +kernel
theorem dX6_meets_87 : decode cX6_meets 87 = .ok (.ifCond .eq 37, 3) := by decide +kernel
theorem dX6_meets_90 : decode cX6_meets 90 = .ok (.aload_n 0, 1) := by decide +kernel
theorem dX6_meets_91 : decode cX6_meets 91 = .ok (.iload 4, 2) := by decide +kernel
theorem dX6_meets_93 : decode cX6_meets 93 = .ok (.invokevirtual 166, 3) := by decide +kernel
theorem dX6_meets_96 : decode cX6_meets 96 = .ok (.aload_n 0, 1) := by decide +kernel
theorem dX6_meets_97 : decode cX6_meets 97 = .ok (.iload 5, 2) := by decide +kernel
theorem dX6_meets_99 : decode cX6_meets 99 = .ok (.invokevirtual 169, 3) := by decide +kernel
theorem dX6_meets_102 : decode cX6_meets 102 = .ok (.if_icmp .gt 22, 3) := by decide +kernel
theorem dX6_meets_105 : decode cX6_meets 105 = .ok (.aload_n 0, 1) := by decide +kernel
theorem dX6_meets_106 : decode cX6_meets 106 = .ok (.iload 5, 2) := by decide +kernel
theorem dX6_meets_108 : decode cX6_meets 108 = .ok (.invokevirtual 166, 3) := by decide +kernel
theorem dX6_meets_111 : decode cX6_meets 111 = .ok (.aload_n 0, 1) := by decide +kernel
theorem dX6_meets_112 : decode cX6_meets 112 = .ok (.iload 4, 2) := by decide +kernel
theorem dX6_meets_114 : decode cX6_meets 114 = .ok (.invokevirtual 169, 3) := by decide +kernel
theorem dX6_meets_117 : decode cX6_meets 117 = .ok (.if_icmp .gt 7, 3) := by decide +kernel
theorem dX6_meets_120 : decode cX6_meets 120 = .ok (.iconst 1, 1) := by decide +kernel
theorem dX6_meets_121 : decode cX6_meets 121 = .ok (.goto 4, 3) := by decide +kernel
theorem dX6_meets_124 : decode cX6_meets 124 = .ok (.iconst 0, 1) := by decide +kernel
theorem dX6_meets_125 : decode cX6_meets 125 = .ok (.istore_n 3, 1) := by decide +kernel
theorem dX6_meets_126 : decode cX6_meets 126 = .ok (.iinc 5 1, 3) := by decide +kernel
theorem dX6_meets_129 : decode cX6_meets 129 = .ok (.goto (-109), 3) := by decide +kernel
theorem dX6_meets_132 : decode cX6_meets 132 = .ok (.iinc 4 1, 3) := by decide +kernel
theorem dX6_meets_135 : decode cX6_meets 135 = .ok (.goto (-130), 3) := by decide +kernel
theorem dX6_meets_138 : decode cX6_meets 138 = .ok (.iload_n 3, 1) := by decide +kernel
theorem dX6_meets_139 : decode cX6_meets 139 = .ok (.ireturn, 1) := by decide +kernel
theorem dX6_laysLanes_0 : decode cX6_laysLanes 0 = .ok (.aload_n 0, 1) := by decide +kernel
theorem dX6_laysLanes_1 : decode cX6_laysLanes 1 = .ok (.invokevirtual 172, 3) := by decide +kernel
theorem dX6_laysLanes_4 : decode cX6_laysLanes 4 = .ok (.aload_n 0, 1) := by decide +kernel
theorem dX6_laysLanes_5 : decode cX6_laysLanes 5 = .ok (.invokevirtual 175, 3) := by decide +kernel
theorem dX6_laysLanes_8 : decode cX6_laysLanes 8 = .ok (.istore_n 1, 1) := by decide +kernel
theorem dX6_laysLanes_9 : decode cX6_laysLanes 9 = .ok (.iload_n 1, 1) := by decide +kernel
theorem dX6_laysLanes_10 : decode cX6_laysLanes 10 = .ok (.sipush (-999), 3) := by decide +kernel
theorem dX6_laysLanes_13 : decode cX6_laysLanes 13 = .ok (.if_icmp .eq 115, 3) := by decide +kernel
theorem dX6_laysLanes_16 : decode cX6_laysLanes 16 = .ok (.aload_n 0, 1) := by decide +kernel
theorem dX6_laysLanes_17 : decode cX6_laysLanes 17 = .ok (.getfield 25, 3) := by decide +kernel
theorem dX6_laysLanes_20 : decode cX6_laysLanes 20 = .ok (.iload_n 1, 1) := by decide +kernel
theorem dX6_laysLanes_21 : decode cX6_laysLanes 21 = .ok (.iaload, 1) := by decide +kernel
theorem dX6_laysLanes_22 : decode cX6_laysLanes 22 = .ok (.istore_n 2, 1) := by decide +kernel
theorem dX6_laysLanes_23 : decode cX6_laysLanes 23 = .ok (.iconst 0, 1) := by decide +kernel
theorem dX6_laysLanes_24 : decode cX6_laysLanes 24 = .ok (.istore_n 3, 1) := by decide +kernel
theorem dX6_laysLanes_25 : decode cX6_laysLanes 25 = .ok (.iload_n 3, 1) := by decide +kernel
theorem dX6_laysLanes_26 : decode cX6_laysLanes 26 = .ok (.aload_n 0, 1) := by decide +kernel
theorem dX6_laysLanes_27 : decode cX6_laysLanes 27 = .ok (.getfield 7, 3) := by decide +kernel
theorem dX6_laysLanes_30 : decode cX6_laysLanes 30 = .ok (.bipush 13, 2) := by decide +kernel
theorem dX6_laysLanes_32 : decode cX6_laysLanes 32 = .ok (.iaload, 1) := by decide +kernel
theorem dX6_laysLanes_33 : decode cX6_laysLanes 33 = .ok (.if_icmp .ge 58, 3) := by decide +kernel
theorem dX6_laysLanes_36 : decode cX6_laysLanes 36 = .ok (.aload_n 0, 1) := by decide +kernel
theorem dX6_laysLanes_37 : decode cX6_laysLanes 37 = .ok (.iload_n 3, 1) := by decide +kernel
theorem dX6_laysLanes_38 : decode cX6_laysLanes 38 = .ok (.invokevirtual 160, 3) := by decide +kernel
theorem dX6_laysLanes_41 : decode cX6_laysLanes 41 = .ok (.ifCond .eq 42, 3) := by decide +kernel
theorem dX6_laysLanes_44 : decode cX6_laysLanes 44 = .ok (.aload_n 0, 1) := by decide +kernel
theorem dX6_laysLanes_45 : decode cX6_laysLanes 45 = .ok (.getfield 31, 3) := by decide +kernel
theorem dX6_laysLanes_48 : decode cX6_laysLanes 48 = .ok (.iload_n 3, 1) := by decide +kernel
theorem dX6_laysLanes_49 : decode cX6_laysLanes 49 = .ok (.baload, 1) := by decide +kernel
theorem dX6_laysLanes_50 : decode cX6_laysLanes 50 = .ok (.ifCond .eq 33, 3) := by decide +kernel
theorem dX6_laysLanes_53 : decode cX6_laysLanes 53 = .ok (.aload_n 0, 1) := by decide +kernel
theorem dX6_laysLanes_54 : decode cX6_laysLanes 54 = .ok (.iload_n 1, 1) := by decide +kernel
theorem dX6_laysLanes_55 : decode cX6_laysLanes 55 = .ok (.iload_n 3, 1) := by decide +kernel
theorem dX6_laysLanes_56 : decode cX6_laysLanes 56 = .ok (.invokevirtual 178, 3) := by decide +kernel
theorem dX6_laysLanes_59 : decode cX6_laysLanes 59 = .ok (.ifCond .eq 24, 3) := by decide +kernel
theorem dX6_laysLanes_62 : decode cX6_laysLanes 62 = .ok (.aload_n 0, 1) := by decide +kernel
theorem dX6_laysLanes_63 : decode cX6_laysLanes 63 = .ok (.getfield 28, 3) := by decide +kernel
theorem dX6_laysLanes_66 : decode cX6_laysLanes 66 = .ok (.iload_n 3, 1) := by decide +kernel
theorem dX6_laysLanes_67 : decode cX6_laysLanes 67 = .ok (.iaload, 1) := by decide +kernel
theorem dX6_laysLanes_68 : decode cX6_laysLanes 68 = .ok (.iload_n 2, 1) := by decide +kernel
theorem dX6_laysLanes_69 : decode cX6_laysLanes 69 = .ok (.if_icmp .lt 14, 3) := by decide +kernel
theorem dX6_laysLanes_72 : decode cX6_laysLanes 72 = .ok (.aload_n 0, 1) := by decide +kernel
theorem dX6_laysLanes_73 : decode cX6_laysLanes 73 = .ok (.getfield 28, 3) := by decide +kernel
theorem dX6_laysLanes_76 : decode cX6_laysLanes 76 = .ok (.iload_n 3, 1) := by decide +kernel
theorem dX6_laysLanes_77 : decode cX6_laysLanes 77 = .ok (.iaload, 1) := by decide +kernel
theorem dX6_laysLanes_78 : decode cX6_laysLanes 78 = .ok (.iconst 1, 1) := by decide +kernel
theorem dX6_laysLanes_79 : decode cX6_laysLanes 79 = .ok (.iadd, 1) := by decide +kernel
theorem dX6_laysLanes_80 : decode cX6_laysLanes 80 = .ok (.goto 4, 3) := by decide +kernel
theorem dX6_laysLanes_83 : decode cX6_laysLanes 83 = .ok (.iload_n 2, 1) := by decide +kernel
theorem dX6_laysLanes_84 : decode cX6_laysLanes 84 = .ok (.istore_n 2, 1) := by decide +kernel
theorem dX6_laysLanes_85 : decode cX6_laysLanes 85 = .ok (.iinc 3 1, 3) := by decide +kernel
theorem dX6_laysLanes_88 : decode cX6_laysLanes 88 = .ok (.goto (-63), 3) := by decide +kernel
theorem dX6_laysLanes_91 : decode cX6_laysLanes 91 = .ok (.aload_n 0, 1) := by decide +kernel
theorem dX6_laysLanes_92 : decode cX6_laysLanes 92 = .ok (.iload_n 1, 1) := by decide +kernel
theorem dX6_laysLanes_93 : decode cX6_laysLanes 93 = .ok (.iload_n 2, 1) := by decide +kernel
theorem dX6_laysLanes_94 : decode cX6_laysLanes 94 = .ok (.invokevirtual 181, 3) := by decide +kernel
theorem dX6_laysLanes_97 : decode cX6_laysLanes 97 = .ok (.ifCond .eq 9, 3) := by decide +kernel
theorem dX6_laysLanes_100 : decode cX6_laysLanes 100 = .ok (.iinc 2 1, 3) := by decide +kernel
theorem dX6_laysLanes_103 : decode cX6_laysLanes 103 = .ok (.goto (-12), 3) := by decide +kernel
theorem dX6_laysLanes_106 : decode cX6_laysLanes 106 = .ok (.aload_n 0, 1) := by decide +kernel
theorem dX6_laysLanes_107 : decode cX6_laysLanes 107 = .ok (.getfield 28, 3) := by decide +kernel
theorem dX6_laysLanes_110 : decode cX6_laysLanes 110 = .ok (.iload_n 1, 1) := by decide +kernel
theorem dX6_laysLanes_111 : decode cX6_laysLanes 111 = .ok (.iload_n 2, 1) := by decide +kernel
theorem dX6_laysLanes_112 : decode cX6_laysLanes 112 = .ok (.iastore, 1) := by decide +kernel
theorem dX6_laysLanes_113 : decode cX6_laysLanes 113 = .ok (.aload_n 0, 1) := by decide +kernel
theorem dX6_laysLanes_114 : decode cX6_laysLanes 114 = .ok (.getfield 31, 3) := by decide +kernel
theorem dX6_laysLanes_117 : decode cX6_laysLanes 117 = .ok (.iload_n 1, 1) := by decide +kernel
theorem dX6_laysLanes_118 : decode cX6_laysLanes 118 = .ok (.iconst 1, 1) := by decide +kernel
theorem dX6_laysLanes_119 : decode cX6_laysLanes 119 = .ok (.bastore, 1) := by decide +kernel
theorem dX6_laysLanes_120 : decode cX6_laysLanes 120 = .ok (.aload_n 0, 1) := by decide +kernel
theorem dX6_laysLanes_121 : decode cX6_laysLanes 121 = .ok (.invokevirtual 175, 3) := by decide +kernel
theorem dX6_laysLanes_124 : decode cX6_laysLanes 124 = .ok (.istore_n 1, 1) := by decide +kernel
theorem dX6_laysLanes_125 : decode cX6_laysLanes 125 = .ok (.goto (-116), 3) := by decide +kernel
theorem dX6_laysLanes_128 : decode cX6_laysLanes 128 = .ok (.return_, 1) := by decide +kernel
theorem dX6_laneOf_0 : decode cX6_laneOf 0 = .ok (.aload_n 0, 1) := by decide +kernel
theorem dX6_laneOf_1 : decode cX6_laneOf 1 = .ok (.getfield 28, 3) := by decide +kernel
theorem dX6_laneOf_4 : decode cX6_laneOf 4 = .ok (.aload_n 0, 1) := by decide +kernel
theorem dX6_laneOf_5 : decode cX6_laneOf 5 = .ok (.getfield 16, 3) := by decide +kernel
theorem dX6_laneOf_8 : decode cX6_laneOf 8 = .ok (.iload_n 1, 1) := by decide +kernel
theorem dX6_laneOf_9 : decode cX6_laneOf 9 = .ok (.iaload, 1) := by decide +kernel
theorem dX6_laneOf_10 : decode cX6_laneOf 10 = .ok (.iaload, 1) := by decide +kernel
theorem dX6_laneOf_11 : decode cX6_laneOf 11 = .ok (.ireturn, 1) := by decide +kernel
theorem dX6_lanes_0 : decode cX6_lanes 0 = .ok (.iconst 0, 1) := by decide +kernel
theorem dX6_lanes_1 : decode cX6_lanes 1 = .ok (.istore_n 1, 1) := by decide +kernel
theorem dX6_lanes_2 : decode cX6_lanes 2 = .ok (.iconst 0, 1) := by decide +kernel
theorem dX6_lanes_3 : decode cX6_lanes 3 = .ok (.istore_n 2, 1) := by decide +kernel
theorem dX6_lanes_4 : decode cX6_lanes 4 = .ok (.iload_n 2, 1) := by decide +kernel
theorem dX6_lanes_5 : decode cX6_lanes 5 = .ok (.aload_n 0, 1) := by decide +kernel
theorem dX6_lanes_6 : decode cX6_lanes 6 = .ok (.getfield 7, 3) := by decide +kernel
theorem dX6_lanes_9 : decode cX6_lanes 9 = .ok (.bipush 13, 2) := by decide +kernel
theorem dX6_lanes_11 : decode cX6_lanes 11 = .ok (.iaload, 1) := by decide +kernel
theorem dX6_lanes_12 : decode cX6_lanes 12 = .ok (.if_icmp .ge 30, 3) := by decide +kernel
theorem dX6_lanes_15 : decode cX6_lanes 15 = .ok (.aload_n 0, 1) := by decide +kernel
theorem dX6_lanes_16 : decode cX6_lanes 16 = .ok (.iload_n 2, 1) := by decide +kernel
theorem dX6_lanes_17 : decode cX6_lanes 17 = .ok (.invokevirtual 184, 3) := by decide +kernel
theorem dX6_lanes_20 : decode cX6_lanes 20 = .ok (.iload_n 1, 1) := by decide +kernel
theorem dX6_lanes_21 : decode cX6_lanes 21 = .ok (.if_icmp .lt 13, 3) := by decide +kernel
theorem dX6_lanes_24 : decode cX6_lanes 24 = .ok (.aload_n 0, 1) := by decide +kernel
theorem dX6_lanes_25 : decode cX6_lanes 25 = .ok (.iload_n 2, 1) := by decide +kernel
theorem dX6_lanes_26 : decode cX6_lanes 26 = .ok (.invokevirtual 184, 3) := by decide +kernel
theorem dX6_lanes_29 : decode cX6_lanes 29 = .ok (.iconst 1, 1) := by decide +kernel
theorem dX6_lanes_30 : decode cX6_lanes 30 = .ok (.iadd, 1) := by decide +kernel
theorem dX6_lanes_31 : decode cX6_lanes 31 = .ok (.goto 4, 3) := by decide +kernel
theorem dX6_lanes_34 : decode cX6_lanes 34 = .ok (.iload_n 1, 1) := by decide +kernel
theorem dX6_lanes_35 : decode cX6_lanes 35 = .ok (.istore_n 1, 1) := by decide +kernel
theorem dX6_lanes_36 : decode cX6_lanes 36 = .ok (.iinc 2 1, 3) := by decide +kernel
theorem dX6_lanes_39 : decode cX6_lanes 39 = .ok (.goto (-35), 3) := by decide +kernel
theorem dX6_lanes_42 : decode cX6_lanes 42 = .ok (.iload_n 1, 1) := by decide +kernel
theorem dX6_lanes_43 : decode cX6_lanes 43 = .ok (.ireturn, 1) := by decide +kernel
theorem dX6_witness_0 : decode cX6_witness 0 = .ok (.sipush (-999), 3) := by decide +kernel
theorem dX6_witness_3 : decode cX6_witness 3 = .ok (.istore_n 2, 1) := by decide +kernel
theorem dX6_witness_4 : decode cX6_witness 4 = .ok (.iconst 0, 1) := by decide +kernel
theorem dX6_witness_5 : decode cX6_witness 5 = .ok (.istore_n 3, 1) := by decide +kernel
theorem dX6_witness_6 : decode cX6_witness 6 = .ok (.iload_n 3, 1) := by decide +kernel
theorem dX6_witness_7 : decode cX6_witness 7 = .ok (.aload_n 0, 1) := by decide +kernel
theorem dX6_witness_8 : decode cX6_witness 8 = .ok (.getfield 7, 3) := by decide +kernel
theorem dX6_witness_11 : decode cX6_witness 11 = .ok (.bipush 13, 2) := by decide +kernel
theorem dX6_witness_13 : decode cX6_witness 13 = .ok (.iaload, 1) := by decide +kernel
theorem dX6_witness_14 : decode cX6_witness 14 = .ok (.if_icmp .ge 60, 3) := by decide +kernel
theorem dX6_witness_17 : decode cX6_witness 17 = .ok (.aload_n 0, 1) := by decide +kernel
theorem dX6_witness_18 : decode cX6_witness 18 = .ok (.iload_n 3, 1) := by decide +kernel
theorem dX6_witness_19 : decode cX6_witness 19 = .ok (.iconst 0, 1) := by decide +kernel
theorem dX6_witness_20 : decode cX6_witness 20 = .ok (.invokevirtual 50, 3) := by decide +kernel
theorem dX6_witness_23 : decode cX6_witness 23 = .ok (.iload_n 1, 1) := by decide +kernel
theorem dX6_witness_24 : decode cX6_witness 24 = .ok (.if_icmp .eq 13, 3) := by decide +kernel
theorem dX6_witness_27 : decode cX6_witness 27 = .ok (.aload_n 0, 1) := by decide +kernel
theorem dX6_witness_28 : decode cX6_witness 28 = .ok (.iload_n 3, 1) := by decide +kernel
theorem dX6_witness_29 : decode cX6_witness 29 = .ok (.iconst 1, 1) := by decide +kernel
theorem dX6_witness_30 : decode cX6_witness 30 = .ok (.invokevirtual 50, 3) := by decide +kernel
theorem dX6_witness_33 : decode cX6_witness 33 = .ok (.iload_n 1, 1) := by decide +kernel
theorem dX6_witness_34 : decode cX6_witness 34 = .ok (.if_icmp .ne 7, 3) := by decide +kernel
theorem dX6_witness_37 : decode cX6_witness 37 = .ok (.iconst 1, 1) := by decide +kernel
theorem dX6_witness_38 : decode cX6_witness 38 = .ok (.goto 4, 3) := by decide +kernel
theorem dX6_witness_41 : decode cX6_witness 41 = .ok (.iconst 0, 1) := by decide +kernel
theorem dX6_witness_42 : decode cX6_witness 42 = .ok (.istore 4, 2) := by decide +kernel
theorem dX6_witness_44 : decode cX6_witness 44 = .ok (.iload 4, 2) := by decide +kernel
theorem dX6_witness_46 : decode cX6_witness 46 = .ok (.ifCond .eq 20, 3) := by decide +kernel
theorem dX6_witness_49 : decode cX6_witness 49 = .ok (.aload_n 0, 1) := by decide +kernel
theorem dX6_witness_50 : decode cX6_witness 50 = .ok (.iload_n 3, 1) := by decide +kernel
theorem dX6_witness_51 : decode cX6_witness 51 = .ok (.invokevirtual 184, 3) := by decide +kernel
theorem dX6_witness_54 : decode cX6_witness 54 = .ok (.iload_n 2, 1) := by decide +kernel
theorem dX6_witness_55 : decode cX6_witness 55 = .ok (.if_icmp .le 11, 3) := by decide +kernel
theorem dX6_witness_58 : decode cX6_witness 58 = .ok (.aload_n 0, 1) := by decide +kernel
theorem dX6_witness_59 : decode cX6_witness 59 = .ok (.iload_n 3, 1) := by decide +kernel
theorem dX6_witness_60 : decode cX6_witness 60 = .ok (.invokevirtual 184, 3) := by decide +kernel
theorem dX6_witness_63 : decode cX6_witness 63 = .ok (.goto 4, 3) := by decide +kernel
theorem dX6_witness_66 : decode cX6_witness 66 = .ok (.iload_n 2, 1) := by decide +kernel
theorem dX6_witness_67 : decode cX6_witness 67 = .ok (.istore_n 2, 1) := by decide +kernel
theorem dX6_witness_68 : decode cX6_witness 68 = .ok (.iinc 3 1, 3) := by decide +kernel
theorem dX6_witness_71 : decode cX6_witness 71 = .ok (.goto (-65), 3) := by decide +kernel
theorem dX6_witness_74 : decode cX6_witness 74 = .ok (.iload_n 2, 1) := by decide +kernel
theorem dX6_witness_75 : decode cX6_witness 75 = .ok (.ireturn, 1) := by decide +kernel
theorem dX6_crosses_0 : decode cX6_crosses 0 = .ok (.aload_n 0, 1) := by decide +kernel
theorem dX6_crosses_1 : decode cX6_crosses 1 = .ok (.iload_n 2, 1) := by decide +kernel
theorem dX6_crosses_2 : decode cX6_crosses 2 = .ok (.invokevirtual 184, 3) := by decide +kernel
theorem dX6_crosses_5 : decode cX6_crosses 5 = .ok (.aload_n 0, 1) := by decide +kernel
theorem dX6_crosses_6 : decode cX6_crosses 6 = .ok (.iload_n 1, 1) := by decide +kernel
theorem dX6_crosses_7 : decode cX6_crosses 7 = .ok (.invokevirtual 187, 3) := by decide +kernel
theorem dX6_crosses_10 : decode cX6_crosses 10 = .ok (.if_icmp .ge 33, 3) := by decide +kernel
theorem dX6_crosses_13 : decode cX6_crosses 13 = .ok (.aload_n 0, 1) := by decide +kernel
theorem dX6_crosses_14 : decode cX6_crosses 14 = .ok (.iload_n 1, 1) := by decide +kernel
theorem dX6_crosses_15 : decode cX6_crosses 15 = .ok (.invokevirtual 54, 3) := by decide +kernel
theorem dX6_crosses_18 : decode cX6_crosses 18 = .ok (.aload_n 0, 1) := by decide +kernel
theorem dX6_crosses_19 : decode cX6_crosses 19 = .ok (.iload_n 2, 1) := by decide +kernel
theorem dX6_crosses_20 : decode cX6_crosses 20 = .ok (.invokevirtual 61, 3) := by decide +kernel
theorem dX6_crosses_23 : decode cX6_crosses 23 = .ok (.if_icmp .le 20, 3) := by decide +kernel
theorem dX6_crosses_26 : decode cX6_crosses 26 = .ok (.aload_n 0, 1) := by decide +kernel
theorem dX6_crosses_27 : decode cX6_crosses 27 = .ok (.iload_n 1, 1) := by decide +kernel
theorem dX6_crosses_28 : decode cX6_crosses 28 = .ok (.invokevirtual 54, 3) := by decide +kernel
theorem dX6_crosses_31 : decode cX6_crosses 31 = .ok (.aload_n 0, 1) := by decide +kernel
theorem dX6_crosses_32 : decode cX6_crosses 32 = .ok (.iload_n 2, 1) := by decide +kernel
theorem dX6_crosses_33 : decode cX6_crosses 33 = .ok (.invokevirtual 58, 3) := by decide +kernel
theorem dX6_crosses_36 : decode cX6_crosses 36 = .ok (.if_icmp .ge 7, 3) := by decide +kernel
theorem dX6_crosses_39 : decode cX6_crosses 39 = .ok (.iconst 1, 1) := by decide +kernel
theorem dX6_crosses_40 : decode cX6_crosses 40 = .ok (.goto 4, 3) := by decide +kernel
theorem dX6_crosses_43 : decode cX6_crosses 43 = .ok (.iconst 0, 1) := by decide +kernel
theorem dX6_crosses_44 : decode cX6_crosses 44 = .ok (.ireturn, 1) := by decide +kernel
theorem dX6_crossings_0 : decode cX6_crossings 0 = .ok (.iconst 0, 1) := by decide +kernel
theorem dX6_crossings_1 : decode cX6_crossings 1 = .ok (.istore_n 3, 1) := by decide +kernel
theorem dX6_crossings_2 : decode cX6_crossings 2 = .ok (.iconst 0, 1) := by decide +kernel
theorem dX6_crossings_3 : decode cX6_crossings 3 = .ok (.istore 4, 2) := by decide +kernel
theorem dX6_crossings_5 : decode cX6_crossings 5 = .ok (.iload 4, 2) := by decide +kernel
theorem dX6_crossings_7 : decode cX6_crossings 7 = .ok (.aload_n 0, 1) := by decide +kernel
theorem dX6_crossings_8 : decode cX6_crossings 8 = .ok (.getfield 7, 3) := by decide +kernel
theorem dX6_crossings_11 : decode cX6_crossings 11 = .ok (.iconst 0, 1) := by decide +kernel
theorem dX6_crossings_12 : decode cX6_crossings 12 = .ok (.iaload, 1) := by decide +kernel
theorem dX6_crossings_13 : decode cX6_crossings 13 = .ok (.if_icmp .ge 87, 3) := by decide +kernel
theorem dX6_crossings_16 : decode cX6_crossings 16 = .ok (.iconst 0, 1) := by decide +kernel
theorem dX6_crossings_17 : decode cX6_crossings 17 = .ok (.istore 5, 2) := by decide +kernel
theorem dX6_crossings_19 : decode cX6_crossings 19 = .ok (.iload 5, 2) := by decide +kernel
theorem dX6_crossings_21 : decode cX6_crossings 21 = .ok (.aload_n 0, 1) := by decide +kernel
theorem dX6_crossings_22 : decode cX6_crossings 22 = .ok (.getfield 7, 3) := by decide +kernel
theorem dX6_crossings_25 : decode cX6_crossings 25 = .ok (.bipush 13, 2) := by decide +kernel
theorem dX6_crossings_27 : decode cX6_crossings 27 = .ok (.iaload, 1) := by decide +kernel
theorem dX6_crossings_28 : decode cX6_crossings 28 = .ok (.if_icmp .ge 66, 3) := by decide +kernel
theorem dX6_crossings_31 : decode cX6_crossings 31 = .ok (.iload_n 1, 1) := by decide +kernel
theorem dX6_crossings_32 : decode cX6_crossings 32 = .ok (.sipush (-999), 3) := by decide +kernel
theorem dX6_crossings_35 : decode cX6_crossings 35 = .ok (.if_icmp .eq 9, 3) := by decide +kernel
theorem dX6_crossings_38 : decode cX6_crossings 38 = .ok (.iload_n 1, 1) := by decide +kernel
theorem dX6_crossings_39 : decode cX6_crossings 39 = .ok (.iload 4, 2) := by decide +kernel
theorem dX6_crossings_41 : decode cX6_crossings 41 = .ok (.if_icmp .ne 20, 3) := by decide +kernel
theorem dX6_crossings_44 : decode cX6_crossings 44 = .ok (.iload_n 2, 1) := by decide +kernel
theorem dX6_crossings_45 : decode cX6_crossings 45 = .ok (.sipush (-999), 3) := by decide +kernel
theorem dX6_crossings_48 : decode cX6_crossings 48 = .ok (.if_icmp .eq 9, 3) := by decide +kernel
theorem dX6_crossings_51 : decode cX6_crossings 51 = .ok (.iload_n 2, 1) := by decide +kernel
theorem dX6_crossings_52 : decode cX6_crossings 52 = .ok (.iload 5, 2) := by decide +kernel
theorem dX6_crossings_54 : decode cX6_crossings 54 = .ok (.if_icmp .ne 7, 3) := by decide +kernel
theorem dX6_crossings_57 : decode cX6_crossings 57 = .ok (.iconst 1, 1) := by decide +kernel
theorem dX6_crossings_58 : decode cX6_crossings 58 = .ok (.goto 4, 3) := by decide +kernel
theorem dX6_crossings_61 : decode cX6_crossings 61 = .ok (.iconst 0, 1) := by decide +kernel
theorem dX6_crossings_62 : decode cX6_crossings 62 = .ok (.istore 6, 2) := by decide +kernel
theorem dX6_crossings_64 : decode cX6_crossings 64 = .ok (.iload_n 3, 1) := by decide +kernel
theorem dX6_crossings_65 : decode cX6_crossings 65 = .ok (.iload 6, 2) := by decide +kernel
theorem dX6_crossings_67 : decode cX6_crossings 67 = .ok (.ifCond .eq 18, 3) := by decide +kernel
theorem dX6_crossings_70 : decode cX6_crossings 70 = .ok (.aload_n 0, 1) := by decide +kernel
theorem dX6_crossings_71 : decode cX6_crossings 71 = .ok (.iload 4, 2) := by decide +kernel
theorem dX6_crossings_73 : decode cX6_crossings 73 = .ok (.iload 5, 2) := by decide +kernel
theorem dX6_crossings_75 : decode cX6_crossings 75 = .ok (.invokevirtual 190, 3) := by decide +kernel
theorem dX6_crossings_78 : decode cX6_crossings 78 = .ok (.ifCond .eq 7, 3) := by decide +kernel
theorem dX6_crossings_81 : decode cX6_crossings 81 = .ok (.iconst 1, 1) := by decide +kernel
theorem dX6_crossings_82 : decode cX6_crossings 82 = .ok (.goto 4, 3) := by decide +kernel
theorem dX6_crossings_85 : decode cX6_crossings 85 = .ok (.iconst 0, 1) := by decide +kernel
theorem dX6_crossings_86 : decode cX6_crossings 86 = .ok (.iadd, 1) := by decide +kernel
theorem dX6_crossings_87 : decode cX6_crossings 87 = .ok (.istore_n 3, 1) := by decide +kernel
theorem dX6_crossings_88 : decode cX6_crossings 88 = .ok (.iinc 5 1, 3) := by decide +kernel
theorem dX6_crossings_91 : decode cX6_crossings 91 = .ok (.goto (-72), 3) := by decide +kernel
theorem dX6_crossings_94 : decode cX6_crossings 94 = .ok (.iinc 4 1, 3) := by decide +kernel
theorem dX6_crossings_97 : decode cX6_crossings 97 = .ok (.goto (-92), 3) := by decide +kernel
theorem dX6_crossings_100 : decode cX6_crossings 100 = .ok (.iload_n 3, 1) := by decide +kernel
theorem dX6_crossings_101 : decode cX6_crossings 101 = .ok (.ireturn, 1) := by decide +kernel
theorem dX6_bounds_0 : decode cX6_bounds 0 = .ok (.aload_n 0, 1) := by decide +kernel
theorem dX6_bounds_1 : decode cX6_bounds 1 = .ok (.getfield 35, 3) := by decide +kernel
theorem dX6_bounds_4 : decode cX6_bounds 4 = .ok (.bipush 12, 2) := by decide +kernel
theorem dX6_bounds_6 : decode cX6_bounds 6 = .ok (.iload_n 1, 1) := by decide +kernel
theorem dX6_bounds_7 : decode cX6_bounds 7 = .ok (.imul, 1) := by decide +kernel
theorem dX6_bounds_8 : decode cX6_bounds 8 = .ok (.iload_n 2, 1) := by decide +kernel
theorem dX6_bounds_9 : decode cX6_bounds 9 = .ok (.iadd, 1) := by decide +kernel
theorem dX6_bounds_10 : decode cX6_bounds 10 = .ok (.iload_n 3, 1) := by decide +kernel
theorem dX6_bounds_11 : decode cX6_bounds 11 = .ok (.aload_n 0, 1) := by decide +kernel
theorem dX6_bounds_12 : decode cX6_bounds 12 = .ok (.getfield 35, 3) := by decide +kernel
theorem dX6_bounds_15 : decode cX6_bounds 15 = .ok (.bipush 12, 2) := by decide +kernel
theorem dX6_bounds_17 : decode cX6_bounds 17 = .ok (.iload_n 1, 1) := by decide +kernel
theorem dX6_bounds_18 : decode cX6_bounds 18 = .ok (.imul, 1) := by decide +kernel
theorem dX6_bounds_19 : decode cX6_bounds 19 = .ok (.iload_n 2, 1) := by decide +kernel
theorem dX6_bounds_20 : decode cX6_bounds 20 = .ok (.iadd, 1) := by decide +kernel
theorem dX6_bounds_21 : decode cX6_bounds 21 = .ok (.iaload, 1) := by decide +kernel
theorem dX6_bounds_22 : decode cX6_bounds 22 = .ok (.if_icmp .ge 7, 3) := by decide +kernel
theorem dX6_bounds_25 : decode cX6_bounds 25 = .ok (.iload_n 3, 1) := by decide +kernel
theorem dX6_bounds_26 : decode cX6_bounds 26 = .ok (.goto 14, 3) := by decide +kernel
theorem dX6_bounds_29 : decode cX6_bounds 29 = .ok (.aload_n 0, 1) := by decide +kernel
theorem dX6_bounds_30 : decode cX6_bounds 30 = .ok (.getfield 35, 3) := by decide +kernel
theorem dX6_bounds_33 : decode cX6_bounds 33 = .ok (.bipush 12, 2) := by decide +kernel
theorem dX6_bounds_35 : decode cX6_bounds 35 = .ok (.iload_n 1, 1) := by decide +kernel
theorem dX6_bounds_36 : decode cX6_bounds 36 = .ok (.imul, 1) := by decide +kernel
theorem dX6_bounds_37 : decode cX6_bounds 37 = .ok (.iload_n 2, 1) := by decide +kernel
theorem dX6_bounds_38 : decode cX6_bounds 38 = .ok (.iadd, 1) := by decide +kernel
theorem dX6_bounds_39 : decode cX6_bounds 39 = .ok (.iaload, 1) := by decide +kernel
theorem dX6_bounds_40 : decode cX6_bounds 40 = .ok (.iastore, 1) := by decide +kernel
theorem dX6_bounds_41 : decode cX6_bounds 41 = .ok (.return_, 1) := by decide +kernel
theorem dX6_laysDistances_0 : decode cX6_laysDistances 0 = .ok (.iconst 0, 1) := by decide +kernel
theorem dX6_laysDistances_1 : decode cX6_laysDistances 1 = .ok (.istore_n 3, 1) := by decide +kernel
theorem dX6_laysDistances_2 : decode cX6_laysDistances 2 = .ok (.iload_n 3, 1) := by decide +kernel
theorem dX6_laysDistances_3 : decode cX6_laysDistances 3 = .ok (.sipush 144, 3) := by decide +kernel
theorem dX6_laysDistances_6 : decode cX6_laysDistances 6 = .ok (.if_icmp .ge 32, 3) := by decide +kernel
theorem dX6_laysDistances_9 : decode cX6_laysDistances 9 = .ok (.aload_n 0, 1) := by decide +kernel
theorem dX6_laysDistances_10 : decode cX6_laysDistances 10 = .ok (.getfield 35, 3) := by decide +kernel
theorem dX6_laysDistances_13 : decode cX6_laysDistances 13 = .ok (.iload_n 3, 1) := by decide +kernel
theorem dX6_laysDistances_14 : decode cX6_laysDistances 14 = .ok (.iload_n 3, 1) := by decide +kernel
theorem dX6_laysDistances_15 : decode cX6_laysDistances 15 = .ok (.bipush 12, 2) := by decide +kernel
theorem dX6_laysDistances_17 : decode cX6_laysDistances 17 = .ok (.idiv, 1) := by decide +kernel
theorem dX6_laysDistances_18 : decode cX6_laysDistances 18 = .ok (.iload_n 3, 1) := by decide +kernel
theorem dX6_laysDistances_19 : decode cX6_laysDistances 19 = .ok (.bipush 12, 2) := by decide +kernel
theorem dX6_laysDistances_21 : decode cX6_laysDistances 21 = .ok (.irem, 1) := by decide +kernel
theorem dX6_laysDistances_22 : decode cX6_laysDistances 22 = .ok (.if_icmp .ne 7, 3) := by decide +kernel
theorem dX6_laysDistances_25 : decode cX6_laysDistances 25 = .ok (.iconst 0, 1) := by decide +kernel
theorem dX6_laysDistances_26 : decode cX6_laysDistances 26 = .ok (.goto 5, 3) := by decide +kernel
theorem dX6_laysDistances_29 : decode cX6_laysDistances 29 = .ok (.ldc 193, 2) := by decide +kernel
theorem dX6_laysDistances_31 : decode cX6_laysDistances 31 = .ok (.iastore, 1) := by decide +kernel
theorem dX6_laysDistances_32 : decode cX6_laysDistances 32 = .ok (.iinc 3 1, 3) := by decide +kernel
theorem dX6_laysDistances_35 : decode cX6_laysDistances 35 = .ok (.goto (-33), 3) := by decide +kernel
theorem dX6_laysDistances_38 : decode cX6_laysDistances 38 = .ok (.iconst 0, 1) := by decide +kernel
theorem dX6_laysDistances_39 : decode cX6_laysDistances 39 = .ok (.istore_n 3, 1) := by decide +kernel
theorem dX6_laysDistances_40 : decode cX6_laysDistances 40 = .ok (.iload_n 3, 1) := by decide +kernel
theorem dX6_laysDistances_41 : decode cX6_laysDistances 41 = .ok (.aload_n 0, 1) := by decide +kernel
theorem dX6_laysDistances_42 : decode cX6_laysDistances 42 = .ok (.getfield 7, 3) := by decide +kernel
theorem dX6_laysDistances_45 : decode cX6_laysDistances 45 = .ok (.bipush 13, 2) := by decide +kernel
theorem dX6_laysDistances_47 : decode cX6_laysDistances 47 = .ok (.iaload, 1) := by decide +kernel
theorem dX6_laysDistances_48 : decode cX6_laysDistances 48 = .ok (.if_icmp .ge 91, 3) := by decide +kernel
theorem dX6_laysDistances_51 : decode cX6_laysDistances 51 = .ok (.iload_n 1, 1) := by decide +kernel
theorem dX6_laysDistances_52 : decode cX6_laysDistances 52 = .ok (.iload_n 3, 1) := by decide +kernel
theorem dX6_laysDistances_53 : decode cX6_laysDistances 53 = .ok (.ishr, 1) := by decide +kernel
theorem dX6_laysDistances_54 : decode cX6_laysDistances 54 = .ok (.iconst 1, 1) := by decide +kernel
theorem dX6_laysDistances_55 : decode cX6_laysDistances 55 = .ok (.iand, 1) := by decide +kernel
theorem dX6_laysDistances_56 : decode cX6_laysDistances 56 = .ok (.ifCond .ne 77, 3) := by decide +kernel
theorem dX6_laysDistances_59 : decode cX6_laysDistances 59 = .ok (.aload_n 0, 1) := by decide +kernel
theorem dX6_laysDistances_60 : decode cX6_laysDistances 60 = .ok (.aload_n 0, 1) := by decide +kernel
theorem dX6_laysDistances_61 : decode cX6_laysDistances 61 = .ok (.iload_n 3, 1) := by decide +kernel
theorem dX6_laysDistances_62 : decode cX6_laysDistances 62 = .ok (.iconst 0, 1) := by decide +kernel
theorem dX6_laysDistances_63 : decode cX6_laysDistances 63 = .ok (.invokevirtual 50, 3) := by decide +kernel
theorem dX6_laysDistances_66 : decode cX6_laysDistances 66 = .ok (.aload_n 0, 1) := by decide +kernel
theorem dX6_laysDistances_67 : decode cX6_laysDistances 67 = .ok (.iload_n 3, 1) := by decide +kernel
theorem dX6_laysDistances_68 : decode cX6_laysDistances 68 = .ok (.iconst 1, 1) := by decide +kernel
theorem dX6_laysDistances_69 : decode cX6_laysDistances 69 = .ok (.invokevirtual 50, 3) := by decide +kernel
theorem dX6_laysDistances_72 : decode cX6_laysDistances 72 = .ok (.aload_n 0, 1) := by decide +kernel
theorem dX6_laysDistances_73 : decode cX6_laysDistances 73 = .ok (.iload_n 3, 1) := by decide +kernel
theorem dX6_laysDistances_74 : decode cX6_laysDistances 74 = .ok (.invokevirtual 148, 3) := by decide +kernel
theorem dX6_laysDistances_77 : decode cX6_laysDistances 77 = .ok (.iload_n 3, 1) := by decide +kernel
theorem dX6_laysDistances_78 : decode cX6_laysDistances 78 = .ok (.iload_n 2, 1) := by decide +kernel
theorem dX6_laysDistances_79 : decode cX6_laysDistances 79 = .ok (.if_icmp .ne 7, 3) := by decide +kernel
theorem dX6_laysDistances_82 : decode cX6_laysDistances 82 = .ok (.iconst 0, 1) := by decide +kernel
theorem dX6_laysDistances_83 : decode cX6_laysDistances 83 = .ok (.goto 9, 3) := by decide +kernel
theorem dX6_laysDistances_86 : decode cX6_laysDistances 86 = .ok (.aload_n 0, 1) := by decide +kernel
theorem dX6_laysDistances_87 : decode cX6_laysDistances 87 = .ok (.iload_n 3, 1) := by decide +kernel
theorem dX6_laysDistances_88 : decode cX6_laysDistances 88 = .ok (.iconst 3, 1) := by decide +kernel
theorem dX6_laysDistances_89 : decode cX6_laysDistances 89 = .ok (.invokevirtual 50, 3) := by decide +kernel
theorem dX6_laysDistances_92 : decode cX6_laysDistances 92 = .ok (.iadd, 1) := by decide +kernel
theorem dX6_laysDistances_93 : decode cX6_laysDistances 93 = .ok (.invokevirtual 194, 3) := by decide +kernel
theorem dX6_laysDistances_96 : decode cX6_laysDistances 96 = .ok (.aload_n 0, 1) := by decide +kernel
theorem dX6_laysDistances_97 : decode cX6_laysDistances 97 = .ok (.aload_n 0, 1) := by decide +kernel
theorem dX6_laysDistances_98 : decode cX6_laysDistances 98 = .ok (.iload_n 3, 1) := by decide +kernel
theorem dX6_laysDistances_99 : decode cX6_laysDistances 99 = .ok (.iconst 1, 1) := by decide +kernel
theorem dX6_laysDistances_100 : decode cX6_laysDistances 100 = .ok (.invokevirtual 50, 3) := by decide +kernel
theorem dX6_laysDistances_103 : decode cX6_laysDistances 103 = .ok (.aload_n 0, 1) := by decide +kernel
theorem dX6_laysDistances_104 : decode cX6_laysDistances 104 = .ok (.iload_n 3, 1) := by decide +kernel
theorem dX6_laysDistances_105 : decode cX6_laysDistances 105 = .ok (.iconst 0, 1) := by decide +kernel
theorem dX6_laysDistances_106 : decode cX6_laysDistances 106 = .ok (.invokevirtual 50, 3) := by decide +kernel
theorem dX6_laysDistances_109 : decode cX6_laysDistances 109 = .ok (.iload_n 3, 1) := by decide +kernel
theorem dX6_laysDistances_110 : decode cX6_laysDistances 110 = .ok (.iload_n 2, 1) := by decide +kernel
theorem dX6_laysDistances_111 : decode cX6_laysDistances 111 = .ok (.if_icmp .ne 7, 3) := by decide +kernel
theorem dX6_laysDistances_114 : decode cX6_laysDistances 114 = .ok (.iconst 0, 1) := by decide +kernel
theorem dX6_laysDistances_115 : decode cX6_laysDistances 115 = .ok (.goto 9, 3) := by decide +kernel
theorem dX6_laysDistances_118 : decode cX6_laysDistances 118 = .ok (.aload_n 0, 1) := by decide +kernel
theorem dX6_laysDistances_119 : decode cX6_laysDistances 119 = .ok (.iload_n 3, 1) := by decide +kernel
theorem dX6_laysDistances_120 : decode cX6_laysDistances 120 = .ok (.iconst 2, 1) := by decide +kernel
theorem dX6_laysDistances_121 : decode cX6_laysDistances 121 = .ok (.invokevirtual 50, 3) := by decide +kernel
theorem dX6_laysDistances_124 : decode cX6_laysDistances 124 = .ok (.aload_n 0, 1) := by decide +kernel
theorem dX6_laysDistances_125 : decode cX6_laysDistances 125 = .ok (.iload_n 3, 1) := by decide +kernel
theorem dX6_laysDistances_126 : decode cX6_laysDistances 126 = .ok (.invokevirtual 148, 3) := by decide +kernel
theorem dX6_laysDistances_129 : decode cX6_laysDistances 129 = .ok (.isub, 1) := by decide +kernel
theorem dX6_laysDistances_130 : decode cX6_laysDistances 130 = .ok (.invokevirtual 194, 3) := by decide +kernel
theorem dX6_laysDistances_133 : decode cX6_laysDistances 133 = .ok (.iinc 3 1, 3) := by decide +kernel
theorem dX6_laysDistances_136 : decode cX6_laysDistances 136 = .ok (.goto (-96), 3) := by decide +kernel
theorem dX6_laysDistances_139 : decode cX6_laysDistances 139 = .ok (.iconst 0, 1) := by decide +kernel
theorem dX6_laysDistances_140 : decode cX6_laysDistances 140 = .ok (.istore_n 3, 1) := by decide +kernel
theorem dX6_laysDistances_141 : decode cX6_laysDistances 141 = .ok (.iload_n 3, 1) := by decide +kernel
theorem dX6_laysDistances_142 : decode cX6_laysDistances 142 = .ok (.aload_n 0, 1) := by decide +kernel
theorem dX6_laysDistances_143 : decode cX6_laysDistances 143 = .ok (.getfield 7, 3) := by decide +kernel
theorem dX6_laysDistances_146 : decode cX6_laysDistances 146 = .ok (.iconst 0, 1) := by decide +kernel
theorem dX6_laysDistances_147 : decode cX6_laysDistances 147 = .ok (.iaload, 1) := by decide +kernel
theorem dX6_laysDistances_148 : decode cX6_laysDistances 148 = .ok (.if_icmp .ge 93, 3) := by decide +kernel
theorem dX6_laysDistances_151 : decode cX6_laysDistances 151 = .ok (.iconst 0, 1) := by decide +kernel
theorem dX6_laysDistances_152 : decode cX6_laysDistances 152 = .ok (.istore 4, 2) := by decide +kernel
theorem dX6_laysDistances_154 : decode cX6_laysDistances 154 = .ok (.iload 4, 2) := by decide +kernel
theorem dX6_laysDistances_156 : decode cX6_laysDistances 156 = .ok (.sipush 144, 3) := by decide +kernel
theorem dX6_laysDistances_159 : decode cX6_laysDistances 159 = .ok (.if_icmp .ge 76, 3) := by decide +kernel
theorem dX6_laysDistances_162 : decode cX6_laysDistances 162 = .ok (.aload_n 0, 1) := by decide +kernel
theorem dX6_laysDistances_163 : decode cX6_laysDistances 163 = .ok (.getfield 35, 3) := by decide +kernel
theorem dX6_laysDistances_166 : decode cX6_laysDistances 166 = .ok (.iload 4, 2) := by decide +kernel
theorem dX6_laysDistances_168 : decode cX6_laysDistances 168 = .ok (.bipush 12, 2) := by decide +kernel
theorem dX6_laysDistances_170 : decode cX6_laysDistances 170 = .ok (.idiv, 1) := by decide +kernel
theorem dX6_laysDistances_171 : decode cX6_laysDistances 171 = .ok (.bipush 12, 2) := by decide +kernel
theorem dX6_laysDistances_173 : decode cX6_laysDistances 173 = .ok (.imul, 1) := by decide +kernel
theorem dX6_laysDistances_174 : decode cX6_laysDistances 174 = .ok (.iload_n 3, 1) := by decide +kernel
theorem dX6_laysDistances_175 : decode cX6_laysDistances 175 = .ok (.iadd, 1) := by decide +kernel
theorem dX6_laysDistances_176 : decode cX6_laysDistances 176 = .ok (.iaload, 1) := by decide +kernel
theorem dX6_laysDistances_177 : decode cX6_laysDistances 177 = .ok (.istore 5, 2) := by decide +kernel
theorem dX6_laysDistances_179 : decode cX6_laysDistances 179 = .ok (.aload_n 0, 1) := by decide +kernel
theorem dX6_laysDistances_180 : decode cX6_laysDistances 180 = .ok (.getfield 35, 3) := by decide +kernel
theorem dX6_laysDistances_183 : decode cX6_laysDistances 183 = .ok (.bipush 12, 2) := by decide +kernel
theorem dX6_laysDistances_185 : decode cX6_laysDistances 185 = .ok (.iload_n 3, 1) := by decide +kernel
theorem dX6_laysDistances_186 : decode cX6_laysDistances 186 = .ok (.imul, 1) := by decide +kernel
theorem dX6_laysDistances_187 : decode cX6_laysDistances 187 = .ok (.iload 4, 2) := by decide +kernel
theorem dX6_laysDistances_189 : decode cX6_laysDistances 189 = .ok (.bipush 12, 2) := by decide +kernel
theorem dX6_laysDistances_191 : decode cX6_laysDistances 191 = .ok (.irem, 1) := by decide +kernel
theorem dX6_laysDistances_192 : decode cX6_laysDistances 192 = .ok (.iadd, 1) := by decide +kernel
theorem dX6_laysDistances_193 : decode cX6_laysDistances 193 = .ok (.iaload, 1) := by decide +kernel
theorem dX6_laysDistances_194 : decode cX6_laysDistances 194 = .ok (.istore 6, 2) := by decide +kernel
theorem dX6_laysDistances_196 : decode cX6_laysDistances 196 = .ok (.iload 5, 2) := by decide +kernel
theorem dX6_laysDistances_198 : decode cX6_laysDistances 198 = .ok (.ldc 193, 2) := by decide +kernel
theorem dX6_laysDistances_200 : decode cX6_laysDistances 200 = .ok (.if_icmp .eq 29, 3) := by decide +kernel
theorem dX6_laysDistances_203 : decode cX6_laysDistances 203 = .ok (.iload 6, 2) := by decide +kernel
theorem dX6_laysDistances_205 : decode cX6_laysDistances 205 = .ok (.ldc 193, 2) := by decide +kernel
theorem dX6_laysDistances_207 : decode cX6_laysDistances 207 = .ok (.if_icmp .eq 22, 3) := by decide +kernel
theorem dX6_laysDistances_210 : decode cX6_laysDistances 210 = .ok (.aload_n 0, 1) := by decide +kernel
theorem dX6_laysDistances_211 : decode cX6_laysDistances 211 = .ok (.iload 4, 2) := by decide +kernel
theorem dX6_laysDistances_213 : decode cX6_laysDistances 213 = .ok (.bipush 12, 2) := by decide +kernel
theorem dX6_laysDistances_215 : decode cX6_laysDistances 215 = .ok (.idiv, 1) := by decide +kernel
theorem dX6_laysDistances_216 : decode cX6_laysDistances 216 = .ok (.iload 4, 2) := by decide +kernel
theorem dX6_laysDistances_218 : decode cX6_laysDistances 218 = .ok (.bipush 12, 2) := by decide +kernel
theorem dX6_laysDistances_220 : decode cX6_laysDistances 220 = .ok (.irem, 1) := by decide +kernel
theorem dX6_laysDistances_221 : decode cX6_laysDistances 221 = .ok (.iload 5, 2) := by decide +kernel
theorem dX6_laysDistances_223 : decode cX6_laysDistances 223 = .ok (.iload 6, 2) := by decide +kernel
theorem dX6_laysDistances_225 : decode cX6_laysDistances 225 = .ok (.iadd, 1) := by decide +kernel
theorem dX6_laysDistances_226 : decode cX6_laysDistances 226 = .ok (.invokevirtual 194, 3) := by decide +kernel
theorem dX6_laysDistances_229 : decode cX6_laysDistances 229 = .ok (.iinc 4 1, 3) := by decide +kernel
theorem dX6_laysDistances_232 : decode cX6_laysDistances 232 = .ok (.goto (-78), 3) := by decide +kernel
theorem dX6_laysDistances_235 : decode cX6_laysDistances 235 = .ok (.iinc 3 1, 3) := by decide +kernel
theorem dX6_laysDistances_238 : decode cX6_laysDistances 238 = .ok (.goto (-97), 3) := by decide +kernel
theorem dX6_laysDistances_241 : decode cX6_laysDistances 241 = .ok (.return_, 1) := by decide +kernel
theorem dX6_areBound_0 : decode cX6_areBound 0 = .ok (.aload_n 0, 1) := by decide +kernel
theorem dX6_areBound_1 : decode cX6_areBound 1 = .ok (.getfield 35, 3) := by decide +kernel
theorem dX6_areBound_4 : decode cX6_areBound 4 = .ok (.bipush 12, 2) := by decide +kernel
theorem dX6_areBound_6 : decode cX6_areBound 6 = .ok (.iload_n 1, 1) := by decide +kernel
theorem dX6_areBound_7 : decode cX6_areBound 7 = .ok (.imul, 1) := by decide +kernel
theorem dX6_areBound_8 : decode cX6_areBound 8 = .ok (.iload_n 2, 1) := by decide +kernel
theorem dX6_areBound_9 : decode cX6_areBound 9 = .ok (.iadd, 1) := by decide +kernel
theorem dX6_areBound_10 : decode cX6_areBound 10 = .ok (.iaload, 1) := by decide +kernel
theorem dX6_areBound_11 : decode cX6_areBound 11 = .ok (.ldc 193, 2) := by decide +kernel
theorem dX6_areBound_13 : decode cX6_areBound 13 = .ok (.if_icmp .eq 7, 3) := by decide +kernel
theorem dX6_areBound_16 : decode cX6_areBound 16 = .ok (.iconst 1, 1) := by decide +kernel
theorem dX6_areBound_17 : decode cX6_areBound 17 = .ok (.goto 4, 3) := by decide +kernel
theorem dX6_areBound_20 : decode cX6_areBound 20 = .ok (.iconst 0, 1) := by decide +kernel
theorem dX6_areBound_21 : decode cX6_areBound 21 = .ok (.ireturn, 1) := by decide +kernel
theorem dX6_range_0 : decode cX6_range 0 = .ok (.aload_n 0, 1) := by decide +kernel
theorem dX6_range_1 : decode cX6_range 1 = .ok (.getfield 35, 3) := by decide +kernel
theorem dX6_range_4 : decode cX6_range 4 = .ok (.bipush 12, 2) := by decide +kernel
theorem dX6_range_6 : decode cX6_range 6 = .ok (.iload_n 1, 1) := by decide +kernel
theorem dX6_range_7 : decode cX6_range 7 = .ok (.imul, 1) := by decide +kernel
theorem dX6_range_8 : decode cX6_range 8 = .ok (.iload_n 2, 1) := by decide +kernel
theorem dX6_range_9 : decode cX6_range 9 = .ok (.iadd, 1) := by decide +kernel
theorem dX6_range_10 : decode cX6_range 10 = .ok (.iaload, 1) := by decide +kernel
theorem dX6_range_11 : decode cX6_range 11 = .ok (.aload_n 0, 1) := by decide +kernel
theorem dX6_range_12 : decode cX6_range 12 = .ok (.getfield 35, 3) := by decide +kernel
theorem dX6_range_15 : decode cX6_range 15 = .ok (.bipush 12, 2) := by decide +kernel
theorem dX6_range_17 : decode cX6_range 17 = .ok (.iload_n 2, 1) := by decide +kernel
theorem dX6_range_18 : decode cX6_range 18 = .ok (.imul, 1) := by decide +kernel
theorem dX6_range_19 : decode cX6_range 19 = .ok (.iload_n 1, 1) := by decide +kernel
theorem dX6_range_20 : decode cX6_range 20 = .ok (.iadd, 1) := by decide +kernel
theorem dX6_range_21 : decode cX6_range 21 = .ok (.iaload, 1) := by decide +kernel
theorem dX6_range_22 : decode cX6_range 22 = .ok (.iadd, 1) := by decide +kernel
theorem dX6_range_23 : decode cX6_range 23 = .ok (.ireturn, 1) := by decide +kernel
theorem dX6_isSuperfluous_0 : decode cX6_isSuperfluous 0 = .ok (.aload_n 0, 1) := by decide +kernel
theorem dX6_isSuperfluous_1 : decode cX6_isSuperfluous 1 = .ok (.iload_n 2, 1) := by decide +kernel
theorem dX6_isSuperfluous_2 : decode cX6_isSuperfluous 2 = .ok (.iconst 1, 1) := by decide +kernel
theorem dX6_isSuperfluous_3 : decode cX6_isSuperfluous 3 = .ok (.iload_n 1, 1) := by decide +kernel
theorem dX6_isSuperfluous_4 : decode cX6_isSuperfluous 4 = .ok (.ishl, 1) := by decide +kernel
theorem dX6_isSuperfluous_5 : decode cX6_isSuperfluous 5 = .ok (.ior, 1) := by decide +kernel
theorem dX6_isSuperfluous_6 : decode cX6_isSuperfluous 6 = .ok (.sipush (-999), 3) := by decide +kernel
theorem dX6_isSuperfluous_9 : decode cX6_isSuperfluous 9 = .ok (.invokevirtual 197, 3) := by decide +kernel
theorem dX6_isSuperfluous_12 : decode cX6_isSuperfluous 12 = .ok (.aload_n 0, 1) := by decide +kernel
theorem dX6_isSuperfluous_13 : decode cX6_isSuperfluous 13 = .ok (.iload_n 1, 1) := by decide +kernel
theorem dX6_isSuperfluous_14 : decode cX6_isSuperfluous 14 = .ok (.iconst 0, 1) := by decide +kernel
theorem dX6_isSuperfluous_15 : decode cX6_isSuperfluous 15 = .ok (.invokevirtual 50, 3) := by decide +kernel
theorem dX6_isSuperfluous_18 : decode cX6_isSuperfluous 18 = .ok (.istore_n 3, 1) := by decide +kernel
theorem dX6_isSuperfluous_19 : decode cX6_isSuperfluous 19 = .ok (.aload_n 0, 1) := by decide +kernel
theorem dX6_isSuperfluous_20 : decode cX6_isSuperfluous 20 = .ok (.iload_n 1, 1) := by decide +kernel
theorem dX6_isSuperfluous_21 : decode cX6_isSuperfluous 21 = .ok (.iconst 1, 1) := by decide +kernel
theorem dX6_isSuperfluous_22 : decode cX6_isSuperfluous 22 = .ok (.invokevirtual 50, 3) := by decide +kernel
theorem dX6_isSuperfluous_25 : decode cX6_isSuperfluous 25 = .ok (.istore 4, 2) := by decide +kernel
theorem dX6_isSuperfluous_27 : decode cX6_isSuperfluous 27 = .ok (.aload_n 0, 1) := by decide +kernel
theorem dX6_isSuperfluous_28 : decode cX6_isSuperfluous 28 = .ok (.iload_n 3, 1) := by decide +kernel
theorem dX6_isSuperfluous_29 : decode cX6_isSuperfluous 29 = .ok (.iload 4, 2) := by decide +kernel
theorem dX6_isSuperfluous_31 : decode cX6_isSuperfluous 31 = .ok (.invokevirtual 200, 3) := by decide +kernel
theorem dX6_isSuperfluous_34 : decode cX6_isSuperfluous 34 = .ok (.ifCond .eq 62, 3) := by decide +kernel
theorem dX6_isSuperfluous_37 : decode cX6_isSuperfluous 37 = .ok (.aload_n 0, 1) := by decide +kernel
theorem dX6_isSuperfluous_38 : decode cX6_isSuperfluous 38 = .ok (.getfield 35, 3) := by decide +kernel
theorem dX6_isSuperfluous_41 : decode cX6_isSuperfluous 41 = .ok (.bipush 12, 2) := by decide +kernel
theorem dX6_isSuperfluous_43 : decode cX6_isSuperfluous 43 = .ok (.iload_n 3, 1) := by decide +kernel
theorem dX6_isSuperfluous_44 : decode cX6_isSuperfluous 44 = .ok (.imul, 1) := by decide +kernel
theorem dX6_isSuperfluous_45 : decode cX6_isSuperfluous 45 = .ok (.iload 4, 2) := by decide +kernel
theorem dX6_isSuperfluous_47 : decode cX6_isSuperfluous 47 = .ok (.iadd, 1) := by decide +kernel
theorem dX6_isSuperfluous_48 : decode cX6_isSuperfluous 48 = .ok (.iaload, 1) := by decide +kernel
theorem dX6_isSuperfluous_49 : decode cX6_isSuperfluous 49 = .ok (.aload_n 0, 1) := by decide +kernel
theorem dX6_isSuperfluous_50 : decode cX6_isSuperfluous 50 = .ok (.iload_n 1, 1) := by decide +kernel
theorem dX6_isSuperfluous_51 : decode cX6_isSuperfluous 51 = .ok (.invokevirtual 148, 3) := by decide +kernel
theorem dX6_isSuperfluous_54 : decode cX6_isSuperfluous 54 = .ok (.aload_n 0, 1) := by decide +kernel
theorem dX6_isSuperfluous_55 : decode cX6_isSuperfluous 55 = .ok (.iload_n 1, 1) := by decide +kernel
theorem dX6_isSuperfluous_56 : decode cX6_isSuperfluous 56 = .ok (.iconst 3, 1) := by decide +kernel
theorem dX6_isSuperfluous_57 : decode cX6_isSuperfluous 57 = .ok (.invokevirtual 50, 3) := by decide +kernel
theorem dX6_isSuperfluous_60 : decode cX6_isSuperfluous 60 = .ok (.iadd, 1) := by decide +kernel
theorem dX6_isSuperfluous_61 : decode cX6_isSuperfluous 61 = .ok (.if_icmp .gt 35, 3) := by decide +kernel
theorem dX6_isSuperfluous_64 : decode cX6_isSuperfluous 64 = .ok (.aload_n 0, 1) := by decide +kernel
theorem dX6_isSuperfluous_65 : decode cX6_isSuperfluous 65 = .ok (.getfield 35, 3) := by decide +kernel
theorem dX6_isSuperfluous_68 : decode cX6_isSuperfluous 68 = .ok (.bipush 12, 2) := by decide +kernel
theorem dX6_isSuperfluous_70 : decode cX6_isSuperfluous 70 = .ok (.iload 4, 2) := by decide +kernel
theorem dX6_isSuperfluous_72 : decode cX6_isSuperfluous 72 = .ok (.imul, 1) := by decide +kernel
theorem dX6_isSuperfluous_73 : decode cX6_isSuperfluous 73 = .ok (.iload_n 3, 1) := by decide +kernel
theorem dX6_isSuperfluous_74 : decode cX6_isSuperfluous 74 = .ok (.iadd, 1) := by decide +kernel
theorem dX6_isSuperfluous_75 : decode cX6_isSuperfluous 75 = .ok (.iaload, 1) := by decide +kernel
theorem dX6_isSuperfluous_76 : decode cX6_isSuperfluous 76 = .ok (.ineg, 1) := by decide +kernel
theorem dX6_isSuperfluous_77 : decode cX6_isSuperfluous 77 = .ok (.aload_n 0, 1) := by decide +kernel
theorem dX6_isSuperfluous_78 : decode cX6_isSuperfluous 78 = .ok (.iload_n 1, 1) := by decide +kernel
theorem dX6_isSuperfluous_79 : decode cX6_isSuperfluous 79 = .ok (.invokevirtual 148, 3) := by decide +kernel
theorem dX6_isSuperfluous_82 : decode cX6_isSuperfluous 82 = .ok (.aload_n 0, 1) := by decide +kernel
theorem dX6_isSuperfluous_83 : decode cX6_isSuperfluous 83 = .ok (.iload_n 1, 1) := by decide +kernel
theorem dX6_isSuperfluous_84 : decode cX6_isSuperfluous 84 = .ok (.iconst 2, 1) := by decide +kernel
theorem dX6_isSuperfluous_85 : decode cX6_isSuperfluous 85 = .ok (.invokevirtual 50, 3) := by decide +kernel
theorem dX6_isSuperfluous_88 : decode cX6_isSuperfluous 88 = .ok (.isub, 1) := by decide +kernel
theorem dX6_isSuperfluous_89 : decode cX6_isSuperfluous 89 = .ok (.if_icmp .lt 7, 3) := by decide +kernel
theorem dX6_isSuperfluous_92 : decode cX6_isSuperfluous 92 = .ok (.iconst 1, 1) := by decide +kernel
theorem dX6_isSuperfluous_93 : decode cX6_isSuperfluous 93 = .ok (.goto 4, 3) := by decide +kernel
theorem dX6_isSuperfluous_96 : decode cX6_isSuperfluous 96 = .ok (.iconst 0, 1) := by decide +kernel
theorem dX6_isSuperfluous_97 : decode cX6_isSuperfluous 97 = .ok (.ireturn, 1) := by decide +kernel
theorem dX6_group_0 : decode cX6_group 0 = .ok (.iconst 0, 1) := by decide +kernel
theorem dX6_group_1 : decode cX6_group 1 = .ok (.istore_n 2, 1) := by decide +kernel
theorem dX6_group_2 : decode cX6_group 2 = .ok (.iconst 0, 1) := by decide +kernel
theorem dX6_group_3 : decode cX6_group 3 = .ok (.istore_n 3, 1) := by decide +kernel
theorem dX6_group_4 : decode cX6_group 4 = .ok (.iload_n 3, 1) := by decide +kernel
theorem dX6_group_5 : decode cX6_group 5 = .ok (.iload_n 1, 1) := by decide +kernel
theorem dX6_group_6 : decode cX6_group 6 = .ok (.if_icmp .ge 24, 3) := by decide +kernel
theorem dX6_group_9 : decode cX6_group 9 = .ok (.aload_n 0, 1) := by decide +kernel
theorem dX6_group_10 : decode cX6_group 10 = .ok (.iload_n 3, 1) := by decide +kernel
theorem dX6_group_11 : decode cX6_group 11 = .ok (.iload_n 1, 1) := by decide +kernel
theorem dX6_group_12 : decode cX6_group 12 = .ok (.invokevirtual 200, 3) := by decide +kernel
theorem dX6_group_15 : decode cX6_group 15 = .ok (.ifCond .eq 9, 3) := by decide +kernel
theorem dX6_group_18 : decode cX6_group 18 = .ok (.aload_n 0, 1) := by decide +kernel
theorem dX6_group_19 : decode cX6_group 19 = .ok (.iload_n 3, 1) := by decide +kernel
theorem dX6_group_20 : decode cX6_group 20 = .ok (.invokevirtual 203, 3) := by decide +kernel
theorem dX6_group_23 : decode cX6_group 23 = .ok (.ireturn, 1) := by decide +kernel
theorem dX6_group_24 : decode cX6_group 24 = .ok (.iinc 3 1, 3) := by decide +kernel
theorem dX6_group_27 : decode cX6_group 27 = .ok (.goto (-23), 3) := by decide +kernel
theorem dX6_group_30 : decode cX6_group 30 = .ok (.iconst 0, 1) := by decide +kernel
theorem dX6_group_31 : decode cX6_group 31 = .ok (.istore_n 3, 1) := by decide +kernel
theorem dX6_group_32 : decode cX6_group 32 = .ok (.iload_n 3, 1) := by decide +kernel
theorem dX6_group_33 : decode cX6_group 33 = .ok (.iload_n 1, 1) := by decide +kernel
theorem dX6_group_34 : decode cX6_group 34 = .ok (.if_icmp .ge 25, 3) := by decide +kernel
theorem dX6_group_37 : decode cX6_group 37 = .ok (.iload_n 2, 1) := by decide +kernel
theorem dX6_group_38 : decode cX6_group 38 = .ok (.aload_n 0, 1) := by decide +kernel
theorem dX6_group_39 : decode cX6_group 39 = .ok (.iload_n 3, 1) := by decide +kernel
theorem dX6_group_40 : decode cX6_group 40 = .ok (.invokevirtual 206, 3) := by decide +kernel
theorem dX6_group_43 : decode cX6_group 43 = .ok (.ifCond .eq 7, 3) := by decide +kernel
theorem dX6_group_46 : decode cX6_group 46 = .ok (.iconst 1, 1) := by decide +kernel
theorem dX6_group_47 : decode cX6_group 47 = .ok (.goto 4, 3) := by decide +kernel
theorem dX6_group_50 : decode cX6_group 50 = .ok (.iconst 0, 1) := by decide +kernel
theorem dX6_group_51 : decode cX6_group 51 = .ok (.iadd, 1) := by decide +kernel
theorem dX6_group_52 : decode cX6_group 52 = .ok (.istore_n 2, 1) := by decide +kernel
theorem dX6_group_53 : decode cX6_group 53 = .ok (.iinc 3 1, 3) := by decide +kernel
theorem dX6_group_56 : decode cX6_group 56 = .ok (.goto (-24), 3) := by decide +kernel
theorem dX6_group_59 : decode cX6_group 59 = .ok (.iload_n 2, 1) := by decide +kernel
theorem dX6_group_60 : decode cX6_group 60 = .ok (.ireturn, 1) := by decide +kernel
theorem dX6_isFirst_0 : decode cX6_isFirst 0 = .ok (.iconst 1, 1) := by decide +kernel
theorem dX6_isFirst_1 : decode cX6_isFirst 1 = .ok (.istore_n 2, 1) := by decide +kernel
theorem dX6_isFirst_2 : decode cX6_isFirst 2 = .ok (.iconst 0, 1) := by decide +kernel
theorem dX6_isFirst_3 : decode cX6_isFirst 3 = .ok (.istore_n 3, 1) := by decide +kernel
theorem dX6_isFirst_4 : decode cX6_isFirst 4 = .ok (.iload_n 3, 1) := by decide +kernel
theorem dX6_isFirst_5 : decode cX6_isFirst 5 = .ok (.iload_n 1, 1) := by decide +kernel
theorem dX6_isFirst_6 : decode cX6_isFirst 6 = .ok (.if_icmp .ge 28, 3) := by decide +kernel
theorem dX6_isFirst_9 : decode cX6_isFirst 9 = .ok (.iload_n 2, 1) := by decide +kernel
theorem dX6_isFirst_10 : decode cX6_isFirst 10 = .ok (.ifCond .eq 16, 3) := by decide +kernel
theorem dX6_isFirst_13 : decode cX6_isFirst 13 = .ok (.aload_n 0, 1) := by decide +kernel
theorem dX6_isFirst_14 : decode cX6_isFirst 14 = .ok (.iload_n 3, 1) := by decide +kernel
theorem dX6_isFirst_15 : decode cX6_isFirst 15 = .ok (.iload_n 1, 1) := by decide +kernel
theorem dX6_isFirst_16 : decode cX6_isFirst 16 = .ok (.invokevirtual 200, 3) := by decide +kernel
theorem dX6_isFirst_19 : decode cX6_isFirst 19 = .ok (.ifCond .ne 7, 3) := by decide +kernel
theorem dX6_isFirst_22 : decode cX6_isFirst 22 = .ok (.iconst 1, 1) := by decide +kernel
theorem dX6_isFirst_23 : decode cX6_isFirst 23 = .ok (.goto 4, 3) := by decide +kernel
theorem dX6_isFirst_26 : decode cX6_isFirst 26 = .ok (.iconst 0, 1) := by decide +kernel
theorem dX6_isFirst_27 : decode cX6_isFirst 27 = .ok (.istore_n 2, 1) := by decide +kernel
theorem dX6_isFirst_28 : decode cX6_isFirst 28 = .ok (.iinc 3 1, 3) := by decide +kernel
theorem dX6_isFirst_31 : decode cX6_isFirst 31 = .ok (.goto (-27), 3) := by decide +kernel
theorem dX6_isFirst_34 : decode cX6_isFirst 34 = .ok (.iload_n 2, 1) := by decide +kernel
theorem dX6_isFirst_35 : decode cX6_isFirst 35 = .ok (.ireturn, 1) := by decide +kernel
theorem dX6_groupOfFirst_0 : decode cX6_groupOfFirst 0 = .ok (.iconst 0, 1) := by decide +kernel
theorem dX6_groupOfFirst_1 : decode cX6_groupOfFirst 1 = .ok (.istore_n 2, 1) := by decide +kernel
theorem dX6_groupOfFirst_2 : decode cX6_groupOfFirst 2 = .ok (.iconst 0, 1) := by decide +kernel
theorem dX6_groupOfFirst_3 : decode cX6_groupOfFirst 3 = .ok (.istore_n 3, 1) := by decide +kernel
theorem dX6_groupOfFirst_4 : decode cX6_groupOfFirst 4 = .ok (.iload_n 3, 1) := by decide +kernel
theorem dX6_groupOfFirst_5 : decode cX6_groupOfFirst 5 = .ok (.iload_n 1, 1) := by decide +kernel
theorem dX6_groupOfFirst_6 : decode cX6_groupOfFirst 6 = .ok (.if_icmp .ge 25, 3) := by decide +kernel
theorem dX6_groupOfFirst_9 : decode cX6_groupOfFirst 9 = .ok (.iload_n 2, 1) := by decide +kernel
theorem dX6_groupOfFirst_10 : decode cX6_groupOfFirst 10 = .ok (.aload_n 0, 1) := by decide +kernel
theorem dX6_groupOfFirst_11 : decode cX6_groupOfFirst 11 = .ok (.iload_n 3, 1) := by decide +kernel
theorem dX6_groupOfFirst_12 : decode cX6_groupOfFirst 12 = .ok (.invokevirtual 206, 3) := by decide +kernel
theorem dX6_groupOfFirst_15 : decode cX6_groupOfFirst 15 = .ok (.ifCond .eq 7, 3) := by decide +kernel
theorem dX6_groupOfFirst_18 : decode cX6_groupOfFirst 18 = .ok (.iconst 1, 1) := by decide +kernel
theorem dX6_groupOfFirst_19 : decode cX6_groupOfFirst 19 = .ok (.goto 4, 3) := by decide +kernel
theorem dX6_groupOfFirst_22 : decode cX6_groupOfFirst 22 = .ok (.iconst 0, 1) := by decide +kernel
theorem dX6_groupOfFirst_23 : decode cX6_groupOfFirst 23 = .ok (.iadd, 1) := by decide +kernel
theorem dX6_groupOfFirst_24 : decode cX6_groupOfFirst 24 = .ok (.istore_n 2, 1) := by decide +kernel
theorem dX6_groupOfFirst_25 : decode cX6_groupOfFirst 25 = .ok (.iinc 3 1, 3) := by decide +kernel
theorem dX6_groupOfFirst_28 : decode cX6_groupOfFirst 28 = .ok (.goto (-24), 3) := by decide +kernel
theorem dX6_groupOfFirst_31 : decode cX6_groupOfFirst 31 = .ok (.iload_n 2, 1) := by decide +kernel
theorem dX6_groupOfFirst_32 : decode cX6_groupOfFirst 32 = .ok (.ireturn, 1) := by decide +kernel
theorem dX6_point_0 : decode cX6_point 0 = .ok (.aload_n 0, 1) := by decide +kernel
theorem dX6_point_1 : decode cX6_point 1 = .ok (.iload_n 1, 1) := by decide +kernel
theorem dX6_point_2 : decode cX6_point 2 = .ok (.invokevirtual 77, 3) := by decide +kernel
theorem dX6_point_5 : decode cX6_point 5 = .ok (.ifCond .eq 12, 3) := by decide +kernel
theorem dX6_point_8 : decode cX6_point 8 = .ok (.iload_n 2, 1) := by decide +kernel
theorem dX6_point_9 : decode cX6_point 9 = .ok (.iconst 0, 1) := by decide +kernel
theorem dX6_point_10 : decode cX6_point 10 = .ok (.iconst 4, 1) := by decide +kernel
theorem dX6_point_11 : decode cX6_point 11 = .ok (.invokestatic 46, 3) := by decide +kernel
theorem dX6_point_14 : decode cX6_point 14 = .ok (.ifCond .ne 5, 3) := by decide +kernel
theorem dX6_point_17 : decode cX6_point 17 = .ok (.iconst (-1), 1) := by decide +kernel
theorem dX6_point_18 : decode cX6_point 18 = .ok (.ireturn, 1) := by decide +kernel
theorem dX6_point_19 : decode cX6_point 19 = .ok (.iload_n 2, 1) := by decide +kernel
theorem dX6_point_20 : decode cX6_point 20 = .ok (.iconst 2, 1) := by decide +kernel
theorem dX6_point_21 : decode cX6_point 21 = .ok (.if_icmp .ge 21, 3) := by decide +kernel
theorem dX6_point_24 : decode cX6_point 24 = .ok (.iload_n 2, 1) := by decide +kernel
theorem dX6_point_25 : decode cX6_point 25 = .ok (.ifCond .ne 11, 3) := by decide +kernel
theorem dX6_point_28 : decode cX6_point 28 = .ok (.aload_n 0, 1) := by decide +kernel
theorem dX6_point_29 : decode cX6_point 29 = .ok (.iload_n 1, 1) := by decide +kernel
theorem dX6_point_30 : decode cX6_point 30 = .ok (.invokevirtual 54, 3) := by decide +kernel
theorem dX6_point_33 : decode cX6_point 33 = .ok (.goto 8, 3) := by decide +kernel
theorem dX6_point_36 : decode cX6_point 36 = .ok (.aload_n 0, 1) := by decide +kernel
theorem dX6_point_37 : decode cX6_point 37 = .ok (.iload_n 1, 1) := by decide +kernel
theorem dX6_point_38 : decode cX6_point 38 = .ok (.invokevirtual 85, 3) := by decide +kernel
theorem dX6_point_41 : decode cX6_point 41 = .ok (.ireturn, 1) := by decide +kernel
theorem dX6_point_42 : decode cX6_point 42 = .ok (.iload_n 2, 1) := by decide +kernel
theorem dX6_point_43 : decode cX6_point 43 = .ok (.iconst 4, 1) := by decide +kernel
theorem dX6_point_44 : decode cX6_point 44 = .ok (.if_icmp .ne 17, 3) := by decide +kernel
theorem dX6_point_47 : decode cX6_point 47 = .ok (.aload_n 0, 1) := by decide +kernel
theorem dX6_point_48 : decode cX6_point 48 = .ok (.iconst 0, 1) := by decide +kernel
theorem dX6_point_49 : decode cX6_point 49 = .ok (.sipush (-999), 3) := by decide +kernel
theorem dX6_point_52 : decode cX6_point 52 = .ok (.invokevirtual 197, 3) := by decide +kernel
theorem dX6_point_55 : decode cX6_point 55 = .ok (.aload_n 0, 1) := by decide +kernel
theorem dX6_point_56 : decode cX6_point 56 = .ok (.iload_n 1, 1) := by decide +kernel
theorem dX6_point_57 : decode cX6_point 57 = .ok (.invokevirtual 209, 3) := by decide +kernel
theorem dX6_point_60 : decode cX6_point 60 = .ok (.ireturn, 1) := by decide +kernel
theorem dX6_point_61 : decode cX6_point 61 = .ok (.aload_n 0, 1) := by decide +kernel
theorem dX6_point_62 : decode cX6_point 62 = .ok (.invokevirtual 212, 3) := by decide +kernel
theorem dX6_point_65 : decode cX6_point 65 = .ok (.iload_n 2, 1) := by decide +kernel
theorem dX6_point_66 : decode cX6_point 66 = .ok (.iconst 2, 1) := by decide +kernel
theorem dX6_point_67 : decode cX6_point 67 = .ok (.if_icmp .ne 11, 3) := by decide +kernel
theorem dX6_point_70 : decode cX6_point 70 = .ok (.aload_n 0, 1) := by decide +kernel
theorem dX6_point_71 : decode cX6_point 71 = .ok (.iload_n 1, 1) := by decide +kernel
theorem dX6_point_72 : decode cX6_point 72 = .ok (.invokevirtual 187, 3) := by decide +kernel
theorem dX6_point_75 : decode cX6_point 75 = .ok (.goto 11, 3) := by decide +kernel
theorem dX6_point_78 : decode cX6_point 78 = .ok (.aload_n 0, 1) := by decide +kernel
theorem dX6_point_79 : decode cX6_point 79 = .ok (.iload_n 1, 1) := by decide +kernel
theorem dX6_point_80 : decode cX6_point 80 = .ok (.sipush (-999), 3) := by decide +kernel
theorem dX6_point_83 : decode cX6_point 83 = .ok (.invokevirtual 215, 3) := by decide +kernel
theorem dX6_point_86 : decode cX6_point 86 = .ok (.ireturn, 1) := by decide +kernel
theorem dX6_placeOf_0 : decode cX6_placeOf 0 = .ok (.iload_n 0, 1) := by decide +kernel
theorem dX6_placeOf_1 : decode cX6_placeOf 1 = .ok (.tableswitch 33 3 5 #[27, 29, 31], 27) := by decide +kernel
theorem dX6_placeOf_28 : decode cX6_placeOf 28 = .ok (.iconst 2, 1) := by decide +kernel
theorem dX6_placeOf_29 : decode cX6_placeOf 29 = .ok (.ireturn, 1) := by decide +kernel
theorem dX6_placeOf_30 : decode cX6_placeOf 30 = .ok (.iconst 3, 1) := by decide +kernel
theorem dX6_placeOf_31 : decode cX6_placeOf 31 = .ok (.ireturn, 1) := by decide +kernel
theorem dX6_placeOf_32 : decode cX6_placeOf 32 = .ok (.iconst 4, 1) := by decide +kernel
theorem dX6_placeOf_33 : decode cX6_placeOf 33 = .ok (.ireturn, 1) := by decide +kernel
theorem dX6_placeOf_34 : decode cX6_placeOf 34 = .ok (.iconst 5, 1) := by decide +kernel
theorem dX6_placeOf_35 : decode cX6_placeOf 35 = .ok (.ireturn, 1) := by decide +kernel
theorem dX6_dimension_0 : decode cX6_dimension 0 = .ok (.aload_n 0, 1) := by decide +kernel
theorem dX6_dimension_1 : decode cX6_dimension 1 = .ok (.iload_n 1, 1) := by decide +kernel
theorem dX6_dimension_2 : decode cX6_dimension 2 = .ok (.invokevirtual 92, 3) := by decide +kernel
theorem dX6_dimension_5 : decode cX6_dimension 5 = .ok (.ifCond .eq 13, 3) := by decide +kernel
theorem dX6_dimension_8 : decode cX6_dimension 8 = .ok (.iload_n 2, 1) := by decide +kernel
theorem dX6_dimension_9 : decode cX6_dimension 9 = .ok (.iconst 0, 1) := by decide +kernel
theorem dX6_dimension_10 : decode cX6_dimension 10 = .ok (.bipush 12, 2) := by decide +kernel
theorem dX6_dimension_12 : decode cX6_dimension 12 = .ok (.invokestatic 46, 3) := by decide +kernel
theorem dX6_dimension_15 : decode cX6_dimension 15 = .ok (.ifCond .ne 5, 3) := by decide +kernel
theorem dX6_dimension_18 : decode cX6_dimension 18 = .ok (.iconst (-1), 1) := by decide +kernel
theorem dX6_dimension_19 : decode cX6_dimension 19 = .ok (.ireturn, 1) := by decide +kernel
theorem dX6_dimension_20 : decode cX6_dimension 20 = .ok (.aload_n 0, 1) := by decide +kernel
theorem dX6_dimension_21 : decode cX6_dimension 21 = .ok (.invokevirtual 212, 3) := by decide +kernel
theorem dX6_dimension_24 : decode cX6_dimension 24 = .ok (.iload_n 2, 1) := by decide +kernel
theorem dX6_dimension_25 : decode cX6_dimension 25 = .ok (.tableswitch 128 0 12 #[67, 67, 74, 128, 128, 128, 128, 80, 86, 92, 98, 104, 119], 67) := by decide +kernel
theorem dX6_dimension_92 : decode cX6_dimension 92 = .ok (.aload_n 0, 1) := by decide +kernel
theorem dX6_dimension_93 : decode cX6_dimension 93 = .ok (.iload_n 1, 1) := by decide +kernel
theorem dX6_dimension_94 : decode cX6_dimension 94 = .ok (.iload_n 2, 1) := by decide +kernel
theorem dX6_dimension_95 : decode cX6_dimension 95 = .ok (.invokevirtual 50, 3) := by decide +kernel
theorem dX6_dimension_98 : decode cX6_dimension 98 = .ok (.ireturn, 1) := by decide +kernel
theorem dX6_dimension_99 : decode cX6_dimension 99 = .ok (.aload_n 0, 1) := by decide +kernel
theorem dX6_dimension_100 : decode cX6_dimension 100 = .ok (.iload_n 1, 1) := by decide +kernel
theorem dX6_dimension_101 : decode cX6_dimension 101 = .ok (.invokevirtual 148, 3) := by decide +kernel
theorem dX6_dimension_104 : decode cX6_dimension 104 = .ok (.ireturn, 1) := by decide +kernel
theorem dX6_dimension_105 : decode cX6_dimension 105 = .ok (.aload_n 0, 1) := by decide +kernel
theorem dX6_dimension_106 : decode cX6_dimension 106 = .ok (.iload_n 1, 1) := by decide +kernel
theorem dX6_dimension_107 : decode cX6_dimension 107 = .ok (.invokevirtual 154, 3) := by decide +kernel
theorem dX6_dimension_110 : decode cX6_dimension 110 = .ok (.ireturn, 1) := by decide +kernel
theorem dX6_dimension_111 : decode cX6_dimension 111 = .ok (.aload_n 0, 1) := by decide +kernel
theorem dX6_dimension_112 : decode cX6_dimension 112 = .ok (.iload_n 1, 1) := by decide +kernel
theorem dX6_dimension_113 : decode cX6_dimension 113 = .ok (.invokevirtual 166, 3) := by decide +kernel
theorem dX6_dimension_116 : decode cX6_dimension 116 = .ok (.ireturn, 1) := by decide +kernel
theorem dX6_dimension_117 : decode cX6_dimension 117 = .ok (.aload_n 0, 1) := by decide +kernel
theorem dX6_dimension_118 : decode cX6_dimension 118 = .ok (.iload_n 1, 1) := by decide +kernel
theorem dX6_dimension_119 : decode cX6_dimension 119 = .ok (.invokevirtual 169, 3) := by decide +kernel
theorem dX6_dimension_122 : decode cX6_dimension 122 = .ok (.ireturn, 1) := by decide +kernel
theorem dX6_dimension_123 : decode cX6_dimension 123 = .ok (.aload_n 0, 1) := by decide +kernel
theorem dX6_dimension_124 : decode cX6_dimension 124 = .ok (.iload_n 1, 1) := by decide +kernel
theorem dX6_dimension_125 : decode cX6_dimension 125 = .ok (.invokevirtual 184, 3) := by decide +kernel
theorem dX6_dimension_128 : decode cX6_dimension 128 = .ok (.ireturn, 1) := by decide +kernel
theorem dX6_dimension_129 : decode cX6_dimension 129 = .ok (.aload_n 0, 1) := by decide +kernel
theorem dX6_dimension_130 : decode cX6_dimension 130 = .ok (.iload_n 1, 1) := by decide +kernel
theorem dX6_dimension_131 : decode cX6_dimension 131 = .ok (.iconst 0, 1) := by decide +kernel
theorem dX6_dimension_132 : decode cX6_dimension 132 = .ok (.invokevirtual 218, 3) := by decide +kernel
theorem dX6_dimension_135 : decode cX6_dimension 135 = .ok (.ifCond .eq 7, 3) := by decide +kernel
theorem dX6_dimension_138 : decode cX6_dimension 138 = .ok (.iconst 1, 1) := by decide +kernel
theorem dX6_dimension_139 : decode cX6_dimension 139 = .ok (.goto 4, 3) := by decide +kernel
theorem dX6_dimension_142 : decode cX6_dimension 142 = .ok (.iconst 0, 1) := by decide +kernel
theorem dX6_dimension_143 : decode cX6_dimension 143 = .ok (.ireturn, 1) := by decide +kernel
theorem dX6_dimension_144 : decode cX6_dimension 144 = .ok (.aload_n 0, 1) := by decide +kernel
theorem dX6_dimension_145 : decode cX6_dimension 145 = .ok (.sipush (-999), 3) := by decide +kernel
theorem dX6_dimension_148 : decode cX6_dimension 148 = .ok (.iload_n 1, 1) := by decide +kernel
theorem dX6_dimension_149 : decode cX6_dimension 149 = .ok (.invokevirtual 215, 3) := by decide +kernel
theorem dX6_dimension_152 : decode cX6_dimension 152 = .ok (.ireturn, 1) := by decide +kernel
theorem dX6_dimension_153 : decode cX6_dimension 153 = .ok (.aload_n 0, 1) := by decide +kernel
theorem dX6_dimension_154 : decode cX6_dimension 154 = .ok (.iload_n 1, 1) := by decide +kernel
theorem dX6_dimension_155 : decode cX6_dimension 155 = .ok (.iload_n 2, 1) := by decide +kernel
theorem dX6_dimension_156 : decode cX6_dimension 156 = .ok (.invokestatic 221, 3) := by decide +kernel
theorem dX6_dimension_159 : decode cX6_dimension 159 = .ok (.invokevirtual 50, 3) := by decide +kernel
theorem dX6_dimension_162 : decode cX6_dimension 162 = .ok (.ireturn, 1) := by decide +kernel
theorem dX6_at_0 : decode cX6_at 0 = .ok (.iload_n 1, 1) := by decide +kernel
theorem dX6_at_1 : decode cX6_at 1 = .ok (.ifCond .lt 15, 3) := by decide +kernel
theorem dX6_at_4 : decode cX6_at 4 = .ok (.iload_n 2, 1) := by decide +kernel
theorem dX6_at_5 : decode cX6_at 5 = .ok (.bipush (-9), 2) := by decide +kernel
theorem dX6_at_7 : decode cX6_at 7 = .ok (.sipush 400, 3) := by decide +kernel
theorem dX6_at_10 : decode cX6_at 10 = .ok (.invokestatic 46, 3) := by decide +kernel
theorem dX6_at_13 : decode cX6_at 13 = .ok (.ifCond .ne 5, 3) := by decide +kernel
theorem dX6_at_16 : decode cX6_at 16 = .ok (.iconst (-1), 1) := by decide +kernel
theorem dX6_at_17 : decode cX6_at 17 = .ok (.ireturn, 1) := by decide +kernel
theorem dX6_at_18 : decode cX6_at 18 = .ok (.aload_n 0, 1) := by decide +kernel
theorem dX6_at_19 : decode cX6_at 19 = .ok (.invokevirtual 212, 3) := by decide +kernel
theorem dX6_at_22 : decode cX6_at 22 = .ok (.iconst 0, 1) := by decide +kernel
theorem dX6_at_23 : decode cX6_at 23 = .ok (.istore_n 3, 1) := by decide +kernel
theorem dX6_at_24 : decode cX6_at 24 = .ok (.iload_n 3, 1) := by decide +kernel
theorem dX6_at_25 : decode cX6_at 25 = .ok (.aload_n 0, 1) := by decide +kernel
theorem dX6_at_26 : decode cX6_at 26 = .ok (.getfield 7, 3) := by decide +kernel
theorem dX6_at_29 : decode cX6_at 29 = .ok (.bipush 13, 2) := by decide +kernel
theorem dX6_at_31 : decode cX6_at 31 = .ok (.iaload, 1) := by decide +kernel
theorem dX6_at_32 : decode cX6_at 32 = .ok (.if_icmp .ge 37, 3) := by decide +kernel
theorem dX6_at_35 : decode cX6_at 35 = .ok (.aload_n 0, 1) := by decide +kernel
theorem dX6_at_36 : decode cX6_at 36 = .ok (.iload_n 3, 1) := by decide +kernel
theorem dX6_at_37 : decode cX6_at 37 = .ok (.invokevirtual 184, 3) := by decide +kernel
theorem dX6_at_40 : decode cX6_at 40 = .ok (.iload_n 1, 1) := by decide +kernel
theorem dX6_at_41 : decode cX6_at 41 = .ok (.if_icmp .ne 22, 3) := by decide +kernel
theorem dX6_at_44 : decode cX6_at 44 = .ok (.iload_n 2, 1) := by decide +kernel
theorem dX6_at_45 : decode cX6_at 45 = .ok (.aload_n 0, 1) := by decide +kernel
theorem dX6_at_46 : decode cX6_at 46 = .ok (.iload_n 3, 1) := by decide +kernel
theorem dX6_at_47 : decode cX6_at 47 = .ok (.invokevirtual 166, 3) := by decide +kernel
theorem dX6_at_50 : decode cX6_at 50 = .ok (.aload_n 0, 1) := by decide +kernel
theorem dX6_at_51 : decode cX6_at 51 = .ok (.iload_n 3, 1) := by decide +kernel
theorem dX6_at_52 : decode cX6_at 52 = .ok (.invokevirtual 169, 3) := by decide +kernel
theorem dX6_at_55 : decode cX6_at 55 = .ok (.invokestatic 46, 3) := by decide +kernel
theorem dX6_at_58 : decode cX6_at 58 = .ok (.ifCond .eq 5, 3) := by decide +kernel
theorem dX6_at_61 : decode cX6_at 61 = .ok (.iload_n 3, 1) := by decide +kernel
theorem dX6_at_62 : decode cX6_at 62 = .ok (.ireturn, 1) := by decide +kernel
theorem dX6_at_63 : decode cX6_at 63 = .ok (.iinc 3 1, 3) := by decide +kernel
theorem dX6_at_66 : decode cX6_at 66 = .ok (.goto (-42), 3) := by decide +kernel
theorem dX6_at_69 : decode cX6_at 69 = .ok (.sipush (-999), 3) := by decide +kernel
theorem dX6_at_72 : decode cX6_at 72 = .ok (.ireturn, 1) := by decide +kernel
theorem dX6_arePoints_0 : decode cX6_arePoints 0 = .ok (.aload_n 0, 1) := by decide +kernel
theorem dX6_arePoints_1 : decode cX6_arePoints 1 = .ok (.iload_n 1, 1) := by decide +kernel
theorem dX6_arePoints_2 : decode cX6_arePoints 2 = .ok (.invokevirtual 77, 3) := by decide +kernel
theorem dX6_arePoints_5 : decode cX6_arePoints 5 = .ok (.ifCond .eq 20, 3) := by decide +kernel
theorem dX6_arePoints_8 : decode cX6_arePoints 8 = .ok (.aload_n 0, 1) := by decide +kernel
theorem dX6_arePoints_9 : decode cX6_arePoints 9 = .ok (.iload_n 2, 1) := by decide +kernel
theorem dX6_arePoints_10 : decode cX6_arePoints 10 = .ok (.invokevirtual 77, 3) := by decide +kernel
theorem dX6_arePoints_13 : decode cX6_arePoints 13 = .ok (.ifCond .eq 12, 3) := by decide +kernel
theorem dX6_arePoints_16 : decode cX6_arePoints 16 = .ok (.iload_n 1, 1) := by decide +kernel
theorem dX6_arePoints_17 : decode cX6_arePoints 17 = .ok (.iload_n 2, 1) := by decide +kernel
theorem dX6_arePoints_18 : decode cX6_arePoints 18 = .ok (.if_icmp .eq 7, 3) := by decide +kernel
theorem dX6_arePoints_21 : decode cX6_arePoints 21 = .ok (.iconst 1, 1) := by decide +kernel
theorem dX6_arePoints_22 : decode cX6_arePoints 22 = .ok (.goto 4, 3) := by decide +kernel
theorem dX6_arePoints_25 : decode cX6_arePoints 25 = .ok (.iconst 0, 1) := by decide +kernel
theorem dX6_arePoints_26 : decode cX6_arePoints 26 = .ok (.ireturn, 1) := by decide +kernel
theorem dX6_distance_0 : decode cX6_distance 0 = .ok (.aload_n 0, 1) := by decide +kernel
theorem dX6_distance_1 : decode cX6_distance 1 = .ok (.iload_n 1, 1) := by decide +kernel
theorem dX6_distance_2 : decode cX6_distance 2 = .ok (.iload_n 2, 1) := by decide +kernel
theorem dX6_distance_3 : decode cX6_distance 3 = .ok (.invokevirtual 224, 3) := by decide +kernel
theorem dX6_distance_6 : decode cX6_distance 6 = .ok (.ifCond .ne 5, 3) := by decide +kernel
theorem dX6_distance_9 : decode cX6_distance 9 = .ok (.iconst (-1), 1) := by decide +kernel
theorem dX6_distance_10 : decode cX6_distance 10 = .ok (.ireturn, 1) := by decide +kernel
theorem dX6_distance_11 : decode cX6_distance 11 = .ok (.aload_n 0, 1) := by decide +kernel
theorem dX6_distance_12 : decode cX6_distance 12 = .ok (.iconst 0, 1) := by decide +kernel
theorem dX6_distance_13 : decode cX6_distance 13 = .ok (.sipush (-999), 3) := by decide +kernel
theorem dX6_distance_16 : decode cX6_distance 16 = .ok (.invokevirtual 197, 3) := by decide +kernel
theorem dX6_distance_19 : decode cX6_distance 19 = .ok (.aload_n 0, 1) := by decide +kernel
theorem dX6_distance_20 : decode cX6_distance 20 = .ok (.iload_n 1, 1) := by decide +kernel
theorem dX6_distance_21 : decode cX6_distance 21 = .ok (.iload_n 2, 1) := by decide +kernel
theorem dX6_distance_22 : decode cX6_distance 22 = .ok (.invokevirtual 200, 3) := by decide +kernel
theorem dX6_distance_25 : decode cX6_distance 25 = .ok (.ifCond .ne 7, 3) := by decide +kernel
theorem dX6_distance_28 : decode cX6_distance 28 = .ok (.sipush (-999), 3) := by decide +kernel
theorem dX6_distance_31 : decode cX6_distance 31 = .ok (.ireturn, 1) := by decide +kernel
theorem dX6_distance_32 : decode cX6_distance 32 = .ok (.iload_n 3, 1) := by decide +kernel
theorem dX6_distance_33 : decode cX6_distance 33 = .ok (.ifCond .eq 17, 3) := by decide +kernel
theorem dX6_distance_36 : decode cX6_distance 36 = .ok (.aload_n 0, 1) := by decide +kernel
theorem dX6_distance_37 : decode cX6_distance 37 = .ok (.getfield 35, 3) := by decide +kernel
theorem dX6_distance_40 : decode cX6_distance 40 = .ok (.bipush 12, 2) := by decide +kernel
theorem dX6_distance_42 : decode cX6_distance 42 = .ok (.iload_n 1, 1) := by decide +kernel
theorem dX6_distance_43 : decode cX6_distance 43 = .ok (.imul, 1) := by decide +kernel
theorem dX6_distance_44 : decode cX6_distance 44 = .ok (.iload_n 2, 1) := by decide +kernel
theorem dX6_distance_45 : decode cX6_distance 45 = .ok (.iadd, 1) := by decide +kernel
theorem dX6_distance_46 : decode cX6_distance 46 = .ok (.iaload, 1) := by decide +kernel
theorem dX6_distance_47 : decode cX6_distance 47 = .ok (.goto 15, 3) := by decide +kernel
theorem dX6_distance_50 : decode cX6_distance 50 = .ok (.aload_n 0, 1) := by decide +kernel
theorem dX6_distance_51 : decode cX6_distance 51 = .ok (.getfield 35, 3) := by decide +kernel
theorem dX6_distance_54 : decode cX6_distance 54 = .ok (.bipush 12, 2) := by decide +kernel
theorem dX6_distance_56 : decode cX6_distance 56 = .ok (.iload_n 2, 1) := by decide +kernel
theorem dX6_distance_57 : decode cX6_distance 57 = .ok (.imul, 1) := by decide +kernel
theorem dX6_distance_58 : decode cX6_distance 58 = .ok (.iload_n 1, 1) := by decide +kernel
theorem dX6_distance_59 : decode cX6_distance 59 = .ok (.iadd, 1) := by decide +kernel
theorem dX6_distance_60 : decode cX6_distance 60 = .ok (.iaload, 1) := by decide +kernel
theorem dX6_distance_61 : decode cX6_distance 61 = .ok (.ineg, 1) := by decide +kernel
theorem dX6_distance_62 : decode cX6_distance 62 = .ok (.ireturn, 1) := by decide +kernel
theorem dX6_adds_0 : decode cX6_adds 0 = .ok (.aload_n 0, 1) := by decide +kernel
theorem dX6_adds_1 : decode cX6_adds 1 = .ok (.iconst 0, 1) := by decide +kernel
theorem dX6_adds_2 : decode cX6_adds 2 = .ok (.sipush (-999), 3) := by decide +kernel
theorem dX6_adds_5 : decode cX6_adds 5 = .ok (.invokevirtual 197, 3) := by decide +kernel
theorem dX6_adds_8 : decode cX6_adds 8 = .ok (.aload_n 0, 1) := by decide +kernel
theorem dX6_adds_9 : decode cX6_adds 9 = .ok (.iload_n 2, 1) := by decide +kernel
theorem dX6_adds_10 : decode cX6_adds 10 = .ok (.iload_n 3, 1) := by decide +kernel
theorem dX6_adds_11 : decode cX6_adds 11 = .ok (.invokevirtual 227, 3) := by decide +kernel
theorem dX6_adds_14 : decode cX6_adds 14 = .ok (.istore 4, 2) := by decide +kernel
theorem dX6_adds_16 : decode cX6_adds 16 = .ok (.aload_n 0, 1) := by decide +kernel
theorem dX6_adds_17 : decode cX6_adds 17 = .ok (.iconst 0, 1) := by decide +kernel
theorem dX6_adds_18 : decode cX6_adds 18 = .ok (.iload_n 1, 1) := by decide +kernel
theorem dX6_adds_19 : decode cX6_adds 19 = .ok (.invokevirtual 197, 3) := by decide +kernel
theorem dX6_adds_22 : decode cX6_adds 22 = .ok (.iload 4, 2) := by decide +kernel
theorem dX6_adds_24 : decode cX6_adds 24 = .ok (.aload_n 0, 1) := by decide +kernel
theorem dX6_adds_25 : decode cX6_adds 25 = .ok (.iload_n 2, 1) := by decide +kernel
theorem dX6_adds_26 : decode cX6_adds 26 = .ok (.iload_n 3, 1) := by decide +kernel
theorem dX6_adds_27 : decode cX6_adds 27 = .ok (.invokevirtual 227, 3) := by decide +kernel
theorem dX6_adds_30 : decode cX6_adds 30 = .ok (.isub, 1) := by decide +kernel
theorem dX6_adds_31 : decode cX6_adds 31 = .ok (.ireturn, 1) := by decide +kernel
theorem dX6_ifExact_0 : decode cX6_ifExact 0 = .ok (.aload_n 0, 1) := by decide +kernel
theorem dX6_ifExact_1 : decode cX6_ifExact 1 = .ok (.iload_n 1, 1) := by decide +kernel
theorem dX6_ifExact_2 : decode cX6_ifExact 2 = .ok (.invokevirtual 92, 3) := by decide +kernel
theorem dX6_ifExact_5 : decode cX6_ifExact 5 = .ok (.ifCond .eq 12, 3) := by decide +kernel
theorem dX6_ifExact_8 : decode cX6_ifExact 8 = .ok (.aload_n 0, 1) := by decide +kernel
theorem dX6_ifExact_9 : decode cX6_ifExact 9 = .ok (.iload_n 2, 1) := by decide +kernel
theorem dX6_ifExact_10 : decode cX6_ifExact 10 = .ok (.iload_n 3, 1) := by decide +kernel
theorem dX6_ifExact_11 : decode cX6_ifExact 11 = .ok (.invokevirtual 224, 3) := by decide +kernel
theorem dX6_ifExact_14 : decode cX6_ifExact 14 = .ok (.ifCond .ne 5, 3) := by decide +kernel
theorem dX6_ifExact_17 : decode cX6_ifExact 17 = .ok (.iconst (-1), 1) := by decide +kernel
theorem dX6_ifExact_18 : decode cX6_ifExact 18 = .ok (.ireturn, 1) := by decide +kernel
theorem dX6_ifExact_19 : decode cX6_ifExact 19 = .ok (.aload_n 0, 1) := by decide +kernel
theorem dX6_ifExact_20 : decode cX6_ifExact 20 = .ok (.iconst 0, 1) := by decide +kernel
theorem dX6_ifExact_21 : decode cX6_ifExact 21 = .ok (.sipush (-999), 3) := by decide +kernel
theorem dX6_ifExact_24 : decode cX6_ifExact 24 = .ok (.invokevirtual 197, 3) := by decide +kernel
theorem dX6_ifExact_27 : decode cX6_ifExact 27 = .ok (.aload_n 0, 1) := by decide +kernel
theorem dX6_ifExact_28 : decode cX6_ifExact 28 = .ok (.iload_n 2, 1) := by decide +kernel
theorem dX6_ifExact_29 : decode cX6_ifExact 29 = .ok (.iload_n 3, 1) := by decide +kernel
theorem dX6_ifExact_30 : decode cX6_ifExact 30 = .ok (.invokevirtual 200, 3) := by decide +kernel
theorem dX6_ifExact_33 : decode cX6_ifExact 33 = .ok (.ifCond .eq 13, 3) := by decide +kernel
theorem dX6_ifExact_36 : decode cX6_ifExact 36 = .ok (.aload_n 0, 1) := by decide +kernel
theorem dX6_ifExact_37 : decode cX6_ifExact 37 = .ok (.iload_n 1, 1) := by decide +kernel
theorem dX6_ifExact_38 : decode cX6_ifExact 38 = .ok (.iload_n 2, 1) := by decide +kernel
theorem dX6_ifExact_39 : decode cX6_ifExact 39 = .ok (.iload_n 3, 1) := by decide +kernel
theorem dX6_ifExact_40 : decode cX6_ifExact 40 = .ok (.invokevirtual 230, 3) := by decide +kernel
theorem dX6_ifExact_43 : decode cX6_ifExact 43 = .ok (.goto 6, 3) := by decide +kernel
theorem dX6_ifExact_46 : decode cX6_ifExact 46 = .ok (.sipush (-999), 3) := by decide +kernel
theorem dX6_ifExact_49 : decode cX6_ifExact 49 = .ok (.ireturn, 1) := by decide +kernel
theorem dX6_critical_0 : decode cX6_critical 0 = .ok (.aload_n 0, 1) := by decide +kernel
theorem dX6_critical_1 : decode cX6_critical 1 = .ok (.iload_n 1, 1) := by decide +kernel
theorem dX6_critical_2 : decode cX6_critical 2 = .ok (.iload_n 2, 1) := by decide +kernel
theorem dX6_critical_3 : decode cX6_critical 3 = .ok (.invokevirtual 224, 3) := by decide +kernel
theorem dX6_critical_6 : decode cX6_critical 6 = .ok (.ifCond .ne 5, 3) := by decide +kernel
theorem dX6_critical_9 : decode cX6_critical 9 = .ok (.iconst (-1), 1) := by decide +kernel
theorem dX6_critical_10 : decode cX6_critical 10 = .ok (.ireturn, 1) := by decide +kernel
theorem dX6_critical_11 : decode cX6_critical 11 = .ok (.aload_n 0, 1) := by decide +kernel
theorem dX6_critical_12 : decode cX6_critical 12 = .ok (.iconst 0, 1) := by decide +kernel
theorem dX6_critical_13 : decode cX6_critical 13 = .ok (.sipush (-999), 3) := by decide +kernel
theorem dX6_critical_16 : decode cX6_critical 16 = .ok (.invokevirtual 197, 3) := by decide +kernel
theorem dX6_critical_19 : decode cX6_critical 19 = .ok (.aload_n 0, 1) := by decide +kernel
theorem dX6_critical_20 : decode cX6_critical 20 = .ok (.iload_n 1, 1) := by decide +kernel
theorem dX6_critical_21 : decode cX6_critical 21 = .ok (.iload_n 2, 1) := by decide +kernel
theorem dX6_critical_22 : decode cX6_critical 22 = .ok (.invokevirtual 200, 3) := by decide +kernel
theorem dX6_critical_25 : decode cX6_critical 25 = .ok (.ifCond .ne 7, 3) := by decide +kernel
theorem dX6_critical_28 : decode cX6_critical 28 = .ok (.sipush (-999), 3) := by decide +kernel
theorem dX6_critical_31 : decode cX6_critical 31 = .ok (.ireturn, 1) := by decide +kernel
theorem dX6_critical_32 : decode cX6_critical 32 = .ok (.sipush (-999), 3) := by decide +kernel
theorem dX6_critical_35 : decode cX6_critical 35 = .ok (.istore_n 3, 1) := by decide +kernel
theorem dX6_critical_36 : decode cX6_critical 36 = .ok (.iconst 0, 1) := by decide +kernel
theorem dX6_critical_37 : decode cX6_critical 37 = .ok (.istore 4, 2) := by decide +kernel
theorem dX6_critical_39 : decode cX6_critical 39 = .ok (.iconst 0, 1) := by decide +kernel
theorem dX6_critical_40 : decode cX6_critical 40 = .ok (.istore 5, 2) := by decide +kernel
theorem dX6_critical_42 : decode cX6_critical 42 = .ok (.iload 5, 2) := by decide +kernel
theorem dX6_critical_44 : decode cX6_critical 44 = .ok (.aload_n 0, 1) := by decide +kernel
theorem dX6_critical_45 : decode cX6_critical 45 = .ok (.getfield 7, 3) := by decide +kernel
theorem dX6_critical_48 : decode cX6_critical 48 = .ok (.bipush 13, 2) := by decide +kernel
theorem dX6_critical_50 : decode cX6_critical 50 = .ok (.iaload, 1) := by decide +kernel
theorem dX6_critical_51 : decode cX6_critical 51 = .ok (.if_icmp .ge 66, 3) := by decide +kernel
theorem dX6_critical_54 : decode cX6_critical 54 = .ok (.aload_n 0, 1) := by decide +kernel
theorem dX6_critical_55 : decode cX6_critical 55 = .ok (.iload 5, 2) := by decide +kernel
theorem dX6_critical_57 : decode cX6_critical 57 = .ok (.iload_n 1, 1) := by decide +kernel
theorem dX6_critical_58 : decode cX6_critical 58 = .ok (.iload_n 2, 1) := by decide +kernel
theorem dX6_critical_59 : decode cX6_critical 59 = .ok (.invokevirtual 230, 3) := by decide +kernel
theorem dX6_critical_62 : decode cX6_critical 62 = .ok (.istore 6, 2) := by decide +kernel
theorem dX6_critical_64 : decode cX6_critical 64 = .ok (.iload_n 3, 1) := by decide +kernel
theorem dX6_critical_65 : decode cX6_critical 65 = .ok (.sipush (-999), 3) := by decide +kernel
theorem dX6_critical_68 : decode cX6_critical 68 = .ok (.if_icmp .eq 10, 3) := by decide +kernel
theorem dX6_critical_71 : decode cX6_critical 71 = .ok (.iload 6, 2) := by decide +kernel
theorem dX6_critical_73 : decode cX6_critical 73 = .ok (.iload 4, 2) := by decide +kernel
theorem dX6_critical_75 : decode cX6_critical 75 = .ok (.if_icmp .le 7, 3) := by decide +kernel
theorem dX6_critical_78 : decode cX6_critical 78 = .ok (.iconst 1, 1) := by decide +kernel
theorem dX6_critical_79 : decode cX6_critical 79 = .ok (.goto 4, 3) := by decide +kernel
theorem dX6_critical_82 : decode cX6_critical 82 = .ok (.iconst 0, 1) := by decide +kernel
theorem dX6_critical_83 : decode cX6_critical 83 = .ok (.istore 7, 2) := by decide +kernel
theorem dX6_critical_85 : decode cX6_critical 85 = .ok (.iload 7, 2) := by decide +kernel
theorem dX6_critical_87 : decode cX6_critical 87 = .ok (.ifCond .eq 8, 3) := by decide +kernel
theorem dX6_critical_90 : decode cX6_critical 90 = .ok (.iload 5, 2) := by decide +kernel
theorem dX6_critical_92 : decode cX6_critical 92 = .ok (.goto 4, 3) := by decide +kernel
theorem dX6_critical_95 : decode cX6_critical 95 = .ok (.iload_n 3, 1) := by decide +kernel
theorem dX6_critical_96 : decode cX6_critical 96 = .ok (.istore_n 3, 1) := by decide +kernel
theorem dX6_critical_97 : decode cX6_critical 97 = .ok (.iload 7, 2) := by decide +kernel
theorem dX6_critical_99 : decode cX6_critical 99 = .ok (.ifCond .eq 8, 3) := by decide +kernel
theorem dX6_critical_102 : decode cX6_critical 102 = .ok (.iload 6, 2) := by decide +kernel
theorem dX6_critical_104 : decode cX6_critical 104 = .ok (.goto 5, 3) := by decide +kernel
theorem dX6_critical_107 : decode cX6_critical 107 = .ok (.iload 4, 2) := by decide +kernel
theorem dX6_critical_109 : decode cX6_critical 109 = .ok (.istore 4, 2) := by decide +kernel
theorem dX6_critical_111 : decode cX6_critical 111 = .ok (.iinc 5 1, 3) := by decide +kernel
theorem dX6_critical_114 : decode cX6_critical 114 = .ok (.goto (-72), 3) := by decide +kernel
theorem dX6_critical_117 : decode cX6_critical 117 = .ok (.iload_n 3, 1) := by decide +kernel
theorem dX6_critical_118 : decode cX6_critical 118 = .ok (.ireturn, 1) := by decide +kernel
theorem dX6_needed_0 : decode cX6_needed 0 = .ok (.iconst 0, 1) := by decide +kernel
theorem dX6_needed_1 : decode cX6_needed 1 = .ok (.istore_n 1, 1) := by decide +kernel
theorem dX6_needed_2 : decode cX6_needed 2 = .ok (.aload_n 0, 1) := by decide +kernel
theorem dX6_needed_3 : decode cX6_needed 3 = .ok (.getfield 7, 3) := by decide +kernel
theorem dX6_needed_6 : decode cX6_needed 6 = .ok (.bipush 13, 2) := by decide +kernel
theorem dX6_needed_8 : decode cX6_needed 8 = .ok (.iaload, 1) := by decide +kernel
theorem dX6_needed_9 : decode cX6_needed 9 = .ok (.istore_n 2, 1) := by decide +kernel
theorem dX6_needed_10 : decode cX6_needed 10 = .ok (.iconst 1, 1) := by decide +kernel
theorem dX6_needed_11 : decode cX6_needed 11 = .ok (.istore_n 3, 1) := by decide +kernel
theorem dX6_needed_12 : decode cX6_needed 12 = .ok (.iload_n 3, 1) := by decide +kernel
theorem dX6_needed_13 : decode cX6_needed 13 = .ok (.ifCond .eq 86, 3) := by decide +kernel
theorem dX6_needed_16 : decode cX6_needed 16 = .ok (.iconst 0, 1) := by decide +kernel
theorem dX6_needed_17 : decode cX6_needed 17 = .ok (.istore_n 3, 1) := by decide +kernel
theorem dX6_needed_18 : decode cX6_needed 18 = .ok (.aload_n 0, 1) := by decide +kernel
theorem dX6_needed_19 : decode cX6_needed 19 = .ok (.getfield 7, 3) := by decide +kernel
theorem dX6_needed_22 : decode cX6_needed 22 = .ok (.bipush 13, 2) := by decide +kernel
theorem dX6_needed_24 : decode cX6_needed 24 = .ok (.iaload, 1) := by decide +kernel
theorem dX6_needed_25 : decode cX6_needed 25 = .ok (.iconst 1, 1) := by decide +kernel
theorem dX6_needed_26 : decode cX6_needed 26 = .ok (.isub, 1) := by decide +kernel
theorem dX6_needed_27 : decode cX6_needed 27 = .ok (.istore 4, 2) := by decide +kernel
theorem dX6_needed_29 : decode cX6_needed 29 = .ok (.iload 4, 2) := by decide +kernel
theorem dX6_needed_31 : decode cX6_needed 31 = .ok (.ifCond .lt 65, 3) := by decide +kernel
theorem dX6_needed_34 : decode cX6_needed 34 = .ok (.iload_n 3, 1) := by decide +kernel
theorem dX6_needed_35 : decode cX6_needed 35 = .ok (.ifCond .ne 61, 3) := by decide +kernel
theorem dX6_needed_38 : decode cX6_needed 38 = .ok (.iload_n 1, 1) := by decide +kernel
theorem dX6_needed_39 : decode cX6_needed 39 = .ok (.iload 4, 2) := by decide +kernel
theorem dX6_needed_41 : decode cX6_needed 41 = .ok (.ishr, 1) := by decide +kernel
theorem dX6_needed_42 : decode cX6_needed 42 = .ok (.iconst 1, 1) := by decide +kernel
theorem dX6_needed_43 : decode cX6_needed 43 = .ok (.iand, 1) := by decide +kernel
theorem dX6_needed_44 : decode cX6_needed 44 = .ok (.ifCond .ne 17, 3) := by decide +kernel
theorem dX6_needed_47 : decode cX6_needed 47 = .ok (.aload_n 0, 1) := by decide +kernel
theorem dX6_needed_48 : decode cX6_needed 48 = .ok (.iload 4, 2) := by decide +kernel
theorem dX6_needed_50 : decode cX6_needed 50 = .ok (.iload_n 1, 1) := by decide +kernel
theorem dX6_needed_51 : decode cX6_needed 51 = .ok (.invokevirtual 218, 3) := by decide +kernel
theorem dX6_needed_54 : decode cX6_needed 54 = .ok (.ifCond .eq 7, 3) := by decide +kernel
theorem dX6_needed_57 : decode cX6_needed 57 = .ok (.iconst 1, 1) := by decide +kernel
theorem dX6_needed_58 : decode cX6_needed 58 = .ok (.goto 4, 3) := by decide +kernel
theorem dX6_needed_61 : decode cX6_needed 61 = .ok (.iconst 0, 1) := by decide +kernel
theorem dX6_needed_62 : decode cX6_needed 62 = .ok (.istore_n 3, 1) := by decide +kernel
theorem dX6_needed_63 : decode cX6_needed 63 = .ok (.iload_n 1, 1) := by decide +kernel
theorem dX6_needed_64 : decode cX6_needed 64 = .ok (.iload_n 3, 1) := by decide +kernel
theorem dX6_needed_65 : decode cX6_needed 65 = .ok (.ifCond .eq 10, 3) := by decide +kernel
theorem dX6_needed_68 : decode cX6_needed 68 = .ok (.iconst 1, 1) := by decide +kernel
theorem dX6_needed_69 : decode cX6_needed 69 = .ok (.iload 4, 2) := by decide +kernel
theorem dX6_needed_71 : decode cX6_needed 71 = .ok (.ishl, 1) := by decide +kernel
theorem dX6_needed_72 : decode cX6_needed 72 = .ok (.goto 4, 3) := by decide +kernel
theorem dX6_needed_75 : decode cX6_needed 75 = .ok (.iconst 0, 1) := by decide +kernel
theorem dX6_needed_76 : decode cX6_needed 76 = .ok (.ior, 1) := by decide +kernel
theorem dX6_needed_77 : decode cX6_needed 77 = .ok (.istore_n 1, 1) := by decide +kernel
theorem dX6_needed_78 : decode cX6_needed 78 = .ok (.iload_n 2, 1) := by decide +kernel
theorem dX6_needed_79 : decode cX6_needed 79 = .ok (.iload_n 3, 1) := by decide +kernel
theorem dX6_needed_80 : decode cX6_needed 80 = .ok (.ifCond .eq 7, 3) := by decide +kernel
theorem dX6_needed_83 : decode cX6_needed 83 = .ok (.iconst 1, 1) := by decide +kernel
theorem dX6_needed_84 : decode cX6_needed 84 = .ok (.goto 4, 3) := by decide +kernel
theorem dX6_needed_87 : decode cX6_needed 87 = .ok (.iconst 0, 1) := by decide +kernel
theorem dX6_needed_88 : decode cX6_needed 88 = .ok (.isub, 1) := by decide +kernel
theorem dX6_needed_89 : decode cX6_needed 89 = .ok (.istore_n 2, 1) := by decide +kernel
theorem dX6_needed_90 : decode cX6_needed 90 = .ok (.iinc 4 (-1), 3) := by decide +kernel
theorem dX6_needed_93 : decode cX6_needed 93 = .ok (.goto (-64), 3) := by decide +kernel
theorem dX6_needed_96 : decode cX6_needed 96 = .ok (.goto (-84), 3) := by decide +kernel
theorem dX6_needed_99 : decode cX6_needed 99 = .ok (.iload_n 2, 1) := by decide +kernel
theorem dX6_needed_100 : decode cX6_needed 100 = .ok (.ireturn, 1) := by decide +kernel
theorem dX6_sumOf_0 : decode cX6_sumOf 0 = .ok (.iconst 0, 1) := by decide +kernel
theorem dX6_sumOf_1 : decode cX6_sumOf 1 = .ok (.istore_n 3, 1) := by decide +kernel
theorem dX6_sumOf_2 : decode cX6_sumOf 2 = .ok (.iconst 0, 1) := by decide +kernel
theorem dX6_sumOf_3 : decode cX6_sumOf 3 = .ok (.istore 4, 2) := by decide +kernel
theorem dX6_sumOf_5 : decode cX6_sumOf 5 = .ok (.iload 4, 2) := by decide +kernel
theorem dX6_sumOf_7 : decode cX6_sumOf 7 = .ok (.aload_n 0, 1) := by decide +kernel
theorem dX6_sumOf_8 : decode cX6_sumOf 8 = .ok (.getfield 7, 3) := by decide +kernel
theorem dX6_sumOf_11 : decode cX6_sumOf 11 = .ok (.bipush 13, 2) := by decide +kernel
theorem dX6_sumOf_13 : decode cX6_sumOf 13 = .ok (.iaload, 1) := by decide +kernel
theorem dX6_sumOf_14 : decode cX6_sumOf 14 = .ok (.if_icmp .ge 69, 3) := by decide +kernel
theorem dX6_sumOf_17 : decode cX6_sumOf 17 = .ok (.iload_n 2, 1) := by decide +kernel
theorem dX6_sumOf_18 : decode cX6_sumOf 18 = .ok (.ifCond .ne 7, 3) := by decide +kernel
theorem dX6_sumOf_21 : decode cX6_sumOf 21 = .ok (.iconst 1, 1) := by decide +kernel
theorem dX6_sumOf_22 : decode cX6_sumOf 22 = .ok (.goto 33, 3) := by decide +kernel
theorem dX6_sumOf_25 : decode cX6_sumOf 25 = .ok (.iload_n 2, 1) := by decide +kernel
theorem dX6_sumOf_26 : decode cX6_sumOf 26 = .ok (.iconst 4, 1) := by decide +kernel
theorem dX6_sumOf_27 : decode cX6_sumOf 27 = .ok (.if_icmp .ne 12, 3) := by decide +kernel
theorem dX6_sumOf_30 : decode cX6_sumOf 30 = .ok (.aload_n 0, 1) := by decide +kernel
theorem dX6_sumOf_31 : decode cX6_sumOf 31 = .ok (.iload 4, 2) := by decide +kernel
theorem dX6_sumOf_33 : decode cX6_sumOf 33 = .ok (.invokevirtual 148, 3) := by decide +kernel
theorem dX6_sumOf_36 : decode cX6_sumOf 36 = .ok (.goto 19, 3) := by decide +kernel
theorem dX6_sumOf_39 : decode cX6_sumOf 39 = .ok (.aload_n 0, 1) := by decide +kernel
theorem dX6_sumOf_40 : decode cX6_sumOf 40 = .ok (.iload 4, 2) := by decide +kernel
theorem dX6_sumOf_42 : decode cX6_sumOf 42 = .ok (.iload_n 2, 1) := by decide +kernel
theorem dX6_sumOf_43 : decode cX6_sumOf 43 = .ok (.iconst 5, 1) := by decide +kernel
theorem dX6_sumOf_44 : decode cX6_sumOf 44 = .ok (.if_icmp .ne 7, 3) := by decide +kernel
theorem dX6_sumOf_47 : decode cX6_sumOf 47 = .ok (.iconst 2, 1) := by decide +kernel
theorem dX6_sumOf_48 : decode cX6_sumOf 48 = .ok (.goto 4, 3) := by decide +kernel
theorem dX6_sumOf_51 : decode cX6_sumOf 51 = .ok (.iconst 3, 1) := by decide +kernel
theorem dX6_sumOf_52 : decode cX6_sumOf 52 = .ok (.invokevirtual 50, 3) := by decide +kernel
theorem dX6_sumOf_55 : decode cX6_sumOf 55 = .ok (.istore 5, 2) := by decide +kernel
theorem dX6_sumOf_57 : decode cX6_sumOf 57 = .ok (.iload_n 3, 1) := by decide +kernel
theorem dX6_sumOf_58 : decode cX6_sumOf 58 = .ok (.aload_n 0, 1) := by decide +kernel
theorem dX6_sumOf_59 : decode cX6_sumOf 59 = .ok (.iload 4, 2) := by decide +kernel
theorem dX6_sumOf_61 : decode cX6_sumOf 61 = .ok (.iconst 4, 1) := by decide +kernel
theorem dX6_sumOf_62 : decode cX6_sumOf 62 = .ok (.invokevirtual 50, 3) := by decide +kernel
theorem dX6_sumOf_65 : decode cX6_sumOf 65 = .ok (.iload_n 1, 1) := by decide +kernel
theorem dX6_sumOf_66 : decode cX6_sumOf 66 = .ok (.if_icmp .ne 8, 3) := by decide +kernel
theorem dX6_sumOf_69 : decode cX6_sumOf 69 = .ok (.iload 5, 2) := by decide +kernel
theorem dX6_sumOf_71 : decode cX6_sumOf 71 = .ok (.goto 4, 3) := by decide +kernel
theorem dX6_sumOf_74 : decode cX6_sumOf 74 = .ok (.iconst 0, 1) := by decide +kernel
theorem dX6_sumOf_75 : decode cX6_sumOf 75 = .ok (.iadd, 1) := by decide +kernel
theorem dX6_sumOf_76 : decode cX6_sumOf 76 = .ok (.istore_n 3, 1) := by decide +kernel
theorem dX6_sumOf_77 : decode cX6_sumOf 77 = .ok (.iinc 4 1, 3) := by decide +kernel
theorem dX6_sumOf_80 : decode cX6_sumOf 80 = .ok (.goto (-75), 3) := by decide +kernel
theorem dX6_sumOf_83 : decode cX6_sumOf 83 = .ok (.iload_n 3, 1) := by decide +kernel
theorem dX6_sumOf_84 : decode cX6_sumOf 84 = .ok (.ireturn, 1) := by decide +kernel
theorem dX6_endOf_0 : decode cX6_endOf 0 = .ok (.sipush (-999), 3) := by decide +kernel
theorem dX6_endOf_3 : decode cX6_endOf 3 = .ok (.istore_n 3, 1) := by decide +kernel
theorem dX6_endOf_4 : decode cX6_endOf 4 = .ok (.iconst 0, 1) := by decide +kernel
theorem dX6_endOf_5 : decode cX6_endOf 5 = .ok (.istore 4, 2) := by decide +kernel
theorem dX6_endOf_7 : decode cX6_endOf 7 = .ok (.iload 4, 2) := by decide +kernel
theorem dX6_endOf_9 : decode cX6_endOf 9 = .ok (.aload_n 0, 1) := by decide +kernel
theorem dX6_endOf_10 : decode cX6_endOf 10 = .ok (.getfield 7, 3) := by decide +kernel
theorem dX6_endOf_13 : decode cX6_endOf 13 = .ok (.bipush 13, 2) := by decide +kernel
theorem dX6_endOf_15 : decode cX6_endOf 15 = .ok (.iaload, 1) := by decide +kernel
theorem dX6_endOf_16 : decode cX6_endOf 16 = .ok (.if_icmp .ge 70, 3) := by decide +kernel
theorem dX6_endOf_19 : decode cX6_endOf 19 = .ok (.aload_n 0, 1) := by decide +kernel
theorem dX6_endOf_20 : decode cX6_endOf 20 = .ok (.iload 4, 2) := by decide +kernel
theorem dX6_endOf_22 : decode cX6_endOf 22 = .ok (.iload_n 2, 1) := by decide +kernel
theorem dX6_endOf_23 : decode cX6_endOf 23 = .ok (.ifCond .eq 7, 3) := by decide +kernel
theorem dX6_endOf_26 : decode cX6_endOf 26 = .ok (.iconst 1, 1) := by decide +kernel
theorem dX6_endOf_27 : decode cX6_endOf 27 = .ok (.goto 4, 3) := by decide +kernel
theorem dX6_endOf_30 : decode cX6_endOf 30 = .ok (.iconst 0, 1) := by decide +kernel
theorem dX6_endOf_31 : decode cX6_endOf 31 = .ok (.invokevirtual 50, 3) := by decide +kernel
theorem dX6_endOf_34 : decode cX6_endOf 34 = .ok (.istore 5, 2) := by decide +kernel
theorem dX6_endOf_36 : decode cX6_endOf 36 = .ok (.aload_n 0, 1) := by decide +kernel
theorem dX6_endOf_37 : decode cX6_endOf 37 = .ok (.iload 4, 2) := by decide +kernel
theorem dX6_endOf_39 : decode cX6_endOf 39 = .ok (.iconst 4, 1) := by decide +kernel
theorem dX6_endOf_40 : decode cX6_endOf 40 = .ok (.invokevirtual 50, 3) := by decide +kernel
theorem dX6_endOf_43 : decode cX6_endOf 43 = .ok (.iload_n 1, 1) := by decide +kernel
theorem dX6_endOf_44 : decode cX6_endOf 44 = .ok (.if_icmp .ne 34, 3) := by decide +kernel
theorem dX6_endOf_47 : decode cX6_endOf 47 = .ok (.iload_n 3, 1) := by decide +kernel
theorem dX6_endOf_48 : decode cX6_endOf 48 = .ok (.sipush (-999), 3) := by decide +kernel
theorem dX6_endOf_51 : decode cX6_endOf 51 = .ok (.if_icmp .eq 22, 3) := by decide +kernel
theorem dX6_endOf_54 : decode cX6_endOf 54 = .ok (.iload_n 2, 1) := by decide +kernel
theorem dX6_endOf_55 : decode cX6_endOf 55 = .ok (.ifCond .eq 12, 3) := by decide +kernel
theorem dX6_endOf_58 : decode cX6_endOf 58 = .ok (.iload 5, 2) := by decide +kernel
theorem dX6_endOf_60 : decode cX6_endOf 60 = .ok (.iload_n 3, 1) := by decide +kernel
theorem dX6_endOf_61 : decode cX6_endOf 61 = .ok (.if_icmp .le 17, 3) := by decide +kernel
theorem dX6_endOf_64 : decode cX6_endOf 64 = .ok (.goto 9, 3) := by decide +kernel
theorem dX6_endOf_67 : decode cX6_endOf 67 = .ok (.iload 5, 2) := by decide +kernel
theorem dX6_endOf_69 : decode cX6_endOf 69 = .ok (.iload_n 3, 1) := by decide +kernel
theorem dX6_endOf_70 : decode cX6_endOf 70 = .ok (.if_icmp .ge 8, 3) := by decide +kernel
theorem dX6_endOf_73 : decode cX6_endOf 73 = .ok (.iload 5, 2) := by decide +kernel
theorem dX6_endOf_75 : decode cX6_endOf 75 = .ok (.goto 4, 3) := by decide +kernel
theorem dX6_endOf_78 : decode cX6_endOf 78 = .ok (.iload_n 3, 1) := by decide +kernel
theorem dX6_endOf_79 : decode cX6_endOf 79 = .ok (.istore_n 3, 1) := by decide +kernel
theorem dX6_endOf_80 : decode cX6_endOf 80 = .ok (.iinc 4 1, 3) := by decide +kernel
theorem dX6_endOf_83 : decode cX6_endOf 83 = .ok (.goto (-76), 3) := by decide +kernel
theorem dX6_endOf_86 : decode cX6_endOf 86 = .ok (.iload_n 3, 1) := by decide +kernel
theorem dX6_endOf_87 : decode cX6_endOf 87 = .ok (.ireturn, 1) := by decide +kernel
theorem dX6_isClosed_0 : decode cX6_isClosed 0 = .ok (.aload_n 0, 1) := by decide +kernel
theorem dX6_isClosed_1 : decode cX6_isClosed 1 = .ok (.iload_n 1, 1) := by decide +kernel
theorem dX6_isClosed_2 : decode cX6_isClosed 2 = .ok (.iconst 0, 1) := by decide +kernel
theorem dX6_isClosed_3 : decode cX6_isClosed 3 = .ok (.invokevirtual 233, 3) := by decide +kernel
theorem dX6_isClosed_6 : decode cX6_isClosed 6 = .ok (.istore_n 2, 1) := by decide +kernel
theorem dX6_isClosed_7 : decode cX6_isClosed 7 = .ok (.iconst 0, 1) := by decide +kernel
theorem dX6_isClosed_8 : decode cX6_isClosed 8 = .ok (.istore_n 3, 1) := by decide +kernel
theorem dX6_isClosed_9 : decode cX6_isClosed 9 = .ok (.iconst 1, 1) := by decide +kernel
theorem dX6_isClosed_10 : decode cX6_isClosed 10 = .ok (.istore 4, 2) := by decide +kernel
theorem dX6_isClosed_12 : decode cX6_isClosed 12 = .ok (.iload 4, 2) := by decide +kernel
theorem dX6_isClosed_14 : decode cX6_isClosed 14 = .ok (.ifCond .eq 136, 3) := by decide +kernel
theorem dX6_isClosed_17 : decode cX6_isClosed 17 = .ok (.sipush (-999), 3) := by decide +kernel
theorem dX6_isClosed_20 : decode cX6_isClosed 20 = .ok (.istore 5, 2) := by decide +kernel
theorem dX6_isClosed_22 : decode cX6_isClosed 22 = .ok (.iconst 0, 1) := by decide +kernel
theorem dX6_isClosed_23 : decode cX6_isClosed 23 = .ok (.istore 6, 2) := by decide +kernel
theorem dX6_isClosed_25 : decode cX6_isClosed 25 = .ok (.iconst 0, 1) := by decide +kernel
theorem dX6_isClosed_26 : decode cX6_isClosed 26 = .ok (.istore 7, 2) := by decide +kernel
theorem dX6_isClosed_28 : decode cX6_isClosed 28 = .ok (.iload 7, 2) := by decide +kernel
theorem dX6_isClosed_30 : decode cX6_isClosed 30 = .ok (.aload_n 0, 1) := by decide +kernel
theorem dX6_isClosed_31 : decode cX6_isClosed 31 = .ok (.getfield 7, 3) := by decide +kernel
theorem dX6_isClosed_34 : decode cX6_isClosed 34 = .ok (.bipush 13, 2) := by decide +kernel
theorem dX6_isClosed_36 : decode cX6_isClosed 36 = .ok (.iaload, 1) := by decide +kernel
theorem dX6_isClosed_37 : decode cX6_isClosed 37 = .ok (.if_icmp .ge 67, 3) := by decide +kernel
theorem dX6_isClosed_40 : decode cX6_isClosed 40 = .ok (.aload_n 0, 1) := by decide +kernel
theorem dX6_isClosed_41 : decode cX6_isClosed 41 = .ok (.iload 7, 2) := by decide +kernel
theorem dX6_isClosed_43 : decode cX6_isClosed 43 = .ok (.iconst 4, 1) := by decide +kernel
theorem dX6_isClosed_44 : decode cX6_isClosed 44 = .ok (.invokevirtual 50, 3) := by decide +kernel
theorem dX6_isClosed_47 : decode cX6_isClosed 47 = .ok (.iload_n 1, 1) := by decide +kernel
theorem dX6_isClosed_48 : decode cX6_isClosed 48 = .ok (.if_icmp .ne 18, 3) := by decide +kernel
theorem dX6_isClosed_51 : decode cX6_isClosed 51 = .ok (.aload_n 0, 1) := by decide +kernel
theorem dX6_isClosed_52 : decode cX6_isClosed 52 = .ok (.iload 7, 2) := by decide +kernel
theorem dX6_isClosed_54 : decode cX6_isClosed 54 = .ok (.iconst 0, 1) := by decide +kernel
theorem dX6_isClosed_55 : decode cX6_isClosed 55 = .ok (.invokevirtual 50, 3) := by decide +kernel
theorem dX6_isClosed_58 : decode cX6_isClosed 58 = .ok (.iload_n 2, 1) := by decide +kernel
theorem dX6_isClosed_59 : decode cX6_isClosed 59 = .ok (.if_icmp .ne 7, 3) := by decide +kernel
theorem dX6_isClosed_62 : decode cX6_isClosed 62 = .ok (.iconst 1, 1) := by decide +kernel
theorem dX6_isClosed_63 : decode cX6_isClosed 63 = .ok (.goto 4, 3) := by decide +kernel
theorem dX6_isClosed_66 : decode cX6_isClosed 66 = .ok (.iconst 0, 1) := by decide +kernel
theorem dX6_isClosed_67 : decode cX6_isClosed 67 = .ok (.istore 8, 2) := by decide +kernel
theorem dX6_isClosed_69 : decode cX6_isClosed 69 = .ok (.iload 8, 2) := by decide +kernel
theorem dX6_isClosed_71 : decode cX6_isClosed 71 = .ok (.ifCond .eq 8, 3) := by decide +kernel
theorem dX6_isClosed_74 : decode cX6_isClosed 74 = .ok (.iload 7, 2) := by decide +kernel
theorem dX6_isClosed_76 : decode cX6_isClosed 76 = .ok (.goto 5, 3) := by decide +kernel
theorem dX6_isClosed_79 : decode cX6_isClosed 79 = .ok (.iload 5, 2) := by decide +kernel
theorem dX6_isClosed_81 : decode cX6_isClosed 81 = .ok (.istore 5, 2) := by decide +kernel
theorem dX6_isClosed_83 : decode cX6_isClosed 83 = .ok (.iload 6, 2) := by decide +kernel
theorem dX6_isClosed_85 : decode cX6_isClosed 85 = .ok (.iload 8, 2) := by decide +kernel
theorem dX6_isClosed_87 : decode cX6_isClosed 87 = .ok (.ifCond .eq 7, 3) := by decide +kernel
theorem dX6_isClosed_90 : decode cX6_isClosed 90 = .ok (.iconst 1, 1) := by decide +kernel
theorem dX6_isClosed_91 : decode cX6_isClosed 91 = .ok (.goto 4, 3) := by decide +kernel
theorem dX6_isClosed_94 : decode cX6_isClosed 94 = .ok (.iconst 0, 1) := by decide +kernel
theorem dX6_isClosed_95 : decode cX6_isClosed 95 = .ok (.iadd, 1) := by decide +kernel
theorem dX6_isClosed_96 : decode cX6_isClosed 96 = .ok (.istore 6, 2) := by decide +kernel
theorem dX6_isClosed_98 : decode cX6_isClosed 98 = .ok (.iinc 7 1, 3) := by decide +kernel
theorem dX6_isClosed_101 : decode cX6_isClosed 101 = .ok (.goto (-73), 3) := by decide +kernel
theorem dX6_isClosed_104 : decode cX6_isClosed 104 = .ok (.iload 6, 2) := by decide +kernel
theorem dX6_isClosed_106 : decode cX6_isClosed 106 = .ok (.iconst 1, 1) := by decide +kernel
theorem dX6_isClosed_107 : decode cX6_isClosed 107 = .ok (.if_icmp .ne 7, 3) := by decide +kernel
theorem dX6_isClosed_110 : decode cX6_isClosed 110 = .ok (.iconst 1, 1) := by decide +kernel
theorem dX6_isClosed_111 : decode cX6_isClosed 111 = .ok (.goto 4, 3) := by decide +kernel
theorem dX6_isClosed_114 : decode cX6_isClosed 114 = .ok (.iconst 0, 1) := by decide +kernel
theorem dX6_isClosed_115 : decode cX6_isClosed 115 = .ok (.istore 4, 2) := by decide +kernel
theorem dX6_isClosed_117 : decode cX6_isClosed 117 = .ok (.iload_n 3, 1) := by decide +kernel
theorem dX6_isClosed_118 : decode cX6_isClosed 118 = .ok (.iload 4, 2) := by decide +kernel
theorem dX6_isClosed_120 : decode cX6_isClosed 120 = .ok (.ifCond .eq 7, 3) := by decide +kernel
theorem dX6_isClosed_123 : decode cX6_isClosed 123 = .ok (.iconst 1, 1) := by decide +kernel
theorem dX6_isClosed_124 : decode cX6_isClosed 124 = .ok (.goto 4, 3) := by decide +kernel
theorem dX6_isClosed_127 : decode cX6_isClosed 127 = .ok (.iconst 0, 1) := by decide +kernel
theorem dX6_isClosed_128 : decode cX6_isClosed 128 = .ok (.iadd, 1) := by decide +kernel
theorem dX6_isClosed_129 : decode cX6_isClosed 129 = .ok (.istore_n 3, 1) := by decide +kernel
theorem dX6_isClosed_130 : decode cX6_isClosed 130 = .ok (.iload 4, 2) := by decide +kernel
theorem dX6_isClosed_132 : decode cX6_isClosed 132 = .ok (.ifCond .eq 13, 3) := by decide +kernel
theorem dX6_isClosed_135 : decode cX6_isClosed 135 = .ok (.aload_n 0, 1) := by decide +kernel
theorem dX6_isClosed_136 : decode cX6_isClosed 136 = .ok (.iload 5, 2) := by decide +kernel
theorem dX6_isClosed_138 : decode cX6_isClosed 138 = .ok (.iconst 1, 1) := by decide +kernel
theorem dX6_isClosed_139 : decode cX6_isClosed 139 = .ok (.invokevirtual 50, 3) := by decide +kernel
theorem dX6_isClosed_142 : decode cX6_isClosed 142 = .ok (.goto 4, 3) := by decide +kernel
theorem dX6_isClosed_145 : decode cX6_isClosed 145 = .ok (.iload_n 2, 1) := by decide +kernel
theorem dX6_isClosed_146 : decode cX6_isClosed 146 = .ok (.istore_n 2, 1) := by decide +kernel
theorem dX6_isClosed_147 : decode cX6_isClosed 147 = .ok (.goto (-135), 3) := by decide +kernel
theorem dX6_isClosed_150 : decode cX6_isClosed 150 = .ok (.iload_n 3, 1) := by decide +kernel
theorem dX6_isClosed_151 : decode cX6_isClosed 151 = .ok (.aload_n 0, 1) := by decide +kernel
theorem dX6_isClosed_152 : decode cX6_isClosed 152 = .ok (.iload_n 1, 1) := by decide +kernel
theorem dX6_isClosed_153 : decode cX6_isClosed 153 = .ok (.iconst 0, 1) := by decide +kernel
theorem dX6_isClosed_154 : decode cX6_isClosed 154 = .ok (.invokevirtual 237, 3) := by decide +kernel
theorem dX6_isClosed_157 : decode cX6_isClosed 157 = .ok (.if_icmp .ne 7, 3) := by decide +kernel
theorem dX6_isClosed_160 : decode cX6_isClosed 160 = .ok (.iconst 1, 1) := by decide +kernel
theorem dX6_isClosed_161 : decode cX6_isClosed 161 = .ok (.goto 4, 3) := by decide +kernel
theorem dX6_isClosed_164 : decode cX6_isClosed 164 = .ok (.iconst 0, 1) := by decide +kernel
theorem dX6_isClosed_165 : decode cX6_isClosed 165 = .ok (.ireturn, 1) := by decide +kernel
theorem dX6_over_0 : decode cX6_over 0 = .ok (.iconst 0, 1) := by decide +kernel
theorem dX6_over_1 : decode cX6_over 1 = .ok (.istore_n 2, 1) := by decide +kernel
theorem dX6_over_2 : decode cX6_over 2 = .ok (.iload_n 2, 1) := by decide +kernel
theorem dX6_over_3 : decode cX6_over 3 = .ok (.aload_n 0, 1) := by decide +kernel
theorem dX6_over_4 : decode cX6_over 4 = .ok (.getfield 7, 3) := by decide +kernel
theorem dX6_over_7 : decode cX6_over 7 = .ok (.bipush 13, 2) := by decide +kernel
theorem dX6_over_9 : decode cX6_over 9 = .ok (.iaload, 1) := by decide +kernel
theorem dX6_over_10 : decode cX6_over 10 = .ok (.if_icmp .ge 51, 3) := by decide +kernel
theorem dX6_over_13 : decode cX6_over 13 = .ok (.aload_n 0, 1) := by decide +kernel
theorem dX6_over_14 : decode cX6_over 14 = .ok (.iload_n 2, 1) := by decide +kernel
theorem dX6_over_15 : decode cX6_over 15 = .ok (.iconst 4, 1) := by decide +kernel
theorem dX6_over_16 : decode cX6_over 16 = .ok (.invokevirtual 50, 3) := by decide +kernel
theorem dX6_over_19 : decode cX6_over 19 = .ok (.iload_n 1, 1) := by decide +kernel
theorem dX6_over_20 : decode cX6_over 20 = .ok (.if_icmp .eq 35, 3) := by decide +kernel
theorem dX6_over_23 : decode cX6_over 23 = .ok (.aload_n 0, 1) := by decide +kernel
theorem dX6_over_24 : decode cX6_over 24 = .ok (.iload_n 2, 1) := by decide +kernel
theorem dX6_over_25 : decode cX6_over 25 = .ok (.iconst 0, 1) := by decide +kernel
theorem dX6_over_26 : decode cX6_over 26 = .ok (.invokevirtual 50, 3) := by decide +kernel
theorem dX6_over_29 : decode cX6_over 29 = .ok (.aload_n 0, 1) := by decide +kernel
theorem dX6_over_30 : decode cX6_over 30 = .ok (.iload_n 1, 1) := by decide +kernel
theorem dX6_over_31 : decode cX6_over 31 = .ok (.iconst 0, 1) := by decide +kernel
theorem dX6_over_32 : decode cX6_over 32 = .ok (.invokevirtual 233, 3) := by decide +kernel
theorem dX6_over_35 : decode cX6_over 35 = .ok (.if_icmp .ne 20, 3) := by decide +kernel
theorem dX6_over_38 : decode cX6_over 38 = .ok (.aload_n 0, 1) := by decide +kernel
theorem dX6_over_39 : decode cX6_over 39 = .ok (.iload_n 2, 1) := by decide +kernel
theorem dX6_over_40 : decode cX6_over 40 = .ok (.iconst 1, 1) := by decide +kernel
theorem dX6_over_41 : decode cX6_over 41 = .ok (.invokevirtual 50, 3) := by decide +kernel
theorem dX6_over_44 : decode cX6_over 44 = .ok (.aload_n 0, 1) := by decide +kernel
theorem dX6_over_45 : decode cX6_over 45 = .ok (.iload_n 1, 1) := by decide +kernel
theorem dX6_over_46 : decode cX6_over 46 = .ok (.iconst 1, 1) := by decide +kernel
theorem dX6_over_47 : decode cX6_over 47 = .ok (.invokevirtual 233, 3) := by decide +kernel
theorem dX6_over_50 : decode cX6_over 50 = .ok (.if_icmp .ne 5, 3) := by decide +kernel
theorem dX6_over_53 : decode cX6_over 53 = .ok (.iload_n 2, 1) := by decide +kernel
theorem dX6_over_54 : decode cX6_over 54 = .ok (.ireturn, 1) := by decide +kernel
theorem dX6_over_55 : decode cX6_over 55 = .ok (.iinc 2 1, 3) := by decide +kernel
theorem dX6_over_58 : decode cX6_over 58 = .ok (.goto (-56), 3) := by decide +kernel
theorem dX6_over_61 : decode cX6_over 61 = .ok (.sipush (-999), 3) := by decide +kernel
theorem dX6_over_64 : decode cX6_over 64 = .ok (.ireturn, 1) := by decide +kernel
theorem dX6_laneOfChain_0 : decode cX6_laneOfChain 0 = .ok (.aload_n 0, 1) := by decide +kernel
theorem dX6_laneOfChain_1 : decode cX6_laneOfChain 1 = .ok (.invokevirtual 212, 3) := by decide +kernel
theorem dX6_laneOfChain_4 : decode cX6_laneOfChain 4 = .ok (.iconst 0, 1) := by decide +kernel
theorem dX6_laneOfChain_5 : decode cX6_laneOfChain 5 = .ok (.istore_n 2, 1) := by decide +kernel
theorem dX6_laneOfChain_6 : decode cX6_laneOfChain 6 = .ok (.aload_n 0, 1) := by decide +kernel
theorem dX6_laneOfChain_7 : decode cX6_laneOfChain 7 = .ok (.iload_n 2, 1) := by decide +kernel
theorem dX6_laneOfChain_8 : decode cX6_laneOfChain 8 = .ok (.iconst 4, 1) := by decide +kernel
theorem dX6_laneOfChain_9 : decode cX6_laneOfChain 9 = .ok (.invokevirtual 50, 3) := by decide +kernel
theorem dX6_laneOfChain_12 : decode cX6_laneOfChain 12 = .ok (.iload_n 1, 1) := by decide +kernel
theorem dX6_laneOfChain_13 : decode cX6_laneOfChain 13 = .ok (.if_icmp .eq 9, 3) := by decide +kernel
theorem dX6_laneOfChain_16 : decode cX6_laneOfChain 16 = .ok (.iinc 2 1, 3) := by decide +kernel
theorem dX6_laneOfChain_19 : decode cX6_laneOfChain 19 = .ok (.goto (-13), 3) := by decide +kernel
theorem dX6_laneOfChain_22 : decode cX6_laneOfChain 22 = .ok (.aload_n 0, 1) := by decide +kernel
theorem dX6_laneOfChain_23 : decode cX6_laneOfChain 23 = .ok (.iload_n 2, 1) := by decide +kernel
theorem dX6_laneOfChain_24 : decode cX6_laneOfChain 24 = .ok (.invokevirtual 184, 3) := by decide +kernel
theorem dX6_laneOfChain_27 : decode cX6_laneOfChain 27 = .ok (.ireturn, 1) := by decide +kernel
theorem dX6_chain_0 : decode cX6_chain 0 = .ok (.iload_n 1, 1) := by decide +kernel
theorem dX6_chain_1 : decode cX6_chain 1 = .ok (.iconst 1, 1) := by decide +kernel
theorem dX6_chain_2 : decode cX6_chain 2 = .ok (.iconst 5, 1) := by decide +kernel
theorem dX6_chain_3 : decode cX6_chain 3 = .ok (.invokestatic 46, 3) := by decide +kernel
theorem dX6_chain_6 : decode cX6_chain 6 = .ok (.ifCond .eq 13, 3) := by decide +kernel
theorem dX6_chain_9 : decode cX6_chain 9 = .ok (.iload_n 2, 1) := by decide +kernel
theorem dX6_chain_10 : decode cX6_chain 10 = .ok (.iconst 0, 1) := by decide +kernel
theorem dX6_chain_11 : decode cX6_chain 11 = .ok (.bipush 8, 2) := by decide +kernel
theorem dX6_chain_13 : decode cX6_chain 13 = .ok (.invokestatic 46, 3) := by decide +kernel
theorem dX6_chain_16 : decode cX6_chain 16 = .ok (.ifCond .ne 5, 3) := by decide +kernel
theorem dX6_chain_19 : decode cX6_chain 19 = .ok (.iconst (-1), 1) := by decide +kernel
theorem dX6_chain_20 : decode cX6_chain 20 = .ok (.ireturn, 1) := by decide +kernel
theorem dX6_chain_21 : decode cX6_chain 21 = .ok (.iload_n 2, 1) := by decide +kernel
theorem dX6_chain_22 : decode cX6_chain 22 = .ok (.ifCond .eq 13, 3) := by decide +kernel
theorem dX6_chain_25 : decode cX6_chain 25 = .ok (.iload_n 2, 1) := by decide +kernel
theorem dX6_chain_26 : decode cX6_chain 26 = .ok (.iconst 4, 1) := by decide +kernel
theorem dX6_chain_27 : decode cX6_chain 27 = .ok (.bipush 6, 2) := by decide +kernel
theorem dX6_chain_29 : decode cX6_chain 29 = .ok (.invokestatic 46, 3) := by decide +kernel
theorem dX6_chain_32 : decode cX6_chain 32 = .ok (.ifCond .eq 10, 3) := by decide +kernel
theorem dX6_chain_35 : decode cX6_chain 35 = .ok (.aload_n 0, 1) := by decide +kernel
theorem dX6_chain_36 : decode cX6_chain 36 = .ok (.iload_n 1, 1) := by decide +kernel
theorem dX6_chain_37 : decode cX6_chain 37 = .ok (.iload_n 2, 1) := by decide +kernel
theorem dX6_chain_38 : decode cX6_chain 38 = .ok (.invokevirtual 237, 3) := by decide +kernel
theorem dX6_chain_41 : decode cX6_chain 41 = .ok (.ireturn, 1) := by decide +kernel
theorem dX6_chain_42 : decode cX6_chain 42 = .ok (.aload_n 0, 1) := by decide +kernel
theorem dX6_chain_43 : decode cX6_chain 43 = .ok (.iload_n 1, 1) := by decide +kernel
theorem dX6_chain_44 : decode cX6_chain 44 = .ok (.iconst 0, 1) := by decide +kernel
theorem dX6_chain_45 : decode cX6_chain 45 = .ok (.invokevirtual 237, 3) := by decide +kernel
theorem dX6_chain_48 : decode cX6_chain 48 = .ok (.ifCond .ne 7, 3) := by decide +kernel
theorem dX6_chain_51 : decode cX6_chain 51 = .ok (.sipush (-999), 3) := by decide +kernel
theorem dX6_chain_54 : decode cX6_chain 54 = .ok (.ireturn, 1) := by decide +kernel
theorem dX6_chain_55 : decode cX6_chain 55 = .ok (.iload_n 2, 1) := by decide +kernel
theorem dX6_chain_56 : decode cX6_chain 56 = .ok (.tableswitch 86 1 7 #[44, 55, 66, 86, 86, 86, 80], 44) := by decide +kernel
theorem dX6_chain_100 : decode cX6_chain 100 = .ok (.aload_n 0, 1) := by decide +kernel
theorem dX6_chain_101 : decode cX6_chain 101 = .ok (.aload_n 0, 1) := by decide +kernel
theorem dX6_chain_102 : decode cX6_chain 102 = .ok (.iload_n 1, 1) := by decide +kernel
theorem dX6_chain_103 : decode cX6_chain 103 = .ok (.iconst 0, 1) := by decide +kernel
theorem dX6_chain_104 : decode cX6_chain 104 = .ok (.invokevirtual 233, 3) := by decide +kernel
theorem dX6_chain_107 : decode cX6_chain 107 = .ok (.invokevirtual 54, 3) := by decide +kernel
theorem dX6_chain_110 : decode cX6_chain 110 = .ok (.ireturn, 1) := by decide +kernel
theorem dX6_chain_111 : decode cX6_chain 111 = .ok (.aload_n 0, 1) := by decide +kernel
theorem dX6_chain_112 : decode cX6_chain 112 = .ok (.aload_n 0, 1) := by decide +kernel
theorem dX6_chain_113 : decode cX6_chain 113 = .ok (.iload_n 1, 1) := by decide +kernel
theorem dX6_chain_114 : decode cX6_chain 114 = .ok (.iconst 1, 1) := by decide +kernel
theorem dX6_chain_115 : decode cX6_chain 115 = .ok (.invokevirtual 233, 3) := by decide +kernel
theorem dX6_chain_118 : decode cX6_chain 118 = .ok (.invokevirtual 54, 3) := by decide +kernel
theorem dX6_chain_121 : decode cX6_chain 121 = .ok (.ireturn, 1) := by decide +kernel
theorem dX6_chain_122 : decode cX6_chain 122 = .ok (.aload_n 0, 1) := by decide +kernel
theorem dX6_chain_123 : decode cX6_chain 123 = .ok (.iload_n 1, 1) := by decide +kernel
theorem dX6_chain_124 : decode cX6_chain 124 = .ok (.invokevirtual 240, 3) := by decide +kernel
theorem dX6_chain_127 : decode cX6_chain 127 = .ok (.ifCond .eq 7, 3) := by decide +kernel
theorem dX6_chain_130 : decode cX6_chain 130 = .ok (.iconst 1, 1) := by decide +kernel
theorem dX6_chain_131 : decode cX6_chain 131 = .ok (.goto 4, 3) := by decide +kernel
theorem dX6_chain_134 : decode cX6_chain 134 = .ok (.iconst 0, 1) := by decide +kernel
theorem dX6_chain_135 : decode cX6_chain 135 = .ok (.ireturn, 1) := by decide +kernel
theorem dX6_chain_136 : decode cX6_chain 136 = .ok (.aload_n 0, 1) := by decide +kernel
theorem dX6_chain_137 : decode cX6_chain 137 = .ok (.iload_n 1, 1) := by decide +kernel
theorem dX6_chain_138 : decode cX6_chain 138 = .ok (.invokevirtual 243, 3) := by decide +kernel
theorem dX6_chain_141 : decode cX6_chain 141 = .ok (.ireturn, 1) := by decide +kernel
theorem dX6_chain_142 : decode cX6_chain 142 = .ok (.aload_n 0, 1) := by decide +kernel
theorem dX6_chain_143 : decode cX6_chain 143 = .ok (.iload_n 1, 1) := by decide +kernel
theorem dX6_chain_144 : decode cX6_chain 144 = .ok (.invokevirtual 246, 3) := by decide +kernel
theorem dX6_chain_147 : decode cX6_chain 147 = .ok (.ireturn, 1) := by decide +kernel
theorem dX6_ifArrow_0 : decode cX6_ifArrow 0 = .ok (.iload_n 1, 1) := by decide +kernel
theorem dX6_ifArrow_1 : decode cX6_ifArrow 1 = .ok (.iconst 1, 1) := by decide +kernel
theorem dX6_ifArrow_2 : decode cX6_ifArrow 2 = .ok (.bipush 9, 2) := by decide +kernel
theorem dX6_ifArrow_4 : decode cX6_ifArrow 4 = .ok (.invokestatic 46, 3) := by decide +kernel
theorem dX6_ifArrow_7 : decode cX6_ifArrow 7 = .ok (.ifCond .ne 5, 3) := by decide +kernel
theorem dX6_ifArrow_10 : decode cX6_ifArrow 10 = .ok (.iconst (-1), 1) := by decide +kernel
theorem dX6_ifArrow_11 : decode cX6_ifArrow 11 = .ok (.ireturn, 1) := by decide +kernel
theorem dX6_ifArrow_12 : decode cX6_ifArrow 12 = .ok (.aload_n 0, 1) := by decide +kernel
theorem dX6_ifArrow_13 : decode cX6_ifArrow 13 = .ok (.getfield 7, 3) := by decide +kernel
theorem dX6_ifArrow_16 : decode cX6_ifArrow 16 = .ok (.bipush 111, 2) := by decide +kernel
theorem dX6_ifArrow_18 : decode cX6_ifArrow 18 = .ok (.iaload, 1) := by decide +kernel
theorem dX6_ifArrow_19 : decode cX6_ifArrow 19 = .ok (.istore_n 2, 1) := by decide +kernel
theorem dX6_ifArrow_20 : decode cX6_ifArrow 20 = .ok (.aload_n 0, 1) := by decide +kernel
theorem dX6_ifArrow_21 : decode cX6_ifArrow 21 = .ok (.getfield 7, 3) := by decide +kernel
theorem dX6_ifArrow_24 : decode cX6_ifArrow 24 = .ok (.bipush 111, 2) := by decide +kernel
theorem dX6_ifArrow_26 : decode cX6_ifArrow 26 = .ok (.iload_n 1, 1) := by decide +kernel
theorem dX6_ifArrow_27 : decode cX6_ifArrow 27 = .ok (.iastore, 1) := by decide +kernel
theorem dX6_ifArrow_28 : decode cX6_ifArrow 28 = .ok (.aload_n 0, 1) := by decide +kernel
theorem dX6_ifArrow_29 : decode cX6_ifArrow 29 = .ok (.invokevirtual 212, 3) := by decide +kernel
theorem dX6_ifArrow_32 : decode cX6_ifArrow 32 = .ok (.aload_n 0, 1) := by decide +kernel
theorem dX6_ifArrow_33 : decode cX6_ifArrow 33 = .ok (.getfield 7, 3) := by decide +kernel
theorem dX6_ifArrow_36 : decode cX6_ifArrow 36 = .ok (.bipush 111, 2) := by decide +kernel
theorem dX6_ifArrow_38 : decode cX6_ifArrow 38 = .ok (.iload_n 2, 1) := by decide +kernel
theorem dX6_ifArrow_39 : decode cX6_ifArrow 39 = .ok (.iastore, 1) := by decide +kernel
theorem dX6_ifArrow_40 : decode cX6_ifArrow 40 = .ok (.aload_n 0, 1) := by decide +kernel
theorem dX6_ifArrow_41 : decode cX6_ifArrow 41 = .ok (.invokevirtual 249, 3) := by decide +kernel
theorem dX6_ifArrow_44 : decode cX6_ifArrow 44 = .ok (.ireturn, 1) := by decide +kernel
theorem dX6_units_0 : decode cX6_units 0 = .ok (.iconst 0, 1) := by decide +kernel
theorem dX6_units_1 : decode cX6_units 1 = .ok (.istore_n 1, 1) := by decide +kernel
theorem dX6_units_2 : decode cX6_units 2 = .ok (.iconst 0, 1) := by decide +kernel
theorem dX6_units_3 : decode cX6_units 3 = .ok (.istore_n 2, 1) := by decide +kernel
theorem dX6_units_4 : decode cX6_units 4 = .ok (.iload_n 2, 1) := by decide +kernel
theorem dX6_units_5 : decode cX6_units 5 = .ok (.aload_n 0, 1) := by decide +kernel
theorem dX6_units_6 : decode cX6_units 6 = .ok (.getfield 7, 3) := by decide +kernel
theorem dX6_units_9 : decode cX6_units 9 = .ok (.bipush 13, 2) := by decide +kernel
theorem dX6_units_11 : decode cX6_units 11 = .ok (.iaload, 1) := by decide +kernel
theorem dX6_units_12 : decode cX6_units 12 = .ok (.if_icmp .ge 26, 3) := by decide +kernel
theorem dX6_units_15 : decode cX6_units 15 = .ok (.iload_n 1, 1) := by decide +kernel
theorem dX6_units_16 : decode cX6_units 16 = .ok (.aload_n 0, 1) := by decide +kernel
theorem dX6_units_17 : decode cX6_units 17 = .ok (.iload_n 2, 1) := by decide +kernel
theorem dX6_units_18 : decode cX6_units 18 = .ok (.invokevirtual 157, 3) := by decide +kernel
theorem dX6_units_21 : decode cX6_units 21 = .ok (.iload_n 2, 1) := by decide +kernel
theorem dX6_units_22 : decode cX6_units 22 = .ok (.if_icmp .ne 7, 3) := by decide +kernel
theorem dX6_units_25 : decode cX6_units 25 = .ok (.iconst 1, 1) := by decide +kernel
theorem dX6_units_26 : decode cX6_units 26 = .ok (.goto 4, 3) := by decide +kernel
theorem dX6_units_29 : decode cX6_units 29 = .ok (.iconst 0, 1) := by decide +kernel
theorem dX6_units_30 : decode cX6_units 30 = .ok (.iadd, 1) := by decide +kernel
theorem dX6_units_31 : decode cX6_units 31 = .ok (.istore_n 1, 1) := by decide +kernel
theorem dX6_units_32 : decode cX6_units 32 = .ok (.iinc 2 1, 3) := by decide +kernel
theorem dX6_units_35 : decode cX6_units 35 = .ok (.goto (-31), 3) := by decide +kernel
theorem dX6_units_38 : decode cX6_units 38 = .ok (.iload_n 1, 1) := by decide +kernel
theorem dX6_units_39 : decode cX6_units 39 = .ok (.ireturn, 1) := by decide +kernel
theorem dX6_groups_0 : decode cX6_groups 0 = .ok (.aload_n 0, 1) := by decide +kernel
theorem dX6_groups_1 : decode cX6_groups 1 = .ok (.iconst 0, 1) := by decide +kernel
theorem dX6_groups_2 : decode cX6_groups 2 = .ok (.sipush (-999), 3) := by decide +kernel
theorem dX6_groups_5 : decode cX6_groups 5 = .ok (.invokevirtual 197, 3) := by decide +kernel
theorem dX6_groups_8 : decode cX6_groups 8 = .ok (.iconst 0, 1) := by decide +kernel
theorem dX6_groups_9 : decode cX6_groups 9 = .ok (.istore_n 1, 1) := by decide +kernel
theorem dX6_groups_10 : decode cX6_groups 10 = .ok (.iconst 0, 1) := by decide +kernel
theorem dX6_groups_11 : decode cX6_groups 11 = .ok (.istore_n 2, 1) := by decide +kernel
theorem dX6_groups_12 : decode cX6_groups 12 = .ok (.iload_n 2, 1) := by decide +kernel
theorem dX6_groups_13 : decode cX6_groups 13 = .ok (.aload_n 0, 1) := by decide +kernel
theorem dX6_groups_14 : decode cX6_groups 14 = .ok (.getfield 7, 3) := by decide +kernel
theorem dX6_groups_17 : decode cX6_groups 17 = .ok (.iconst 0, 1) := by decide +kernel
theorem dX6_groups_18 : decode cX6_groups 18 = .ok (.iaload, 1) := by decide +kernel
theorem dX6_groups_19 : decode cX6_groups 19 = .ok (.if_icmp .ge 25, 3) := by decide +kernel
theorem dX6_groups_22 : decode cX6_groups 22 = .ok (.iload_n 1, 1) := by decide +kernel
theorem dX6_groups_23 : decode cX6_groups 23 = .ok (.aload_n 0, 1) := by decide +kernel
theorem dX6_groups_24 : decode cX6_groups 24 = .ok (.iload_n 2, 1) := by decide +kernel
theorem dX6_groups_25 : decode cX6_groups 25 = .ok (.invokevirtual 206, 3) := by decide +kernel
theorem dX6_groups_28 : decode cX6_groups 28 = .ok (.ifCond .eq 7, 3) := by decide +kernel
theorem dX6_groups_31 : decode cX6_groups 31 = .ok (.iconst 1, 1) := by decide +kernel
theorem dX6_groups_32 : decode cX6_groups 32 = .ok (.goto 4, 3) := by decide +kernel
theorem dX6_groups_35 : decode cX6_groups 35 = .ok (.iconst 0, 1) := by decide +kernel
theorem dX6_groups_36 : decode cX6_groups 36 = .ok (.iadd, 1) := by decide +kernel
theorem dX6_groups_37 : decode cX6_groups 37 = .ok (.istore_n 1, 1) := by decide +kernel
theorem dX6_groups_38 : decode cX6_groups 38 = .ok (.iinc 2 1, 3) := by decide +kernel
theorem dX6_groups_41 : decode cX6_groups 41 = .ok (.goto (-29), 3) := by decide +kernel
theorem dX6_groups_44 : decode cX6_groups 44 = .ok (.iload_n 1, 1) := by decide +kernel
theorem dX6_groups_45 : decode cX6_groups 45 = .ok (.ireturn, 1) := by decide +kernel
theorem dX6_superfluous_0 : decode cX6_superfluous 0 = .ok (.iconst 0, 1) := by decide +kernel
theorem dX6_superfluous_1 : decode cX6_superfluous 1 = .ok (.istore_n 1, 1) := by decide +kernel
theorem dX6_superfluous_2 : decode cX6_superfluous 2 = .ok (.iconst 0, 1) := by decide +kernel
theorem dX6_superfluous_3 : decode cX6_superfluous 3 = .ok (.istore_n 2, 1) := by decide +kernel
theorem dX6_superfluous_4 : decode cX6_superfluous 4 = .ok (.iload_n 2, 1) := by decide +kernel
theorem dX6_superfluous_5 : decode cX6_superfluous 5 = .ok (.aload_n 0, 1) := by decide +kernel
theorem dX6_superfluous_6 : decode cX6_superfluous 6 = .ok (.getfield 7, 3) := by decide +kernel
theorem dX6_superfluous_9 : decode cX6_superfluous 9 = .ok (.bipush 13, 2) := by decide +kernel
theorem dX6_superfluous_11 : decode cX6_superfluous 11 = .ok (.iaload, 1) := by decide +kernel
theorem dX6_superfluous_12 : decode cX6_superfluous 12 = .ok (.if_icmp .ge 26, 3) := by decide +kernel
theorem dX6_superfluous_15 : decode cX6_superfluous 15 = .ok (.iload_n 1, 1) := by decide +kernel
theorem dX6_superfluous_16 : decode cX6_superfluous 16 = .ok (.aload_n 0, 1) := by decide +kernel
theorem dX6_superfluous_17 : decode cX6_superfluous 17 = .ok (.iload_n 2, 1) := by decide +kernel
theorem dX6_superfluous_18 : decode cX6_superfluous 18 = .ok (.iconst 0, 1) := by decide +kernel
theorem dX6_superfluous_19 : decode cX6_superfluous 19 = .ok (.invokevirtual 218, 3) := by decide +kernel
theorem dX6_superfluous_22 : decode cX6_superfluous 22 = .ok (.ifCond .eq 7, 3) := by decide +kernel
theorem dX6_superfluous_25 : decode cX6_superfluous 25 = .ok (.iconst 1, 1) := by decide +kernel
theorem dX6_superfluous_26 : decode cX6_superfluous 26 = .ok (.goto 4, 3) := by decide +kernel
theorem dX6_superfluous_29 : decode cX6_superfluous 29 = .ok (.iconst 0, 1) := by decide +kernel
theorem dX6_superfluous_30 : decode cX6_superfluous 30 = .ok (.iadd, 1) := by decide +kernel
theorem dX6_superfluous_31 : decode cX6_superfluous 31 = .ok (.istore_n 1, 1) := by decide +kernel
theorem dX6_superfluous_32 : decode cX6_superfluous 32 = .ok (.iinc 2 1, 3) := by decide +kernel
theorem dX6_superfluous_35 : decode cX6_superfluous 35 = .ok (.goto (-31), 3) := by decide +kernel
theorem dX6_superfluous_38 : decode cX6_superfluous 38 = .ok (.iload_n 1, 1) := by decide +kernel
theorem dX6_superfluous_39 : decode cX6_superfluous 39 = .ok (.ireturn, 1) := by decide +kernel
theorem dX6_count_0 : decode cX6_count 0 = .ok (.aload_n 0, 1) := by decide +kernel
theorem dX6_count_1 : decode cX6_count 1 = .ok (.invokevirtual 212, 3) := by decide +kernel
theorem dX6_count_4 : decode cX6_count 4 = .ok (.iload_n 1, 1) := by decide +kernel
theorem dX6_count_5 : decode cX6_count 5 = .ok (.tableswitch 131 0 10 #[59, 66, 74, 79, 84, 95, 100, 105, 113, 121, 126], 59) := by decide +kernel
theorem dX6_count_64 : decode cX6_count 64 = .ok (.aload_n 0, 1) := by decide +kernel
theorem dX6_count_65 : decode cX6_count 65 = .ok (.getfield 7, 3) := by decide +kernel
theorem dX6_count_68 : decode cX6_count 68 = .ok (.iconst 0, 1) := by decide +kernel
theorem dX6_count_69 : decode cX6_count 69 = .ok (.iaload, 1) := by decide +kernel
theorem dX6_count_70 : decode cX6_count 70 = .ok (.ireturn, 1) := by decide +kernel
theorem dX6_count_71 : decode cX6_count 71 = .ok (.aload_n 0, 1) := by decide +kernel
theorem dX6_count_72 : decode cX6_count 72 = .ok (.getfield 7, 3) := by decide +kernel
theorem dX6_count_75 : decode cX6_count 75 = .ok (.bipush 13, 2) := by decide +kernel
theorem dX6_count_77 : decode cX6_count 77 = .ok (.iaload, 1) := by decide +kernel
theorem dX6_count_78 : decode cX6_count 78 = .ok (.ireturn, 1) := by decide +kernel
theorem dX6_count_79 : decode cX6_count 79 = .ok (.aload_n 0, 1) := by decide +kernel
theorem dX6_count_80 : decode cX6_count 80 = .ok (.invokevirtual 252, 3) := by decide +kernel
theorem dX6_count_83 : decode cX6_count 83 = .ok (.ireturn, 1) := by decide +kernel
theorem dX6_count_84 : decode cX6_count 84 = .ok (.aload_n 0, 1) := by decide +kernel
theorem dX6_count_85 : decode cX6_count 85 = .ok (.invokevirtual 249, 3) := by decide +kernel
theorem dX6_count_88 : decode cX6_count 88 = .ok (.ireturn, 1) := by decide +kernel
theorem dX6_count_89 : decode cX6_count 89 = .ok (.aload_n 0, 1) := by decide +kernel
theorem dX6_count_90 : decode cX6_count 90 = .ok (.sipush (-999), 3) := by decide +kernel
theorem dX6_count_93 : decode cX6_count 93 = .ok (.sipush (-999), 3) := by decide +kernel
theorem dX6_count_96 : decode cX6_count 96 = .ok (.invokevirtual 215, 3) := by decide +kernel
theorem dX6_count_99 : decode cX6_count 99 = .ok (.ireturn, 1) := by decide +kernel
theorem dX6_count_100 : decode cX6_count 100 = .ok (.aload_n 0, 1) := by decide +kernel
theorem dX6_count_101 : decode cX6_count 101 = .ok (.invokevirtual 255, 3) := by decide +kernel
theorem dX6_count_104 : decode cX6_count 104 = .ok (.ireturn, 1) := by decide +kernel
theorem dX6_count_105 : decode cX6_count 105 = .ok (.aload_n 0, 1) := by decide +kernel
theorem dX6_count_106 : decode cX6_count 106 = .ok (.invokevirtual 258, 3) := by decide +kernel
theorem dX6_count_109 : decode cX6_count 109 = .ok (.ireturn, 1) := by decide +kernel
theorem dX6_count_110 : decode cX6_count 110 = .ok (.aload_n 0, 1) := by decide +kernel
theorem dX6_count_111 : decode cX6_count 111 = .ok (.getfield 7, 3) := by decide +kernel
theorem dX6_count_114 : decode cX6_count 114 = .ok (.bipush 110, 2) := by decide +kernel
theorem dX6_count_116 : decode cX6_count 116 = .ok (.iaload, 1) := by decide +kernel
theorem dX6_count_117 : decode cX6_count 117 = .ok (.ireturn, 1) := by decide +kernel
theorem dX6_count_118 : decode cX6_count 118 = .ok (.aload_n 0, 1) := by decide +kernel
theorem dX6_count_119 : decode cX6_count 119 = .ok (.getfield 7, 3) := by decide +kernel
theorem dX6_count_122 : decode cX6_count 122 = .ok (.bipush 111, 2) := by decide +kernel
theorem dX6_count_124 : decode cX6_count 124 = .ok (.iaload, 1) := by decide +kernel
theorem dX6_count_125 : decode cX6_count 125 = .ok (.ireturn, 1) := by decide +kernel
theorem dX6_count_126 : decode cX6_count 126 = .ok (.aload_n 0, 1) := by decide +kernel
theorem dX6_count_127 : decode cX6_count 127 = .ok (.getfield 102, 3) := by decide +kernel
theorem dX6_count_130 : decode cX6_count 130 = .ok (.ireturn, 1) := by decide +kernel
theorem dX6_count_131 : decode cX6_count 131 = .ok (.aload_n 0, 1) := by decide +kernel
theorem dX6_count_132 : decode cX6_count 132 = .ok (.getfield 38, 3) := by decide +kernel
theorem dX6_count_135 : decode cX6_count 135 = .ok (.ireturn, 1) := by decide +kernel
theorem dX6_count_136 : decode cX6_count 136 = .ok (.iconst (-1), 1) := by decide +kernel
theorem dX6_count_137 : decode cX6_count 137 = .ok (.ireturn, 1) := by decide +kernel
theorem dX6_mixes_0 : decode cX6_mixes 0 = .ok (.aload_n 0, 1) := by decide +kernel
theorem dX6_mixes_1 : decode cX6_mixes 1 = .ok (.ldc2_w 261, 3) := by decide +kernel
theorem dX6_mixes_4 : decode cX6_mixes 4 = .ok (.aload_n 0, 1) := by decide +kernel
theorem dX6_mixes_5 : decode cX6_mixes 5 = .ok (.getfield 263, 3) := by decide +kernel
theorem dX6_mixes_8 : decode cX6_mixes 8 = .ok (.lmul, 1) := by decide +kernel
theorem dX6_mixes_9 : decode cX6_mixes 9 = .ok (.iload_n 1, 1) := by decide +kernel
theorem dX6_mixes_10 : decode cX6_mixes 10 = .ok (.i2l, 1) := by decide +kernel
theorem dX6_mixes_11 : decode cX6_mixes 11 = .ok (.ladd, 1) := by decide +kernel
theorem dX6_mixes_12 : decode cX6_mixes 12 = .ok (.putfield 263, 3) := by decide +kernel
theorem dX6_mixes_15 : decode cX6_mixes 15 = .ok (.return_, 1) := by decide +kernel
theorem dX6_digest_0 : decode cX6_digest 0 = .ok (.aload_n 0, 1) := by decide +kernel
theorem dX6_digest_1 : decode cX6_digest 1 = .ok (.ldc2_w 267, 3) := by decide +kernel
theorem dX6_digest_4 : decode cX6_digest 4 = .ok (.putfield 263, 3) := by decide +kernel
theorem dX6_digest_7 : decode cX6_digest 7 = .ok (.iconst 0, 1) := by decide +kernel
theorem dX6_digest_8 : decode cX6_digest 8 = .ok (.istore_n 1, 1) := by decide +kernel
theorem dX6_digest_9 : decode cX6_digest 9 = .ok (.iload_n 1, 1) := by decide +kernel
theorem dX6_digest_10 : decode cX6_digest 10 = .ok (.bipush 11, 2) := by decide +kernel
theorem dX6_digest_12 : decode cX6_digest 12 = .ok (.if_icmp .ge 18, 3) := by decide +kernel
theorem dX6_digest_15 : decode cX6_digest 15 = .ok (.aload_n 0, 1) := by decide +kernel
theorem dX6_digest_16 : decode cX6_digest 16 = .ok (.aload_n 0, 1) := by decide +kernel
theorem dX6_digest_17 : decode cX6_digest 17 = .ok (.iload_n 1, 1) := by decide +kernel
theorem dX6_digest_18 : decode cX6_digest 18 = .ok (.invokevirtual 269, 3) := by decide +kernel
theorem dX6_digest_21 : decode cX6_digest 21 = .ok (.invokevirtual 272, 3) := by decide +kernel
theorem dX6_digest_24 : decode cX6_digest 24 = .ok (.iinc 1 1, 3) := by decide +kernel
theorem dX6_digest_27 : decode cX6_digest 27 = .ok (.goto (-18), 3) := by decide +kernel
theorem dX6_digest_30 : decode cX6_digest 30 = .ok (.iconst 0, 1) := by decide +kernel
theorem dX6_digest_31 : decode cX6_digest 31 = .ok (.istore_n 1, 1) := by decide +kernel
theorem dX6_digest_32 : decode cX6_digest 32 = .ok (.iload_n 1, 1) := by decide +kernel
theorem dX6_digest_33 : decode cX6_digest 33 = .ok (.aload_n 0, 1) := by decide +kernel
theorem dX6_digest_34 : decode cX6_digest 34 = .ok (.getfield 7, 3) := by decide +kernel
theorem dX6_digest_37 : decode cX6_digest 37 = .ok (.iconst 0, 1) := by decide +kernel
theorem dX6_digest_38 : decode cX6_digest 38 = .ok (.iaload, 1) := by decide +kernel
theorem dX6_digest_39 : decode cX6_digest 39 = .ok (.if_icmp .ge 32, 3) := by decide +kernel
theorem dX6_digest_42 : decode cX6_digest 42 = .ok (.iconst 0, 1) := by decide +kernel
theorem dX6_digest_43 : decode cX6_digest 43 = .ok (.istore_n 2, 1) := by decide +kernel
theorem dX6_digest_44 : decode cX6_digest 44 = .ok (.iload_n 2, 1) := by decide +kernel
theorem dX6_digest_45 : decode cX6_digest 45 = .ok (.iconst 5, 1) := by decide +kernel
theorem dX6_digest_46 : decode cX6_digest 46 = .ok (.if_icmp .ge 19, 3) := by decide +kernel
theorem dX6_digest_49 : decode cX6_digest 49 = .ok (.aload_n 0, 1) := by decide +kernel
theorem dX6_digest_50 : decode cX6_digest 50 = .ok (.aload_n 0, 1) := by decide +kernel
theorem dX6_digest_51 : decode cX6_digest 51 = .ok (.iload_n 1, 1) := by decide +kernel
theorem dX6_digest_52 : decode cX6_digest 52 = .ok (.iload_n 2, 1) := by decide +kernel
theorem dX6_digest_53 : decode cX6_digest 53 = .ok (.invokevirtual 275, 3) := by decide +kernel
theorem dX6_digest_56 : decode cX6_digest 56 = .ok (.invokevirtual 272, 3) := by decide +kernel
theorem dX6_digest_59 : decode cX6_digest 59 = .ok (.iinc 2 1, 3) := by decide +kernel
theorem dX6_digest_62 : decode cX6_digest 62 = .ok (.goto (-18), 3) := by decide +kernel
theorem dX6_digest_65 : decode cX6_digest 65 = .ok (.iinc 1 1, 3) := by decide +kernel
theorem dX6_digest_68 : decode cX6_digest 68 = .ok (.goto (-36), 3) := by decide +kernel
theorem dX6_digest_71 : decode cX6_digest 71 = .ok (.iconst 0, 1) := by decide +kernel
theorem dX6_digest_72 : decode cX6_digest 72 = .ok (.istore_n 1, 1) := by decide +kernel
theorem dX6_digest_73 : decode cX6_digest 73 = .ok (.iload_n 1, 1) := by decide +kernel
theorem dX6_digest_74 : decode cX6_digest 74 = .ok (.aload_n 0, 1) := by decide +kernel
theorem dX6_digest_75 : decode cX6_digest 75 = .ok (.getfield 7, 3) := by decide +kernel
theorem dX6_digest_78 : decode cX6_digest 78 = .ok (.bipush 13, 2) := by decide +kernel
theorem dX6_digest_80 : decode cX6_digest 80 = .ok (.iaload, 1) := by decide +kernel
theorem dX6_digest_81 : decode cX6_digest 81 = .ok (.if_icmp .ge 33, 3) := by decide +kernel
theorem dX6_digest_84 : decode cX6_digest 84 = .ok (.iconst 0, 1) := by decide +kernel
theorem dX6_digest_85 : decode cX6_digest 85 = .ok (.istore_n 2, 1) := by decide +kernel
theorem dX6_digest_86 : decode cX6_digest 86 = .ok (.iload_n 2, 1) := by decide +kernel
theorem dX6_digest_87 : decode cX6_digest 87 = .ok (.bipush 13, 2) := by decide +kernel
theorem dX6_digest_89 : decode cX6_digest 89 = .ok (.if_icmp .ge 19, 3) := by decide +kernel
theorem dX6_digest_92 : decode cX6_digest 92 = .ok (.aload_n 0, 1) := by decide +kernel
theorem dX6_digest_93 : decode cX6_digest 93 = .ok (.aload_n 0, 1) := by decide +kernel
theorem dX6_digest_94 : decode cX6_digest 94 = .ok (.iload_n 1, 1) := by decide +kernel
theorem dX6_digest_95 : decode cX6_digest 95 = .ok (.iload_n 2, 1) := by decide +kernel
theorem dX6_digest_96 : decode cX6_digest 96 = .ok (.invokevirtual 278, 3) := by decide +kernel
theorem dX6_digest_99 : decode cX6_digest 99 = .ok (.invokevirtual 272, 3) := by decide +kernel
theorem dX6_digest_102 : decode cX6_digest 102 = .ok (.iinc 2 1, 3) := by decide +kernel
theorem dX6_digest_105 : decode cX6_digest 105 = .ok (.goto (-19), 3) := by decide +kernel
theorem dX6_digest_108 : decode cX6_digest 108 = .ok (.iinc 1 1, 3) := by decide +kernel
theorem dX6_digest_111 : decode cX6_digest 111 = .ok (.goto (-38), 3) := by decide +kernel
theorem dX6_digest_114 : decode cX6_digest 114 = .ok (.iconst 0, 1) := by decide +kernel
theorem dX6_digest_115 : decode cX6_digest 115 = .ok (.istore_n 1, 1) := by decide +kernel
theorem dX6_digest_116 : decode cX6_digest 116 = .ok (.iload_n 1, 1) := by decide +kernel
theorem dX6_digest_117 : decode cX6_digest 117 = .ok (.aload_n 0, 1) := by decide +kernel
theorem dX6_digest_118 : decode cX6_digest 118 = .ok (.getfield 7, 3) := by decide +kernel
theorem dX6_digest_121 : decode cX6_digest 121 = .ok (.iconst 0, 1) := by decide +kernel
theorem dX6_digest_122 : decode cX6_digest 122 = .ok (.iaload, 1) := by decide +kernel
theorem dX6_digest_123 : decode cX6_digest 123 = .ok (.if_icmp .ge 61, 3) := by decide +kernel
theorem dX6_digest_126 : decode cX6_digest 126 = .ok (.iload_n 1, 1) := by decide +kernel
theorem dX6_digest_127 : decode cX6_digest 127 = .ok (.iconst 1, 1) := by decide +kernel
theorem dX6_digest_128 : decode cX6_digest 128 = .ok (.iadd, 1) := by decide +kernel
theorem dX6_digest_129 : decode cX6_digest 129 = .ok (.istore_n 2, 1) := by decide +kernel
theorem dX6_digest_130 : decode cX6_digest 130 = .ok (.iload_n 2, 1) := by decide +kernel
theorem dX6_digest_131 : decode cX6_digest 131 = .ok (.aload_n 0, 1) := by decide +kernel
theorem dX6_digest_132 : decode cX6_digest 132 = .ok (.getfield 7, 3) := by decide +kernel
theorem dX6_digest_135 : decode cX6_digest 135 = .ok (.iconst 0, 1) := by decide +kernel
theorem dX6_digest_136 : decode cX6_digest 136 = .ok (.iaload, 1) := by decide +kernel
theorem dX6_digest_137 : decode cX6_digest 137 = .ok (.if_icmp .ge 41, 3) := by decide +kernel
theorem dX6_digest_140 : decode cX6_digest 140 = .ok (.aload_n 0, 1) := by decide +kernel
theorem dX6_digest_141 : decode cX6_digest 141 = .ok (.aload_n 0, 1) := by decide +kernel
theorem dX6_digest_142 : decode cX6_digest 142 = .ok (.iload_n 1, 1) := by decide +kernel
theorem dX6_digest_143 : decode cX6_digest 143 = .ok (.iload_n 2, 1) := by decide +kernel
theorem dX6_digest_144 : decode cX6_digest 144 = .ok (.iconst 0, 1) := by decide +kernel
theorem dX6_digest_145 : decode cX6_digest 145 = .ok (.invokevirtual 281, 3) := by decide +kernel
theorem dX6_digest_148 : decode cX6_digest 148 = .ok (.invokevirtual 272, 3) := by decide +kernel
theorem dX6_digest_151 : decode cX6_digest 151 = .ok (.aload_n 0, 1) := by decide +kernel
theorem dX6_digest_152 : decode cX6_digest 152 = .ok (.aload_n 0, 1) := by decide +kernel
theorem dX6_digest_153 : decode cX6_digest 153 = .ok (.iload_n 1, 1) := by decide +kernel
theorem dX6_digest_154 : decode cX6_digest 154 = .ok (.iload_n 2, 1) := by decide +kernel
theorem dX6_digest_155 : decode cX6_digest 155 = .ok (.iconst 1, 1) := by decide +kernel
theorem dX6_digest_156 : decode cX6_digest 156 = .ok (.invokevirtual 281, 3) := by decide +kernel
theorem dX6_digest_159 : decode cX6_digest 159 = .ok (.invokevirtual 272, 3) := by decide +kernel
theorem dX6_digest_162 : decode cX6_digest 162 = .ok (.aload_n 0, 1) := by decide +kernel
theorem dX6_digest_163 : decode cX6_digest 163 = .ok (.aload_n 0, 1) := by decide +kernel
theorem dX6_digest_164 : decode cX6_digest 164 = .ok (.iload_n 1, 1) := by decide +kernel
theorem dX6_digest_165 : decode cX6_digest 165 = .ok (.iload_n 2, 1) := by decide +kernel
theorem dX6_digest_166 : decode cX6_digest 166 = .ok (.invokevirtual 285, 3) := by decide +kernel
theorem dX6_digest_169 : decode cX6_digest 169 = .ok (.invokevirtual 272, 3) := by decide +kernel
theorem dX6_digest_172 : decode cX6_digest 172 = .ok (.iinc 2 1, 3) := by decide +kernel
theorem dX6_digest_175 : decode cX6_digest 175 = .ok (.goto (-45), 3) := by decide +kernel
theorem dX6_digest_178 : decode cX6_digest 178 = .ok (.iinc 1 1, 3) := by decide +kernel
theorem dX6_digest_181 : decode cX6_digest 181 = .ok (.goto (-65), 3) := by decide +kernel
theorem dX6_digest_184 : decode cX6_digest 184 = .ok (.iconst 1, 1) := by decide +kernel
theorem dX6_digest_185 : decode cX6_digest 185 = .ok (.istore_n 1, 1) := by decide +kernel
theorem dX6_digest_186 : decode cX6_digest 186 = .ok (.iload_n 1, 1) := by decide +kernel
theorem dX6_digest_187 : decode cX6_digest 187 = .ok (.iconst 5, 1) := by decide +kernel
theorem dX6_digest_188 : decode cX6_digest 188 = .ok (.if_icmp .gt 33, 3) := by decide +kernel
theorem dX6_digest_191 : decode cX6_digest 191 = .ok (.iconst 0, 1) := by decide +kernel
theorem dX6_digest_192 : decode cX6_digest 192 = .ok (.istore_n 2, 1) := by decide +kernel
theorem dX6_digest_193 : decode cX6_digest 193 = .ok (.iload_n 2, 1) := by decide +kernel
theorem dX6_digest_194 : decode cX6_digest 194 = .ok (.bipush 9, 2) := by decide +kernel
theorem dX6_digest_196 : decode cX6_digest 196 = .ok (.if_icmp .ge 19, 3) := by decide +kernel
theorem dX6_digest_199 : decode cX6_digest 199 = .ok (.aload_n 0, 1) := by decide +kernel
theorem dX6_digest_200 : decode cX6_digest 200 = .ok (.aload_n 0, 1) := by decide +kernel
theorem dX6_digest_201 : decode cX6_digest 201 = .ok (.iload_n 1, 1) := by decide +kernel
theorem dX6_digest_202 : decode cX6_digest 202 = .ok (.iload_n 2, 1) := by decide +kernel
theorem dX6_digest_203 : decode cX6_digest 203 = .ok (.invokevirtual 288, 3) := by decide +kernel
theorem dX6_digest_206 : decode cX6_digest 206 = .ok (.invokevirtual 272, 3) := by decide +kernel
theorem dX6_digest_209 : decode cX6_digest 209 = .ok (.iinc 2 1, 3) := by decide +kernel
theorem dX6_digest_212 : decode cX6_digest 212 = .ok (.goto (-19), 3) := by decide +kernel
theorem dX6_digest_215 : decode cX6_digest 215 = .ok (.iinc 1 1, 3) := by decide +kernel
theorem dX6_digest_218 : decode cX6_digest 218 = .ok (.goto (-32), 3) := by decide +kernel
theorem dX6_digest_221 : decode cX6_digest 221 = .ok (.aload_n 0, 1) := by decide +kernel
theorem dX6_digest_222 : decode cX6_digest 222 = .ok (.aload_n 0, 1) := by decide +kernel
theorem dX6_digest_223 : decode cX6_digest 223 = .ok (.invokevirtual 291, 3) := by decide +kernel
theorem dX6_digest_226 : decode cX6_digest 226 = .ok (.invokevirtual 272, 3) := by decide +kernel
theorem dX6_digest_229 : decode cX6_digest 229 = .ok (.aload_n 0, 1) := by decide +kernel
theorem dX6_digest_230 : decode cX6_digest 230 = .ok (.getfield 263, 3) := by decide +kernel
theorem dX6_digest_233 : decode cX6_digest 233 = .ok (.lreturn, 1) := by decide +kernel
