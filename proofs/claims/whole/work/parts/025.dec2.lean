section
theorem dX5_lawLine_40 : decode cX5_lawLine 40 = .ok (.invokevirtual 150, 3) := by decide +kernel
theorem dX5_lawLine_43 : decode cX5_lawLine 43 = .ok (.ifCond .ne 4, 3) := by decide +kernel
theorem dX5_lawLine_46 : decode cX5_lawLine 46 = .ok (.return_, 1) := by decide +kernel
theorem dX5_lawLine_47 : decode cX5_lawLine 47 = .ok (.aload_n 0, 1) := by decide +kernel
theorem dX5_lawLine_48 : decode cX5_lawLine 48 = .ok (.getfield 24, 3) := by decide +kernel
theorem dX5_lawLine_51 : decode cX5_lawLine 51 = .ok (.getfield 163, 3) := by decide +kernel
theorem dX5_lawLine_54 : decode cX5_lawLine 54 = .ok (.istore_n 2, 1) := by decide +kernel
theorem dX5_lawLine_55 : decode cX5_lawLine 55 = .ok (.aload_n 0, 1) := by decide +kernel
theorem dX5_lawLine_56 : decode cX5_lawLine 56 = .ok (.invokevirtual 166, 3) := by decide +kernel
theorem dX5_lawLine_59 : decode cX5_lawLine 59 = .ok (.aload_n 0, 1) := by decide +kernel
theorem dX5_lawLine_60 : decode cX5_lawLine 60 = .ok (.getfield 24, 3) := by decide +kernel
theorem dX5_lawLine_63 : decode cX5_lawLine 63 = .ok (.getfield 163, 3) := by decide +kernel
theorem dX5_lawLine_66 : decode cX5_lawLine 66 = .ok (.istore_n 3, 1) := by decide +kernel
theorem dX5_lawLine_67 : decode cX5_lawLine 67 = .ok (.aload_n 0, 1) := by decide +kernel
theorem dX5_lawLine_68 : decode cX5_lawLine 68 = .ok (.getfield 44, 3) := by decide +kernel
theorem dX5_lawLine_71 : decode cX5_lawLine 71 = .ok (.ifCond .ne 22, 3) := by decide +kernel
theorem dX5_lawLine_74 : decode cX5_lawLine 74 = .ok (.aload_n 0, 1) := by decide +kernel
theorem dX5_lawLine_75 : decode cX5_lawLine 75 = .ok (.getfield 65, 3) := by decide +kernel
theorem dX5_lawLine_78 : decode cX5_lawLine 78 = .ok (.sipush 10003, 3) := by decide +kernel
theorem dX5_lawLine_81 : decode cX5_lawLine 81 = .ok (.if_icmp .ne 12, 3) := by decide +kernel
theorem dX5_lawLine_84 : decode cX5_lawLine 84 = .ok (.aload_n 0, 1) := by decide +kernel
theorem dX5_lawLine_85 : decode cX5_lawLine 85 = .ok (.invokevirtual 137, 3) := by decide +kernel
theorem dX5_lawLine_88 : decode cX5_lawLine 88 = .ok (.aload_n 0, 1) := by decide +kernel
theorem dX5_lawLine_89 : decode cX5_lawLine 89 = .ok (.iconst 0, 1) := by decide +kernel
theorem dX5_lawLine_90 : decode cX5_lawLine 90 = .ok (.invokevirtual 169, 3) := by decide +kernel
theorem dX5_lawLine_93 : decode cX5_lawLine 93 = .ok (.aload_n 0, 1) := by decide +kernel
theorem dX5_lawLine_94 : decode cX5_lawLine 94 = .ok (.sipush 20059, 3) := by decide +kernel
theorem dX5_lawLine_97 : decode cX5_lawLine 97 = .ok (.invokevirtual 140, 3) := by decide +kernel
theorem dX5_lawLine_100 : decode cX5_lawLine 100 = .ok (.ifCond .eq 13, 3) := by decide +kernel
theorem dX5_lawLine_103 : decode cX5_lawLine 103 = .ok (.aload_n 0, 1) := by decide +kernel
theorem dX5_lawLine_104 : decode cX5_lawLine 104 = .ok (.getfield 24, 3) := by decide +kernel
theorem dX5_lawLine_107 : decode cX5_lawLine 107 = .ok (.iload_n 1, 1) := by decide +kernel
theorem dX5_lawLine_108 : decode cX5_lawLine 108 = .ok (.iload_n 2, 1) := by decide +kernel
theorem dX5_lawLine_109 : decode cX5_lawLine 109 = .ok (.iload_n 3, 1) := by decide +kernel
theorem dX5_lawLine_110 : decode cX5_lawLine 110 = .ok (.invokevirtual 172, 3) := by decide +kernel
theorem dX5_lawLine_113 : decode cX5_lawLine 113 = .ok (.return_, 1) := by decide +kernel
theorem dX5_expression_0 : decode cX5_expression 0 = .ok (.sipush 30000, 3) := by decide +kernel
theorem dX5_expression_3 : decode cX5_expression 3 = .ok (.istore_n 1, 1) := by decide +kernel
theorem dX5_expression_4 : decode cX5_expression 4 = .ok (.iconst 0, 1) := by decide +kernel
theorem dX5_expression_5 : decode cX5_expression 5 = .ok (.istore_n 2, 1) := by decide +kernel
theorem dX5_expression_6 : decode cX5_expression 6 = .ok (.iconst 0, 1) := by decide +kernel
theorem dX5_expression_7 : decode cX5_expression 7 = .ok (.istore_n 3, 1) := by decide +kernel
theorem dX5_expression_8 : decode cX5_expression 8 = .ok (.iload_n 3, 1) := by decide +kernel
theorem dX5_expression_9 : decode cX5_expression 9 = .ok (.sipush 400, 3) := by decide +kernel
theorem dX5_expression_12 : decode cX5_expression 12 = .ok (.if_icmp .gt 99, 3) := by decide +kernel
theorem dX5_expression_15 : decode cX5_expression 15 = .ok (.aload_n 0, 1) := by decide +kernel
theorem dX5_expression_16 : decode cX5_expression 16 = .ok (.invokevirtual 176, 3) := by decide +kernel
theorem dX5_expression_19 : decode cX5_expression 19 = .ok (.ifCond .eq 92, 3) := by decide +kernel
theorem dX5_expression_22 : decode cX5_expression 22 = .ok (.iload_n 2, 1) := by decide +kernel
theorem dX5_expression_23 : decode cX5_expression 23 = .ok (.ifCond .eq 13, 3) := by decide +kernel
theorem dX5_expression_26 : decode cX5_expression 26 = .ok (.aload_n 0, 1) := by decide +kernel
theorem dX5_expression_27 : decode cX5_expression 27 = .ok (.getfield 24, 3) := by decide +kernel
theorem dX5_expression_30 : decode cX5_expression 30 = .ok (.sipush 20042, 3) := by decide +kernel
theorem dX5_expression_33 : decode cX5_expression 33 = .ok (.invokevirtual 180, 3) := by decide +kernel
theorem dX5_expression_36 : decode cX5_expression 36 = .ok (.aload_n 0, 1) := by decide +kernel
theorem dX5_expression_37 : decode cX5_expression 37 = .ok (.invokevirtual 182, 3) := by decide +kernel
theorem dX5_expression_40 : decode cX5_expression 40 = .ok (.aload_n 0, 1) := by decide +kernel
theorem dX5_expression_41 : decode cX5_expression 41 = .ok (.getfield 65, 3) := by decide +kernel
theorem dX5_expression_44 : decode cX5_expression 44 = .ok (.sipush 20042, 3) := by decide +kernel
theorem dX5_expression_47 : decode cX5_expression 47 = .ok (.if_icmp .ne 7, 3) := by decide +kernel
theorem dX5_expression_50 : decode cX5_expression 50 = .ok (.iconst 1, 1) := by decide +kernel
theorem dX5_expression_51 : decode cX5_expression 51 = .ok (.goto 4, 3) := by decide +kernel
theorem dX5_expression_54 : decode cX5_expression 54 = .ok (.iconst 0, 1) := by decide +kernel
theorem dX5_expression_55 : decode cX5_expression 55 = .ok (.istore_n 2, 1) := by decide +kernel
theorem dX5_expression_56 : decode cX5_expression 56 = .ok (.iload_n 2, 1) := by decide +kernel
theorem dX5_expression_57 : decode cX5_expression 57 = .ok (.ifCond .ne 44, 3) := by decide +kernel
theorem dX5_expression_60 : decode cX5_expression 60 = .ok (.iload_n 1, 1) := by decide +kernel
theorem dX5_expression_61 : decode cX5_expression 61 = .ok (.sipush 30000, 3) := by decide +kernel
theorem dX5_expression_64 : decode cX5_expression 64 = .ok (.if_icmp .eq 11, 3) := by decide +kernel
theorem dX5_expression_67 : decode cX5_expression 67 = .ok (.aload_n 0, 1) := by decide +kernel
theorem dX5_expression_68 : decode cX5_expression 68 = .ok (.getfield 24, 3) := by decide +kernel
theorem dX5_expression_71 : decode cX5_expression 71 = .ok (.iload_n 1, 1) := by decide +kernel
theorem dX5_expression_72 : decode cX5_expression 72 = .ok (.invokevirtual 180, 3) := by decide +kernel
theorem dX5_expression_75 : decode cX5_expression 75 = .ok (.aload_n 0, 1) := by decide +kernel
theorem dX5_expression_76 : decode cX5_expression 76 = .ok (.getfield 65, 3) := by decide +kernel
theorem dX5_expression_79 : decode cX5_expression 79 = .ok (.istore_n 1, 1) := by decide +kernel
theorem dX5_expression_80 : decode cX5_expression 80 = .ok (.aload_n 0, 1) := by decide +kernel
theorem dX5_expression_81 : decode cX5_expression 81 = .ok (.getfield 65, 3) := by decide +kernel
theorem dX5_expression_84 : decode cX5_expression 84 = .ok (.sipush 20043, 3) := by decide +kernel
theorem dX5_expression_87 : decode cX5_expression 87 = .ok (.if_icmp .eq 14, 3) := by decide +kernel
theorem dX5_expression_90 : decode cX5_expression 90 = .ok (.aload_n 0, 1) := by decide +kernel
theorem dX5_expression_91 : decode cX5_expression 91 = .ok (.getfield 65, 3) := by decide +kernel
theorem dX5_expression_94 : decode cX5_expression 94 = .ok (.sipush 20045, 3) := by decide +kernel
theorem dX5_expression_97 : decode cX5_expression 97 = .ok (.if_icmp .eq 4, 3) := by decide +kernel
theorem dX5_expression_100 : decode cX5_expression 100 = .ok (.return_, 1) := by decide +kernel
theorem dX5_expression_101 : decode cX5_expression 101 = .ok (.aload_n 0, 1) := by decide +kernel
theorem dX5_expression_102 : decode cX5_expression 102 = .ok (.invokevirtual 137, 3) := by decide +kernel
theorem dX5_expression_105 : decode cX5_expression 105 = .ok (.iinc 3 1, 3) := by decide +kernel
theorem dX5_expression_108 : decode cX5_expression 108 = .ok (.goto (-100), 3) := by decide +kernel
theorem dX5_expression_111 : decode cX5_expression 111 = .ok (.return_, 1) := by decide +kernel
theorem dX5_unit_0 : decode cX5_unit 0 = .ok (.aload_n 0, 1) := by decide +kernel
theorem dX5_unit_1 : decode cX5_unit 1 = .ok (.getfield 44, 3) := by decide +kernel
theorem dX5_unit_4 : decode cX5_unit 4 = .ok (.ifCond .ne 28, 3) := by decide +kernel
theorem dX5_unit_7 : decode cX5_unit 7 = .ok (.aload_n 0, 1) := by decide +kernel
theorem dX5_unit_8 : decode cX5_unit 8 = .ok (.getfield 65, 3) := by decide +kernel
theorem dX5_unit_11 : decode cX5_unit 11 = .ok (.invokestatic 147, 3) := by decide +kernel
theorem dX5_unit_14 : decode cX5_unit 14 = .ok (.ifCond .ne 18, 3) := by decide +kernel
theorem dX5_unit_17 : decode cX5_unit 17 = .ok (.aload_n 0, 1) := by decide +kernel
theorem dX5_unit_18 : decode cX5_unit 18 = .ok (.getfield 65, 3) := by decide +kernel
theorem dX5_unit_21 : decode cX5_unit 21 = .ok (.invokestatic 185, 3) := by decide +kernel
theorem dX5_unit_24 : decode cX5_unit 24 = .ok (.ifCond .ne 8, 3) := by decide +kernel
theorem dX5_unit_27 : decode cX5_unit 27 = .ok (.aload_n 0, 1) := by decide +kernel
theorem dX5_unit_28 : decode cX5_unit 28 = .ok (.iconst 1, 1) := by decide +kernel
theorem dX5_unit_29 : decode cX5_unit 29 = .ok (.invokevirtual 133, 3) := by decide +kernel
theorem dX5_unit_32 : decode cX5_unit 32 = .ok (.aload_n 0, 1) := by decide +kernel
theorem dX5_unit_33 : decode cX5_unit 33 = .ok (.getfield 44, 3) := by decide +kernel
theorem dX5_unit_36 : decode cX5_unit 36 = .ok (.ifCond .eq 5, 3) := by decide +kernel
theorem dX5_unit_39 : decode cX5_unit 39 = .ok (.iconst 0, 1) := by decide +kernel
theorem dX5_unit_40 : decode cX5_unit 40 = .ok (.ireturn, 1) := by decide +kernel
theorem dX5_unit_41 : decode cX5_unit 41 = .ok (.aload_n 0, 1) := by decide +kernel
theorem dX5_unit_42 : decode cX5_unit 42 = .ok (.getfield 24, 3) := by decide +kernel
theorem dX5_unit_45 : decode cX5_unit 45 = .ok (.aload_n 0, 1) := by decide +kernel
theorem dX5_unit_46 : decode cX5_unit 46 = .ok (.getfield 65, 3) := by decide +kernel
theorem dX5_unit_49 : decode cX5_unit 49 = .ok (.invokevirtual 180, 3) := by decide +kernel
theorem dX5_unit_52 : decode cX5_unit 52 = .ok (.aload_n 0, 1) := by decide +kernel
theorem dX5_unit_53 : decode cX5_unit 53 = .ok (.invokevirtual 137, 3) := by decide +kernel
theorem dX5_unit_56 : decode cX5_unit 56 = .ok (.iconst 1, 1) := by decide +kernel
theorem dX5_unit_57 : decode cX5_unit 57 = .ok (.ireturn, 1) := by decide +kernel
theorem dX5_partings_0 : decode cX5_partings 0 = .ok (.iconst 0, 1) := by decide +kernel
theorem dX5_partings_1 : decode cX5_partings 1 = .ok (.istore_n 1, 1) := by decide +kernel
theorem dX5_partings_2 : decode cX5_partings 2 = .ok (.iload_n 1, 1) := by decide +kernel
theorem dX5_partings_3 : decode cX5_partings 3 = .ok (.sipush 400, 3) := by decide +kernel
theorem dX5_partings_6 : decode cX5_partings 6 = .ok (.if_icmp .gt 88, 3) := by decide +kernel
theorem dX5_partings_9 : decode cX5_partings 9 = .ok (.aload_n 0, 1) := by decide +kernel
theorem dX5_partings_10 : decode cX5_partings 10 = .ok (.getfield 44, 3) := by decide +kernel
theorem dX5_partings_13 : decode cX5_partings 13 = .ok (.ifCond .ne 81, 3) := by decide +kernel
theorem dX5_partings_16 : decode cX5_partings 16 = .ok (.aload_n 0, 1) := by decide +kernel
theorem dX5_partings_17 : decode cX5_partings 17 = .ok (.getfield 65, 3) := by decide +kernel
theorem dX5_partings_20 : decode cX5_partings 20 = .ok (.sipush 20047, 3) := by decide +kernel
theorem dX5_partings_23 : decode cX5_partings 23 = .ok (.if_icmp .ne 71, 3) := by decide +kernel
theorem dX5_partings_26 : decode cX5_partings 26 = .ok (.aload_n 0, 1) := by decide +kernel
theorem dX5_partings_27 : decode cX5_partings 27 = .ok (.invokevirtual 137, 3) := by decide +kernel
theorem dX5_partings_30 : decode cX5_partings 30 = .ok (.aload_n 0, 1) := by decide +kernel
theorem dX5_partings_31 : decode cX5_partings 31 = .ok (.getfield 65, 3) := by decide +kernel
theorem dX5_partings_34 : decode cX5_partings 34 = .ok (.invokestatic 147, 3) := by decide +kernel
theorem dX5_partings_37 : decode cX5_partings 37 = .ok (.ifCond .ne 11, 3) := by decide +kernel
theorem dX5_partings_40 : decode cX5_partings 40 = .ok (.aload_n 0, 1) := by decide +kernel
theorem dX5_partings_41 : decode cX5_partings 41 = .ok (.iconst 1, 1) := by decide +kernel
theorem dX5_partings_42 : decode cX5_partings 42 = .ok (.invokevirtual 133, 3) := by decide +kernel
theorem dX5_partings_45 : decode cX5_partings 45 = .ok (.goto 43, 3) := by decide +kernel
theorem dX5_partings_48 : decode cX5_partings 48 = .ok (.aload_n 0, 1) := by decide +kernel
theorem dX5_partings_49 : decode cX5_partings 49 = .ok (.getfield 65, 3) := by decide +kernel
theorem dX5_partings_52 : decode cX5_partings 52 = .ok (.ifCond .ne 11, 3) := by decide +kernel
theorem dX5_partings_55 : decode cX5_partings 55 = .ok (.aload_n 0, 1) := by decide +kernel
theorem dX5_partings_56 : decode cX5_partings 56 = .ok (.iconst 2, 1) := by decide +kernel
theorem dX5_partings_57 : decode cX5_partings 57 = .ok (.invokevirtual 133, 3) := by decide +kernel
theorem dX5_partings_60 : decode cX5_partings 60 = .ok (.goto 28, 3) := by decide +kernel
theorem dX5_partings_63 : decode cX5_partings 63 = .ok (.aload_n 0, 1) := by decide +kernel
theorem dX5_partings_64 : decode cX5_partings 64 = .ok (.getfield 24, 3) := by decide +kernel
theorem dX5_partings_67 : decode cX5_partings 67 = .ok (.aload_n 0, 1) := by decide +kernel
theorem dX5_partings_68 : decode cX5_partings 68 = .ok (.getfield 65, 3) := by decide +kernel
theorem dX5_partings_71 : decode cX5_partings 71 = .ok (.invokevirtual 180, 3) := by decide +kernel
theorem dX5_partings_74 : decode cX5_partings 74 = .ok (.aload_n 0, 1) := by decide +kernel
theorem dX5_partings_75 : decode cX5_partings 75 = .ok (.getfield 24, 3) := by decide +kernel
theorem dX5_partings_78 : decode cX5_partings 78 = .ok (.sipush 20047, 3) := by decide +kernel
theorem dX5_partings_81 : decode cX5_partings 81 = .ok (.invokevirtual 180, 3) := by decide +kernel
theorem dX5_partings_84 : decode cX5_partings 84 = .ok (.aload_n 0, 1) := by decide +kernel
theorem dX5_partings_85 : decode cX5_partings 85 = .ok (.invokevirtual 137, 3) := by decide +kernel
theorem dX5_partings_88 : decode cX5_partings 88 = .ok (.iinc 1 1, 3) := by decide +kernel
theorem dX5_partings_91 : decode cX5_partings 91 = .ok (.goto (-89), 3) := by decide +kernel
theorem dX5_partings_94 : decode cX5_partings 94 = .ok (.return_, 1) := by decide +kernel
theorem dX5_condition_0 : decode cX5_condition 0 = .ok (.iconst 0, 1) := by decide +kernel
theorem dX5_condition_1 : decode cX5_condition 1 = .ok (.istore_n 2, 1) := by decide +kernel
theorem dX5_condition_2 : decode cX5_condition 2 = .ok (.iconst 0, 1) := by decide +kernel
theorem dX5_condition_3 : decode cX5_condition 3 = .ok (.istore_n 3, 1) := by decide +kernel
theorem dX5_condition_4 : decode cX5_condition 4 = .ok (.iconst 0, 1) := by decide +kernel
theorem dX5_condition_5 : decode cX5_condition 5 = .ok (.istore 4, 2) := by decide +kernel
theorem dX5_condition_7 : decode cX5_condition 7 = .ok (.iload 4, 2) := by decide +kernel
theorem dX5_condition_9 : decode cX5_condition 9 = .ok (.sipush 400, 3) := by decide +kernel
theorem dX5_condition_12 : decode cX5_condition 12 = .ok (.if_icmp .gt 94, 3) := by decide +kernel
theorem dX5_condition_15 : decode cX5_condition 15 = .ok (.aload_n 0, 1) := by decide +kernel
theorem dX5_condition_16 : decode cX5_condition 16 = .ok (.getfield 44, 3) := by decide +kernel
theorem dX5_condition_19 : decode cX5_condition 19 = .ok (.ifCond .ne 87, 3) := by decide +kernel
theorem dX5_condition_22 : decode cX5_condition 22 = .ok (.aload_n 0, 1) := by decide +kernel
theorem dX5_condition_23 : decode cX5_condition 23 = .ok (.iload_n 1, 1) := by decide +kernel
theorem dX5_condition_24 : decode cX5_condition 24 = .ok (.invokevirtual 188, 3) := by decide +kernel
theorem dX5_condition_27 : decode cX5_condition 27 = .ok (.iload_n 2, 1) := by decide +kernel
theorem dX5_condition_28 : decode cX5_condition 28 = .ok (.ifCond .eq 13, 3) := by decide +kernel
theorem dX5_condition_31 : decode cX5_condition 31 = .ok (.aload_n 0, 1) := by decide +kernel
theorem dX5_condition_32 : decode cX5_condition 32 = .ok (.getfield 24, 3) := by decide +kernel
theorem dX5_condition_35 : decode cX5_condition 35 = .ok (.sipush 10005, 3) := by decide +kernel
theorem dX5_condition_38 : decode cX5_condition 38 = .ok (.invokevirtual 180, 3) := by decide +kernel
theorem dX5_condition_41 : decode cX5_condition 41 = .ok (.aload_n 0, 1) := by decide +kernel
theorem dX5_condition_42 : decode cX5_condition 42 = .ok (.getfield 65, 3) := by decide +kernel
theorem dX5_condition_45 : decode cX5_condition 45 = .ok (.sipush 10005, 3) := by decide +kernel
theorem dX5_condition_48 : decode cX5_condition 48 = .ok (.if_icmp .ne 7, 3) := by decide +kernel
theorem dX5_condition_51 : decode cX5_condition 51 = .ok (.iconst 1, 1) := by decide +kernel
theorem dX5_condition_52 : decode cX5_condition 52 = .ok (.goto 4, 3) := by decide +kernel
theorem dX5_condition_55 : decode cX5_condition 55 = .ok (.iconst 0, 1) := by decide +kernel
theorem dX5_condition_56 : decode cX5_condition 56 = .ok (.istore_n 2, 1) := by decide +kernel
theorem dX5_condition_57 : decode cX5_condition 57 = .ok (.iload_n 2, 1) := by decide +kernel
theorem dX5_condition_58 : decode cX5_condition 58 = .ok (.ifCond .ne 38, 3) := by decide +kernel
theorem dX5_condition_61 : decode cX5_condition 61 = .ok (.iload_n 3, 1) := by decide +kernel
theorem dX5_condition_62 : decode cX5_condition 62 = .ok (.ifCond .eq 13, 3) := by decide +kernel
theorem dX5_condition_65 : decode cX5_condition 65 = .ok (.aload_n 0, 1) := by decide +kernel
theorem dX5_condition_66 : decode cX5_condition 66 = .ok (.getfield 24, 3) := by decide +kernel
theorem dX5_condition_69 : decode cX5_condition 69 = .ok (.sipush 10004, 3) := by decide +kernel
theorem dX5_condition_72 : decode cX5_condition 72 = .ok (.invokevirtual 180, 3) := by decide +kernel
theorem dX5_condition_75 : decode cX5_condition 75 = .ok (.aload_n 0, 1) := by decide +kernel
theorem dX5_condition_76 : decode cX5_condition 76 = .ok (.getfield 65, 3) := by decide +kernel
theorem dX5_condition_79 : decode cX5_condition 79 = .ok (.sipush 10004, 3) := by decide +kernel
theorem dX5_condition_82 : decode cX5_condition 82 = .ok (.if_icmp .ne 7, 3) := by decide +kernel
theorem dX5_condition_85 : decode cX5_condition 85 = .ok (.iconst 1, 1) := by decide +kernel
theorem dX5_condition_86 : decode cX5_condition 86 = .ok (.goto 4, 3) := by decide +kernel
theorem dX5_condition_89 : decode cX5_condition 89 = .ok (.iconst 0, 1) := by decide +kernel
theorem dX5_condition_90 : decode cX5_condition 90 = .ok (.istore_n 3, 1) := by decide +kernel
theorem dX5_condition_91 : decode cX5_condition 91 = .ok (.iload_n 3, 1) := by decide +kernel
theorem dX5_condition_92 : decode cX5_condition 92 = .ok (.ifCond .ne 4, 3) := by decide +kernel
theorem dX5_condition_95 : decode cX5_condition 95 = .ok (.return_, 1) := by decide +kernel
theorem dX5_condition_96 : decode cX5_condition 96 = .ok (.aload_n 0, 1) := by decide +kernel
theorem dX5_condition_97 : decode cX5_condition 97 = .ok (.invokevirtual 137, 3) := by decide +kernel
theorem dX5_condition_100 : decode cX5_condition 100 = .ok (.iinc 4 1, 3) := by decide +kernel
theorem dX5_condition_103 : decode cX5_condition 103 = .ok (.goto (-96), 3) := by decide +kernel
theorem dX5_condition_106 : decode cX5_condition 106 = .ok (.return_, 1) := by decide +kernel
theorem dX5_clause_0 : decode cX5_clause 0 = .ok (.iconst 0, 1) := by decide +kernel
theorem dX5_clause_1 : decode cX5_clause 1 = .ok (.istore_n 2, 1) := by decide +kernel
theorem dX5_clause_2 : decode cX5_clause 2 = .ok (.iconst 0, 1) := by decide +kernel
theorem dX5_clause_3 : decode cX5_clause 3 = .ok (.istore_n 3, 1) := by decide +kernel
theorem dX5_clause_4 : decode cX5_clause 4 = .ok (.iload_n 3, 1) := by decide +kernel
theorem dX5_clause_5 : decode cX5_clause 5 = .ok (.sipush 400, 3) := by decide +kernel
theorem dX5_clause_8 : decode cX5_clause 8 = .ok (.if_icmp .gt 37, 3) := by decide +kernel
theorem dX5_clause_11 : decode cX5_clause 11 = .ok (.aload_n 0, 1) := by decide +kernel
theorem dX5_clause_12 : decode cX5_clause 12 = .ok (.getfield 44, 3) := by decide +kernel
theorem dX5_clause_15 : decode cX5_clause 15 = .ok (.ifCond .ne 30, 3) := by decide +kernel
theorem dX5_clause_18 : decode cX5_clause 18 = .ok (.aload_n 0, 1) := by decide +kernel
theorem dX5_clause_19 : decode cX5_clause 19 = .ok (.getfield 65, 3) := by decide +kernel
theorem dX5_clause_22 : decode cX5_clause 22 = .ok (.sipush 10006, 3) := by decide +kernel
theorem dX5_clause_25 : decode cX5_clause 25 = .ok (.if_icmp .ne 20, 3) := by decide +kernel
theorem dX5_clause_28 : decode cX5_clause 28 = .ok (.aload_n 0, 1) := by decide +kernel
theorem dX5_clause_29 : decode cX5_clause 29 = .ok (.iload_n 1, 1) := by decide +kernel
theorem dX5_clause_30 : decode cX5_clause 30 = .ok (.iload_n 2, 1) := by decide +kernel
theorem dX5_clause_31 : decode cX5_clause 31 = .ok (.iadd, 1) := by decide +kernel
theorem dX5_clause_32 : decode cX5_clause 32 = .ok (.invokevirtual 191, 3) := by decide +kernel
theorem dX5_clause_35 : decode cX5_clause 35 = .ok (.pop, 1) := by decide +kernel
theorem dX5_clause_36 : decode cX5_clause 36 = .ok (.iinc 2 1, 3) := by decide +kernel
theorem dX5_clause_39 : decode cX5_clause 39 = .ok (.iinc 3 1, 3) := by decide +kernel
theorem dX5_clause_42 : decode cX5_clause 42 = .ok (.goto (-38), 3) := by decide +kernel
theorem dX5_clause_45 : decode cX5_clause 45 = .ok (.aload_n 0, 1) := by decide +kernel
theorem dX5_clause_46 : decode cX5_clause 46 = .ok (.getfield 65, 3) := by decide +kernel
theorem dX5_clause_49 : decode cX5_clause 49 = .ok (.sipush 20040, 3) := by decide +kernel
theorem dX5_clause_52 : decode cX5_clause 52 = .ok (.if_icmp .ne 33, 3) := by decide +kernel
theorem dX5_clause_55 : decode cX5_clause 55 = .ok (.aload_n 0, 1) := by decide +kernel
theorem dX5_clause_56 : decode cX5_clause 56 = .ok (.iload_n 1, 1) := by decide +kernel
theorem dX5_clause_57 : decode cX5_clause 57 = .ok (.iload_n 2, 1) := by decide +kernel
theorem dX5_clause_58 : decode cX5_clause 58 = .ok (.iadd, 1) := by decide +kernel
theorem dX5_clause_59 : decode cX5_clause 59 = .ok (.invokevirtual 191, 3) := by decide +kernel
theorem dX5_clause_62 : decode cX5_clause 62 = .ok (.ifCond .eq 23, 3) := by decide +kernel
theorem dX5_clause_65 : decode cX5_clause 65 = .ok (.aload_n 0, 1) := by decide +kernel
theorem dX5_clause_66 : decode cX5_clause 66 = .ok (.iload_n 1, 1) := by decide +kernel
theorem dX5_clause_67 : decode cX5_clause 67 = .ok (.iload_n 2, 1) := by decide +kernel
theorem dX5_clause_68 : decode cX5_clause 68 = .ok (.iadd, 1) := by decide +kernel
theorem dX5_clause_69 : decode cX5_clause 69 = .ok (.iconst 1, 1) := by decide +kernel
theorem dX5_clause_70 : decode cX5_clause 70 = .ok (.iadd, 1) := by decide +kernel
theorem dX5_clause_71 : decode cX5_clause 71 = .ok (.invokevirtual 169, 3) := by decide +kernel
theorem dX5_clause_74 : decode cX5_clause 74 = .ok (.aload_n 0, 1) := by decide +kernel
theorem dX5_clause_75 : decode cX5_clause 75 = .ok (.sipush 20041, 3) := by decide +kernel
theorem dX5_clause_78 : decode cX5_clause 78 = .ok (.invokevirtual 140, 3) := by decide +kernel
theorem dX5_clause_81 : decode cX5_clause 81 = .ok (.pop, 1) := by decide +kernel
theorem dX5_clause_82 : decode cX5_clause 82 = .ok (.goto 45, 3) := by decide +kernel
theorem dX5_clause_85 : decode cX5_clause 85 = .ok (.aload_n 0, 1) := by decide +kernel
theorem dX5_clause_86 : decode cX5_clause 86 = .ok (.invokevirtual 166, 3) := by decide +kernel
theorem dX5_clause_89 : decode cX5_clause 89 = .ok (.aload_n 0, 1) := by decide +kernel
theorem dX5_clause_90 : decode cX5_clause 90 = .ok (.getfield 65, 3) := by decide +kernel
theorem dX5_clause_93 : decode cX5_clause 93 = .ok (.istore_n 3, 1) := by decide +kernel
theorem dX5_clause_94 : decode cX5_clause 94 = .ok (.aload_n 0, 1) := by decide +kernel
theorem dX5_clause_95 : decode cX5_clause 95 = .ok (.iload_n 3, 1) := by decide +kernel
theorem dX5_clause_96 : decode cX5_clause 96 = .ok (.invokestatic 194, 3) := by decide +kernel
theorem dX5_clause_99 : decode cX5_clause 99 = .ok (.ifCond .eq 7, 3) := by decide +kernel
theorem dX5_clause_102 : decode cX5_clause 102 = .ok (.iload_n 3, 1) := by decide +kernel
theorem dX5_clause_103 : decode cX5_clause 103 = .ok (.goto 6, 3) := by decide +kernel
theorem dX5_clause_106 : decode cX5_clause 106 = .ok (.sipush 20060, 3) := by decide +kernel
theorem dX5_clause_109 : decode cX5_clause 109 = .ok (.invokevirtual 140, 3) := by decide +kernel
theorem dX5_clause_112 : decode cX5_clause 112 = .ok (.ifCond .eq 15, 3) := by decide +kernel
theorem dX5_clause_115 : decode cX5_clause 115 = .ok (.aload_n 0, 1) := by decide +kernel
theorem dX5_clause_116 : decode cX5_clause 116 = .ok (.invokevirtual 166, 3) := by decide +kernel
theorem dX5_clause_119 : decode cX5_clause 119 = .ok (.aload_n 0, 1) := by decide +kernel
theorem dX5_clause_120 : decode cX5_clause 120 = .ok (.getfield 24, 3) := by decide +kernel
theorem dX5_clause_123 : decode cX5_clause 123 = .ok (.iload_n 3, 1) := by decide +kernel
theorem dX5_clause_124 : decode cX5_clause 124 = .ok (.invokevirtual 180, 3) := by decide +kernel
theorem dX5_clause_127 : decode cX5_clause 127 = .ok (.iconst 0, 1) := by decide +kernel
theorem dX5_clause_128 : decode cX5_clause 128 = .ok (.istore_n 3, 1) := by decide +kernel
theorem dX5_clause_129 : decode cX5_clause 129 = .ok (.iload_n 3, 1) := by decide +kernel
theorem dX5_clause_130 : decode cX5_clause 130 = .ok (.iload_n 2, 1) := by decide +kernel
theorem dX5_clause_131 : decode cX5_clause 131 = .ok (.if_icmp .ge 25, 3) := by decide +kernel
theorem dX5_clause_134 : decode cX5_clause 134 = .ok (.iload_n 3, 1) := by decide +kernel
theorem dX5_clause_135 : decode cX5_clause 135 = .ok (.bipush 8, 2) := by decide +kernel
theorem dX5_clause_137 : decode cX5_clause 137 = .ok (.if_icmp .gt 19, 3) := by decide +kernel
theorem dX5_clause_140 : decode cX5_clause 140 = .ok (.aload_n 0, 1) := by decide +kernel
theorem dX5_clause_141 : decode cX5_clause 141 = .ok (.getfield 24, 3) := by decide +kernel
theorem dX5_clause_144 : decode cX5_clause 144 = .ok (.sipush 10006, 3) := by decide +kernel
theorem dX5_clause_147 : decode cX5_clause 147 = .ok (.invokevirtual 180, 3) := by decide +kernel
theorem dX5_clause_150 : decode cX5_clause 150 = .ok (.iinc 3 1, 3) := by decide +kernel
theorem dX5_clause_153 : decode cX5_clause 153 = .ok (.goto (-24), 3) := by decide +kernel
theorem dX5_clause_156 : decode cX5_clause 156 = .ok (.return_, 1) := by decide +kernel
theorem dX5_opens_0 : decode cX5_opens 0 = .ok (.iload_n 1, 1) := by decide +kernel
theorem dX5_opens_1 : decode cX5_opens 1 = .ok (.bipush 8, 2) := by decide +kernel
theorem dX5_opens_3 : decode cX5_opens 3 = .ok (.if_icmp .lt 8, 3) := by decide +kernel
theorem dX5_opens_6 : decode cX5_opens 6 = .ok (.aload_n 0, 1) := by decide +kernel
theorem dX5_opens_7 : decode cX5_opens 7 = .ok (.iconst 3, 1) := by decide +kernel
theorem dX5_opens_8 : decode cX5_opens 8 = .ok (.invokevirtual 133, 3) := by decide +kernel
theorem dX5_opens_11 : decode cX5_opens 11 = .ok (.aload_n 0, 1) := by decide +kernel
theorem dX5_opens_12 : decode cX5_opens 12 = .ok (.aload_n 0, 1) := by decide +kernel
theorem dX5_opens_13 : decode cX5_opens 13 = .ok (.getfield 65, 3) := by decide +kernel
theorem dX5_opens_16 : decode cX5_opens 16 = .ok (.invokevirtual 140, 3) := by decide +kernel
theorem dX5_opens_19 : decode cX5_opens 19 = .ok (.ireturn, 1) := by decide +kernel
theorem dX6_whoLies_0 : decode cX6_whoLies 0 = .ok (.iconst 0, 1) := by decide +kernel
theorem dX6_whoLies_1 : decode cX6_whoLies 1 = .ok (.istore_n 2, 1) := by decide +kernel
theorem dX6_whoLies_2 : decode cX6_whoLies 2 = .ok (.bipush 6, 2) := by decide +kernel
theorem dX6_whoLies_4 : decode cX6_whoLies 4 = .ok (.istore_n 3, 1) := by decide +kernel
theorem dX6_whoLies_5 : decode cX6_whoLies 5 = .ok (.bipush 63, 2) := by decide +kernel
theorem dX6_whoLies_7 : decode cX6_whoLies 7 = .ok (.istore 4, 2) := by decide +kernel
theorem dX6_whoLies_9 : decode cX6_whoLies 9 = .ok (.iconst 0, 1) := by decide +kernel
theorem dX6_whoLies_10 : decode cX6_whoLies 10 = .ok (.istore 5, 2) := by decide +kernel
theorem dX6_whoLies_12 : decode cX6_whoLies 12 = .ok (.iconst 0, 1) := by decide +kernel
theorem dX6_whoLies_13 : decode cX6_whoLies 13 = .ok (.istore 6, 2) := by decide +kernel
theorem dX6_whoLies_15 : decode cX6_whoLies 15 = .ok (.iload 6, 2) := by decide +kernel
theorem dX6_whoLies_17 : decode cX6_whoLies 17 = .ok (.bipush 64, 2) := by decide +kernel
theorem dX6_whoLies_19 : decode cX6_whoLies 19 = .ok (.if_icmp .ge 45, 3) := by decide +kernel
theorem dX6_whoLies_22 : decode cX6_whoLies 22 = .ok (.aload_n 0, 1) := by decide +kernel
theorem dX6_whoLies_23 : decode cX6_whoLies 23 = .ok (.iload 6, 2) := by decide +kernel
theorem dX6_whoLies_25 : decode cX6_whoLies 25 = .ok (.invokestatic 9, 3) := by decide +kernel
theorem dX6_whoLies_28 : decode cX6_whoLies 28 = .ok (.ifCond .eq 30, 3) := by decide +kernel
theorem dX6_whoLies_31 : decode cX6_whoLies 31 = .ok (.iinc 2 1, 3) := by decide +kernel
theorem dX6_whoLies_34 : decode cX6_whoLies 34 = .ok (.iload_n 3, 1) := by decide +kernel
theorem dX6_whoLies_35 : decode cX6_whoLies 35 = .ok (.iload 6, 2) := by decide +kernel
theorem dX6_whoLies_37 : decode cX6_whoLies 37 = .ok (.invokestatic 15, 3) := by decide +kernel
theorem dX6_whoLies_40 : decode cX6_whoLies 40 = .ok (.invokestatic 21, 3) := by decide +kernel
theorem dX6_whoLies_43 : decode cX6_whoLies 43 = .ok (.istore_n 3, 1) := by decide +kernel
theorem dX6_whoLies_44 : decode cX6_whoLies 44 = .ok (.iload 4, 2) := by decide +kernel
theorem dX6_whoLies_46 : decode cX6_whoLies 46 = .ok (.iload 6, 2) := by decide +kernel
theorem dX6_whoLies_48 : decode cX6_whoLies 48 = .ok (.iand, 1) := by decide +kernel
theorem dX6_whoLies_49 : decode cX6_whoLies 49 = .ok (.istore 4, 2) := by decide +kernel
theorem dX6_whoLies_51 : decode cX6_whoLies 51 = .ok (.iload 5, 2) := by decide +kernel
theorem dX6_whoLies_53 : decode cX6_whoLies 53 = .ok (.iload 6, 2) := by decide +kernel
theorem dX6_whoLies_55 : decode cX6_whoLies 55 = .ok (.ior, 1) := by decide +kernel
theorem dX6_whoLies_56 : decode cX6_whoLies 56 = .ok (.istore 5, 2) := by decide +kernel
theorem dX6_whoLies_58 : decode cX6_whoLies 58 = .ok (.iinc 6 1, 3) := by decide +kernel
theorem dX6_whoLies_61 : decode cX6_whoLies 61 = .ok (.goto (-46), 3) := by decide +kernel
theorem dX6_whoLies_64 : decode cX6_whoLies 64 = .ok (.iload_n 1, 1) := by decide +kernel
theorem dX6_whoLies_65 : decode cX6_whoLies 65 = .ok (.ifCond .ne 5, 3) := by decide +kernel
theorem dX6_whoLies_68 : decode cX6_whoLies 68 = .ok (.iload_n 2, 1) := by decide +kernel
theorem dX6_whoLies_69 : decode cX6_whoLies 69 = .ok (.ireturn, 1) := by decide +kernel
theorem dX6_whoLies_70 : decode cX6_whoLies 70 = .ok (.iload_n 2, 1) := by decide +kernel
theorem dX6_whoLies_71 : decode cX6_whoLies 71 = .ok (.ifCond .eq 20, 3) := by decide +kernel
theorem dX6_whoLies_74 : decode cX6_whoLies 74 = .ok (.iload_n 1, 1) := by decide +kernel
theorem dX6_whoLies_75 : decode cX6_whoLies 75 = .ok (.iconst 1, 1) := by decide +kernel
theorem dX6_whoLies_76 : decode cX6_whoLies 76 = .ok (.if_icmp .eq 17, 3) := by decide +kernel
theorem dX6_whoLies_79 : decode cX6_whoLies 79 = .ok (.iload_n 1, 1) := by decide +kernel
theorem dX6_whoLies_80 : decode cX6_whoLies 80 = .ok (.bipush 10, 2) := by decide +kernel
theorem dX6_whoLies_82 : decode cX6_whoLies 82 = .ok (.isub, 1) := by decide +kernel
theorem dX6_whoLies_83 : decode cX6_whoLies 83 = .ok (.bipush 6, 2) := by decide +kernel
theorem dX6_whoLies_85 : decode cX6_whoLies 85 = .ok (.invokestatic 27, 3) := by decide +kernel
theorem dX6_whoLies_88 : decode cX6_whoLies 88 = .ok (.ifCond .ne 5, 3) := by decide +kernel
theorem dX6_whoLies_91 : decode cX6_whoLies 91 = .ok (.iconst (-1), 1) := by decide +kernel
theorem dX6_whoLies_92 : decode cX6_whoLies 92 = .ok (.ireturn, 1) := by decide +kernel
theorem dX6_whoLies_93 : decode cX6_whoLies 93 = .ok (.iload_n 1, 1) := by decide +kernel
theorem dX6_whoLies_94 : decode cX6_whoLies 94 = .ok (.iconst 1, 1) := by decide +kernel
theorem dX6_whoLies_95 : decode cX6_whoLies 95 = .ok (.if_icmp .ne 5, 3) := by decide +kernel
theorem dX6_whoLies_98 : decode cX6_whoLies 98 = .ok (.iload_n 3, 1) := by decide +kernel
theorem dX6_whoLies_99 : decode cX6_whoLies 99 = .ok (.ireturn, 1) := by decide +kernel
theorem dX6_whoLies_100 : decode cX6_whoLies 100 = .ok (.iload 4, 2) := by decide +kernel
theorem dX6_whoLies_102 : decode cX6_whoLies 102 = .ok (.iload_n 1, 1) := by decide +kernel
theorem dX6_whoLies_103 : decode cX6_whoLies 103 = .ok (.bipush 10, 2) := by decide +kernel
theorem dX6_whoLies_105 : decode cX6_whoLies 105 = .ok (.isub, 1) := by decide +kernel
theorem dX6_whoLies_106 : decode cX6_whoLies 106 = .ok (.invokestatic 31, 3) := by decide +kernel
theorem dX6_whoLies_109 : decode cX6_whoLies 109 = .ok (.ifCond .eq 5, 3) := by decide +kernel
theorem dX6_whoLies_112 : decode cX6_whoLies 112 = .ok (.iconst 1, 1) := by decide +kernel
theorem dX6_whoLies_113 : decode cX6_whoLies 113 = .ok (.ireturn, 1) := by decide +kernel
theorem dX6_whoLies_114 : decode cX6_whoLies 114 = .ok (.iload 5, 2) := by decide +kernel
theorem dX6_whoLies_116 : decode cX6_whoLies 116 = .ok (.iload_n 1, 1) := by decide +kernel
theorem dX6_whoLies_117 : decode cX6_whoLies 117 = .ok (.bipush 10, 2) := by decide +kernel
theorem dX6_whoLies_119 : decode cX6_whoLies 119 = .ok (.isub, 1) := by decide +kernel
theorem dX6_whoLies_120 : decode cX6_whoLies 120 = .ok (.invokestatic 31, 3) := by decide +kernel
theorem dX6_whoLies_123 : decode cX6_whoLies 123 = .ok (.ifCond .eq 7, 3) := by decide +kernel
theorem dX6_whoLies_126 : decode cX6_whoLies 126 = .ok (.iconst (-1), 1) := by decide +kernel
theorem dX6_whoLies_127 : decode cX6_whoLies 127 = .ok (.goto 4, 3) := by decide +kernel
theorem dX6_whoLies_130 : decode cX6_whoLies 130 = .ok (.iconst 0, 1) := by decide +kernel
theorem dX6_whoLies_131 : decode cX6_whoLies 131 = .ok (.ireturn, 1) := by decide +kernel
theorem dX6_canAllBeSaid_0 : decode cX6_canAllBeSaid 0 = .ok (.iconst 0, 1) := by decide +kernel
theorem dX6_canAllBeSaid_1 : decode cX6_canAllBeSaid 1 = .ok (.istore_n 2, 1) := by decide +kernel
theorem dX6_canAllBeSaid_2 : decode cX6_canAllBeSaid 2 = .ok (.iload_n 2, 1) := by decide +kernel
theorem dX6_canAllBeSaid_3 : decode cX6_canAllBeSaid 3 = .ok (.aload_n 0, 1) := by decide +kernel
theorem dX6_canAllBeSaid_4 : decode cX6_canAllBeSaid 4 = .ok (.getfield 34, 3) := by decide +kernel
theorem dX6_canAllBeSaid_7 : decode cX6_canAllBeSaid 7 = .ok (.if_icmp .ge 59, 3) := by decide +kernel
theorem dX6_canAllBeSaid_10 : decode cX6_canAllBeSaid 10 = .ok (.iload_n 1, 1) := by decide +kernel
theorem dX6_canAllBeSaid_11 : decode cX6_canAllBeSaid 11 = .ok (.aload_n 0, 1) := by decide +kernel
theorem dX6_canAllBeSaid_12 : decode cX6_canAllBeSaid 12 = .ok (.iload_n 2, 1) := by decide +kernel
theorem dX6_canAllBeSaid_13 : decode cX6_canAllBeSaid 13 = .ok (.iconst 1, 1) := by decide +kernel
theorem dX6_canAllBeSaid_14 : decode cX6_canAllBeSaid 14 = .ok (.invokevirtual 40, 3) := by decide +kernel
theorem dX6_canAllBeSaid_17 : decode cX6_canAllBeSaid 17 = .ok (.invokestatic 31, 3) := by decide +kernel
theorem dX6_canAllBeSaid_20 : decode cX6_canAllBeSaid 20 = .ok (.aload_n 0, 1) := by decide +kernel
theorem dX6_canAllBeSaid_21 : decode cX6_canAllBeSaid 21 = .ok (.iload_n 2, 1) := by decide +kernel
theorem dX6_canAllBeSaid_22 : decode cX6_canAllBeSaid 22 = .ok (.iconst 2, 1) := by decide +kernel
theorem dX6_canAllBeSaid_23 : decode cX6_canAllBeSaid 23 = .ok (.invokevirtual 40, 3) := by decide +kernel
theorem dX6_canAllBeSaid_26 : decode cX6_canAllBeSaid 26 = .ok (.iconst 1, 1) := by decide +kernel
theorem dX6_canAllBeSaid_27 : decode cX6_canAllBeSaid 27 = .ok (.if_icmp .ne 7, 3) := by decide +kernel
theorem dX6_canAllBeSaid_30 : decode cX6_canAllBeSaid 30 = .ok (.iconst 1, 1) := by decide +kernel
theorem dX6_canAllBeSaid_31 : decode cX6_canAllBeSaid 31 = .ok (.goto 4, 3) := by decide +kernel
theorem dX6_canAllBeSaid_34 : decode cX6_canAllBeSaid 34 = .ok (.iconst 0, 1) := by decide +kernel
theorem dX6_canAllBeSaid_35 : decode cX6_canAllBeSaid 35 = .ok (.if_icmp .ne 7, 3) := by decide +kernel
theorem dX6_canAllBeSaid_38 : decode cX6_canAllBeSaid 38 = .ok (.iconst 1, 1) := by decide +kernel
theorem dX6_canAllBeSaid_39 : decode cX6_canAllBeSaid 39 = .ok (.goto 4, 3) := by decide +kernel
theorem dX6_canAllBeSaid_42 : decode cX6_canAllBeSaid 42 = .ok (.iconst 0, 1) := by decide +kernel
theorem dX6_canAllBeSaid_43 : decode cX6_canAllBeSaid 43 = .ok (.istore_n 3, 1) := by decide +kernel
theorem dX6_canAllBeSaid_44 : decode cX6_canAllBeSaid 44 = .ok (.iload_n 3, 1) := by decide +kernel
theorem dX6_canAllBeSaid_45 : decode cX6_canAllBeSaid 45 = .ok (.iload_n 1, 1) := by decide +kernel
theorem dX6_canAllBeSaid_46 : decode cX6_canAllBeSaid 46 = .ok (.aload_n 0, 1) := by decide +kernel
theorem dX6_canAllBeSaid_47 : decode cX6_canAllBeSaid 47 = .ok (.iload_n 2, 1) := by decide +kernel
theorem dX6_canAllBeSaid_48 : decode cX6_canAllBeSaid 48 = .ok (.iconst 0, 1) := by decide +kernel
theorem dX6_canAllBeSaid_49 : decode cX6_canAllBeSaid 49 = .ok (.invokevirtual 40, 3) := by decide +kernel
theorem dX6_canAllBeSaid_52 : decode cX6_canAllBeSaid 52 = .ok (.invokestatic 31, 3) := by decide +kernel
theorem dX6_canAllBeSaid_55 : decode cX6_canAllBeSaid 55 = .ok (.if_icmp .ne 5, 3) := by decide +kernel
theorem dX6_canAllBeSaid_58 : decode cX6_canAllBeSaid 58 = .ok (.iconst 0, 1) := by decide +kernel
theorem dX6_canAllBeSaid_59 : decode cX6_canAllBeSaid 59 = .ok (.ireturn, 1) := by decide +kernel
theorem dX6_canAllBeSaid_60 : decode cX6_canAllBeSaid 60 = .ok (.iinc 2 1, 3) := by decide +kernel
theorem dX6_canAllBeSaid_63 : decode cX6_canAllBeSaid 63 = .ok (.goto (-61), 3) := by decide +kernel
theorem dX6_canAllBeSaid_66 : decode cX6_canAllBeSaid 66 = .ok (.iconst 1, 1) := by decide +kernel
theorem dX6_canAllBeSaid_67 : decode cX6_canAllBeSaid 67 = .ok (.ireturn, 1) := by decide +kernel
theorem dX6_safeStakes_0 : decode cX6_safeStakes 0 = .ok (.aload_n 0, 1) := by decide +kernel
theorem dX6_safeStakes_1 : decode cX6_safeStakes 1 = .ok (.iconst 0, 1) := by decide +kernel
theorem dX6_safeStakes_2 : decode cX6_safeStakes 2 = .ok (.invokestatic 43, 3) := by decide +kernel
theorem dX6_safeStakes_5 : decode cX6_safeStakes 5 = .ok (.istore_n 3, 1) := by decide +kernel
theorem dX6_safeStakes_6 : decode cX6_safeStakes 6 = .ok (.aload_n 0, 1) := by decide +kernel
theorem dX6_safeStakes_7 : decode cX6_safeStakes 7 = .ok (.iconst 1, 1) := by decide +kernel
theorem dX6_safeStakes_8 : decode cX6_safeStakes 8 = .ok (.invokestatic 43, 3) := by decide +kernel
theorem dX6_safeStakes_11 : decode cX6_safeStakes 11 = .ok (.istore 4, 2) := by decide +kernel
theorem dX6_safeStakes_13 : decode cX6_safeStakes 13 = .ok (.aload_n 0, 1) := by decide +kernel
theorem dX6_safeStakes_14 : decode cX6_safeStakes 14 = .ok (.iconst 2, 1) := by decide +kernel
theorem dX6_safeStakes_15 : decode cX6_safeStakes 15 = .ok (.invokestatic 43, 3) := by decide +kernel
theorem dX6_safeStakes_18 : decode cX6_safeStakes 18 = .ok (.istore 5, 2) := by decide +kernel
theorem dX6_safeStakes_20 : decode cX6_safeStakes 20 = .ok (.iconst 0, 1) := by decide +kernel
theorem dX6_safeStakes_21 : decode cX6_safeStakes 21 = .ok (.istore 6, 2) := by decide +kernel
theorem dX6_safeStakes_23 : decode cX6_safeStakes 23 = .ok (.iload_n 3, 1) := by decide +kernel
theorem dX6_safeStakes_24 : decode cX6_safeStakes 24 = .ok (.ifCond .le 92, 3) := by decide +kernel
theorem dX6_safeStakes_27 : decode cX6_safeStakes 27 = .ok (.iload 4, 2) := by decide +kernel
theorem dX6_safeStakes_29 : decode cX6_safeStakes 29 = .ok (.ifCond .le 87, 3) := by decide +kernel
theorem dX6_safeStakes_32 : decode cX6_safeStakes 32 = .ok (.iload 5, 2) := by decide +kernel
theorem dX6_safeStakes_34 : decode cX6_safeStakes 34 = .ok (.ifCond .le 82, 3) := by decide +kernel
theorem dX6_safeStakes_37 : decode cX6_safeStakes 37 = .ok (.iload_n 1, 1) := by decide +kernel
theorem dX6_safeStakes_38 : decode cX6_safeStakes 38 = .ok (.bipush 100, 2) := by decide +kernel
theorem dX6_safeStakes_40 : decode cX6_safeStakes 40 = .ok (.imul, 1) := by decide +kernel
theorem dX6_safeStakes_41 : decode cX6_safeStakes 41 = .ok (.iconst 1, 1) := by decide +kernel
theorem dX6_safeStakes_42 : decode cX6_safeStakes 42 = .ok (.iadd, 1) := by decide +kernel
theorem dX6_safeStakes_43 : decode cX6_safeStakes 43 = .ok (.istore 7, 2) := by decide +kernel
theorem dX6_safeStakes_45 : decode cX6_safeStakes 45 = .ok (.iconst 0, 1) := by decide +kernel
theorem dX6_safeStakes_46 : decode cX6_safeStakes 46 = .ok (.istore 8, 2) := by decide +kernel
theorem dX6_safeStakes_48 : decode cX6_safeStakes 48 = .ok (.iload 8, 2) := by decide +kernel
theorem dX6_safeStakes_50 : decode cX6_safeStakes 50 = .ok (.bipush 20, 2) := by decide +kernel
theorem dX6_safeStakes_52 : decode cX6_safeStakes 52 = .ok (.if_icmp .ge 64, 3) := by decide +kernel
theorem dX6_safeStakes_55 : decode cX6_safeStakes 55 = .ok (.iload 7, 2) := by decide +kernel
theorem dX6_safeStakes_57 : decode cX6_safeStakes 57 = .ok (.iload 6, 2) := by decide +kernel
theorem dX6_safeStakes_59 : decode cX6_safeStakes 59 = .ok (.isub, 1) := by decide +kernel
theorem dX6_safeStakes_60 : decode cX6_safeStakes 60 = .ok (.iconst 1, 1) := by decide +kernel
theorem dX6_safeStakes_61 : decode cX6_safeStakes 61 = .ok (.if_icmp .le 55, 3) := by decide +kernel
theorem dX6_safeStakes_64 : decode cX6_safeStakes 64 = .ok (.iload 6, 2) := by decide +kernel
theorem dX6_safeStakes_66 : decode cX6_safeStakes 66 = .ok (.iload 7, 2) := by decide +kernel
theorem dX6_safeStakes_68 : decode cX6_safeStakes 68 = .ok (.iadd, 1) := by decide +kernel
theorem dX6_safeStakes_69 : decode cX6_safeStakes 69 = .ok (.iconst 2, 1) := by decide +kernel
theorem dX6_safeStakes_70 : decode cX6_safeStakes 70 = .ok (.idiv, 1) := by decide +kernel
theorem dX6_safeStakes_71 : decode cX6_safeStakes 71 = .ok (.istore 9, 2) := by decide +kernel
theorem dX6_safeStakes_73 : decode cX6_safeStakes 73 = .ok (.iload 9, 2) := by decide +kernel
theorem dX6_safeStakes_75 : decode cX6_safeStakes 75 = .ok (.iload_n 3, 1) := by decide +kernel
theorem dX6_safeStakes_76 : decode cX6_safeStakes 76 = .ok (.invokestatic 47, 3) := by decide +kernel
theorem dX6_safeStakes_79 : decode cX6_safeStakes 79 = .ok (.iload 9, 2) := by decide +kernel
theorem dX6_safeStakes_81 : decode cX6_safeStakes 81 = .ok (.iload 4, 2) := by decide +kernel
theorem dX6_safeStakes_83 : decode cX6_safeStakes 83 = .ok (.invokestatic 47, 3) := by decide +kernel
theorem dX6_safeStakes_86 : decode cX6_safeStakes 86 = .ok (.iadd, 1) := by decide +kernel
theorem dX6_safeStakes_87 : decode cX6_safeStakes 87 = .ok (.iload 9, 2) := by decide +kernel
theorem dX6_safeStakes_89 : decode cX6_safeStakes 89 = .ok (.iload 5, 2) := by decide +kernel
theorem dX6_safeStakes_91 : decode cX6_safeStakes 91 = .ok (.invokestatic 47, 3) := by decide +kernel
theorem dX6_safeStakes_94 : decode cX6_safeStakes 94 = .ok (.iadd, 1) := by decide +kernel
theorem dX6_safeStakes_95 : decode cX6_safeStakes 95 = .ok (.iload_n 1, 1) := by decide +kernel
theorem dX6_safeStakes_96 : decode cX6_safeStakes 96 = .ok (.if_icmp .gt 10, 3) := by decide +kernel
theorem dX6_safeStakes_99 : decode cX6_safeStakes 99 = .ok (.iload 9, 2) := by decide +kernel
theorem dX6_safeStakes_101 : decode cX6_safeStakes 101 = .ok (.istore 6, 2) := by decide +kernel
theorem dX6_safeStakes_103 : decode cX6_safeStakes 103 = .ok (.goto 7, 3) := by decide +kernel
theorem dX6_safeStakes_106 : decode cX6_safeStakes 106 = .ok (.iload 9, 2) := by decide +kernel
theorem dX6_safeStakes_108 : decode cX6_safeStakes 108 = .ok (.istore 7, 2) := by decide +kernel
theorem dX6_safeStakes_110 : decode cX6_safeStakes 110 = .ok (.iinc 8 1, 3) := by decide +kernel
theorem dX6_safeStakes_113 : decode cX6_safeStakes 113 = .ok (.goto (-65), 3) := by decide +kernel
theorem dX6_safeStakes_116 : decode cX6_safeStakes 116 = .ok (.iload_n 2, 1) := by decide +kernel
theorem dX6_safeStakes_117 : decode cX6_safeStakes 117 = .ok (.lookupswitch 78 #[(0, 43), (10, 46), (11, 53), (12, 61)], 43) := by decide +kernel
theorem dX6_safeStakes_160 : decode cX6_safeStakes 160 = .ok (.iload 6, 2) := by decide +kernel
theorem dX6_safeStakes_162 : decode cX6_safeStakes 162 = .ok (.ireturn, 1) := by decide +kernel
theorem dX6_safeStakes_163 : decode cX6_safeStakes 163 = .ok (.iload 6, 2) := by decide +kernel
theorem dX6_safeStakes_165 : decode cX6_safeStakes 165 = .ok (.iload_n 3, 1) := by decide +kernel
theorem dX6_safeStakes_166 : decode cX6_safeStakes 166 = .ok (.invokestatic 47, 3) := by decide +kernel
theorem dX6_safeStakes_169 : decode cX6_safeStakes 169 = .ok (.ireturn, 1) := by decide +kernel
theorem dX6_safeStakes_170 : decode cX6_safeStakes 170 = .ok (.iload 6, 2) := by decide +kernel
theorem dX6_safeStakes_172 : decode cX6_safeStakes 172 = .ok (.iload 4, 2) := by decide +kernel
theorem dX6_safeStakes_174 : decode cX6_safeStakes 174 = .ok (.invokestatic 47, 3) := by decide +kernel
theorem dX6_safeStakes_177 : decode cX6_safeStakes 177 = .ok (.ireturn, 1) := by decide +kernel
theorem dX6_safeStakes_178 : decode cX6_safeStakes 178 = .ok (.iload_n 1, 1) := by decide +kernel
theorem dX6_safeStakes_179 : decode cX6_safeStakes 179 = .ok (.iload 6, 2) := by decide +kernel
theorem dX6_safeStakes_181 : decode cX6_safeStakes 181 = .ok (.iload_n 3, 1) := by decide +kernel
theorem dX6_safeStakes_182 : decode cX6_safeStakes 182 = .ok (.invokestatic 47, 3) := by decide +kernel
theorem dX6_safeStakes_185 : decode cX6_safeStakes 185 = .ok (.isub, 1) := by decide +kernel
theorem dX6_safeStakes_186 : decode cX6_safeStakes 186 = .ok (.iload 6, 2) := by decide +kernel
theorem dX6_safeStakes_188 : decode cX6_safeStakes 188 = .ok (.iload 4, 2) := by decide +kernel
theorem dX6_safeStakes_190 : decode cX6_safeStakes 190 = .ok (.invokestatic 47, 3) := by decide +kernel
theorem dX6_safeStakes_193 : decode cX6_safeStakes 193 = .ok (.isub, 1) := by decide +kernel
theorem dX6_safeStakes_194 : decode cX6_safeStakes 194 = .ok (.ireturn, 1) := by decide +kernel
theorem dX6_safeStakes_195 : decode cX6_safeStakes 195 = .ok (.iconst (-1), 1) := by decide +kernel
theorem dX6_safeStakes_196 : decode cX6_safeStakes 196 = .ok (.ireturn, 1) := by decide +kernel
theorem dX6_bestOdds_0 : decode cX6_bestOdds 0 = .ok (.iconst 0, 1) := by decide +kernel
theorem dX6_bestOdds_1 : decode cX6_bestOdds 1 = .ok (.istore_n 2, 1) := by decide +kernel
theorem dX6_bestOdds_2 : decode cX6_bestOdds 2 = .ok (.iconst 0, 1) := by decide +kernel
theorem dX6_bestOdds_3 : decode cX6_bestOdds 3 = .ok (.istore_n 3, 1) := by decide +kernel
theorem dX6_bestOdds_4 : decode cX6_bestOdds 4 = .ok (.iload_n 3, 1) := by decide +kernel
theorem dX6_bestOdds_5 : decode cX6_bestOdds 5 = .ok (.aload_n 0, 1) := by decide +kernel
theorem dX6_bestOdds_6 : decode cX6_bestOdds 6 = .ok (.getfield 34, 3) := by decide +kernel
theorem dX6_bestOdds_9 : decode cX6_bestOdds 9 = .ok (.if_icmp .ge 30, 3) := by decide +kernel
theorem dX6_bestOdds_12 : decode cX6_bestOdds 12 = .ok (.aload_n 0, 1) := by decide +kernel
theorem dX6_bestOdds_13 : decode cX6_bestOdds 13 = .ok (.iload_n 3, 1) := by decide +kernel
theorem dX6_bestOdds_14 : decode cX6_bestOdds 14 = .ok (.iconst 0, 1) := by decide +kernel
theorem dX6_bestOdds_15 : decode cX6_bestOdds 15 = .ok (.invokevirtual 40, 3) := by decide +kernel
theorem dX6_bestOdds_18 : decode cX6_bestOdds 18 = .ok (.iload_n 1, 1) := by decide +kernel
theorem dX6_bestOdds_19 : decode cX6_bestOdds 19 = .ok (.if_icmp .ne 14, 3) := by decide +kernel
theorem dX6_bestOdds_22 : decode cX6_bestOdds 22 = .ok (.iload_n 2, 1) := by decide +kernel
theorem dX6_bestOdds_23 : decode cX6_bestOdds 23 = .ok (.aload_n 0, 1) := by decide +kernel
theorem dX6_bestOdds_24 : decode cX6_bestOdds 24 = .ok (.iload_n 3, 1) := by decide +kernel
theorem dX6_bestOdds_25 : decode cX6_bestOdds 25 = .ok (.iconst 1, 1) := by decide +kernel
theorem dX6_bestOdds_26 : decode cX6_bestOdds 26 = .ok (.invokevirtual 40, 3) := by decide +kernel
theorem dX6_bestOdds_29 : decode cX6_bestOdds 29 = .ok (.invokestatic 50, 3) := by decide +kernel
theorem dX6_bestOdds_32 : decode cX6_bestOdds 32 = .ok (.istore_n 2, 1) := by decide +kernel
theorem dX6_bestOdds_33 : decode cX6_bestOdds 33 = .ok (.iinc 3 1, 3) := by decide +kernel
theorem dX6_bestOdds_36 : decode cX6_bestOdds 36 = .ok (.goto (-32), 3) := by decide +kernel
theorem dX6_bestOdds_39 : decode cX6_bestOdds 39 = .ok (.iload_n 2, 1) := by decide +kernel
theorem dX6_bestOdds_40 : decode cX6_bestOdds 40 = .ok (.ireturn, 1) := by decide +kernel
theorem dX6_stakeFor_0 : decode cX6_stakeFor 0 = .ok (.iload_n 1, 1) := by decide +kernel
theorem dX6_stakeFor_1 : decode cX6_stakeFor 1 = .ok (.ifCond .le 16, 3) := by decide +kernel
theorem dX6_stakeFor_4 : decode cX6_stakeFor 4 = .ok (.iload_n 0, 1) := by decide +kernel
theorem dX6_stakeFor_5 : decode cX6_stakeFor 5 = .ok (.bipush 100, 2) := by decide +kernel
theorem dX6_stakeFor_7 : decode cX6_stakeFor 7 = .ok (.imul, 1) := by decide +kernel
theorem dX6_stakeFor_8 : decode cX6_stakeFor 8 = .ok (.iload_n 1, 1) := by decide +kernel
theorem dX6_stakeFor_9 : decode cX6_stakeFor 9 = .ok (.iadd, 1) := by decide +kernel
theorem dX6_stakeFor_10 : decode cX6_stakeFor 10 = .ok (.iconst 1, 1) := by decide +kernel
theorem dX6_stakeFor_11 : decode cX6_stakeFor 11 = .ok (.isub, 1) := by decide +kernel
theorem dX6_stakeFor_12 : decode cX6_stakeFor 12 = .ok (.iload_n 1, 1) := by decide +kernel
theorem dX6_stakeFor_13 : decode cX6_stakeFor 13 = .ok (.idiv, 1) := by decide +kernel
theorem dX6_stakeFor_14 : decode cX6_stakeFor 14 = .ok (.goto 4, 3) := by decide +kernel
theorem dX6_stakeFor_17 : decode cX6_stakeFor 17 = .ok (.iconst 0, 1) := by decide +kernel
theorem dX6_stakeFor_18 : decode cX6_stakeFor 18 = .ok (.ireturn, 1) := by decide +kernel
theorem dX6_mostAlike_0 : decode cX6_mostAlike 0 = .ok (.iconst 0, 1) := by decide +kernel
theorem dX6_mostAlike_1 : decode cX6_mostAlike 1 = .ok (.istore_n 2, 1) := by decide +kernel
theorem dX6_mostAlike_2 : decode cX6_mostAlike 2 = .ok (.iconst 0, 1) := by decide +kernel
theorem dX6_mostAlike_3 : decode cX6_mostAlike 3 = .ok (.istore_n 3, 1) := by decide +kernel
theorem dX6_mostAlike_4 : decode cX6_mostAlike 4 = .ok (.iload_n 3, 1) := by decide +kernel
theorem dX6_mostAlike_5 : decode cX6_mostAlike 5 = .ok (.aload_n 0, 1) := by decide +kernel
theorem dX6_mostAlike_6 : decode cX6_mostAlike 6 = .ok (.getfield 34, 3) := by decide +kernel
theorem dX6_mostAlike_9 : decode cX6_mostAlike 9 = .ok (.if_icmp .ge 63, 3) := by decide +kernel
theorem dX6_mostAlike_12 : decode cX6_mostAlike 12 = .ok (.iconst 0, 1) := by decide +kernel
theorem dX6_mostAlike_13 : decode cX6_mostAlike 13 = .ok (.istore 4, 2) := by decide +kernel
theorem dX6_mostAlike_15 : decode cX6_mostAlike 15 = .ok (.iconst 0, 1) := by decide +kernel
theorem dX6_mostAlike_16 : decode cX6_mostAlike 16 = .ok (.istore 5, 2) := by decide +kernel
theorem dX6_mostAlike_18 : decode cX6_mostAlike 18 = .ok (.iload 5, 2) := by decide +kernel
theorem dX6_mostAlike_20 : decode cX6_mostAlike 20 = .ok (.aload_n 0, 1) := by decide +kernel
theorem dX6_mostAlike_21 : decode cX6_mostAlike 21 = .ok (.getfield 34, 3) := by decide +kernel
theorem dX6_mostAlike_24 : decode cX6_mostAlike 24 = .ok (.if_icmp .ge 35, 3) := by decide +kernel
theorem dX6_mostAlike_27 : decode cX6_mostAlike 27 = .ok (.aload_n 0, 1) := by decide +kernel
theorem dX6_mostAlike_28 : decode cX6_mostAlike 28 = .ok (.iload 5, 2) := by decide +kernel
theorem dX6_mostAlike_30 : decode cX6_mostAlike 30 = .ok (.iconst 0, 1) := by decide +kernel
theorem dX6_mostAlike_31 : decode cX6_mostAlike 31 = .ok (.invokevirtual 40, 3) := by decide +kernel
theorem dX6_mostAlike_34 : decode cX6_mostAlike 34 = .ok (.aload_n 0, 1) := by decide +kernel
theorem dX6_mostAlike_35 : decode cX6_mostAlike 35 = .ok (.iload_n 3, 1) := by decide +kernel
theorem dX6_mostAlike_36 : decode cX6_mostAlike 36 = .ok (.iconst 0, 1) := by decide +kernel
theorem dX6_mostAlike_37 : decode cX6_mostAlike 37 = .ok (.invokevirtual 40, 3) := by decide +kernel
theorem dX6_mostAlike_40 : decode cX6_mostAlike 40 = .ok (.isub, 1) := by decide +kernel
theorem dX6_mostAlike_41 : decode cX6_mostAlike 41 = .ok (.iload_n 1, 1) := by decide +kernel
theorem dX6_mostAlike_42 : decode cX6_mostAlike 42 = .ok (.iconst 1, 1) := by decide +kernel
theorem dX6_mostAlike_43 : decode cX6_mostAlike 43 = .ok (.iadd, 1) := by decide +kernel
theorem dX6_mostAlike_44 : decode cX6_mostAlike 44 = .ok (.invokestatic 27, 3) := by decide +kernel
theorem dX6_mostAlike_47 : decode cX6_mostAlike 47 = .ok (.ifCond .eq 6, 3) := by decide +kernel
theorem dX6_mostAlike_50 : decode cX6_mostAlike 50 = .ok (.iinc 4 1, 3) := by decide +kernel
theorem dX6_mostAlike_53 : decode cX6_mostAlike 53 = .ok (.iinc 5 1, 3) := by decide +kernel
theorem dX6_mostAlike_56 : decode cX6_mostAlike 56 = .ok (.goto (-38), 3) := by decide +kernel
theorem dX6_mostAlike_59 : decode cX6_mostAlike 59 = .ok (.iload_n 2, 1) := by decide +kernel
theorem dX6_mostAlike_60 : decode cX6_mostAlike 60 = .ok (.iload 4, 2) := by decide +kernel
theorem dX6_mostAlike_62 : decode cX6_mostAlike 62 = .ok (.invokestatic 50, 3) := by decide +kernel
theorem dX6_mostAlike_65 : decode cX6_mostAlike 65 = .ok (.istore_n 2, 1) := by decide +kernel
theorem dX6_mostAlike_66 : decode cX6_mostAlike 66 = .ok (.iinc 3 1, 3) := by decide +kernel
theorem dX6_mostAlike_69 : decode cX6_mostAlike 69 = .ok (.goto (-65), 3) := by decide +kernel
theorem dX6_mostAlike_72 : decode cX6_mostAlike 72 = .ok (.iload_n 2, 1) := by decide +kernel
theorem dX6_mostAlike_73 : decode cX6_mostAlike 73 = .ok (.ireturn, 1) := by decide +kernel
theorem dX6_couplesAlike_0 : decode cX6_couplesAlike 0 = .ok (.iconst 0, 1) := by decide +kernel
theorem dX6_couplesAlike_1 : decode cX6_couplesAlike 1 = .ok (.istore_n 2, 1) := by decide +kernel
theorem dX6_couplesAlike_2 : decode cX6_couplesAlike 2 = .ok (.iconst 0, 1) := by decide +kernel
theorem dX6_couplesAlike_3 : decode cX6_couplesAlike 3 = .ok (.istore_n 3, 1) := by decide +kernel
theorem dX6_couplesAlike_4 : decode cX6_couplesAlike 4 = .ok (.iload_n 3, 1) := by decide +kernel
theorem dX6_couplesAlike_5 : decode cX6_couplesAlike 5 = .ok (.aload_n 0, 1) := by decide +kernel
theorem dX6_couplesAlike_6 : decode cX6_couplesAlike 6 = .ok (.getfield 34, 3) := by decide +kernel
theorem dX6_couplesAlike_9 : decode cX6_couplesAlike 9 = .ok (.if_icmp .ge 48, 3) := by decide +kernel
theorem dX6_couplesAlike_12 : decode cX6_couplesAlike 12 = .ok (.iconst 0, 1) := by decide +kernel
theorem dX6_couplesAlike_13 : decode cX6_couplesAlike 13 = .ok (.istore 4, 2) := by decide +kernel
theorem dX6_couplesAlike_15 : decode cX6_couplesAlike 15 = .ok (.iload 4, 2) := by decide +kernel
theorem dX6_couplesAlike_17 : decode cX6_couplesAlike 17 = .ok (.iload_n 3, 1) := by decide +kernel
theorem dX6_couplesAlike_18 : decode cX6_couplesAlike 18 = .ok (.if_icmp .ge 33, 3) := by decide +kernel
theorem dX6_couplesAlike_21 : decode cX6_couplesAlike 21 = .ok (.aload_n 0, 1) := by decide +kernel
theorem dX6_couplesAlike_22 : decode cX6_couplesAlike 22 = .ok (.iload_n 3, 1) := by decide +kernel
theorem dX6_couplesAlike_23 : decode cX6_couplesAlike 23 = .ok (.iconst 0, 1) := by decide +kernel
theorem dX6_couplesAlike_24 : decode cX6_couplesAlike 24 = .ok (.invokevirtual 40, 3) := by decide +kernel
theorem dX6_couplesAlike_27 : decode cX6_couplesAlike 27 = .ok (.aload_n 0, 1) := by decide +kernel
theorem dX6_couplesAlike_28 : decode cX6_couplesAlike 28 = .ok (.iload 4, 2) := by decide +kernel
theorem dX6_couplesAlike_30 : decode cX6_couplesAlike 30 = .ok (.iconst 0, 1) := by decide +kernel
theorem dX6_couplesAlike_31 : decode cX6_couplesAlike 31 = .ok (.invokevirtual 40, 3) := by decide +kernel
theorem dX6_couplesAlike_34 : decode cX6_couplesAlike 34 = .ok (.isub, 1) := by decide +kernel
theorem dX6_couplesAlike_35 : decode cX6_couplesAlike 35 = .ok (.invokestatic 53, 3) := by decide +kernel
theorem dX6_couplesAlike_38 : decode cX6_couplesAlike 38 = .ok (.iload_n 1, 1) := by decide +kernel
theorem dX6_couplesAlike_39 : decode cX6_couplesAlike 39 = .ok (.if_icmp .gt 6, 3) := by decide +kernel
theorem dX6_couplesAlike_42 : decode cX6_couplesAlike 42 = .ok (.iinc 2 1, 3) := by decide +kernel
theorem dX6_couplesAlike_45 : decode cX6_couplesAlike 45 = .ok (.iinc 4 1, 3) := by decide +kernel
theorem dX6_couplesAlike_48 : decode cX6_couplesAlike 48 = .ok (.goto (-33), 3) := by decide +kernel
theorem dX6_couplesAlike_51 : decode cX6_couplesAlike 51 = .ok (.iinc 3 1, 3) := by decide +kernel
theorem dX6_couplesAlike_54 : decode cX6_couplesAlike 54 = .ok (.goto (-50), 3) := by decide +kernel
theorem dX6_couplesAlike_57 : decode cX6_couplesAlike 57 = .ok (.iload_n 2, 1) := by decide +kernel
theorem dX6_couplesAlike_58 : decode cX6_couplesAlike 58 = .ok (.ireturn, 1) := by decide +kernel
theorem dX6_orderDown_0 : decode cX6_orderDown 0 = .ok (.iconst (-1), 1) := by decide +kernel
theorem dX6_orderDown_1 : decode cX6_orderDown 1 = .ok (.istore_n 2, 1) := by decide +kernel
theorem dX6_orderDown_2 : decode cX6_orderDown 2 = .ok (.iconst (-1), 1) := by decide +kernel
theorem dX6_orderDown_3 : decode cX6_orderDown 3 = .ok (.istore_n 3, 1) := by decide +kernel
theorem dX6_orderDown_4 : decode cX6_orderDown 4 = .ok (.getstatic 56, 3) := by decide +kernel
theorem dX6_orderDown_7 : decode cX6_orderDown 7 = .ok (.astore 4, 2) := by decide +kernel
theorem dX6_orderDown_9 : decode cX6_orderDown 9 = .ok (.aload 4, 2) := by decide +kernel
theorem dX6_orderDown_11 : decode cX6_orderDown 11 = .ok (.arraylength, 1) := by decide +kernel
theorem dX6_orderDown_12 : decode cX6_orderDown 12 = .ok (.istore 5, 2) := by decide +kernel
theorem dX6_orderDown_14 : decode cX6_orderDown 14 = .ok (.iconst 0, 1) := by decide +kernel
theorem dX6_orderDown_15 : decode cX6_orderDown 15 = .ok (.istore 6, 2) := by decide +kernel
theorem dX6_orderDown_17 : decode cX6_orderDown 17 = .ok (.iload 6, 2) := by decide +kernel
theorem dX6_orderDown_19 : decode cX6_orderDown 19 = .ok (.iload 5, 2) := by decide +kernel
theorem dX6_orderDown_21 : decode cX6_orderDown 21 = .ok (.if_icmp .ge 99, 3) := by decide +kernel
theorem dX6_orderDown_24 : decode cX6_orderDown 24 = .ok (.aload 4, 2) := by decide +kernel
theorem dX6_orderDown_26 : decode cX6_orderDown 26 = .ok (.iload 6, 2) := by decide +kernel
theorem dX6_orderDown_28 : decode cX6_orderDown 28 = .ok (.iaload, 1) := by decide +kernel
theorem dX6_orderDown_29 : decode cX6_orderDown 29 = .ok (.istore 7, 2) := by decide +kernel
theorem dX6_orderDown_31 : decode cX6_orderDown 31 = .ok (.iconst 0, 1) := by decide +kernel
theorem dX6_orderDown_32 : decode cX6_orderDown 32 = .ok (.istore 8, 2) := by decide +kernel
theorem dX6_orderDown_34 : decode cX6_orderDown 34 = .ok (.bipush 100, 2) := by decide +kernel
theorem dX6_orderDown_36 : decode cX6_orderDown 36 = .ok (.istore 9, 2) := by decide +kernel
theorem dX6_orderDown_38 : decode cX6_orderDown 38 = .ok (.iload 9, 2) := by decide +kernel
theorem dX6_orderDown_40 : decode cX6_orderDown 40 = .ok (.ifCond .le 57, 3) := by decide +kernel
theorem dX6_orderDown_43 : decode cX6_orderDown 43 = .ok (.iload 7, 2) := by decide +kernel
theorem dX6_orderDown_45 : decode cX6_orderDown 45 = .ok (.iload 9, 2) := by decide +kernel
theorem dX6_orderDown_47 : decode cX6_orderDown 47 = .ok (.idiv, 1) := by decide +kernel
theorem dX6_orderDown_48 : decode cX6_orderDown 48 = .ok (.bipush 10, 2) := by decide +kernel
theorem dX6_orderDown_50 : decode cX6_orderDown 50 = .ok (.irem, 1) := by decide +kernel
theorem dX6_orderDown_51 : decode cX6_orderDown 51 = .ok (.iconst 2, 1) := by decide +kernel
theorem dX6_orderDown_52 : decode cX6_orderDown 52 = .ok (.imul, 1) := by decide +kernel
theorem dX6_orderDown_53 : decode cX6_orderDown 53 = .ok (.istore 10, 2) := by decide +kernel
theorem dX6_orderDown_55 : decode cX6_orderDown 55 = .ok (.iload 10, 2) := by decide +kernel
theorem dX6_orderDown_57 : decode cX6_orderDown 57 = .ok (.ifCond .lt 30, 3) := by decide +kernel
theorem dX6_orderDown_60 : decode cX6_orderDown 60 = .ok (.iload 10, 2) := by decide +kernel
theorem dX6_orderDown_62 : decode cX6_orderDown 62 = .ok (.iconst 1, 1) := by decide +kernel
theorem dX6_orderDown_63 : decode cX6_orderDown 63 = .ok (.iadd, 1) := by decide +kernel
theorem dX6_orderDown_64 : decode cX6_orderDown 64 = .ok (.aload_n 0, 1) := by decide +kernel
theorem dX6_orderDown_65 : decode cX6_orderDown 65 = .ok (.arraylength, 1) := by decide +kernel
theorem dX6_orderDown_66 : decode cX6_orderDown 66 = .ok (.if_icmp .ge 21, 3) := by decide +kernel
theorem dX6_orderDown_69 : decode cX6_orderDown 69 = .ok (.iload 8, 2) := by decide +kernel
theorem dX6_orderDown_71 : decode cX6_orderDown 71 = .ok (.aload_n 0, 1) := by decide +kernel
theorem dX6_orderDown_72 : decode cX6_orderDown 72 = .ok (.iload 10, 2) := by decide +kernel
theorem dX6_orderDown_74 : decode cX6_orderDown 74 = .ok (.iconst 1, 1) := by decide +kernel
theorem dX6_orderDown_75 : decode cX6_orderDown 75 = .ok (.iadd, 1) := by decide +kernel
theorem dX6_orderDown_76 : decode cX6_orderDown 76 = .ok (.iaload, 1) := by decide +kernel
theorem dX6_orderDown_77 : decode cX6_orderDown 77 = .ok (.invokestatic 50, 3) := by decide +kernel
theorem dX6_orderDown_80 : decode cX6_orderDown 80 = .ok (.aload_n 0, 1) := by decide +kernel
theorem dX6_orderDown_81 : decode cX6_orderDown 81 = .ok (.iload 10, 2) := by decide +kernel
theorem dX6_orderDown_83 : decode cX6_orderDown 83 = .ok (.iaload, 1) := by decide +kernel
theorem dX6_orderDown_84 : decode cX6_orderDown 84 = .ok (.iadd, 1) := by decide +kernel
theorem dX6_orderDown_85 : decode cX6_orderDown 85 = .ok (.istore 8, 2) := by decide +kernel
theorem dX6_orderDown_87 : decode cX6_orderDown 87 = .ok (.iload 9, 2) := by decide +kernel
theorem dX6_orderDown_89 : decode cX6_orderDown 89 = .ok (.bipush 10, 2) := by decide +kernel
theorem dX6_orderDown_91 : decode cX6_orderDown 91 = .ok (.idiv, 1) := by decide +kernel
theorem dX6_orderDown_92 : decode cX6_orderDown 92 = .ok (.istore 9, 2) := by decide +kernel
theorem dX6_orderDown_94 : decode cX6_orderDown 94 = .ok (.goto (-56), 3) := by decide +kernel
theorem dX6_orderDown_97 : decode cX6_orderDown 97 = .ok (.iload_n 2, 1) := by decide +kernel
theorem dX6_orderDown_98 : decode cX6_orderDown 98 = .ok (.iconst (-1), 1) := by decide +kernel
theorem dX6_orderDown_99 : decode cX6_orderDown 99 = .ok (.if_icmp .eq 9, 3) := by decide +kernel
theorem dX6_orderDown_102 : decode cX6_orderDown 102 = .ok (.iload 8, 2) := by decide +kernel
theorem dX6_orderDown_104 : decode cX6_orderDown 104 = .ok (.iload_n 3, 1) := by decide +kernel
theorem dX6_orderDown_105 : decode cX6_orderDown 105 = .ok (.if_icmp .ge 9, 3) := by decide +kernel
theorem dX6_orderDown_108 : decode cX6_orderDown 108 = .ok (.iload 7, 2) := by decide +kernel
theorem dX6_orderDown_110 : decode cX6_orderDown 110 = .ok (.istore_n 2, 1) := by decide +kernel
theorem dX6_orderDown_111 : decode cX6_orderDown 111 = .ok (.iload 8, 2) := by decide +kernel
theorem dX6_orderDown_113 : decode cX6_orderDown 113 = .ok (.istore_n 3, 1) := by decide +kernel
theorem dX6_orderDown_114 : decode cX6_orderDown 114 = .ok (.iinc 6 1, 3) := by decide +kernel
theorem dX6_orderDown_117 : decode cX6_orderDown 117 = .ok (.goto (-100), 3) := by decide +kernel
theorem dX6_orderDown_120 : decode cX6_orderDown 120 = .ok (.iload_n 1, 1) := by decide +kernel
theorem dX6_orderDown_121 : decode cX6_orderDown 121 = .ok (.ifCond .eq 7, 3) := by decide +kernel
theorem dX6_orderDown_124 : decode cX6_orderDown 124 = .ok (.iload_n 3, 1) := by decide +kernel
theorem dX6_orderDown_125 : decode cX6_orderDown 125 = .ok (.goto 4, 3) := by decide +kernel
theorem dX6_orderDown_128 : decode cX6_orderDown 128 = .ok (.iload_n 2, 1) := by decide +kernel
theorem dX6_orderDown_129 : decode cX6_orderDown 129 = .ok (.ireturn, 1) := by decide +kernel
theorem dX6_bestSilence_0 : decode cX6_bestSilence 0 = .ok (.iconst (-1), 1) := by decide +kernel
theorem dX6_bestSilence_1 : decode cX6_bestSilence 1 = .ok (.istore_n 2, 1) := by decide +kernel
theorem dX6_bestSilence_2 : decode cX6_bestSilence 2 = .ok (.iconst (-1), 1) := by decide +kernel
theorem dX6_bestSilence_3 : decode cX6_bestSilence 3 = .ok (.istore_n 3, 1) := by decide +kernel
theorem dX6_bestSilence_4 : decode cX6_bestSilence 4 = .ok (.iconst 0, 1) := by decide +kernel
theorem dX6_bestSilence_5 : decode cX6_bestSilence 5 = .ok (.istore 4, 2) := by decide +kernel
theorem dX6_bestSilence_7 : decode cX6_bestSilence 7 = .ok (.iload 4, 2) := by decide +kernel
theorem dX6_bestSilence_9 : decode cX6_bestSilence 9 = .ok (.aload_n 0, 1) := by decide +kernel
theorem dX6_bestSilence_10 : decode cX6_bestSilence 10 = .ok (.getfield 34, 3) := by decide +kernel
theorem dX6_bestSilence_13 : decode cX6_bestSilence 13 = .ok (.if_icmp .ge 81, 3) := by decide +kernel
theorem dX6_bestSilence_16 : decode cX6_bestSilence 16 = .ok (.iload 4, 2) := by decide +kernel
theorem dX6_bestSilence_18 : decode cX6_bestSilence 18 = .ok (.bipush 7, 2) := by decide +kernel
theorem dX6_bestSilence_20 : decode cX6_bestSilence 20 = .ok (.if_icmp .ge 74, 3) := by decide +kernel
theorem dX6_bestSilence_23 : decode cX6_bestSilence 23 = .ok (.iconst 0, 1) := by decide +kernel
theorem dX6_bestSilence_24 : decode cX6_bestSilence 24 = .ok (.istore 5, 2) := by decide +kernel
theorem dX6_bestSilence_26 : decode cX6_bestSilence 26 = .ok (.iconst 0, 1) := by decide +kernel
theorem dX6_bestSilence_27 : decode cX6_bestSilence 27 = .ok (.istore 6, 2) := by decide +kernel
theorem dX6_bestSilence_29 : decode cX6_bestSilence 29 = .ok (.iload 6, 2) := by decide +kernel
theorem dX6_bestSilence_31 : decode cX6_bestSilence 31 = .ok (.iconst 1, 1) := by decide +kernel
theorem dX6_bestSilence_32 : decode cX6_bestSilence 32 = .ok (.aload_n 0, 1) := by decide +kernel
theorem dX6_bestSilence_33 : decode cX6_bestSilence 33 = .ok (.getfield 34, 3) := by decide +kernel
theorem dX6_bestSilence_36 : decode cX6_bestSilence 36 = .ok (.ishl, 1) := by decide +kernel
theorem dX6_bestSilence_37 : decode cX6_bestSilence 37 = .ok (.if_icmp .ge 39, 3) := by decide +kernel
theorem dX6_bestSilence_40 : decode cX6_bestSilence 40 = .ok (.iload 6, 2) := by decide +kernel
theorem dX6_bestSilence_42 : decode cX6_bestSilence 42 = .ok (.invokestatic 15, 3) := by decide +kernel
theorem dX6_bestSilence_45 : decode cX6_bestSilence 45 = .ok (.iload 4, 2) := by decide +kernel
theorem dX6_bestSilence_47 : decode cX6_bestSilence 47 = .ok (.if_icmp .ne 23, 3) := by decide +kernel
theorem dX6_bestSilence_50 : decode cX6_bestSilence 50 = .ok (.iload 5, 2) := by decide +kernel
theorem dX6_bestSilence_52 : decode cX6_bestSilence 52 = .ok (.getstatic 60, 3) := by decide +kernel
theorem dX6_bestSilence_55 : decode cX6_bestSilence 55 = .ok (.iload 4, 2) := by decide +kernel
theorem dX6_bestSilence_57 : decode cX6_bestSilence 57 = .ok (.iaload, 1) := by decide +kernel
theorem dX6_bestSilence_58 : decode cX6_bestSilence 58 = .ok (.aload_n 0, 1) := by decide +kernel
theorem dX6_bestSilence_59 : decode cX6_bestSilence 59 = .ok (.iload 6, 2) := by decide +kernel
theorem dX6_bestSilence_61 : decode cX6_bestSilence 61 = .ok (.iload 4, 2) := by decide +kernel
theorem dX6_bestSilence_63 : decode cX6_bestSilence 63 = .ok (.invokestatic 63, 3) := by decide +kernel
theorem dX6_bestSilence_66 : decode cX6_bestSilence 66 = .ok (.imul, 1) := by decide +kernel
theorem dX6_bestSilence_67 : decode cX6_bestSilence 67 = .ok (.iadd, 1) := by decide +kernel
theorem dX6_bestSilence_68 : decode cX6_bestSilence 68 = .ok (.istore 5, 2) := by decide +kernel
theorem dX6_bestSilence_70 : decode cX6_bestSilence 70 = .ok (.iinc 6 1, 3) := by decide +kernel
theorem dX6_bestSilence_73 : decode cX6_bestSilence 73 = .ok (.goto (-44), 3) := by decide +kernel
theorem dX6_bestSilence_76 : decode cX6_bestSilence 76 = .ok (.iload 5, 2) := by decide +kernel
theorem dX6_bestSilence_78 : decode cX6_bestSilence 78 = .ok (.iload_n 3, 1) := by decide +kernel
theorem dX6_bestSilence_79 : decode cX6_bestSilence 79 = .ok (.if_icmp .le 9, 3) := by decide +kernel
theorem dX6_bestSilence_82 : decode cX6_bestSilence 82 = .ok (.iload 5, 2) := by decide +kernel
theorem dX6_bestSilence_84 : decode cX6_bestSilence 84 = .ok (.istore_n 3, 1) := by decide +kernel
theorem dX6_bestSilence_85 : decode cX6_bestSilence 85 = .ok (.iload 4, 2) := by decide +kernel
theorem dX6_bestSilence_87 : decode cX6_bestSilence 87 = .ok (.istore_n 2, 1) := by decide +kernel
theorem dX6_bestSilence_88 : decode cX6_bestSilence 88 = .ok (.iinc 4 1, 3) := by decide +kernel
theorem dX6_bestSilence_91 : decode cX6_bestSilence 91 = .ok (.goto (-84), 3) := by decide +kernel
theorem dX6_bestSilence_94 : decode cX6_bestSilence 94 = .ok (.iload_n 1, 1) := by decide +kernel
theorem dX6_bestSilence_95 : decode cX6_bestSilence 95 = .ok (.ifCond .eq 7, 3) := by decide +kernel
theorem dX6_bestSilence_98 : decode cX6_bestSilence 98 = .ok (.iload_n 3, 1) := by decide +kernel
theorem dX6_bestSilence_99 : decode cX6_bestSilence 99 = .ok (.goto 4, 3) := by decide +kernel
theorem dX6_bestSilence_102 : decode cX6_bestSilence 102 = .ok (.iload_n 2, 1) := by decide +kernel
theorem dX6_bestSilence_103 : decode cX6_bestSilence 103 = .ok (.ireturn, 1) := by decide +kernel
theorem dX6_ordersBehind_0 : decode cX6_ordersBehind 0 = .ok (.iconst (-1), 1) := by decide +kernel
theorem dX6_ordersBehind_1 : decode cX6_ordersBehind 1 = .ok (.istore_n 3, 1) := by decide +kernel
theorem dX6_ordersBehind_2 : decode cX6_ordersBehind 2 = .ok (.iconst (-1), 1) := by decide +kernel
theorem dX6_ordersBehind_3 : decode cX6_ordersBehind 3 = .ok (.istore 4, 2) := by decide +kernel
theorem dX6_ordersBehind_5 : decode cX6_ordersBehind 5 = .ok (.iconst 0, 1) := by decide +kernel
theorem dX6_ordersBehind_6 : decode cX6_ordersBehind 6 = .ok (.istore 5, 2) := by decide +kernel
theorem dX6_ordersBehind_8 : decode cX6_ordersBehind 8 = .ok (.iload 5, 2) := by decide +kernel
theorem dX6_ordersBehind_10 : decode cX6_ordersBehind 10 = .ok (.aload_n 0, 1) := by decide +kernel
theorem dX6_ordersBehind_11 : decode cX6_ordersBehind 11 = .ok (.getfield 34, 3) := by decide +kernel
theorem dX6_ordersBehind_14 : decode cX6_ordersBehind 14 = .ok (.if_icmp .ge 44, 3) := by decide +kernel
theorem dX6_ordersBehind_17 : decode cX6_ordersBehind 17 = .ok (.iload_n 3, 1) := by decide +kernel
theorem dX6_ordersBehind_18 : decode cX6_ordersBehind 18 = .ok (.aload_n 0, 1) := by decide +kernel
theorem dX6_ordersBehind_19 : decode cX6_ordersBehind 19 = .ok (.iload 5, 2) := by decide +kernel
theorem dX6_ordersBehind_21 : decode cX6_ordersBehind 21 = .ok (.iconst 0, 1) := by decide +kernel
theorem dX6_ordersBehind_22 : decode cX6_ordersBehind 22 = .ok (.invokevirtual 40, 3) := by decide +kernel
theorem dX6_ordersBehind_25 : decode cX6_ordersBehind 25 = .ok (.invokestatic 50, 3) := by decide +kernel
theorem dX6_ordersBehind_28 : decode cX6_ordersBehind 28 = .ok (.istore_n 3, 1) := by decide +kernel
theorem dX6_ordersBehind_29 : decode cX6_ordersBehind 29 = .ok (.iload_n 1, 1) := by decide +kernel
theorem dX6_ordersBehind_30 : decode cX6_ordersBehind 30 = .ok (.iload 5, 2) := by decide +kernel
theorem dX6_ordersBehind_32 : decode cX6_ordersBehind 32 = .ok (.invokestatic 31, 3) := by decide +kernel
theorem dX6_ordersBehind_35 : decode cX6_ordersBehind 35 = .ok (.ifCond .eq 17, 3) := by decide +kernel
theorem dX6_ordersBehind_38 : decode cX6_ordersBehind 38 = .ok (.iload 4, 2) := by decide +kernel
theorem dX6_ordersBehind_40 : decode cX6_ordersBehind 40 = .ok (.aload_n 0, 1) := by decide +kernel
theorem dX6_ordersBehind_41 : decode cX6_ordersBehind 41 = .ok (.iload 5, 2) := by decide +kernel
theorem dX6_ordersBehind_43 : decode cX6_ordersBehind 43 = .ok (.iconst 0, 1) := by decide +kernel
theorem dX6_ordersBehind_44 : decode cX6_ordersBehind 44 = .ok (.invokevirtual 40, 3) := by decide +kernel
theorem dX6_ordersBehind_47 : decode cX6_ordersBehind 47 = .ok (.invokestatic 50, 3) := by decide +kernel
theorem dX6_ordersBehind_50 : decode cX6_ordersBehind 50 = .ok (.istore 4, 2) := by decide +kernel
theorem dX6_ordersBehind_52 : decode cX6_ordersBehind 52 = .ok (.iinc 5 1, 3) := by decide +kernel
theorem dX6_ordersBehind_55 : decode cX6_ordersBehind 55 = .ok (.goto (-47), 3) := by decide +kernel
theorem dX6_ordersBehind_58 : decode cX6_ordersBehind 58 = .ok (.iconst 0, 1) := by decide +kernel
theorem dX6_ordersBehind_59 : decode cX6_ordersBehind 59 = .ok (.istore 5, 2) := by decide +kernel
theorem dX6_ordersBehind_61 : decode cX6_ordersBehind 61 = .ok (.iconst 0, 1) := by decide +kernel
theorem dX6_ordersBehind_62 : decode cX6_ordersBehind 62 = .ok (.istore 6, 2) := by decide +kernel
theorem dX6_ordersBehind_64 : decode cX6_ordersBehind 64 = .ok (.iconst 0, 1) := by decide +kernel
theorem dX6_ordersBehind_65 : decode cX6_ordersBehind 65 = .ok (.istore 7, 2) := by decide +kernel
theorem dX6_ordersBehind_67 : decode cX6_ordersBehind 67 = .ok (.iload 7, 2) := by decide +kernel
theorem dX6_ordersBehind_69 : decode cX6_ordersBehind 69 = .ok (.aload_n 0, 1) := by decide +kernel
theorem dX6_ordersBehind_70 : decode cX6_ordersBehind 70 = .ok (.getfield 34, 3) := by decide +kernel
theorem dX6_ordersBehind_73 : decode cX6_ordersBehind 73 = .ok (.if_icmp .ge 61, 3) := by decide +kernel
theorem dX6_ordersBehind_76 : decode cX6_ordersBehind 76 = .ok (.iload_n 1, 1) := by decide +kernel
theorem dX6_ordersBehind_77 : decode cX6_ordersBehind 77 = .ok (.iload 7, 2) := by decide +kernel
theorem dX6_ordersBehind_79 : decode cX6_ordersBehind 79 = .ok (.invokestatic 31, 3) := by decide +kernel
theorem dX6_ordersBehind_82 : decode cX6_ordersBehind 82 = .ok (.ifCond .ne 46, 3) := by decide +kernel
theorem dX6_ordersBehind_85 : decode cX6_ordersBehind 85 = .ok (.iload 5, 2) := by decide +kernel
theorem dX6_ordersBehind_87 : decode cX6_ordersBehind 87 = .ok (.aload_n 0, 1) := by decide +kernel
theorem dX6_ordersBehind_88 : decode cX6_ordersBehind 88 = .ok (.iload 7, 2) := by decide +kernel
theorem dX6_ordersBehind_90 : decode cX6_ordersBehind 90 = .ok (.iconst 0, 1) := by decide +kernel
theorem dX6_ordersBehind_91 : decode cX6_ordersBehind 91 = .ok (.invokevirtual 40, 3) := by decide +kernel
theorem dX6_ordersBehind_94 : decode cX6_ordersBehind 94 = .ok (.iload 4, 2) := by decide +kernel
theorem dX6_ordersBehind_96 : decode cX6_ordersBehind 96 = .ok (.if_icmp .le 7, 3) := by decide +kernel
theorem dX6_ordersBehind_99 : decode cX6_ordersBehind 99 = .ok (.iconst 1, 1) := by decide +kernel
theorem dX6_ordersBehind_100 : decode cX6_ordersBehind 100 = .ok (.goto 4, 3) := by decide +kernel
theorem dX6_ordersBehind_103 : decode cX6_ordersBehind 103 = .ok (.iconst 0, 1) := by decide +kernel
theorem dX6_ordersBehind_104 : decode cX6_ordersBehind 104 = .ok (.iadd, 1) := by decide +kernel
theorem dX6_ordersBehind_105 : decode cX6_ordersBehind 105 = .ok (.istore 5, 2) := by decide +kernel
theorem dX6_ordersBehind_107 : decode cX6_ordersBehind 107 = .ok (.iload 6, 2) := by decide +kernel
theorem dX6_ordersBehind_109 : decode cX6_ordersBehind 109 = .ok (.aload_n 0, 1) := by decide +kernel
theorem dX6_ordersBehind_110 : decode cX6_ordersBehind 110 = .ok (.iload 7, 2) := by decide +kernel
theorem dX6_ordersBehind_112 : decode cX6_ordersBehind 112 = .ok (.iconst 0, 1) := by decide +kernel
theorem dX6_ordersBehind_113 : decode cX6_ordersBehind 113 = .ok (.invokevirtual 40, 3) := by decide +kernel
theorem dX6_ordersBehind_116 : decode cX6_ordersBehind 116 = .ok (.iload_n 3, 1) := by decide +kernel
theorem dX6_ordersBehind_117 : decode cX6_ordersBehind 117 = .ok (.if_icmp .ne 7, 3) := by decide +kernel
theorem dX6_ordersBehind_120 : decode cX6_ordersBehind 120 = .ok (.iconst 1, 1) := by decide +kernel
theorem dX6_ordersBehind_121 : decode cX6_ordersBehind 121 = .ok (.goto 4, 3) := by decide +kernel
theorem dX6_ordersBehind_124 : decode cX6_ordersBehind 124 = .ok (.iconst 0, 1) := by decide +kernel
theorem dX6_ordersBehind_125 : decode cX6_ordersBehind 125 = .ok (.iadd, 1) := by decide +kernel
theorem dX6_ordersBehind_126 : decode cX6_ordersBehind 126 = .ok (.istore 6, 2) := by decide +kernel
theorem dX6_ordersBehind_128 : decode cX6_ordersBehind 128 = .ok (.iinc 7 1, 3) := by decide +kernel
theorem dX6_ordersBehind_131 : decode cX6_ordersBehind 131 = .ok (.goto (-64), 3) := by decide +kernel
theorem dX6_ordersBehind_134 : decode cX6_ordersBehind 134 = .ok (.aload_n 0, 1) := by decide +kernel
theorem dX6_ordersBehind_135 : decode cX6_ordersBehind 135 = .ok (.getfield 34, 3) := by decide +kernel
theorem dX6_ordersBehind_138 : decode cX6_ordersBehind 138 = .ok (.iload_n 2, 1) := by decide +kernel
theorem dX6_ordersBehind_139 : decode cX6_ordersBehind 139 = .ok (.isub, 1) := by decide +kernel
theorem dX6_ordersBehind_140 : decode cX6_ordersBehind 140 = .ok (.istore 7, 2) := by decide +kernel
theorem dX6_ordersBehind_142 : decode cX6_ordersBehind 142 = .ok (.iload 7, 2) := by decide +kernel
theorem dX6_ordersBehind_144 : decode cX6_ordersBehind 144 = .ok (.iconst 1, 1) := by decide +kernel
theorem dX6_ordersBehind_145 : decode cX6_ordersBehind 145 = .ok (.if_icmp .lt 10, 3) := by decide +kernel
theorem dX6_ordersBehind_148 : decode cX6_ordersBehind 148 = .ok (.iload 7, 2) := by decide +kernel
theorem dX6_ordersBehind_150 : decode cX6_ordersBehind 150 = .ok (.bipush 7, 2) := by decide +kernel
theorem dX6_ordersBehind_152 : decode cX6_ordersBehind 152 = .ok (.if_icmp .le 5, 3) := by decide +kernel
theorem dX6_ordersBehind_155 : decode cX6_ordersBehind 155 = .ok (.iconst 0, 1) := by decide +kernel
theorem dX6_ordersBehind_156 : decode cX6_ordersBehind 156 = .ok (.ireturn, 1) := by decide +kernel
theorem dX6_ordersBehind_157 : decode cX6_ordersBehind 157 = .ok (.iload 5, 2) := by decide +kernel
theorem dX6_ordersBehind_159 : decode cX6_ordersBehind 159 = .ok (.ifCond .le 18, 3) := by decide +kernel
theorem dX6_ordersBehind_162 : decode cX6_ordersBehind 162 = .ok (.getstatic 60, 3) := by decide +kernel
theorem dX6_ordersBehind_165 : decode cX6_ordersBehind 165 = .ok (.iload 7, 2) := by decide +kernel
theorem dX6_ordersBehind_167 : decode cX6_ordersBehind 167 = .ok (.iaload, 1) := by decide +kernel
theorem dX6_ordersBehind_168 : decode cX6_ordersBehind 168 = .ok (.iload 5, 2) := by decide +kernel
theorem dX6_ordersBehind_170 : decode cX6_ordersBehind 170 = .ok (.idiv, 1) := by decide +kernel
theorem dX6_ordersBehind_171 : decode cX6_ordersBehind 171 = .ok (.iload 6, 2) := by decide +kernel
theorem dX6_ordersBehind_173 : decode cX6_ordersBehind 173 = .ok (.imul, 1) := by decide +kernel
theorem dX6_ordersBehind_174 : decode cX6_ordersBehind 174 = .ok (.goto 14, 3) := by decide +kernel
theorem dX6_ordersBehind_177 : decode cX6_ordersBehind 177 = .ok (.getstatic 60, 3) := by decide +kernel
theorem dX6_ordersBehind_180 : decode cX6_ordersBehind 180 = .ok (.iload 7, 2) := by decide +kernel
theorem dX6_ordersBehind_182 : decode cX6_ordersBehind 182 = .ok (.iconst 1, 1) := by decide +kernel
theorem dX6_ordersBehind_183 : decode cX6_ordersBehind 183 = .ok (.isub, 1) := by decide +kernel
theorem dX6_ordersBehind_184 : decode cX6_ordersBehind 184 = .ok (.iaload, 1) := by decide +kernel
theorem dX6_ordersBehind_185 : decode cX6_ordersBehind 185 = .ok (.iload 6, 2) := by decide +kernel
theorem dX6_ordersBehind_187 : decode cX6_ordersBehind 187 = .ok (.imul, 1) := by decide +kernel
theorem dX6_ordersBehind_188 : decode cX6_ordersBehind 188 = .ok (.ireturn, 1) := by decide +kernel
theorem dX6_goodTaking_0 : decode cX6_goodTaking 0 = .ok (.iconst 0, 1) := by decide +kernel
theorem dX6_goodTaking_1 : decode cX6_goodTaking 1 = .ok (.istore_n 2, 1) := by decide +kernel
theorem dX6_goodTaking_2 : decode cX6_goodTaking 2 = .ok (.iload_n 2, 1) := by decide +kernel
theorem dX6_goodTaking_3 : decode cX6_goodTaking 3 = .ok (.aload_n 0, 1) := by decide +kernel
theorem dX6_goodTaking_4 : decode cX6_goodTaking 4 = .ok (.arraylength, 1) := by decide +kernel
theorem dX6_goodTaking_5 : decode cX6_goodTaking 5 = .ok (.if_icmp .ge 48, 3) := by decide +kernel
theorem dX6_goodTaking_8 : decode cX6_goodTaking 8 = .ok (.iconst 1, 1) := by decide +kernel
theorem dX6_goodTaking_9 : decode cX6_goodTaking 9 = .ok (.istore_n 3, 1) := by decide +kernel
theorem dX6_goodTaking_10 : decode cX6_goodTaking 10 = .ok (.iload_n 3, 1) := by decide +kernel
theorem dX6_goodTaking_11 : decode cX6_goodTaking 11 = .ok (.iconst 3, 1) := by decide +kernel
theorem dX6_goodTaking_12 : decode cX6_goodTaking 12 = .ok (.if_icmp .gt 35, 3) := by decide +kernel
theorem dX6_goodTaking_15 : decode cX6_goodTaking 15 = .ok (.iload_n 3, 1) := by decide +kernel
theorem dX6_goodTaking_16 : decode cX6_goodTaking 16 = .ok (.aload_n 0, 1) := by decide +kernel
theorem dX6_goodTaking_17 : decode cX6_goodTaking 17 = .ok (.iload_n 2, 1) := by decide +kernel
theorem dX6_goodTaking_18 : decode cX6_goodTaking 18 = .ok (.iaload, 1) := by decide +kernel
theorem dX6_goodTaking_19 : decode cX6_goodTaking 19 = .ok (.if_icmp .gt 28, 3) := by decide +kernel
theorem dX6_goodTaking_22 : decode cX6_goodTaking 22 = .ok (.aload_n 0, 1) := by decide +kernel
theorem dX6_goodTaking_23 : decode cX6_goodTaking 23 = .ok (.iload_n 2, 1) := by decide +kernel
theorem dX6_goodTaking_24 : decode cX6_goodTaking 24 = .ok (.iload_n 3, 1) := by decide +kernel
theorem dX6_goodTaking_25 : decode cX6_goodTaking 25 = .ok (.invokestatic 67, 3) := by decide +kernel
theorem dX6_goodTaking_28 : decode cX6_goodTaking 28 = .ok (.ifCond .eq 13, 3) := by decide +kernel
theorem dX6_goodTaking_31 : decode cX6_goodTaking 31 = .ok (.iload_n 1, 1) := by decide +kernel
theorem dX6_goodTaking_32 : decode cX6_goodTaking 32 = .ok (.ifCond .eq 7, 3) := by decide +kernel
theorem dX6_goodTaking_35 : decode cX6_goodTaking 35 = .ok (.iload_n 3, 1) := by decide +kernel
theorem dX6_goodTaking_36 : decode cX6_goodTaking 36 = .ok (.goto 4, 3) := by decide +kernel
theorem dX6_goodTaking_39 : decode cX6_goodTaking 39 = .ok (.iload_n 2, 1) := by decide +kernel
theorem dX6_goodTaking_40 : decode cX6_goodTaking 40 = .ok (.ireturn, 1) := by decide +kernel
theorem dX6_goodTaking_41 : decode cX6_goodTaking 41 = .ok (.iinc 3 1, 3) := by decide +kernel
theorem dX6_goodTaking_44 : decode cX6_goodTaking 44 = .ok (.goto (-34), 3) := by decide +kernel
theorem dX6_goodTaking_47 : decode cX6_goodTaking 47 = .ok (.iinc 2 1, 3) := by decide +kernel
theorem dX6_goodTaking_50 : decode cX6_goodTaking 50 = .ok (.goto (-48), 3) := by decide +kernel
theorem dX6_goodTaking_53 : decode cX6_goodTaking 53 = .ok (.iconst (-1), 1) := by decide +kernel
theorem dX6_goodTaking_54 : decode cX6_goodTaking 54 = .ok (.ireturn, 1) := by decide +kernel
theorem dX6_isLostAfter_0 : decode cX6_isLostAfter 0 = .ok (.iconst 0, 1) := by decide +kernel
theorem dX6_isLostAfter_1 : decode cX6_isLostAfter 1 = .ok (.istore_n 3, 1) := by decide +kernel
theorem dX6_isLostAfter_2 : decode cX6_isLostAfter 2 = .ok (.iconst 0, 1) := by decide +kernel
theorem dX6_isLostAfter_3 : decode cX6_isLostAfter 3 = .ok (.istore 4, 2) := by decide +kernel
theorem dX6_isLostAfter_5 : decode cX6_isLostAfter 5 = .ok (.iconst 0, 1) := by decide +kernel
theorem dX6_isLostAfter_6 : decode cX6_isLostAfter 6 = .ok (.istore 5, 2) := by decide +kernel
theorem dX6_isLostAfter_8 : decode cX6_isLostAfter 8 = .ok (.iload 5, 2) := by decide +kernel
theorem dX6_isLostAfter_10 : decode cX6_isLostAfter 10 = .ok (.aload_n 0, 1) := by decide +kernel
theorem dX6_isLostAfter_11 : decode cX6_isLostAfter 11 = .ok (.arraylength, 1) := by decide +kernel
theorem dX6_isLostAfter_12 : decode cX6_isLostAfter 12 = .ok (.if_icmp .ge 52, 3) := by decide +kernel
theorem dX6_isLostAfter_15 : decode cX6_isLostAfter 15 = .ok (.aload_n 0, 1) := by decide +kernel
theorem dX6_isLostAfter_16 : decode cX6_isLostAfter 16 = .ok (.iload 5, 2) := by decide +kernel
theorem dX6_isLostAfter_18 : decode cX6_isLostAfter 18 = .ok (.iaload, 1) := by decide +kernel
theorem dX6_isLostAfter_19 : decode cX6_isLostAfter 19 = .ok (.iload 5, 2) := by decide +kernel
theorem dX6_isLostAfter_21 : decode cX6_isLostAfter 21 = .ok (.iload_n 1, 1) := by decide +kernel
theorem dX6_isLostAfter_22 : decode cX6_isLostAfter 22 = .ok (.if_icmp .ne 7, 3) := by decide +kernel
theorem dX6_isLostAfter_25 : decode cX6_isLostAfter 25 = .ok (.iload_n 2, 1) := by decide +kernel
theorem dX6_isLostAfter_26 : decode cX6_isLostAfter 26 = .ok (.goto 4, 3) := by decide +kernel
theorem dX6_isLostAfter_29 : decode cX6_isLostAfter 29 = .ok (.iconst 0, 1) := by decide +kernel
theorem dX6_isLostAfter_30 : decode cX6_isLostAfter 30 = .ok (.isub, 1) := by decide +kernel
theorem dX6_isLostAfter_31 : decode cX6_isLostAfter 31 = .ok (.iconst 3, 1) := by decide +kernel
theorem dX6_isLostAfter_32 : decode cX6_isLostAfter 32 = .ok (.iand, 1) := by decide +kernel
theorem dX6_isLostAfter_33 : decode cX6_isLostAfter 33 = .ok (.istore 6, 2) := by decide +kernel
theorem dX6_isLostAfter_35 : decode cX6_isLostAfter 35 = .ok (.iload_n 3, 1) := by decide +kernel
theorem dX6_isLostAfter_36 : decode cX6_isLostAfter 36 = .ok (.iload 6, 2) := by decide +kernel
theorem dX6_isLostAfter_38 : decode cX6_isLostAfter 38 = .ok (.ixor, 1) := by decide +kernel
theorem dX6_isLostAfter_39 : decode cX6_isLostAfter 39 = .ok (.istore_n 3, 1) := by decide +kernel
theorem dX6_isLostAfter_40 : decode cX6_isLostAfter 40 = .ok (.iload 4, 2) := by decide +kernel
theorem dX6_isLostAfter_42 : decode cX6_isLostAfter 42 = .ok (.ifCond .ne 9, 3) := by decide +kernel
theorem dX6_isLostAfter_45 : decode cX6_isLostAfter 45 = .ok (.iload 6, 2) := by decide +kernel
theorem dX6_isLostAfter_47 : decode cX6_isLostAfter 47 = .ok (.iconst 1, 1) := by decide +kernel
theorem dX6_isLostAfter_48 : decode cX6_isLostAfter 48 = .ok (.if_icmp .le 7, 3) := by decide +kernel
theorem dX6_isLostAfter_51 : decode cX6_isLostAfter 51 = .ok (.iconst 1, 1) := by decide +kernel
theorem dX6_isLostAfter_52 : decode cX6_isLostAfter 52 = .ok (.goto 4, 3) := by decide +kernel
theorem dX6_isLostAfter_55 : decode cX6_isLostAfter 55 = .ok (.iconst 0, 1) := by decide +kernel
theorem dX6_isLostAfter_56 : decode cX6_isLostAfter 56 = .ok (.istore 4, 2) := by decide +kernel
theorem dX6_isLostAfter_58 : decode cX6_isLostAfter 58 = .ok (.iinc 5 1, 3) := by decide +kernel
theorem dX6_isLostAfter_61 : decode cX6_isLostAfter 61 = .ok (.goto (-53), 3) := by decide +kernel
theorem dX6_isLostAfter_64 : decode cX6_isLostAfter 64 = .ok (.iload 4, 2) := by decide +kernel
theorem dX6_isLostAfter_66 : decode cX6_isLostAfter 66 = .ok (.ifCond .eq 15, 3) := by decide +kernel
theorem dX6_isLostAfter_69 : decode cX6_isLostAfter 69 = .ok (.iload_n 3, 1) := by decide +kernel
theorem dX6_isLostAfter_70 : decode cX6_isLostAfter 70 = .ok (.ifCond .ne 7, 3) := by decide +kernel
theorem dX6_isLostAfter_73 : decode cX6_isLostAfter 73 = .ok (.iconst 1, 1) := by decide +kernel
theorem dX6_isLostAfter_74 : decode cX6_isLostAfter 74 = .ok (.goto 17, 3) := by decide +kernel
theorem dX6_isLostAfter_77 : decode cX6_isLostAfter 77 = .ok (.iconst 0, 1) := by decide +kernel
theorem dX6_isLostAfter_78 : decode cX6_isLostAfter 78 = .ok (.goto 13, 3) := by decide +kernel
theorem dX6_isLostAfter_81 : decode cX6_isLostAfter 81 = .ok (.iload_n 3, 1) := by decide +kernel
theorem dX6_isLostAfter_82 : decode cX6_isLostAfter 82 = .ok (.iconst 1, 1) := by decide +kernel
theorem dX6_isLostAfter_83 : decode cX6_isLostAfter 83 = .ok (.if_icmp .ne 7, 3) := by decide +kernel
theorem dX6_isLostAfter_86 : decode cX6_isLostAfter 86 = .ok (.iconst 1, 1) := by decide +kernel
theorem dX6_isLostAfter_87 : decode cX6_isLostAfter 87 = .ok (.goto 4, 3) := by decide +kernel
theorem dX6_isLostAfter_90 : decode cX6_isLostAfter 90 = .ok (.iconst 0, 1) := by decide +kernel
theorem dX6_isLostAfter_91 : decode cX6_isLostAfter 91 = .ok (.ireturn, 1) := by decide +kernel
theorem dX7_init_0 : decode cX7_init 0 = .ok (.aload_n 0, 1) := by decide +kernel
theorem dX7_init_1 : decode cX7_init 1 = .ok (.invokespecial 3, 3) := by decide +kernel
theorem dX7_init_4 : decode cX7_init 4 = .ok (.aload_n 0, 1) := by decide +kernel
theorem dX7_init_5 : decode cX7_init 5 = .ok (.bipush 11, 2) := by decide +kernel
theorem dX7_init_7 : decode cX7_init 7 = .ok (.newarray .int, 2) := by decide +kernel
theorem dX7_init_9 : decode cX7_init 9 = .ok (.putfield 11, 3) := by decide +kernel
theorem dX7_init_12 : decode cX7_init 12 = .ok (.aload_n 0, 1) := by decide +kernel
theorem dX7_init_13 : decode cX7_init 13 = .ok (.iconst 3, 1) := by decide +kernel
theorem dX7_init_14 : decode cX7_init 14 = .ok (.newarray .int, 2) := by decide +kernel
theorem dX7_init_16 : decode cX7_init 16 = .ok (.putfield 17, 3) := by decide +kernel
theorem dX7_init_19 : decode cX7_init 19 = .ok (.aload_n 0, 1) := by decide +kernel
theorem dX7_init_20 : decode cX7_init 20 = .ok (.iconst 3, 1) := by decide +kernel
theorem dX7_init_21 : decode cX7_init 21 = .ok (.newarray .int, 2) := by decide +kernel
theorem dX7_init_23 : decode cX7_init 23 = .ok (.putfield 20, 3) := by decide +kernel
theorem dX7_init_26 : decode cX7_init 26 = .ok (.aload_n 0, 1) := by decide +kernel
theorem dX7_init_27 : decode cX7_init 27 = .ok (.bipush 12, 2) := by decide +kernel
theorem dX7_init_29 : decode cX7_init 29 = .ok (.newarray .int, 2) := by decide +kernel
theorem dX7_init_31 : decode cX7_init 31 = .ok (.putfield 23, 3) := by decide +kernel
theorem dX7_init_34 : decode cX7_init 34 = .ok (.aload_n 0, 1) := by decide +kernel
theorem dX7_init_35 : decode cX7_init 35 = .ok (.bipush 12, 2) := by decide +kernel
theorem dX7_init_37 : decode cX7_init 37 = .ok (.newarray .int, 2) := by decide +kernel
theorem dX7_init_39 : decode cX7_init 39 = .ok (.putfield 26, 3) := by decide +kernel
theorem dX7_init_42 : decode cX7_init 42 = .ok (.aload_n 0, 1) := by decide +kernel
theorem dX7_init_43 : decode cX7_init 43 = .ok (.aload_n 1, 1) := by decide +kernel
theorem dX7_init_44 : decode cX7_init 44 = .ok (.putfield 29, 3) := by decide +kernel
theorem dX7_init_47 : decode cX7_init 47 = .ok (.return_, 1) := by decide +kernel
theorem dX7_meet_0 : decode cX7_meet 0 = .ok (.aload_n 0, 1) := by decide +kernel
theorem dX7_meet_1 : decode cX7_meet 1 = .ok (.getfield 29, 3) := by decide +kernel
theorem dX7_meet_4 : decode cX7_meet 4 = .ok (.iload_n 2, 1) := by decide +kernel
theorem dX7_meet_5 : decode cX7_meet 5 = .ok (.invokevirtual 33, 3) := by decide +kernel
theorem dX7_meet_8 : decode cX7_meet 8 = .ok (.ifCond .eq 14, 3) := by decide +kernel
theorem dX7_meet_11 : decode cX7_meet 11 = .ok (.aload_n 0, 1) := by decide +kernel
theorem dX7_meet_12 : decode cX7_meet 12 = .ok (.getfield 29, 3) := by decide +kernel
theorem dX7_meet_15 : decode cX7_meet 15 = .ok (.iload_n 3, 1) := by decide +kernel
theorem dX7_meet_16 : decode cX7_meet 16 = .ok (.invokevirtual 39, 3) := by decide +kernel
theorem dX7_meet_19 : decode cX7_meet 19 = .ok (.ifCond .ne 4, 3) := by decide +kernel
theorem dX7_meet_22 : decode cX7_meet 22 = .ok (.return_, 1) := by decide +kernel
theorem dX7_meet_23 : decode cX7_meet 23 = .ok (.aload_n 0, 1) := by decide +kernel
theorem dX7_meet_24 : decode cX7_meet 24 = .ok (.getfield 11, 3) := by decide +kernel
theorem dX7_meet_27 : decode cX7_meet 27 = .ok (.iconst 0, 1) := by decide +kernel
theorem dX7_meet_28 : decode cX7_meet 28 = .ok (.aload_n 0, 1) := by decide +kernel
theorem dX7_meet_29 : decode cX7_meet 29 = .ok (.getfield 29, 3) := by decide +kernel
theorem dX7_meet_32 : decode cX7_meet 32 = .ok (.getfield 42, 3) := by decide +kernel
theorem dX7_meet_35 : decode cX7_meet 35 = .ok (.iload_n 3, 1) := by decide +kernel
theorem dX7_meet_36 : decode cX7_meet 36 = .ok (.iaload, 1) := by decide +kernel
theorem dX7_meet_37 : decode cX7_meet 37 = .ok (.iastore, 1) := by decide +kernel
theorem dX7_meet_38 : decode cX7_meet 38 = .ok (.aload_n 0, 1) := by decide +kernel
theorem dX7_meet_39 : decode cX7_meet 39 = .ok (.getfield 11, 3) := by decide +kernel
theorem dX7_meet_42 : decode cX7_meet 42 = .ok (.iconst 1, 1) := by decide +kernel
theorem dX7_meet_43 : decode cX7_meet 43 = .ok (.aload_n 0, 1) := by decide +kernel
theorem dX7_meet_44 : decode cX7_meet 44 = .ok (.getfield 29, 3) := by decide +kernel
theorem dX7_meet_47 : decode cX7_meet 47 = .ok (.getfield 45, 3) := by decide +kernel
theorem dX7_meet_50 : decode cX7_meet 50 = .ok (.iload_n 3, 1) := by decide +kernel
theorem dX7_meet_51 : decode cX7_meet 51 = .ok (.iaload, 1) := by decide +kernel
theorem dX7_meet_52 : decode cX7_meet 52 = .ok (.iastore, 1) := by decide +kernel
theorem dX7_meet_53 : decode cX7_meet 53 = .ok (.aload_n 0, 1) := by decide +kernel
theorem dX7_meet_54 : decode cX7_meet 54 = .ok (.getfield 11, 3) := by decide +kernel
theorem dX7_meet_57 : decode cX7_meet 57 = .ok (.iconst 2, 1) := by decide +kernel
theorem dX7_meet_58 : decode cX7_meet 58 = .ok (.aload_n 0, 1) := by decide +kernel
theorem dX7_meet_59 : decode cX7_meet 59 = .ok (.getfield 29, 3) := by decide +kernel
theorem dX7_meet_62 : decode cX7_meet 62 = .ok (.getfield 48, 3) := by decide +kernel
theorem dX7_meet_65 : decode cX7_meet 65 = .ok (.iload_n 3, 1) := by decide +kernel
theorem dX7_meet_66 : decode cX7_meet 66 = .ok (.iaload, 1) := by decide +kernel
theorem dX7_meet_67 : decode cX7_meet 67 = .ok (.iastore, 1) := by decide +kernel
theorem dX7_meet_68 : decode cX7_meet 68 = .ok (.aload_n 0, 1) := by decide +kernel
theorem dX7_meet_69 : decode cX7_meet 69 = .ok (.getfield 11, 3) := by decide +kernel
theorem dX7_meet_72 : decode cX7_meet 72 = .ok (.iconst 3, 1) := by decide +kernel
theorem dX7_meet_73 : decode cX7_meet 73 = .ok (.aload_n 0, 1) := by decide +kernel
theorem dX7_meet_74 : decode cX7_meet 74 = .ok (.getfield 29, 3) := by decide +kernel
theorem dX7_meet_77 : decode cX7_meet 77 = .ok (.getfield 51, 3) := by decide +kernel
theorem dX7_meet_80 : decode cX7_meet 80 = .ok (.iload_n 2, 1) := by decide +kernel
theorem dX7_meet_81 : decode cX7_meet 81 = .ok (.iaload, 1) := by decide +kernel
theorem dX7_meet_82 : decode cX7_meet 82 = .ok (.iload_n 3, 1) := by decide +kernel
theorem dX7_meet_83 : decode cX7_meet 83 = .ok (.if_icmp .ne 7, 3) := by decide +kernel
theorem dX7_meet_86 : decode cX7_meet 86 = .ok (.iconst 1, 1) := by decide +kernel
theorem dX7_meet_87 : decode cX7_meet 87 = .ok (.goto 4, 3) := by decide +kernel
theorem dX7_meet_90 : decode cX7_meet 90 = .ok (.iconst 0, 1) := by decide +kernel
theorem dX7_meet_91 : decode cX7_meet 91 = .ok (.iastore, 1) := by decide +kernel
theorem dX7_meet_92 : decode cX7_meet 92 = .ok (.aload_n 0, 1) := by decide +kernel
theorem dX7_meet_93 : decode cX7_meet 93 = .ok (.getfield 11, 3) := by decide +kernel
theorem dX7_meet_96 : decode cX7_meet 96 = .ok (.bipush 7, 2) := by decide +kernel
theorem dX7_meet_98 : decode cX7_meet 98 = .ok (.aload_n 0, 1) := by decide +kernel
theorem dX7_meet_99 : decode cX7_meet 99 = .ok (.getfield 29, 3) := by decide +kernel
theorem dX7_meet_102 : decode cX7_meet 102 = .ok (.getfield 54, 3) := by decide +kernel
theorem dX7_meet_105 : decode cX7_meet 105 = .ok (.iload_n 2, 1) := by decide +kernel
theorem dX7_meet_106 : decode cX7_meet 106 = .ok (.iaload, 1) := by decide +kernel
theorem dX7_meet_107 : decode cX7_meet 107 = .ok (.iastore, 1) := by decide +kernel
theorem dX7_meet_108 : decode cX7_meet 108 = .ok (.aload_n 0, 1) := by decide +kernel
theorem dX7_meet_109 : decode cX7_meet 109 = .ok (.getfield 11, 3) := by decide +kernel
theorem dX7_meet_112 : decode cX7_meet 112 = .ok (.bipush 8, 2) := by decide +kernel
theorem dX7_meet_114 : decode cX7_meet 114 = .ok (.aload_n 1, 1) := by decide +kernel
theorem dX7_meet_115 : decode cX7_meet 115 = .ok (.getfield 57, 3) := by decide +kernel
theorem dX7_meet_118 : decode cX7_meet 118 = .ok (.iastore, 1) := by decide +kernel
theorem dX7_meet_119 : decode cX7_meet 119 = .ok (.aload_n 0, 1) := by decide +kernel
theorem dX7_meet_120 : decode cX7_meet 120 = .ok (.getfield 11, 3) := by decide +kernel
theorem dX7_meet_123 : decode cX7_meet 123 = .ok (.bipush 9, 2) := by decide +kernel
theorem dX7_meet_125 : decode cX7_meet 125 = .ok (.aload_n 1, 1) := by decide +kernel
theorem dX7_meet_126 : decode cX7_meet 126 = .ok (.getfield 63, 3) := by decide +kernel
theorem dX7_meet_129 : decode cX7_meet 129 = .ok (.iload_n 2, 1) := by decide +kernel
theorem dX7_meet_130 : decode cX7_meet 130 = .ok (.iaload, 1) := by decide +kernel
theorem dX7_meet_131 : decode cX7_meet 131 = .ok (.iastore, 1) := by decide +kernel
theorem dX7_meet_132 : decode cX7_meet 132 = .ok (.aload_n 0, 1) := by decide +kernel
theorem dX7_meet_133 : decode cX7_meet 133 = .ok (.getfield 11, 3) := by decide +kernel
theorem dX7_meet_136 : decode cX7_meet 136 = .ok (.bipush 10, 2) := by decide +kernel
theorem dX7_meet_138 : decode cX7_meet 138 = .ok (.aload_n 1, 1) := by decide +kernel
theorem dX7_meet_139 : decode cX7_meet 139 = .ok (.getfield 66, 3) := by decide +kernel
theorem dX7_meet_142 : decode cX7_meet 142 = .ok (.iload_n 2, 1) := by decide +kernel
theorem dX7_meet_143 : decode cX7_meet 143 = .ok (.iaload, 1) := by decide +kernel
theorem dX7_meet_144 : decode cX7_meet 144 = .ok (.iastore, 1) := by decide +kernel
theorem dX7_meet_145 : decode cX7_meet 145 = .ok (.return_, 1) := by decide +kernel
theorem dX7_hear_0 : decode cX7_hear 0 = .ok (.aload_n 0, 1) := by decide +kernel
theorem dX7_hear_1 : decode cX7_hear 1 = .ok (.getfield 11, 3) := by decide +kernel
theorem dX7_hear_4 : decode cX7_hear 4 = .ok (.iconst 5, 1) := by decide +kernel
theorem dX7_hear_5 : decode cX7_hear 5 = .ok (.iload_n 1, 1) := by decide +kernel
theorem dX7_hear_6 : decode cX7_hear 6 = .ok (.iastore, 1) := by decide +kernel
theorem dX7_hear_7 : decode cX7_hear 7 = .ok (.aload_n 0, 1) := by decide +kernel
theorem dX7_hear_8 : decode cX7_hear 8 = .ok (.getfield 11, 3) := by decide +kernel
theorem dX7_hear_11 : decode cX7_hear 11 = .ok (.bipush 6, 2) := by decide +kernel
theorem dX7_hear_13 : decode cX7_hear 13 = .ok (.iload_n 2, 1) := by decide +kernel
theorem dX7_hear_14 : decode cX7_hear 14 = .ok (.iastore, 1) := by decide +kernel
theorem dX7_hear_15 : decode cX7_hear 15 = .ok (.aload_n 0, 1) := by decide +kernel
theorem dX7_hear_16 : decode cX7_hear 16 = .ok (.getfield 11, 3) := by decide +kernel
theorem dX7_hear_19 : decode cX7_hear 19 = .ok (.iconst 4, 1) := by decide +kernel
theorem dX7_hear_20 : decode cX7_hear 20 = .ok (.iload_n 3, 1) := by decide +kernel
theorem dX7_hear_21 : decode cX7_hear 21 = .ok (.ifCond .eq 7, 3) := by decide +kernel
theorem dX7_hear_24 : decode cX7_hear 24 = .ok (.iconst 1, 1) := by decide +kernel
theorem dX7_hear_25 : decode cX7_hear 25 = .ok (.goto 4, 3) := by decide +kernel
theorem dX7_hear_28 : decode cX7_hear 28 = .ok (.iconst 0, 1) := by decide +kernel
theorem dX7_hear_29 : decode cX7_hear 29 = .ok (.iastore, 1) := by decide +kernel
theorem dX7_hear_30 : decode cX7_hear 30 = .ok (.return_, 1) := by decide +kernel
theorem dX7_yesTold_0 : decode cX7_yesTold 0 = .ok (.aload_n 0, 1) := by decide +kernel
theorem dX7_yesTold_1 : decode cX7_yesTold 1 = .ok (.iload_n 1, 1) := by decide +kernel
theorem dX7_yesTold_2 : decode cX7_yesTold 2 = .ok (.iload_n 2, 1) := by decide +kernel
theorem dX7_yesTold_3 : decode cX7_yesTold 3 = .ok (.iconst 0, 1) := by decide +kernel
theorem dX7_yesTold_4 : decode cX7_yesTold 4 = .ok (.invokevirtual 69, 3) := by decide +kernel
theorem dX7_yesTold_7 : decode cX7_yesTold 7 = .ok (.sipush 500, 3) := by decide +kernel
theorem dX7_yesTold_10 : decode cX7_yesTold 10 = .ok (.bipush 40, 2) := by decide +kernel
theorem dX7_yesTold_12 : decode cX7_yesTold 12 = .ok (.aload_n 0, 1) := by decide +kernel
theorem dX7_yesTold_13 : decode cX7_yesTold 13 = .ok (.getfield 11, 3) := by decide +kernel
theorem dX7_yesTold_16 : decode cX7_yesTold 16 = .ok (.iconst 1, 1) := by decide +kernel
theorem dX7_yesTold_17 : decode cX7_yesTold 17 = .ok (.iaload, 1) := by decide +kernel
theorem dX7_yesTold_18 : decode cX7_yesTold 18 = .ok (.imul, 1) := by decide +kernel
theorem dX7_yesTold_19 : decode cX7_yesTold 19 = .ok (.iadd, 1) := by decide +kernel
theorem dX7_yesTold_20 : decode cX7_yesTold 20 = .ok (.bipush 30, 2) := by decide +kernel
theorem dX7_yesTold_22 : decode cX7_yesTold 22 = .ok (.aload_n 0, 1) := by decide +kernel
theorem dX7_yesTold_23 : decode cX7_yesTold 23 = .ok (.getfield 11, 3) := by decide +kernel
theorem dX7_yesTold_26 : decode cX7_yesTold 26 = .ok (.iconst 2, 1) := by decide +kernel
theorem dX7_yesTold_27 : decode cX7_yesTold 27 = .ok (.iaload, 1) := by decide +kernel
theorem dX7_yesTold_28 : decode cX7_yesTold 28 = .ok (.imul, 1) := by decide +kernel
theorem dX7_yesTold_29 : decode cX7_yesTold 29 = .ok (.isub, 1) := by decide +kernel
theorem dX7_yesTold_30 : decode cX7_yesTold 30 = .ok (.sipush 200, 3) := by decide +kernel
theorem dX7_yesTold_33 : decode cX7_yesTold 33 = .ok (.aload_n 0, 1) := by decide +kernel
theorem dX7_yesTold_34 : decode cX7_yesTold 34 = .ok (.getfield 11, 3) := by decide +kernel
theorem dX7_yesTold_37 : decode cX7_yesTold 37 = .ok (.iconst 3, 1) := by decide +kernel
theorem dX7_yesTold_38 : decode cX7_yesTold 38 = .ok (.iaload, 1) := by decide +kernel
theorem dX7_yesTold_39 : decode cX7_yesTold 39 = .ok (.imul, 1) := by decide +kernel
theorem dX7_yesTold_40 : decode cX7_yesTold 40 = .ok (.iadd, 1) := by decide +kernel
theorem dX7_yesTold_41 : decode cX7_yesTold 41 = .ok (.istore_n 3, 1) := by decide +kernel
theorem dX7_yesTold_42 : decode cX7_yesTold 42 = .ok (.aload_n 0, 1) := by decide +kernel
theorem dX7_yesTold_43 : decode cX7_yesTold 43 = .ok (.getfield 29, 3) := by decide +kernel
theorem dX7_yesTold_46 : decode cX7_yesTold 46 = .ok (.getfield 73, 3) := by decide +kernel
theorem dX7_yesTold_49 : decode cX7_yesTold 49 = .ok (.sipush 10000, 3) := by decide +kernel
theorem dX7_yesTold_52 : decode cX7_yesTold 52 = .ok (.aload_n 0, 1) := by decide +kernel
theorem dX7_yesTold_53 : decode cX7_yesTold 53 = .ok (.getfield 11, 3) := by decide +kernel
theorem dX7_yesTold_56 : decode cX7_yesTold 56 = .ok (.iload_n 3, 1) := by decide +kernel
theorem dX7_yesTold_57 : decode cX7_yesTold 57 = .ok (.invokevirtual 77, 3) := by decide +kernel
theorem dX7_yesTold_60 : decode cX7_yesTold 60 = .ok (.iconst 0, 1) := by decide +kernel
theorem dX7_yesTold_61 : decode cX7_yesTold 61 = .ok (.sipush 1000, 3) := by decide +kernel
theorem dX7_yesTold_64 : decode cX7_yesTold 64 = .ok (.invokestatic 83, 3) := by decide +kernel
theorem dX7_yesTold_67 : decode cX7_yesTold 67 = .ok (.ireturn, 1) := by decide +kernel
theorem dX7_countsTold_0 : decode cX7_countsTold 0 = .ok (.aload_n 0, 1) := by decide +kernel
theorem dX7_countsTold_1 : decode cX7_countsTold 1 = .ok (.iload_n 1, 1) := by decide +kernel
theorem dX7_countsTold_2 : decode cX7_countsTold 2 = .ok (.iload_n 2, 1) := by decide +kernel
theorem dX7_countsTold_3 : decode cX7_countsTold 3 = .ok (.iload_n 3, 1) := by decide +kernel
theorem dX7_countsTold_4 : decode cX7_countsTold 4 = .ok (.invokevirtual 69, 3) := by decide +kernel
theorem dX7_countsTold_7 : decode cX7_countsTold 7 = .ok (.aload_n 0, 1) := by decide +kernel
theorem dX7_countsTold_8 : decode cX7_countsTold 8 = .ok (.getfield 29, 3) := by decide +kernel
theorem dX7_countsTold_11 : decode cX7_countsTold 11 = .ok (.getfield 73, 3) := by decide +kernel
theorem dX7_countsTold_14 : decode cX7_countsTold 14 = .ok (.sipush 10001, 3) := by decide +kernel
theorem dX7_countsTold_17 : decode cX7_countsTold 17 = .ok (.aload_n 0, 1) := by decide +kernel
theorem dX7_countsTold_18 : decode cX7_countsTold 18 = .ok (.getfield 11, 3) := by decide +kernel
theorem dX7_countsTold_21 : decode cX7_countsTold 21 = .ok (.iconst 1, 1) := by decide +kernel
theorem dX7_countsTold_22 : decode cX7_countsTold 22 = .ok (.invokevirtual 77, 3) := by decide +kernel
theorem dX7_countsTold_25 : decode cX7_countsTold 25 = .ok (.bipush (-99), 2) := by decide +kernel
theorem dX7_countsTold_27 : decode cX7_countsTold 27 = .ok (.bipush 99, 2) := by decide +kernel
theorem dX7_countsTold_29 : decode cX7_countsTold 29 = .ok (.invokestatic 83, 3) := by decide +kernel
theorem dX7_countsTold_32 : decode cX7_countsTold 32 = .ok (.ireturn, 1) := by decide +kernel
theorem dX7_joyTold_0 : decode cX7_joyTold 0 = .ok (.aload_n 0, 1) := by decide +kernel
theorem dX7_joyTold_1 : decode cX7_joyTold 1 = .ok (.iconst 0, 1) := by decide +kernel
theorem dX7_joyTold_2 : decode cX7_joyTold 2 = .ok (.iconst 0, 1) := by decide +kernel
theorem dX7_joyTold_3 : decode cX7_joyTold 3 = .ok (.iconst 0, 1) := by decide +kernel
theorem dX7_joyTold_4 : decode cX7_joyTold 4 = .ok (.invokevirtual 69, 3) := by decide +kernel
theorem dX7_joyTold_7 : decode cX7_joyTold 7 = .ok (.aload_n 0, 1) := by decide +kernel
theorem dX7_joyTold_8 : decode cX7_joyTold 8 = .ok (.getfield 11, 3) := by decide +kernel
theorem dX7_joyTold_11 : decode cX7_joyTold 11 = .ok (.iconst 1, 1) := by decide +kernel
theorem dX7_joyTold_12 : decode cX7_joyTold 12 = .ok (.iaload, 1) := by decide +kernel
theorem dX7_joyTold_13 : decode cX7_joyTold 13 = .ok (.iconst 4, 1) := by decide +kernel
theorem dX7_joyTold_14 : decode cX7_joyTold 14 = .ok (.isub, 1) := by decide +kernel
theorem dX7_joyTold_15 : decode cX7_joyTold 15 = .ok (.aload_n 0, 1) := by decide +kernel
theorem dX7_joyTold_16 : decode cX7_joyTold 16 = .ok (.getfield 11, 3) := by decide +kernel
theorem dX7_joyTold_19 : decode cX7_joyTold 19 = .ok (.iconst 3, 1) := by decide +kernel
theorem dX7_joyTold_20 : decode cX7_joyTold 20 = .ok (.iaload, 1) := by decide +kernel
theorem dX7_joyTold_21 : decode cX7_joyTold 21 = .ok (.iadd, 1) := by decide +kernel
theorem dX7_joyTold_22 : decode cX7_joyTold 22 = .ok (.istore_n 1, 1) := by decide +kernel
theorem dX7_joyTold_23 : decode cX7_joyTold 23 = .ok (.aload_n 0, 1) := by decide +kernel
theorem dX7_joyTold_24 : decode cX7_joyTold 24 = .ok (.getfield 29, 3) := by decide +kernel
theorem dX7_joyTold_27 : decode cX7_joyTold 27 = .ok (.getfield 73, 3) := by decide +kernel
theorem dX7_joyTold_30 : decode cX7_joyTold 30 = .ok (.sipush 10002, 3) := by decide +kernel
theorem dX7_joyTold_33 : decode cX7_joyTold 33 = .ok (.aload_n 0, 1) := by decide +kernel
theorem dX7_joyTold_34 : decode cX7_joyTold 34 = .ok (.getfield 11, 3) := by decide +kernel
theorem dX7_joyTold_37 : decode cX7_joyTold 37 = .ok (.iload_n 1, 1) := by decide +kernel
theorem dX7_joyTold_38 : decode cX7_joyTold 38 = .ok (.invokevirtual 77, 3) := by decide +kernel
theorem dX7_joyTold_41 : decode cX7_joyTold 41 = .ok (.bipush (-20), 2) := by decide +kernel
theorem dX7_joyTold_43 : decode cX7_joyTold 43 = .ok (.bipush 20, 2) := by decide +kernel
theorem dX7_joyTold_45 : decode cX7_joyTold 45 = .ok (.invokestatic 83, 3) := by decide +kernel
theorem dX7_joyTold_48 : decode cX7_joyTold 48 = .ok (.ireturn, 1) := by decide +kernel
theorem dX7_canWed_0 : decode cX7_canWed 0 = .ok (.aload_n 0, 1) := by decide +kernel
theorem dX7_canWed_1 : decode cX7_canWed 1 = .ok (.getfield 29, 3) := by decide +kernel
theorem dX7_canWed_4 : decode cX7_canWed 4 = .ok (.iload_n 2, 1) := by decide +kernel
theorem dX7_canWed_5 : decode cX7_canWed 5 = .ok (.invokevirtual 33, 3) := by decide +kernel
theorem dX7_canWed_8 : decode cX7_canWed 8 = .ok (.ifCond .eq 64, 3) := by decide +kernel
theorem dX7_canWed_11 : decode cX7_canWed 11 = .ok (.aload_n 0, 1) := by decide +kernel
theorem dX7_canWed_12 : decode cX7_canWed 12 = .ok (.getfield 29, 3) := by decide +kernel
theorem dX7_canWed_15 : decode cX7_canWed 15 = .ok (.iload_n 3, 1) := by decide +kernel
theorem dX7_canWed_16 : decode cX7_canWed 16 = .ok (.iload 4, 2) := by decide +kernel
theorem dX7_canWed_18 : decode cX7_canWed 18 = .ok (.iload 5, 2) := by decide +kernel
theorem dX7_canWed_20 : decode cX7_canWed 20 = .ok (.invokevirtual 87, 3) := by decide +kernel
theorem dX7_canWed_23 : decode cX7_canWed 23 = .ok (.ifCond .eq 49, 3) := by decide +kernel
theorem dX7_canWed_26 : decode cX7_canWed 26 = .ok (.aload_n 1, 1) := by decide +kernel
theorem dX7_canWed_27 : decode cX7_canWed 27 = .ok (.getfield 91, 3) := by decide +kernel
theorem dX7_canWed_30 : decode cX7_canWed 30 = .ok (.iload_n 2, 1) := by decide +kernel
theorem dX7_canWed_31 : decode cX7_canWed 31 = .ok (.iaload, 1) := by decide +kernel
theorem dX7_canWed_32 : decode cX7_canWed 32 = .ok (.iconst (-1), 1) := by decide +kernel
theorem dX7_canWed_33 : decode cX7_canWed 33 = .ok (.if_icmp .ne 39, 3) := by decide +kernel
theorem dX7_canWed_36 : decode cX7_canWed 36 = .ok (.aload_n 1, 1) := by decide +kernel
theorem dX7_canWed_37 : decode cX7_canWed 37 = .ok (.getfield 94, 3) := by decide +kernel
theorem dX7_canWed_40 : decode cX7_canWed 40 = .ok (.iload_n 3, 1) := by decide +kernel
theorem dX7_canWed_41 : decode cX7_canWed 41 = .ok (.iaload, 1) := by decide +kernel
theorem dX7_canWed_42 : decode cX7_canWed 42 = .ok (.iconst (-1), 1) := by decide +kernel
theorem dX7_canWed_43 : decode cX7_canWed 43 = .ok (.if_icmp .ne 29, 3) := by decide +kernel
theorem dX7_canWed_46 : decode cX7_canWed 46 = .ok (.aload_n 1, 1) := by decide +kernel
theorem dX7_canWed_47 : decode cX7_canWed 47 = .ok (.getfield 94, 3) := by decide +kernel
theorem dX7_canWed_50 : decode cX7_canWed 50 = .ok (.iload 4, 2) := by decide +kernel
theorem dX7_canWed_52 : decode cX7_canWed 52 = .ok (.iaload, 1) := by decide +kernel
theorem dX7_canWed_53 : decode cX7_canWed 53 = .ok (.iconst (-1), 1) := by decide +kernel
theorem dX7_canWed_54 : decode cX7_canWed 54 = .ok (.if_icmp .ne 18, 3) := by decide +kernel
theorem dX7_canWed_57 : decode cX7_canWed 57 = .ok (.aload_n 1, 1) := by decide +kernel
theorem dX7_canWed_58 : decode cX7_canWed 58 = .ok (.getfield 94, 3) := by decide +kernel
theorem dX7_canWed_61 : decode cX7_canWed 61 = .ok (.iload 5, 2) := by decide +kernel
theorem dX7_canWed_63 : decode cX7_canWed 63 = .ok (.iaload, 1) := by decide +kernel
theorem dX7_canWed_64 : decode cX7_canWed 64 = .ok (.iconst (-1), 1) := by decide +kernel
theorem dX7_canWed_65 : decode cX7_canWed 65 = .ok (.if_icmp .ne 7, 3) := by decide +kernel
theorem dX7_canWed_68 : decode cX7_canWed 68 = .ok (.iconst 1, 1) := by decide +kernel
theorem dX7_canWed_69 : decode cX7_canWed 69 = .ok (.goto 4, 3) := by decide +kernel
theorem dX7_canWed_72 : decode cX7_canWed 72 = .ok (.iconst 0, 1) := by decide +kernel
theorem dX7_canWed_73 : decode cX7_canWed 73 = .ok (.ireturn, 1) := by decide +kernel
theorem dX7_seat_0 : decode cX7_seat 0 = .ok (.aload_n 0, 1) := by decide +kernel
theorem dX7_seat_1 : decode cX7_seat 1 = .ok (.getfield 17, 3) := by decide +kernel
theorem dX7_seat_4 : decode cX7_seat 4 = .ok (.iconst 0, 1) := by decide +kernel
theorem dX7_seat_5 : decode cX7_seat 5 = .ok (.iload_n 1, 1) := by decide +kernel
theorem dX7_seat_6 : decode cX7_seat 6 = .ok (.iastore, 1) := by decide +kernel
theorem dX7_seat_7 : decode cX7_seat 7 = .ok (.aload_n 0, 1) := by decide +kernel
theorem dX7_seat_8 : decode cX7_seat 8 = .ok (.getfield 17, 3) := by decide +kernel
theorem dX7_seat_11 : decode cX7_seat 11 = .ok (.iconst 1, 1) := by decide +kernel
theorem dX7_seat_12 : decode cX7_seat 12 = .ok (.iload_n 2, 1) := by decide +kernel
theorem dX7_seat_13 : decode cX7_seat 13 = .ok (.iastore, 1) := by decide +kernel
theorem dX7_seat_14 : decode cX7_seat 14 = .ok (.aload_n 0, 1) := by decide +kernel
theorem dX7_seat_15 : decode cX7_seat 15 = .ok (.getfield 17, 3) := by decide +kernel
theorem dX7_seat_18 : decode cX7_seat 18 = .ok (.iconst 2, 1) := by decide +kernel
theorem dX7_seat_19 : decode cX7_seat 19 = .ok (.iload_n 3, 1) := by decide +kernel
theorem dX7_seat_20 : decode cX7_seat 20 = .ok (.iastore, 1) := by decide +kernel
theorem dX7_seat_21 : decode cX7_seat 21 = .ok (.return_, 1) := by decide +kernel
theorem dX7_write_0 : decode cX7_write 0 = .ok (.iload 5, 2) := by decide +kernel
theorem dX7_write_2 : decode cX7_write 2 = .ok (.ifCond .ne 22, 3) := by decide +kernel
theorem dX7_write_5 : decode cX7_write 5 = .ok (.aload_n 0, 1) := by decide +kernel
theorem dX7_write_6 : decode cX7_write 6 = .ok (.getfield 29, 3) := by decide +kernel
theorem dX7_write_9 : decode cX7_write 9 = .ok (.getfield 97, 3) := by decide +kernel
theorem dX7_write_12 : decode cX7_write 12 = .ok (.aload_n 1, 1) := by decide +kernel
theorem dX7_write_13 : decode cX7_write 13 = .ok (.getfield 57, 3) := by decide +kernel
theorem dX7_write_16 : decode cX7_write 16 = .ok (.iload_n 2, 1) := by decide +kernel
theorem dX7_write_17 : decode cX7_write 17 = .ok (.iload_n 3, 1) := by decide +kernel
theorem dX7_write_18 : decode cX7_write 18 = .ok (.iload 4, 2) := by decide +kernel
theorem dX7_write_20 : decode cX7_write 20 = .ok (.invokevirtual 101, 3) := by decide +kernel
theorem dX7_write_23 : decode cX7_write 23 = .ok (.pop, 1) := by decide +kernel
theorem dX7_write_24 : decode cX7_write 24 = .ok (.return_, 1) := by decide +kernel
theorem dX7_answer_0 : decode cX7_answer 0 = .ok (.aload_n 0, 1) := by decide +kernel
theorem dX7_answer_1 : decode cX7_answer 1 = .ok (.getfield 17, 3) := by decide +kernel
theorem dX7_answer_4 : decode cX7_answer 4 = .ok (.iload 4, 2) := by decide +kernel
theorem dX7_answer_6 : decode cX7_answer 6 = .ok (.iaload, 1) := by decide +kernel
theorem dX7_answer_7 : decode cX7_answer 7 = .ok (.istore 6, 2) := by decide +kernel
theorem dX7_answer_9 : decode cX7_answer 9 = .ok (.aload_n 0, 1) := by decide +kernel
theorem dX7_answer_10 : decode cX7_answer 10 = .ok (.getfield 29, 3) := by decide +kernel
theorem dX7_answer_13 : decode cX7_answer 13 = .ok (.getfield 107, 3) := by decide +kernel
theorem dX7_answer_16 : decode cX7_answer 16 = .ok (.iload_n 3, 1) := by decide +kernel
theorem dX7_answer_17 : decode cX7_answer 17 = .ok (.iconst 0, 1) := by decide +kernel
theorem dX7_answer_18 : decode cX7_answer 18 = .ok (.invokevirtual 110, 3) := by decide +kernel
theorem dX7_answer_21 : decode cX7_answer 21 = .ok (.istore 7, 2) := by decide +kernel
theorem dX7_answer_23 : decode cX7_answer 23 = .ok (.aload_n 0, 1) := by decide +kernel
theorem dX7_answer_24 : decode cX7_answer 24 = .ok (.aload_n 1, 1) := by decide +kernel
theorem dX7_answer_25 : decode cX7_answer 25 = .ok (.iload_n 2, 1) := by decide +kernel
theorem dX7_answer_26 : decode cX7_answer 26 = .ok (.iload 6, 2) := by decide +kernel
theorem dX7_answer_28 : decode cX7_answer 28 = .ok (.invokevirtual 114, 3) := by decide +kernel
theorem dX7_answer_31 : decode cX7_answer 31 = .ok (.aload_n 0, 1) := by decide +kernel
theorem dX7_answer_32 : decode cX7_answer 32 = .ok (.iload 7, 2) := by decide +kernel
theorem dX7_answer_34 : decode cX7_answer 34 = .ok (.iload 4, 2) := by decide +kernel
theorem dX7_answer_36 : decode cX7_answer 36 = .ok (.invokevirtual 118, 3) := by decide +kernel
theorem dX7_answer_39 : decode cX7_answer 39 = .ok (.istore 8, 2) := by decide +kernel
theorem dX7_answer_41 : decode cX7_answer 41 = .ok (.iload 5, 2) := by decide +kernel
theorem dX7_answer_43 : decode cX7_answer 43 = .ok (.ifCond .eq 19, 3) := by decide +kernel
theorem dX7_answer_46 : decode cX7_answer 46 = .ok (.iload 8, 2) := by decide +kernel
theorem dX7_answer_48 : decode cX7_answer 48 = .ok (.sipush 500, 3) := by decide +kernel
theorem dX7_answer_51 : decode cX7_answer 51 = .ok (.if_icmp .lt 7, 3) := by decide +kernel
theorem dX7_answer_54 : decode cX7_answer 54 = .ok (.iconst 1, 1) := by decide +kernel
theorem dX7_answer_55 : decode cX7_answer 55 = .ok (.goto 21, 3) := by decide +kernel
theorem dX7_answer_58 : decode cX7_answer 58 = .ok (.iconst 0, 1) := by decide +kernel
theorem dX7_answer_59 : decode cX7_answer 59 = .ok (.goto 17, 3) := by decide +kernel
theorem dX7_answer_62 : decode cX7_answer 62 = .ok (.aload_n 1, 1) := by decide +kernel
theorem dX7_answer_63 : decode cX7_answer 63 = .ok (.invokevirtual 121, 3) := by decide +kernel
theorem dX7_answer_66 : decode cX7_answer 66 = .ok (.iload 8, 2) := by decide +kernel
theorem dX7_answer_68 : decode cX7_answer 68 = .ok (.if_icmp .ge 7, 3) := by decide +kernel
theorem dX7_answer_71 : decode cX7_answer 71 = .ok (.iconst 1, 1) := by decide +kernel
theorem dX7_answer_72 : decode cX7_answer 72 = .ok (.goto 4, 3) := by decide +kernel
theorem dX7_answer_75 : decode cX7_answer 75 = .ok (.iconst 0, 1) := by decide +kernel
theorem dX7_answer_76 : decode cX7_answer 76 = .ok (.istore 9, 2) := by decide +kernel
theorem dX7_answer_78 : decode cX7_answer 78 = .ok (.aload_n 0, 1) := by decide +kernel
theorem dX7_answer_79 : decode cX7_answer 79 = .ok (.aload_n 1, 1) := by decide +kernel
theorem dX7_answer_80 : decode cX7_answer 80 = .ok (.iload 9, 2) := by decide +kernel
theorem dX7_answer_82 : decode cX7_answer 82 = .ok (.ifCond .eq 7, 3) := by decide +kernel
theorem dX7_answer_85 : decode cX7_answer 85 = .ok (.iconst 0, 1) := by decide +kernel
theorem dX7_answer_86 : decode cX7_answer 86 = .ok (.goto 4, 3) := by decide +kernel
theorem dX7_answer_89 : decode cX7_answer 89 = .ok (.iconst 1, 1) := by decide +kernel
theorem dX7_answer_90 : decode cX7_answer 90 = .ok (.iload 6, 2) := by decide +kernel
theorem dX7_answer_92 : decode cX7_answer 92 = .ok (.iload 7, 2) := by decide +kernel
theorem dX7_answer_94 : decode cX7_answer 94 = .ok (.iload 5, 2) := by decide +kernel
theorem dX7_answer_96 : decode cX7_answer 96 = .ok (.invokevirtual 125, 3) := by decide +kernel
theorem dX7_answer_99 : decode cX7_answer 99 = .ok (.aload_n 0, 1) := by decide +kernel
theorem dX7_answer_100 : decode cX7_answer 100 = .ok (.iload 7, 2) := by decide +kernel
theorem dX7_answer_102 : decode cX7_answer 102 = .ok (.iload 4, 2) := by decide +kernel
theorem dX7_answer_104 : decode cX7_answer 104 = .ok (.iload 9, 2) := by decide +kernel
theorem dX7_answer_106 : decode cX7_answer 106 = .ok (.invokevirtual 129, 3) := by decide +kernel
theorem dX7_answer_109 : decode cX7_answer 109 = .ok (.ireturn, 1) := by decide +kernel
theorem dX7_wedding_0 : decode cX7_wedding 0 = .ok (.aload_n 0, 1) := by decide +kernel
theorem dX7_wedding_1 : decode cX7_wedding 1 = .ok (.iload_n 3, 1) := by decide +kernel
theorem dX7_wedding_2 : decode cX7_wedding 2 = .ok (.iload 4, 2) := by decide +kernel
theorem dX7_wedding_4 : decode cX7_wedding 4 = .ok (.iload 5, 2) := by decide +kernel
theorem dX7_wedding_6 : decode cX7_wedding 6 = .ok (.invokevirtual 133, 3) := by decide +kernel
theorem dX7_wedding_9 : decode cX7_wedding 9 = .ok (.aload_n 0, 1) := by decide +kernel
theorem dX7_wedding_10 : decode cX7_wedding 10 = .ok (.getfield 20, 3) := by decide +kernel
theorem dX7_wedding_13 : decode cX7_wedding 13 = .ok (.iconst 0, 1) := by decide +kernel
theorem dX7_wedding_14 : decode cX7_wedding 14 = .ok (.invokestatic 137, 3) := by decide +kernel
theorem dX7_wedding_17 : decode cX7_wedding 17 = .ok (.iconst 0, 1) := by decide +kernel
theorem dX7_wedding_18 : decode cX7_wedding 18 = .ok (.istore 7, 2) := by decide +kernel
theorem dX7_wedding_20 : decode cX7_wedding 20 = .ok (.iload 7, 2) := by decide +kernel
theorem dX7_wedding_22 : decode cX7_wedding 22 = .ok (.aload_n 0, 1) := by decide +kernel
theorem dX7_wedding_23 : decode cX7_wedding 23 = .ok (.getfield 29, 3) := by decide +kernel
theorem dX7_wedding_26 : decode cX7_wedding 26 = .ok (.getfield 107, 3) := by decide +kernel
theorem dX7_wedding_29 : decode cX7_wedding 29 = .ok (.getfield 143, 3) := by decide +kernel
theorem dX7_wedding_32 : decode cX7_wedding 32 = .ok (.if_icmp .ge 46, 3) := by decide +kernel
theorem dX7_wedding_35 : decode cX7_wedding 35 = .ok (.iconst 0, 1) := by decide +kernel
theorem dX7_wedding_36 : decode cX7_wedding 36 = .ok (.istore 8, 2) := by decide +kernel
theorem dX7_wedding_38 : decode cX7_wedding 38 = .ok (.iload 8, 2) := by decide +kernel
theorem dX7_wedding_40 : decode cX7_wedding 40 = .ok (.iconst 3, 1) := by decide +kernel
theorem dX7_wedding_41 : decode cX7_wedding 41 = .ok (.if_icmp .ge 31, 3) := by decide +kernel
theorem dX7_wedding_44 : decode cX7_wedding 44 = .ok (.aload_n 0, 1) := by decide +kernel
theorem dX7_wedding_45 : decode cX7_wedding 45 = .ok (.getfield 20, 3) := by decide +kernel
theorem dX7_wedding_48 : decode cX7_wedding 48 = .ok (.iload 8, 2) := by decide +kernel
theorem dX7_wedding_50 : decode cX7_wedding 50 = .ok (.dup2, 1) := by decide +kernel
theorem dX7_wedding_51 : decode cX7_wedding 51 = .ok (.iaload, 1) := by decide +kernel
theorem dX7_wedding_52 : decode cX7_wedding 52 = .ok (.aload_n 0, 1) := by decide +kernel
theorem dX7_wedding_53 : decode cX7_wedding 53 = .ok (.aload_n 1, 1) := by decide +kernel
theorem dX7_wedding_54 : decode cX7_wedding 54 = .ok (.iload_n 2, 1) := by decide +kernel
theorem dX7_wedding_55 : decode cX7_wedding 55 = .ok (.iload 7, 2) := by decide +kernel
theorem dX7_wedding_57 : decode cX7_wedding 57 = .ok (.iload 8, 2) := by decide +kernel
theorem dX7_wedding_59 : decode cX7_wedding 59 = .ok (.iload 6, 2) := by decide +kernel
theorem dX7_wedding_61 : decode cX7_wedding 61 = .ok (.invokevirtual 146, 3) := by decide +kernel
theorem dX7_wedding_64 : decode cX7_wedding 64 = .ok (.iadd, 1) := by decide +kernel
theorem dX7_wedding_65 : decode cX7_wedding 65 = .ok (.iastore, 1) := by decide +kernel
theorem dX7_wedding_66 : decode cX7_wedding 66 = .ok (.iinc 8 1, 3) := by decide +kernel
theorem dX7_wedding_69 : decode cX7_wedding 69 = .ok (.goto (-31), 3) := by decide +kernel
theorem dX7_wedding_72 : decode cX7_wedding 72 = .ok (.iinc 7 1, 3) := by decide +kernel
theorem dX7_wedding_75 : decode cX7_wedding 75 = .ok (.goto (-55), 3) := by decide +kernel
theorem dX7_wedding_78 : decode cX7_wedding 78 = .ok (.iconst 0, 1) := by decide +kernel
theorem dX7_wedding_79 : decode cX7_wedding 79 = .ok (.istore 7, 2) := by decide +kernel
theorem dX7_wedding_81 : decode cX7_wedding 81 = .ok (.iload 7, 2) := by decide +kernel
theorem dX7_wedding_83 : decode cX7_wedding 83 = .ok (.iconst 3, 1) := by decide +kernel
theorem dX7_wedding_84 : decode cX7_wedding 84 = .ok (.if_icmp .ge 66, 3) := by decide +kernel
theorem dX7_wedding_87 : decode cX7_wedding 87 = .ok (.aload_n 0, 1) := by decide +kernel
theorem dX7_wedding_88 : decode cX7_wedding 88 = .ok (.getfield 17, 3) := by decide +kernel
theorem dX7_wedding_91 : decode cX7_wedding 91 = .ok (.iload 7, 2) := by decide +kernel
theorem dX7_wedding_93 : decode cX7_wedding 93 = .ok (.iaload, 1) := by decide +kernel
theorem dX7_wedding_94 : decode cX7_wedding 94 = .ok (.istore 8, 2) := by decide +kernel
theorem dX7_wedding_96 : decode cX7_wedding 96 = .ok (.aload_n 1, 1) := by decide +kernel
theorem dX7_wedding_97 : decode cX7_wedding 97 = .ok (.iload 8, 2) := by decide +kernel
theorem dX7_wedding_99 : decode cX7_wedding 99 = .ok (.invokevirtual 150, 3) := by decide +kernel
theorem dX7_wedding_102 : decode cX7_wedding 102 = .ok (.ifCond .eq 42, 3) := by decide +kernel
theorem dX7_wedding_105 : decode cX7_wedding 105 = .ok (.aload_n 0, 1) := by decide +kernel
theorem dX7_wedding_106 : decode cX7_wedding 106 = .ok (.getfield 20, 3) := by decide +kernel
theorem dX7_wedding_109 : decode cX7_wedding 109 = .ok (.iload 7, 2) := by decide +kernel
theorem dX7_wedding_111 : decode cX7_wedding 111 = .ok (.dup2, 1) := by decide +kernel
theorem dX7_wedding_112 : decode cX7_wedding 112 = .ok (.iaload, 1) := by decide +kernel
theorem dX7_wedding_113 : decode cX7_wedding 113 = .ok (.bipush 10, 2) := by decide +kernel
theorem dX7_wedding_115 : decode cX7_wedding 115 = .ok (.iadd, 1) := by decide +kernel
theorem dX7_wedding_116 : decode cX7_wedding 116 = .ok (.iastore, 1) := by decide +kernel
theorem dX7_wedding_117 : decode cX7_wedding 117 = .ok (.aload_n 1, 1) := by decide +kernel
theorem dX7_wedding_118 : decode cX7_wedding 118 = .ok (.dup, 1) := by decide +kernel
theorem dX7_wedding_119 : decode cX7_wedding 119 = .ok (.getfield 153, 3) := by decide +kernel
theorem dX7_wedding_122 : decode cX7_wedding 122 = .ok (.iconst 1, 1) := by decide +kernel
theorem dX7_wedding_123 : decode cX7_wedding 123 = .ok (.iload 8, 2) := by decide +kernel
theorem dX7_wedding_125 : decode cX7_wedding 125 = .ok (.ishl, 1) := by decide +kernel
theorem dX7_wedding_126 : decode cX7_wedding 126 = .ok (.iconst (-1), 1) := by decide +kernel
theorem dX7_wedding_127 : decode cX7_wedding 127 = .ok (.ixor, 1) := by decide +kernel
theorem dX7_wedding_128 : decode cX7_wedding 128 = .ok (.iand, 1) := by decide +kernel
theorem dX7_wedding_129 : decode cX7_wedding 129 = .ok (.putfield 153, 3) := by decide +kernel
theorem dX7_wedding_132 : decode cX7_wedding 132 = .ok (.aload_n 0, 1) := by decide +kernel
theorem dX7_wedding_133 : decode cX7_wedding 133 = .ok (.aload_n 1, 1) := by decide +kernel
theorem dX7_wedding_134 : decode cX7_wedding 134 = .ok (.iconst 2, 1) := by decide +kernel
theorem dX7_wedding_135 : decode cX7_wedding 135 = .ok (.iload 8, 2) := by decide +kernel
theorem dX7_wedding_137 : decode cX7_wedding 137 = .ok (.iload 7, 2) := by decide +kernel
theorem dX7_wedding_139 : decode cX7_wedding 139 = .ok (.iload 6, 2) := by decide +kernel
theorem dX7_wedding_141 : decode cX7_wedding 141 = .ok (.invokevirtual 125, 3) := by decide +kernel
theorem dX7_wedding_144 : decode cX7_wedding 144 = .ok (.iinc 7 1, 3) := by decide +kernel
theorem dX7_wedding_147 : decode cX7_wedding 147 = .ok (.goto (-66), 3) := by decide +kernel
theorem dX7_wedding_150 : decode cX7_wedding 150 = .ok (.aload_n 0, 1) := by decide +kernel
theorem dX7_wedding_151 : decode cX7_wedding 151 = .ok (.invokevirtual 156, 3) := by decide +kernel
theorem dX7_wedding_154 : decode cX7_wedding 154 = .ok (.istore 7, 2) := by decide +kernel
theorem dX7_wedding_156 : decode cX7_wedding 156 = .ok (.aload_n 0, 1) := by decide +kernel
theorem dX7_wedding_157 : decode cX7_wedding 157 = .ok (.getfield 17, 3) := by decide +kernel
theorem dX7_wedding_160 : decode cX7_wedding 160 = .ok (.iload 7, 2) := by decide +kernel
theorem dX7_wedding_162 : decode cX7_wedding 162 = .ok (.iaload, 1) := by decide +kernel
theorem dX7_wedding_163 : decode cX7_wedding 163 = .ok (.istore 8, 2) := by decide +kernel
theorem dX7_wedding_165 : decode cX7_wedding 165 = .ok (.aload_n 0, 1) := by decide +kernel
theorem dX7_wedding_166 : decode cX7_wedding 166 = .ok (.aload_n 1, 1) := by decide +kernel
theorem dX7_wedding_167 : decode cX7_wedding 167 = .ok (.iconst 3, 1) := by decide +kernel
theorem dX7_wedding_168 : decode cX7_wedding 168 = .ok (.iload 8, 2) := by decide +kernel
theorem dX7_wedding_170 : decode cX7_wedding 170 = .ok (.aload_n 0, 1) := by decide +kernel
theorem dX7_wedding_171 : decode cX7_wedding 171 = .ok (.getfield 20, 3) := by decide +kernel
theorem dX7_wedding_174 : decode cX7_wedding 174 = .ok (.iload 7, 2) := by decide +kernel
theorem dX7_wedding_176 : decode cX7_wedding 176 = .ok (.iaload, 1) := by decide +kernel
theorem dX7_wedding_177 : decode cX7_wedding 177 = .ok (.iload 6, 2) := by decide +kernel
theorem dX7_wedding_179 : decode cX7_wedding 179 = .ok (.invokevirtual 125, 3) := by decide +kernel
theorem dX7_wedding_182 : decode cX7_wedding 182 = .ok (.aload_n 1, 1) := by decide +kernel
theorem dX7_wedding_183 : decode cX7_wedding 183 = .ok (.getfield 91, 3) := by decide +kernel
theorem dX7_wedding_186 : decode cX7_wedding 186 = .ok (.iload_n 2, 1) := by decide +kernel
theorem dX7_wedding_187 : decode cX7_wedding 187 = .ok (.iload 8, 2) := by decide +kernel
theorem dX7_wedding_189 : decode cX7_wedding 189 = .ok (.iastore, 1) := by decide +kernel
theorem dX7_wedding_190 : decode cX7_wedding 190 = .ok (.aload_n 1, 1) := by decide +kernel
theorem dX7_wedding_191 : decode cX7_wedding 191 = .ok (.getfield 94, 3) := by decide +kernel
theorem dX7_wedding_194 : decode cX7_wedding 194 = .ok (.iload 8, 2) := by decide +kernel
theorem dX7_wedding_196 : decode cX7_wedding 196 = .ok (.iload_n 2, 1) := by decide +kernel
theorem dX7_wedding_197 : decode cX7_wedding 197 = .ok (.iastore, 1) := by decide +kernel
theorem dX7_wedding_198 : decode cX7_wedding 198 = .ok (.aload_n 1, 1) := by decide +kernel
theorem dX7_wedding_199 : decode cX7_wedding 199 = .ok (.getfield 159, 3) := by decide +kernel
theorem dX7_wedding_202 : decode cX7_wedding 202 = .ok (.iload_n 2, 1) := by decide +kernel
theorem dX7_wedding_203 : decode cX7_wedding 203 = .ok (.dup2, 1) := by decide +kernel
theorem dX7_wedding_204 : decode cX7_wedding 204 = .ok (.iaload, 1) := by decide +kernel
theorem dX7_wedding_205 : decode cX7_wedding 205 = .ok (.iconst 1, 1) := by decide +kernel
theorem dX7_wedding_206 : decode cX7_wedding 206 = .ok (.iadd, 1) := by decide +kernel
theorem dX7_wedding_207 : decode cX7_wedding 207 = .ok (.iastore, 1) := by decide +kernel
theorem dX7_wedding_208 : decode cX7_wedding 208 = .ok (.aload_n 1, 1) := by decide +kernel
theorem dX7_wedding_209 : decode cX7_wedding 209 = .ok (.dup, 1) := by decide +kernel
theorem dX7_wedding_210 : decode cX7_wedding 210 = .ok (.getfield 162, 3) := by decide +kernel
theorem dX7_wedding_213 : decode cX7_wedding 213 = .ok (.aload_n 0, 1) := by decide +kernel
theorem dX7_wedding_214 : decode cX7_wedding 214 = .ok (.getfield 29, 3) := by decide +kernel
theorem dX7_wedding_217 : decode cX7_wedding 217 = .ok (.getfield 51, 3) := by decide +kernel
theorem dX7_wedding_220 : decode cX7_wedding 220 = .ok (.iload_n 2, 1) := by decide +kernel
theorem dX7_wedding_221 : decode cX7_wedding 221 = .ok (.iaload, 1) := by decide +kernel
theorem dX7_wedding_222 : decode cX7_wedding 222 = .ok (.iload 8, 2) := by decide +kernel
theorem dX7_wedding_224 : decode cX7_wedding 224 = .ok (.if_icmp .ne 8, 3) := by decide +kernel
theorem dX7_wedding_227 : decode cX7_wedding 227 = .ok (.bipush (-3), 2) := by decide +kernel
theorem dX7_wedding_229 : decode cX7_wedding 229 = .ok (.goto 4, 3) := by decide +kernel
theorem dX7_wedding_232 : decode cX7_wedding 232 = .ok (.iconst 1, 1) := by decide +kernel
theorem dX7_wedding_233 : decode cX7_wedding 233 = .ok (.iadd, 1) := by decide +kernel
theorem dX7_wedding_234 : decode cX7_wedding 234 = .ok (.putfield 162, 3) := by decide +kernel
theorem dX7_wedding_237 : decode cX7_wedding 237 = .ok (.iload 8, 2) := by decide +kernel
theorem dX7_wedding_239 : decode cX7_wedding 239 = .ok (.ireturn, 1) := by decide +kernel
theorem dX7_landauWithMost_0 : decode cX7_landauWithMost 0 = .ok (.aload_n 0, 1) := by decide +kernel
theorem dX7_landauWithMost_1 : decode cX7_landauWithMost 1 = .ok (.getfield 20, 3) := by decide +kernel
theorem dX7_landauWithMost_4 : decode cX7_landauWithMost 4 = .ok (.iconst 1, 1) := by decide +kernel
theorem dX7_landauWithMost_5 : decode cX7_landauWithMost 5 = .ok (.iaload, 1) := by decide +kernel
theorem dX7_landauWithMost_6 : decode cX7_landauWithMost 6 = .ok (.aload_n 0, 1) := by decide +kernel
theorem dX7_landauWithMost_7 : decode cX7_landauWithMost 7 = .ok (.getfield 20, 3) := by decide +kernel
theorem dX7_landauWithMost_10 : decode cX7_landauWithMost 10 = .ok (.iconst 0, 1) := by decide +kernel
theorem dX7_landauWithMost_11 : decode cX7_landauWithMost 11 = .ok (.iaload, 1) := by decide +kernel
theorem dX7_landauWithMost_12 : decode cX7_landauWithMost 12 = .ok (.if_icmp .le 7, 3) := by decide +kernel
theorem dX7_landauWithMost_15 : decode cX7_landauWithMost 15 = .ok (.iconst 1, 1) := by decide +kernel
theorem dX7_landauWithMost_16 : decode cX7_landauWithMost 16 = .ok (.goto 4, 3) := by decide +kernel
theorem dX7_landauWithMost_19 : decode cX7_landauWithMost 19 = .ok (.iconst 0, 1) := by decide +kernel
theorem dX7_landauWithMost_20 : decode cX7_landauWithMost 20 = .ok (.istore_n 1, 1) := by decide +kernel
theorem dX7_landauWithMost_21 : decode cX7_landauWithMost 21 = .ok (.aload_n 0, 1) := by decide +kernel
theorem dX7_landauWithMost_22 : decode cX7_landauWithMost 22 = .ok (.getfield 20, 3) := by decide +kernel
theorem dX7_landauWithMost_25 : decode cX7_landauWithMost 25 = .ok (.iconst 2, 1) := by decide +kernel
theorem dX7_landauWithMost_26 : decode cX7_landauWithMost 26 = .ok (.iaload, 1) := by decide +kernel
theorem dX7_landauWithMost_27 : decode cX7_landauWithMost 27 = .ok (.aload_n 0, 1) := by decide +kernel
theorem dX7_landauWithMost_28 : decode cX7_landauWithMost 28 = .ok (.getfield 20, 3) := by decide +kernel
theorem dX7_landauWithMost_31 : decode cX7_landauWithMost 31 = .ok (.iload_n 1, 1) := by decide +kernel
theorem dX7_landauWithMost_32 : decode cX7_landauWithMost 32 = .ok (.iaload, 1) := by decide +kernel
theorem dX7_landauWithMost_33 : decode cX7_landauWithMost 33 = .ok (.if_icmp .le 7, 3) := by decide +kernel
theorem dX7_landauWithMost_36 : decode cX7_landauWithMost 36 = .ok (.iconst 2, 1) := by decide +kernel
theorem dX7_landauWithMost_37 : decode cX7_landauWithMost 37 = .ok (.goto 4, 3) := by decide +kernel
theorem dX7_landauWithMost_40 : decode cX7_landauWithMost 40 = .ok (.iload_n 1, 1) := by decide +kernel
theorem dX7_landauWithMost_41 : decode cX7_landauWithMost 41 = .ok (.ireturn, 1) := by decide +kernel
theorem dX7_parting_0 : decode cX7_parting 0 = .ok (.aload_n 0, 1) := by decide +kernel
theorem dX7_parting_1 : decode cX7_parting 1 = .ok (.getfield 29, 3) := by decide +kernel
theorem dX7_parting_4 : decode cX7_parting 4 = .ok (.iload_n 2, 1) := by decide +kernel
theorem dX7_parting_5 : decode cX7_parting 5 = .ok (.invokevirtual 33, 3) := by decide +kernel
theorem dX7_parting_8 : decode cX7_parting 8 = .ok (.ifCond .eq 12, 3) := by decide +kernel
theorem dX7_parting_11 : decode cX7_parting 11 = .ok (.aload_n 1, 1) := by decide +kernel
theorem dX7_parting_12 : decode cX7_parting 12 = .ok (.getfield 91, 3) := by decide +kernel
theorem dX7_parting_15 : decode cX7_parting 15 = .ok (.iload_n 2, 1) := by decide +kernel
theorem dX7_parting_16 : decode cX7_parting 16 = .ok (.iaload, 1) := by decide +kernel
theorem dX7_parting_17 : decode cX7_parting 17 = .ok (.goto 4, 3) := by decide +kernel
theorem dX7_parting_20 : decode cX7_parting 20 = .ok (.iconst (-1), 1) := by decide +kernel
theorem dX7_parting_21 : decode cX7_parting 21 = .ok (.istore 4, 2) := by decide +kernel
theorem dX7_parting_23 : decode cX7_parting 23 = .ok (.aload_n 0, 1) := by decide +kernel
theorem dX7_parting_24 : decode cX7_parting 24 = .ok (.getfield 29, 3) := by decide +kernel
theorem dX7_parting_27 : decode cX7_parting 27 = .ok (.iload 4, 2) := by decide +kernel
theorem dX7_parting_29 : decode cX7_parting 29 = .ok (.invokevirtual 39, 3) := by decide +kernel
theorem dX7_parting_32 : decode cX7_parting 32 = .ok (.ifCond .ne 4, 3) := by decide +kernel
theorem dX7_parting_35 : decode cX7_parting 35 = .ok (.return_, 1) := by decide +kernel
theorem dX7_parting_36 : decode cX7_parting 36 = .ok (.aload_n 0, 1) := by decide +kernel
theorem dX7_parting_37 : decode cX7_parting 37 = .ok (.aload_n 1, 1) := by decide +kernel
theorem dX7_parting_38 : decode cX7_parting 38 = .ok (.iconst 5, 1) := by decide +kernel
theorem dX7_parting_39 : decode cX7_parting 39 = .ok (.iload_n 2, 1) := by decide +kernel
theorem dX7_parting_40 : decode cX7_parting 40 = .ok (.aload_n 1, 1) := by decide +kernel
theorem dX7_parting_41 : decode cX7_parting 41 = .ok (.getfield 66, 3) := by decide +kernel
theorem dX7_parting_44 : decode cX7_parting 44 = .ok (.iload_n 2, 1) := by decide +kernel
theorem dX7_parting_45 : decode cX7_parting 45 = .ok (.iaload, 1) := by decide +kernel
theorem dX7_parting_46 : decode cX7_parting 46 = .ok (.iload_n 3, 1) := by decide +kernel
theorem dX7_parting_47 : decode cX7_parting 47 = .ok (.invokevirtual 125, 3) := by decide +kernel
theorem dX7_parting_50 : decode cX7_parting 50 = .ok (.aload_n 1, 1) := by decide +kernel
theorem dX7_parting_51 : decode cX7_parting 51 = .ok (.getfield 94, 3) := by decide +kernel
theorem dX7_parting_54 : decode cX7_parting 54 = .ok (.iload 4, 2) := by decide +kernel
theorem dX7_parting_56 : decode cX7_parting 56 = .ok (.iconst (-1), 1) := by decide +kernel
theorem dX7_parting_57 : decode cX7_parting 57 = .ok (.iastore, 1) := by decide +kernel
theorem dX7_parting_58 : decode cX7_parting 58 = .ok (.aload_n 1, 1) := by decide +kernel
theorem dX7_parting_59 : decode cX7_parting 59 = .ok (.getfield 91, 3) := by decide +kernel
theorem dX7_parting_62 : decode cX7_parting 62 = .ok (.iload_n 2, 1) := by decide +kernel
theorem dX7_parting_63 : decode cX7_parting 63 = .ok (.iconst (-1), 1) := by decide +kernel
theorem dX7_parting_64 : decode cX7_parting 64 = .ok (.iastore, 1) := by decide +kernel
theorem dX7_parting_65 : decode cX7_parting 65 = .ok (.aload_n 1, 1) := by decide +kernel
theorem dX7_parting_66 : decode cX7_parting 66 = .ok (.getfield 66, 3) := by decide +kernel
theorem dX7_parting_69 : decode cX7_parting 69 = .ok (.iload_n 2, 1) := by decide +kernel
theorem dX7_parting_70 : decode cX7_parting 70 = .ok (.iconst 0, 1) := by decide +kernel
theorem dX7_parting_71 : decode cX7_parting 71 = .ok (.iastore, 1) := by decide +kernel
theorem dX7_parting_72 : decode cX7_parting 72 = .ok (.return_, 1) := by decide +kernel
theorem dX7_passYear_0 : decode cX7_passYear 0 = .ok (.aload_n 0, 1) := by decide +kernel
theorem dX7_passYear_1 : decode cX7_passYear 1 = .ok (.getfield 29, 3) := by decide +kernel
theorem dX7_passYear_4 : decode cX7_passYear 4 = .ok (.getfield 165, 3) := by decide +kernel
theorem dX7_passYear_7 : decode cX7_passYear 7 = .ok (.astore_n 3, 1) := by decide +kernel
theorem dX7_passYear_8 : decode cX7_passYear 8 = .ok (.iconst 0, 1) := by decide +kernel
theorem dX7_passYear_9 : decode cX7_passYear 9 = .ok (.istore 4, 2) := by decide +kernel
theorem dX7_passYear_11 : decode cX7_passYear 11 = .ok (.iload 4, 2) := by decide +kernel
theorem dX7_passYear_13 : decode cX7_passYear 13 = .ok (.aload_n 3, 1) := by decide +kernel
theorem dX7_passYear_14 : decode cX7_passYear 14 = .ok (.getfield 143, 3) := by decide +kernel
theorem dX7_passYear_17 : decode cX7_passYear 17 = .ok (.if_icmp .ge 145, 3) := by decide +kernel
theorem dX7_passYear_20 : decode cX7_passYear 20 = .ok (.aload_n 3, 1) := by decide +kernel
theorem dX7_passYear_21 : decode cX7_passYear 21 = .ok (.iload 4, 2) := by decide +kernel
theorem dX7_passYear_23 : decode cX7_passYear 23 = .ok (.iconst 0, 1) := by decide +kernel
theorem dX7_passYear_24 : decode cX7_passYear 24 = .ok (.invokevirtual 110, 3) := by decide +kernel
theorem dX7_passYear_27 : decode cX7_passYear 27 = .ok (.aload_n 1, 1) := by decide +kernel
theorem dX7_passYear_28 : decode cX7_passYear 28 = .ok (.getfield 57, 3) := by decide +kernel
theorem dX7_passYear_31 : decode cX7_passYear 31 = .ok (.if_icmp .eq 6, 3) := by decide +kernel
theorem dX7_passYear_34 : decode cX7_passYear 34 = .ok (.goto 122, 3) := by decide +kernel
theorem dX7_passYear_37 : decode cX7_passYear 37 = .ok (.aload_n 3, 1) := by decide +kernel
theorem dX7_passYear_38 : decode cX7_passYear 38 = .ok (.iload 4, 2) := by decide +kernel
theorem dX7_passYear_40 : decode cX7_passYear 40 = .ok (.iconst 1, 1) := by decide +kernel
theorem dX7_passYear_41 : decode cX7_passYear 41 = .ok (.invokevirtual 110, 3) := by decide +kernel
theorem dX7_passYear_44 : decode cX7_passYear 44 = .ok (.istore 5, 2) := by decide +kernel
theorem dX7_passYear_46 : decode cX7_passYear 46 = .ok (.aload_n 3, 1) := by decide +kernel
theorem dX7_passYear_47 : decode cX7_passYear 47 = .ok (.iload 4, 2) := by decide +kernel
theorem dX7_passYear_49 : decode cX7_passYear 49 = .ok (.iconst 2, 1) := by decide +kernel
theorem dX7_passYear_50 : decode cX7_passYear 50 = .ok (.invokevirtual 110, 3) := by decide +kernel
theorem dX7_passYear_53 : decode cX7_passYear 53 = .ok (.istore 6, 2) := by decide +kernel
theorem dX7_passYear_55 : decode cX7_passYear 55 = .ok (.aload_n 3, 1) := by decide +kernel
theorem dX7_passYear_56 : decode cX7_passYear 56 = .ok (.iload 4, 2) := by decide +kernel
theorem dX7_passYear_58 : decode cX7_passYear 58 = .ok (.iconst 3, 1) := by decide +kernel
theorem dX7_passYear_59 : decode cX7_passYear 59 = .ok (.invokevirtual 110, 3) := by decide +kernel
theorem dX7_passYear_62 : decode cX7_passYear 62 = .ok (.istore 7, 2) := by decide +kernel
theorem dX7_passYear_64 : decode cX7_passYear 64 = .ok (.aload_n 3, 1) := by decide +kernel
theorem dX7_passYear_65 : decode cX7_passYear 65 = .ok (.iload 4, 2) := by decide +kernel
theorem dX7_passYear_67 : decode cX7_passYear 67 = .ok (.iconst 4, 1) := by decide +kernel
theorem dX7_passYear_68 : decode cX7_passYear 68 = .ok (.invokevirtual 110, 3) := by decide +kernel
theorem dX7_passYear_71 : decode cX7_passYear 71 = .ok (.istore 8, 2) := by decide +kernel
theorem dX7_passYear_73 : decode cX7_passYear 73 = .ok (.aload_n 3, 1) := by decide +kernel
theorem dX7_passYear_74 : decode cX7_passYear 74 = .ok (.iload 4, 2) := by decide +kernel
theorem dX7_passYear_76 : decode cX7_passYear 76 = .ok (.iconst 5, 1) := by decide +kernel
theorem dX7_passYear_77 : decode cX7_passYear 77 = .ok (.invokevirtual 110, 3) := by decide +kernel
theorem dX7_passYear_80 : decode cX7_passYear 80 = .ok (.istore 9, 2) := by decide +kernel
theorem dX7_passYear_82 : decode cX7_passYear 82 = .ok (.iload 5, 2) := by decide +kernel
theorem dX7_passYear_84 : decode cX7_passYear 84 = .ok (.sipush 10021, 3) := by decide +kernel
theorem dX7_passYear_87 : decode cX7_passYear 87 = .ok (.if_icmp .ne 19, 3) := by decide +kernel
theorem dX7_passYear_90 : decode cX7_passYear 90 = .ok (.aload_n 1, 1) := by decide +kernel
theorem dX7_passYear_91 : decode cX7_passYear 91 = .ok (.dup, 1) := by decide +kernel
theorem dX7_passYear_92 : decode cX7_passYear 92 = .ok (.getfield 153, 3) := by decide +kernel
theorem dX7_passYear_95 : decode cX7_passYear 95 = .ok (.iconst 1, 1) := by decide +kernel
theorem dX7_passYear_96 : decode cX7_passYear 96 = .ok (.iload 6, 2) := by decide +kernel
theorem dX7_passYear_98 : decode cX7_passYear 98 = .ok (.ishl, 1) := by decide +kernel
theorem dX7_passYear_99 : decode cX7_passYear 99 = .ok (.ior, 1) := by decide +kernel
theorem dX7_passYear_100 : decode cX7_passYear 100 = .ok (.putfield 153, 3) := by decide +kernel
theorem dX7_passYear_103 : decode cX7_passYear 103 = .ok (.goto 53, 3) := by decide +kernel
theorem dX7_passYear_106 : decode cX7_passYear 106 = .ok (.iload 5, 2) := by decide +kernel
theorem dX7_passYear_108 : decode cX7_passYear 108 = .ok (.sipush 10022, 3) := by decide +kernel
theorem dX7_passYear_111 : decode cX7_passYear 111 = .ok (.if_icmp .ne 14, 3) := by decide +kernel
theorem dX7_passYear_114 : decode cX7_passYear 114 = .ok (.aload_n 0, 1) := by decide +kernel
theorem dX7_passYear_115 : decode cX7_passYear 115 = .ok (.aload_n 1, 1) := by decide +kernel
theorem dX7_passYear_116 : decode cX7_passYear 116 = .ok (.iload 6, 2) := by decide +kernel
theorem dX7_passYear_118 : decode cX7_passYear 118 = .ok (.iload_n 2, 1) := by decide +kernel
theorem dX7_passYear_119 : decode cX7_passYear 119 = .ok (.invokevirtual 168, 3) := by decide +kernel
theorem dX7_passYear_122 : decode cX7_passYear 122 = .ok (.goto 34, 3) := by decide +kernel
theorem dX7_passYear_125 : decode cX7_passYear 125 = .ok (.aload_n 0, 1) := by decide +kernel
theorem dX7_passYear_126 : decode cX7_passYear 126 = .ok (.aload_n 1, 1) := by decide +kernel
theorem dX7_passYear_127 : decode cX7_passYear 127 = .ok (.iload 6, 2) := by decide +kernel
theorem dX7_passYear_129 : decode cX7_passYear 129 = .ok (.iload 7, 2) := by decide +kernel
theorem dX7_passYear_131 : decode cX7_passYear 131 = .ok (.iload 8, 2) := by decide +kernel
theorem dX7_passYear_133 : decode cX7_passYear 133 = .ok (.iload 9, 2) := by decide +kernel
theorem dX7_passYear_135 : decode cX7_passYear 135 = .ok (.invokevirtual 172, 3) := by decide +kernel
theorem dX7_passYear_138 : decode cX7_passYear 138 = .ok (.ifCond .eq 18, 3) := by decide +kernel
theorem dX7_passYear_141 : decode cX7_passYear 141 = .ok (.aload_n 0, 1) := by decide +kernel
theorem dX7_passYear_142 : decode cX7_passYear 142 = .ok (.aload_n 1, 1) := by decide +kernel
theorem dX7_passYear_143 : decode cX7_passYear 143 = .ok (.iload 6, 2) := by decide +kernel
theorem dX7_passYear_145 : decode cX7_passYear 145 = .ok (.iload 7, 2) := by decide +kernel
theorem dX7_passYear_147 : decode cX7_passYear 147 = .ok (.iload 8, 2) := by decide +kernel
theorem dX7_passYear_149 : decode cX7_passYear 149 = .ok (.iload 9, 2) := by decide +kernel
theorem dX7_passYear_151 : decode cX7_passYear 151 = .ok (.iload_n 2, 1) := by decide +kernel
theorem dX7_passYear_152 : decode cX7_passYear 152 = .ok (.invokevirtual 176, 3) := by decide +kernel
theorem dX7_passYear_155 : decode cX7_passYear 155 = .ok (.pop, 1) := by decide +kernel
theorem dX7_passYear_156 : decode cX7_passYear 156 = .ok (.iinc 4 1, 3) := by decide +kernel
theorem dX7_passYear_159 : decode cX7_passYear 159 = .ok (.goto (-148), 3) := by decide +kernel
theorem dX7_passYear_162 : decode cX7_passYear 162 = .ok (.iconst 0, 1) := by decide +kernel
theorem dX7_passYear_163 : decode cX7_passYear 163 = .ok (.istore 4, 2) := by decide +kernel
theorem dX7_passYear_165 : decode cX7_passYear 165 = .ok (.iconst 0, 1) := by decide +kernel
theorem dX7_passYear_166 : decode cX7_passYear 166 = .ok (.istore 5, 2) := by decide +kernel
theorem dX7_passYear_168 : decode cX7_passYear 168 = .ok (.iload 5, 2) := by decide +kernel
theorem dX7_passYear_170 : decode cX7_passYear 170 = .ok (.aload_n 0, 1) := by decide +kernel
theorem dX7_passYear_171 : decode cX7_passYear 171 = .ok (.getfield 29, 3) := by decide +kernel
theorem dX7_passYear_174 : decode cX7_passYear 174 = .ok (.getfield 180, 3) := by decide +kernel
theorem dX7_passYear_177 : decode cX7_passYear 177 = .ok (.if_icmp .ge 41, 3) := by decide +kernel
theorem dX7_passYear_180 : decode cX7_passYear 180 = .ok (.iload 5, 2) := by decide +kernel
theorem dX7_passYear_182 : decode cX7_passYear 182 = .ok (.bipush 8, 2) := by decide +kernel
theorem dX7_passYear_184 : decode cX7_passYear 184 = .ok (.if_icmp .ge 34, 3) := by decide +kernel
theorem dX7_passYear_187 : decode cX7_passYear 187 = .ok (.aload_n 1, 1) := by decide +kernel
theorem dX7_passYear_188 : decode cX7_passYear 188 = .ok (.getfield 91, 3) := by decide +kernel
theorem dX7_passYear_191 : decode cX7_passYear 191 = .ok (.iload 5, 2) := by decide +kernel
theorem dX7_passYear_193 : decode cX7_passYear 193 = .ok (.iaload, 1) := by decide +kernel
theorem dX7_passYear_194 : decode cX7_passYear 194 = .ok (.iconst (-1), 1) := by decide +kernel
theorem dX7_passYear_195 : decode cX7_passYear 195 = .ok (.if_icmp .eq 17, 3) := by decide +kernel
theorem dX7_passYear_198 : decode cX7_passYear 198 = .ok (.aload_n 0, 1) := by decide +kernel
theorem dX7_passYear_199 : decode cX7_passYear 199 = .ok (.aload_n 1, 1) := by decide +kernel
theorem dX7_passYear_200 : decode cX7_passYear 200 = .ok (.iload 5, 2) := by decide +kernel
theorem dX7_passYear_202 : decode cX7_passYear 202 = .ok (.iload_n 2, 1) := by decide +kernel
theorem dX7_passYear_203 : decode cX7_passYear 203 = .ok (.invokevirtual 183, 3) := by decide +kernel
theorem dX7_passYear_206 : decode cX7_passYear 206 = .ok (.ifCond .eq 6, 3) := by decide +kernel
theorem dX7_passYear_209 : decode cX7_passYear 209 = .ok (.iinc 4 1, 3) := by decide +kernel
theorem dX7_passYear_212 : decode cX7_passYear 212 = .ok (.iinc 5 1, 3) := by decide +kernel
theorem dX7_passYear_215 : decode cX7_passYear 215 = .ok (.goto (-47), 3) := by decide +kernel
theorem dX7_passYear_218 : decode cX7_passYear 218 = .ok (.aload_n 1, 1) := by decide +kernel
theorem dX7_passYear_219 : decode cX7_passYear 219 = .ok (.dup, 1) := by decide +kernel
theorem dX7_passYear_220 : decode cX7_passYear 220 = .ok (.getfield 57, 3) := by decide +kernel
theorem dX7_passYear_223 : decode cX7_passYear 223 = .ok (.iconst 1, 1) := by decide +kernel
theorem dX7_passYear_224 : decode cX7_passYear 224 = .ok (.iadd, 1) := by decide +kernel
theorem dX7_passYear_225 : decode cX7_passYear 225 = .ok (.putfield 57, 3) := by decide +kernel
theorem dX7_passYear_228 : decode cX7_passYear 228 = .ok (.iload 4, 2) := by decide +kernel
theorem dX7_passYear_230 : decode cX7_passYear 230 = .ok (.ireturn, 1) := by decide +kernel
theorem dX7_liveYear_0 : decode cX7_liveYear 0 = .ok (.aload_n 0, 1) := by decide +kernel
theorem dX7_liveYear_1 : decode cX7_liveYear 1 = .ok (.aload_n 1, 1) := by decide +kernel
theorem dX7_liveYear_2 : decode cX7_liveYear 2 = .ok (.iload_n 2, 1) := by decide +kernel
theorem dX7_liveYear_3 : decode cX7_liveYear 3 = .ok (.aload_n 1, 1) := by decide +kernel
theorem dX7_liveYear_4 : decode cX7_liveYear 4 = .ok (.getfield 91, 3) := by decide +kernel
theorem dX7_liveYear_7 : decode cX7_liveYear 7 = .ok (.iload_n 2, 1) := by decide +kernel
theorem dX7_liveYear_8 : decode cX7_liveYear 8 = .ok (.iaload, 1) := by decide +kernel
theorem dX7_liveYear_9 : decode cX7_liveYear 9 = .ok (.invokevirtual 114, 3) := by decide +kernel
theorem dX7_liveYear_12 : decode cX7_liveYear 12 = .ok (.aload_n 1, 1) := by decide +kernel
theorem dX7_liveYear_13 : decode cX7_liveYear 13 = .ok (.getfield 66, 3) := by decide +kernel
theorem dX7_liveYear_16 : decode cX7_liveYear 16 = .ok (.iload_n 2, 1) := by decide +kernel
theorem dX7_liveYear_17 : decode cX7_liveYear 17 = .ok (.aload_n 1, 1) := by decide +kernel
theorem dX7_liveYear_18 : decode cX7_liveYear 18 = .ok (.getfield 66, 3) := by decide +kernel
theorem dX7_liveYear_21 : decode cX7_liveYear 21 = .ok (.iload_n 2, 1) := by decide +kernel
theorem dX7_liveYear_22 : decode cX7_liveYear 22 = .ok (.iaload, 1) := by decide +kernel
theorem dX7_liveYear_23 : decode cX7_liveYear 23 = .ok (.aload_n 0, 1) := by decide +kernel
theorem dX7_liveYear_24 : decode cX7_liveYear 24 = .ok (.invokevirtual 187, 3) := by decide +kernel
theorem dX7_liveYear_27 : decode cX7_liveYear 27 = .ok (.iadd, 1) := by decide +kernel
theorem dX7_liveYear_28 : decode cX7_liveYear 28 = .ok (.bipush (-99), 2) := by decide +kernel
theorem dX7_liveYear_30 : decode cX7_liveYear 30 = .ok (.bipush 99, 2) := by decide +kernel
theorem dX7_liveYear_32 : decode cX7_liveYear 32 = .ok (.invokestatic 83, 3) := by decide +kernel
theorem dX7_liveYear_35 : decode cX7_liveYear 35 = .ok (.iastore, 1) := by decide +kernel
theorem dX7_liveYear_36 : decode cX7_liveYear 36 = .ok (.aload_n 1, 1) := by decide +kernel
theorem dX7_liveYear_37 : decode cX7_liveYear 37 = .ok (.getfield 63, 3) := by decide +kernel
theorem dX7_liveYear_40 : decode cX7_liveYear 40 = .ok (.iload_n 2, 1) := by decide +kernel
theorem dX7_liveYear_41 : decode cX7_liveYear 41 = .ok (.iaload, 1) := by decide +kernel
theorem dX7_liveYear_42 : decode cX7_liveYear 42 = .ok (.bipush 20, 2) := by decide +kernel
theorem dX7_liveYear_44 : decode cX7_liveYear 44 = .ok (.if_icmp .lt 5, 3) := by decide +kernel
theorem dX7_liveYear_47 : decode cX7_liveYear 47 = .ok (.iconst 0, 1) := by decide +kernel
theorem dX7_liveYear_48 : decode cX7_liveYear 48 = .ok (.ireturn, 1) := by decide +kernel
theorem dX7_liveYear_49 : decode cX7_liveYear 49 = .ok (.bipush 100, 2) := by decide +kernel
theorem dX7_liveYear_51 : decode cX7_liveYear 51 = .ok (.iconst 5, 1) := by decide +kernel
theorem dX7_liveYear_52 : decode cX7_liveYear 52 = .ok (.aload_n 1, 1) := by decide +kernel
theorem dX7_liveYear_53 : decode cX7_liveYear 53 = .ok (.getfield 66, 3) := by decide +kernel
theorem dX7_liveYear_56 : decode cX7_liveYear 56 = .ok (.iload_n 2, 1) := by decide +kernel
theorem dX7_liveYear_57 : decode cX7_liveYear 57 = .ok (.iaload, 1) := by decide +kernel
theorem dX7_liveYear_58 : decode cX7_liveYear 58 = .ok (.imul, 1) := by decide +kernel
theorem dX7_liveYear_59 : decode cX7_liveYear 59 = .ok (.iadd, 1) := by decide +kernel
theorem dX7_liveYear_60 : decode cX7_liveYear 60 = .ok (.iconst 0, 1) := by decide +kernel
theorem dX7_liveYear_61 : decode cX7_liveYear 61 = .ok (.sipush 1000, 3) := by decide +kernel
theorem dX7_liveYear_64 : decode cX7_liveYear 64 = .ok (.invokestatic 83, 3) := by decide +kernel
theorem dX7_liveYear_67 : decode cX7_liveYear 67 = .ok (.istore 4, 2) := by decide +kernel
theorem dX7_liveYear_69 : decode cX7_liveYear 69 = .ok (.iload_n 3, 1) := by decide +kernel
theorem dX7_liveYear_70 : decode cX7_liveYear 70 = .ok (.ifCond .eq 19, 3) := by decide +kernel
theorem dX7_liveYear_73 : decode cX7_liveYear 73 = .ok (.iload 4, 2) := by decide +kernel
theorem dX7_liveYear_75 : decode cX7_liveYear 75 = .ok (.sipush 500, 3) := by decide +kernel
theorem dX7_liveYear_78 : decode cX7_liveYear 78 = .ok (.if_icmp .lt 7, 3) := by decide +kernel
theorem dX7_liveYear_81 : decode cX7_liveYear 81 = .ok (.iconst 1, 1) := by decide +kernel
theorem dX7_liveYear_82 : decode cX7_liveYear 82 = .ok (.goto 21, 3) := by decide +kernel
theorem dX7_liveYear_85 : decode cX7_liveYear 85 = .ok (.iconst 0, 1) := by decide +kernel
theorem dX7_liveYear_86 : decode cX7_liveYear 86 = .ok (.goto 17, 3) := by decide +kernel
theorem dX7_liveYear_89 : decode cX7_liveYear 89 = .ok (.aload_n 1, 1) := by decide +kernel
theorem dX7_liveYear_90 : decode cX7_liveYear 90 = .ok (.invokevirtual 121, 3) := by decide +kernel
theorem dX7_liveYear_93 : decode cX7_liveYear 93 = .ok (.iload 4, 2) := by decide +kernel
theorem dX7_liveYear_95 : decode cX7_liveYear 95 = .ok (.if_icmp .ge 7, 3) := by decide +kernel
theorem dX7_liveYear_98 : decode cX7_liveYear 98 = .ok (.iconst 1, 1) := by decide +kernel
theorem dX7_liveYear_99 : decode cX7_liveYear 99 = .ok (.goto 4, 3) := by decide +kernel
theorem dX7_liveYear_102 : decode cX7_liveYear 102 = .ok (.iconst 0, 1) := by decide +kernel
theorem dX7_liveYear_103 : decode cX7_liveYear 103 = .ok (.istore 5, 2) := by decide +kernel
theorem dX7_liveYear_105 : decode cX7_liveYear 105 = .ok (.iload 5, 2) := by decide +kernel
theorem dX7_liveYear_107 : decode cX7_liveYear 107 = .ok (.ifCond .eq 27, 3) := by decide +kernel
theorem dX7_liveYear_110 : decode cX7_liveYear 110 = .ok (.aload_n 1, 1) := by decide +kernel
theorem dX7_liveYear_111 : decode cX7_liveYear 111 = .ok (.getfield 63, 3) := by decide +kernel
theorem dX7_liveYear_114 : decode cX7_liveYear 114 = .ok (.iload_n 2, 1) := by decide +kernel
theorem dX7_liveYear_115 : decode cX7_liveYear 115 = .ok (.dup2, 1) := by decide +kernel
theorem dX7_liveYear_116 : decode cX7_liveYear 116 = .ok (.iaload, 1) := by decide +kernel
theorem dX7_liveYear_117 : decode cX7_liveYear 117 = .ok (.iconst 1, 1) := by decide +kernel
theorem dX7_liveYear_118 : decode cX7_liveYear 118 = .ok (.iadd, 1) := by decide +kernel
theorem dX7_liveYear_119 : decode cX7_liveYear 119 = .ok (.iastore, 1) := by decide +kernel
theorem dX7_liveYear_120 : decode cX7_liveYear 120 = .ok (.aload_n 0, 1) := by decide +kernel
theorem dX7_liveYear_121 : decode cX7_liveYear 121 = .ok (.aload_n 1, 1) := by decide +kernel
theorem dX7_liveYear_122 : decode cX7_liveYear 122 = .ok (.iconst 4, 1) := by decide +kernel
theorem dX7_liveYear_123 : decode cX7_liveYear 123 = .ok (.iload_n 2, 1) := by decide +kernel
theorem dX7_liveYear_124 : decode cX7_liveYear 124 = .ok (.aload_n 1, 1) := by decide +kernel
theorem dX7_liveYear_125 : decode cX7_liveYear 125 = .ok (.getfield 63, 3) := by decide +kernel
theorem dX7_liveYear_128 : decode cX7_liveYear 128 = .ok (.iload_n 2, 1) := by decide +kernel
theorem dX7_liveYear_129 : decode cX7_liveYear 129 = .ok (.iaload, 1) := by decide +kernel
theorem dX7_liveYear_130 : decode cX7_liveYear 130 = .ok (.iload_n 3, 1) := by decide +kernel
theorem dX7_liveYear_131 : decode cX7_liveYear 131 = .ok (.invokevirtual 125, 3) := by decide +kernel
theorem dX7_liveYear_134 : decode cX7_liveYear 134 = .ok (.iload 5, 2) := by decide +kernel
theorem dX7_liveYear_136 : decode cX7_liveYear 136 = .ok (.ireturn, 1) := by decide +kernel
theorem dX7_thoughtPoints_0 : decode cX7_thoughtPoints 0 = .ok (.aload_n 0, 1) := by decide +kernel
theorem dX7_thoughtPoints_1 : decode cX7_thoughtPoints 1 = .ok (.getfield 29, 3) := by decide +kernel
theorem dX7_thoughtPoints_4 : decode cX7_thoughtPoints 4 = .ok (.getfield 190, 3) := by decide +kernel
theorem dX7_thoughtPoints_7 : decode cX7_thoughtPoints 7 = .ok (.astore 4, 2) := by decide +kernel
theorem dX7_thoughtPoints_9 : decode cX7_thoughtPoints 9 = .ok (.aload_n 0, 1) := by decide +kernel
theorem dX7_thoughtPoints_10 : decode cX7_thoughtPoints 10 = .ok (.getfield 17, 3) := by decide +kernel
theorem dX7_thoughtPoints_13 : decode cX7_thoughtPoints 13 = .ok (.iload_n 3, 1) := by decide +kernel
theorem dX7_thoughtPoints_14 : decode cX7_thoughtPoints 14 = .ok (.iload_n 2, 1) := by decide +kernel
theorem dX7_thoughtPoints_15 : decode cX7_thoughtPoints 15 = .ok (.iastore, 1) := by decide +kernel
theorem dX7_thoughtPoints_16 : decode cX7_thoughtPoints 16 = .ok (.aload 4, 2) := by decide +kernel
theorem dX7_thoughtPoints_18 : decode cX7_thoughtPoints 18 = .ok (.iload_n 2, 1) := by decide +kernel
theorem dX7_thoughtPoints_19 : decode cX7_thoughtPoints 19 = .ok (.invokevirtual 150, 3) := by decide +kernel
theorem dX7_thoughtPoints_22 : decode cX7_thoughtPoints 22 = .ok (.ifCond .eq 8, 3) := by decide +kernel
theorem dX7_thoughtPoints_25 : decode cX7_thoughtPoints 25 = .ok (.bipush 10, 2) := by decide +kernel
theorem dX7_thoughtPoints_27 : decode cX7_thoughtPoints 27 = .ok (.goto 4, 3) := by decide +kernel
theorem dX7_thoughtPoints_30 : decode cX7_thoughtPoints 30 = .ok (.iconst 0, 1) := by decide +kernel
theorem dX7_thoughtPoints_31 : decode cX7_thoughtPoints 31 = .ok (.istore 5, 2) := by decide +kernel
theorem dX7_thoughtPoints_33 : decode cX7_thoughtPoints 33 = .ok (.iconst 0, 1) := by decide +kernel
theorem dX7_thoughtPoints_34 : decode cX7_thoughtPoints 34 = .ok (.istore 6, 2) := by decide +kernel
theorem dX7_thoughtPoints_36 : decode cX7_thoughtPoints 36 = .ok (.iload 6, 2) := by decide +kernel
theorem dX7_thoughtPoints_38 : decode cX7_thoughtPoints 38 = .ok (.aload_n 0, 1) := by decide +kernel
theorem dX7_thoughtPoints_39 : decode cX7_thoughtPoints 39 = .ok (.getfield 29, 3) := by decide +kernel
theorem dX7_thoughtPoints_42 : decode cX7_thoughtPoints 42 = .ok (.getfield 107, 3) := by decide +kernel
theorem dX7_thoughtPoints_45 : decode cX7_thoughtPoints 45 = .ok (.getfield 143, 3) := by decide +kernel
theorem dX7_thoughtPoints_48 : decode cX7_thoughtPoints 48 = .ok (.if_icmp .ge 25, 3) := by decide +kernel
theorem dX7_thoughtPoints_51 : decode cX7_thoughtPoints 51 = .ok (.iload 5, 2) := by decide +kernel
theorem dX7_thoughtPoints_53 : decode cX7_thoughtPoints 53 = .ok (.aload_n 0, 1) := by decide +kernel
theorem dX7_thoughtPoints_54 : decode cX7_thoughtPoints 54 = .ok (.aload 4, 2) := by decide +kernel
theorem dX7_thoughtPoints_56 : decode cX7_thoughtPoints 56 = .ok (.iload_n 1, 1) := by decide +kernel
theorem dX7_thoughtPoints_57 : decode cX7_thoughtPoints 57 = .ok (.iload 6, 2) := by decide +kernel
theorem dX7_thoughtPoints_59 : decode cX7_thoughtPoints 59 = .ok (.iload_n 3, 1) := by decide +kernel
theorem dX7_thoughtPoints_60 : decode cX7_thoughtPoints 60 = .ok (.iconst 1, 1) := by decide +kernel
theorem dX7_thoughtPoints_61 : decode cX7_thoughtPoints 61 = .ok (.invokevirtual 146, 3) := by decide +kernel
theorem dX7_thoughtPoints_64 : decode cX7_thoughtPoints 64 = .ok (.iadd, 1) := by decide +kernel
theorem dX7_thoughtPoints_65 : decode cX7_thoughtPoints 65 = .ok (.istore 5, 2) := by decide +kernel
theorem dX7_thoughtPoints_67 : decode cX7_thoughtPoints 67 = .ok (.iinc 6 1, 3) := by decide +kernel
theorem dX7_thoughtPoints_70 : decode cX7_thoughtPoints 70 = .ok (.goto (-34), 3) := by decide +kernel
theorem dX7_thoughtPoints_73 : decode cX7_thoughtPoints 73 = .ok (.iload 5, 2) := by decide +kernel
theorem dX7_thoughtPoints_75 : decode cX7_thoughtPoints 75 = .ok (.ireturn, 1) := by decide +kernel
theorem dX7_wouldTake_0 : decode cX7_wouldTake 0 = .ok (.aload_n 0, 1) := by decide +kernel
theorem dX7_wouldTake_1 : decode cX7_wouldTake 1 = .ok (.getfield 20, 3) := by decide +kernel
theorem dX7_wouldTake_4 : decode cX7_wouldTake 4 = .ok (.iconst 0, 1) := by decide +kernel
theorem dX7_wouldTake_5 : decode cX7_wouldTake 5 = .ok (.aload_n 0, 1) := by decide +kernel
theorem dX7_wouldTake_6 : decode cX7_wouldTake 6 = .ok (.iload_n 1, 1) := by decide +kernel
theorem dX7_wouldTake_7 : decode cX7_wouldTake 7 = .ok (.iload_n 2, 1) := by decide +kernel
theorem dX7_wouldTake_8 : decode cX7_wouldTake 8 = .ok (.iconst 0, 1) := by decide +kernel
theorem dX7_wouldTake_9 : decode cX7_wouldTake 9 = .ok (.invokevirtual 194, 3) := by decide +kernel
theorem dX7_wouldTake_12 : decode cX7_wouldTake 12 = .ok (.iastore, 1) := by decide +kernel
theorem dX7_wouldTake_13 : decode cX7_wouldTake 13 = .ok (.aload_n 0, 1) := by decide +kernel
theorem dX7_wouldTake_14 : decode cX7_wouldTake 14 = .ok (.getfield 20, 3) := by decide +kernel
theorem dX7_wouldTake_17 : decode cX7_wouldTake 17 = .ok (.iconst 1, 1) := by decide +kernel
theorem dX7_wouldTake_18 : decode cX7_wouldTake 18 = .ok (.aload_n 0, 1) := by decide +kernel
theorem dX7_wouldTake_19 : decode cX7_wouldTake 19 = .ok (.iload_n 1, 1) := by decide +kernel
theorem dX7_wouldTake_20 : decode cX7_wouldTake 20 = .ok (.iload_n 3, 1) := by decide +kernel
theorem dX7_wouldTake_21 : decode cX7_wouldTake 21 = .ok (.iconst 1, 1) := by decide +kernel
theorem dX7_wouldTake_22 : decode cX7_wouldTake 22 = .ok (.invokevirtual 194, 3) := by decide +kernel
theorem dX7_wouldTake_25 : decode cX7_wouldTake 25 = .ok (.iastore, 1) := by decide +kernel
theorem dX7_wouldTake_26 : decode cX7_wouldTake 26 = .ok (.aload_n 0, 1) := by decide +kernel
theorem dX7_wouldTake_27 : decode cX7_wouldTake 27 = .ok (.getfield 20, 3) := by decide +kernel
theorem dX7_wouldTake_30 : decode cX7_wouldTake 30 = .ok (.iconst 2, 1) := by decide +kernel
theorem dX7_wouldTake_31 : decode cX7_wouldTake 31 = .ok (.aload_n 0, 1) := by decide +kernel
theorem dX7_wouldTake_32 : decode cX7_wouldTake 32 = .ok (.iload_n 1, 1) := by decide +kernel
theorem dX7_wouldTake_33 : decode cX7_wouldTake 33 = .ok (.iload 4, 2) := by decide +kernel
theorem dX7_wouldTake_35 : decode cX7_wouldTake 35 = .ok (.iconst 2, 1) := by decide +kernel
theorem dX7_wouldTake_36 : decode cX7_wouldTake 36 = .ok (.invokevirtual 194, 3) := by decide +kernel
theorem dX7_wouldTake_39 : decode cX7_wouldTake 39 = .ok (.iastore, 1) := by decide +kernel
theorem dX7_wouldTake_40 : decode cX7_wouldTake 40 = .ok (.aload_n 0, 1) := by decide +kernel
theorem dX7_wouldTake_41 : decode cX7_wouldTake 41 = .ok (.invokevirtual 156, 3) := by decide +kernel
theorem dX7_wouldTake_44 : decode cX7_wouldTake 44 = .ok (.istore 6, 2) := by decide +kernel
theorem dX7_wouldTake_46 : decode cX7_wouldTake 46 = .ok (.iload 5, 2) := by decide +kernel
theorem dX7_wouldTake_48 : decode cX7_wouldTake 48 = .ok (.ifCond .eq 13, 3) := by decide +kernel
theorem dX7_wouldTake_51 : decode cX7_wouldTake 51 = .ok (.aload_n 0, 1) := by decide +kernel
theorem dX7_wouldTake_52 : decode cX7_wouldTake 52 = .ok (.getfield 20, 3) := by decide +kernel
theorem dX7_wouldTake_55 : decode cX7_wouldTake 55 = .ok (.iload 6, 2) := by decide +kernel
theorem dX7_wouldTake_57 : decode cX7_wouldTake 57 = .ok (.iaload, 1) := by decide +kernel
theorem dX7_wouldTake_58 : decode cX7_wouldTake 58 = .ok (.goto 10, 3) := by decide +kernel
theorem dX7_wouldTake_61 : decode cX7_wouldTake 61 = .ok (.aload_n 0, 1) := by decide +kernel
theorem dX7_wouldTake_62 : decode cX7_wouldTake 62 = .ok (.getfield 17, 3) := by decide +kernel
theorem dX7_wouldTake_65 : decode cX7_wouldTake 65 = .ok (.iload 6, 2) := by decide +kernel
theorem dX7_wouldTake_67 : decode cX7_wouldTake 67 = .ok (.iaload, 1) := by decide +kernel
theorem dX7_wouldTake_68 : decode cX7_wouldTake 68 = .ok (.ireturn, 1) := by decide +kernel
theorem dX7_tellsMost_0 : decode cX7_tellsMost 0 = .ok (.aload_n 0, 1) := by decide +kernel
theorem dX7_tellsMost_1 : decode cX7_tellsMost 1 = .ok (.iload_n 2, 1) := by decide +kernel
theorem dX7_tellsMost_2 : decode cX7_tellsMost 2 = .ok (.iload_n 3, 1) := by decide +kernel
theorem dX7_tellsMost_3 : decode cX7_tellsMost 3 = .ok (.iload 4, 2) := by decide +kernel
theorem dX7_tellsMost_5 : decode cX7_tellsMost 5 = .ok (.invokevirtual 133, 3) := by decide +kernel
theorem dX7_tellsMost_8 : decode cX7_tellsMost 8 = .ok (.aload_n 0, 1) := by decide +kernel
theorem dX7_tellsMost_9 : decode cX7_tellsMost 9 = .ok (.getfield 29, 3) := by decide +kernel
theorem dX7_tellsMost_12 : decode cX7_tellsMost 12 = .ok (.getfield 51, 3) := by decide +kernel
theorem dX7_tellsMost_15 : decode cX7_tellsMost 15 = .ok (.iload_n 1, 1) := by decide +kernel
theorem dX7_tellsMost_16 : decode cX7_tellsMost 16 = .ok (.iaload, 1) := by decide +kernel
theorem dX7_tellsMost_17 : decode cX7_tellsMost 17 = .ok (.istore 6, 2) := by decide +kernel
theorem dX7_tellsMost_19 : decode cX7_tellsMost 19 = .ok (.iload 6, 2) := by decide +kernel
theorem dX7_tellsMost_21 : decode cX7_tellsMost 21 = .ok (.iload_n 2, 1) := by decide +kernel
theorem dX7_tellsMost_22 : decode cX7_tellsMost 22 = .ok (.if_icmp .ne 7, 3) := by decide +kernel
theorem dX7_tellsMost_25 : decode cX7_tellsMost 25 = .ok (.iconst 0, 1) := by decide +kernel
theorem dX7_tellsMost_26 : decode cX7_tellsMost 26 = .ok (.goto 14, 3) := by decide +kernel
theorem dX7_tellsMost_29 : decode cX7_tellsMost 29 = .ok (.iload 6, 2) := by decide +kernel
theorem dX7_tellsMost_31 : decode cX7_tellsMost 31 = .ok (.iload_n 3, 1) := by decide +kernel
theorem dX7_tellsMost_32 : decode cX7_tellsMost 32 = .ok (.if_icmp .ne 7, 3) := by decide +kernel
theorem dX7_tellsMost_35 : decode cX7_tellsMost 35 = .ok (.iconst 1, 1) := by decide +kernel
theorem dX7_tellsMost_36 : decode cX7_tellsMost 36 = .ok (.goto 4, 3) := by decide +kernel
theorem dX7_tellsMost_39 : decode cX7_tellsMost 39 = .ok (.iconst 2, 1) := by decide +kernel
theorem dX7_tellsMost_40 : decode cX7_tellsMost 40 = .ok (.istore 7, 2) := by decide +kernel
theorem dX7_tellsMost_42 : decode cX7_tellsMost 42 = .ok (.aload_n 0, 1) := by decide +kernel
theorem dX7_tellsMost_43 : decode cX7_tellsMost 43 = .ok (.getfield 17, 3) := by decide +kernel
theorem dX7_tellsMost_46 : decode cX7_tellsMost 46 = .ok (.iload 7, 2) := by decide +kernel
theorem dX7_tellsMost_48 : decode cX7_tellsMost 48 = .ok (.iaload, 1) := by decide +kernel
theorem dX7_tellsMost_49 : decode cX7_tellsMost 49 = .ok (.iload 6, 2) := by decide +kernel
theorem dX7_tellsMost_51 : decode cX7_tellsMost 51 = .ok (.if_icmp .eq 5, 3) := by decide +kernel
theorem dX7_tellsMost_54 : decode cX7_tellsMost 54 = .ok (.iconst (-1), 1) := by decide +kernel
theorem dX7_tellsMost_55 : decode cX7_tellsMost 55 = .ok (.ireturn, 1) := by decide +kernel
theorem dX7_tellsMost_56 : decode cX7_tellsMost 56 = .ok (.iconst (-1), 1) := by decide +kernel
theorem dX7_tellsMost_57 : decode cX7_tellsMost 57 = .ok (.istore 8, 2) := by decide +kernel
theorem dX7_tellsMost_59 : decode cX7_tellsMost 59 = .ok (.iconst (-1), 1) := by decide +kernel
theorem dX7_tellsMost_60 : decode cX7_tellsMost 60 = .ok (.istore 9, 2) := by decide +kernel
theorem dX7_tellsMost_62 : decode cX7_tellsMost 62 = .ok (.iconst 0, 1) := by decide +kernel
theorem dX7_tellsMost_63 : decode cX7_tellsMost 63 = .ok (.istore 10, 2) := by decide +kernel
theorem dX7_tellsMost_65 : decode cX7_tellsMost 65 = .ok (.iload 10, 2) := by decide +kernel
theorem dX7_tellsMost_67 : decode cX7_tellsMost 67 = .ok (.aload_n 0, 1) := by decide +kernel
theorem dX7_tellsMost_68 : decode cX7_tellsMost 68 = .ok (.getfield 29, 3) := by decide +kernel
theorem dX7_tellsMost_71 : decode cX7_tellsMost 71 = .ok (.getfield 107, 3) := by decide +kernel
theorem dX7_tellsMost_74 : decode cX7_tellsMost 74 = .ok (.getfield 143, 3) := by decide +kernel
theorem dX7_tellsMost_77 : decode cX7_tellsMost 77 = .ok (.if_icmp .ge 35, 3) := by decide +kernel
theorem dX7_tellsMost_80 : decode cX7_tellsMost 80 = .ok (.aload_n 0, 1) := by decide +kernel
theorem dX7_tellsMost_81 : decode cX7_tellsMost 81 = .ok (.iload 7, 2) := by decide +kernel
theorem dX7_tellsMost_83 : decode cX7_tellsMost 83 = .ok (.iload_n 1, 1) := by decide +kernel
theorem dX7_tellsMost_84 : decode cX7_tellsMost 84 = .ok (.iload 10, 2) := by decide +kernel
theorem dX7_tellsMost_86 : decode cX7_tellsMost 86 = .ok (.invokevirtual 197, 3) := by decide +kernel
theorem dX7_tellsMost_89 : decode cX7_tellsMost 89 = .ok (.istore 11, 2) := by decide +kernel
theorem dX7_tellsMost_91 : decode cX7_tellsMost 91 = .ok (.iload 11, 2) := by decide +kernel
theorem dX7_tellsMost_93 : decode cX7_tellsMost 93 = .ok (.iload 9, 2) := by decide +kernel
theorem dX7_tellsMost_95 : decode cX7_tellsMost 95 = .ok (.if_icmp .le 11, 3) := by decide +kernel
theorem dX7_tellsMost_98 : decode cX7_tellsMost 98 = .ok (.iload 11, 2) := by decide +kernel
theorem dX7_tellsMost_100 : decode cX7_tellsMost 100 = .ok (.istore 9, 2) := by decide +kernel
theorem dX7_tellsMost_102 : decode cX7_tellsMost 102 = .ok (.iload 10, 2) := by decide +kernel
theorem dX7_tellsMost_104 : decode cX7_tellsMost 104 = .ok (.istore 8, 2) := by decide +kernel
theorem dX7_tellsMost_106 : decode cX7_tellsMost 106 = .ok (.iinc 10 1, 3) := by decide +kernel
theorem dX7_tellsMost_109 : decode cX7_tellsMost 109 = .ok (.goto (-44), 3) := by decide +kernel
theorem dX7_tellsMost_112 : decode cX7_tellsMost 112 = .ok (.iload 5, 2) := by decide +kernel
theorem dX7_tellsMost_114 : decode cX7_tellsMost 114 = .ok (.ifCond .eq 8, 3) := by decide +kernel
theorem dX7_tellsMost_117 : decode cX7_tellsMost 117 = .ok (.iload 9, 2) := by decide +kernel
theorem dX7_tellsMost_119 : decode cX7_tellsMost 119 = .ok (.goto 5, 3) := by decide +kernel
theorem dX7_tellsMost_122 : decode cX7_tellsMost 122 = .ok (.iload 8, 2) := by decide +kernel
theorem dX7_tellsMost_124 : decode cX7_tellsMost 124 = .ok (.ireturn, 1) := by decide +kernel
theorem dX7_nearestTo_0 : decode cX7_nearestTo 0 = .ok (.aload_n 0, 1) := by decide +kernel
theorem dX7_nearestTo_1 : decode cX7_nearestTo 1 = .ok (.getfield 29, 3) := by decide +kernel
theorem dX7_nearestTo_4 : decode cX7_nearestTo 4 = .ok (.getfield 107, 3) := by decide +kernel
theorem dX7_nearestTo_7 : decode cX7_nearestTo 7 = .ok (.iload_n 3, 1) := by decide +kernel
theorem dX7_nearestTo_8 : decode cX7_nearestTo 8 = .ok (.iconst 0, 1) := by decide +kernel
theorem dX7_nearestTo_9 : decode cX7_nearestTo 9 = .ok (.invokevirtual 110, 3) := by decide +kernel
theorem dX7_nearestTo_12 : decode cX7_nearestTo 12 = .ok (.istore 4, 2) := by decide +kernel
theorem dX7_nearestTo_14 : decode cX7_nearestTo 14 = .ok (.iconst 0, 1) := by decide +kernel
theorem dX7_nearestTo_15 : decode cX7_nearestTo 15 = .ok (.istore 5, 2) := by decide +kernel
theorem dX7_nearestTo_17 : decode cX7_nearestTo 17 = .ok (.iload 5, 2) := by decide +kernel
theorem dX7_nearestTo_19 : decode cX7_nearestTo 19 = .ok (.iconst 3, 1) := by decide +kernel
theorem dX7_nearestTo_20 : decode cX7_nearestTo 20 = .ok (.if_icmp .ge 43, 3) := by decide +kernel
theorem dX7_nearestTo_23 : decode cX7_nearestTo 23 = .ok (.aload_n 0, 1) := by decide +kernel
theorem dX7_nearestTo_24 : decode cX7_nearestTo 24 = .ok (.aload_n 0, 1) := by decide +kernel
theorem dX7_nearestTo_25 : decode cX7_nearestTo 25 = .ok (.getfield 29, 3) := by decide +kernel
theorem dX7_nearestTo_28 : decode cX7_nearestTo 28 = .ok (.getfield 190, 3) := by decide +kernel
theorem dX7_nearestTo_31 : decode cX7_nearestTo 31 = .ok (.iload_n 2, 1) := by decide +kernel
theorem dX7_nearestTo_32 : decode cX7_nearestTo 32 = .ok (.aload_n 0, 1) := by decide +kernel
theorem dX7_nearestTo_33 : decode cX7_nearestTo 33 = .ok (.getfield 17, 3) := by decide +kernel
theorem dX7_nearestTo_36 : decode cX7_nearestTo 36 = .ok (.iload 5, 2) := by decide +kernel
theorem dX7_nearestTo_38 : decode cX7_nearestTo 38 = .ok (.iaload, 1) := by decide +kernel
theorem dX7_nearestTo_39 : decode cX7_nearestTo 39 = .ok (.invokevirtual 114, 3) := by decide +kernel
theorem dX7_nearestTo_42 : decode cX7_nearestTo 42 = .ok (.aload_n 0, 1) := by decide +kernel
theorem dX7_nearestTo_43 : decode cX7_nearestTo 43 = .ok (.getfield 20, 3) := by decide +kernel
theorem dX7_nearestTo_46 : decode cX7_nearestTo 46 = .ok (.iload 5, 2) := by decide +kernel
theorem dX7_nearestTo_48 : decode cX7_nearestTo 48 = .ok (.aload_n 0, 1) := by decide +kernel
theorem dX7_nearestTo_49 : decode cX7_nearestTo 49 = .ok (.iload 4, 2) := by decide +kernel
theorem dX7_nearestTo_51 : decode cX7_nearestTo 51 = .ok (.iload 5, 2) := by decide +kernel
theorem dX7_nearestTo_53 : decode cX7_nearestTo 53 = .ok (.invokevirtual 118, 3) := by decide +kernel
theorem dX7_nearestTo_56 : decode cX7_nearestTo 56 = .ok (.iastore, 1) := by decide +kernel
theorem dX7_nearestTo_57 : decode cX7_nearestTo 57 = .ok (.iinc 5 1, 3) := by decide +kernel
theorem dX7_nearestTo_60 : decode cX7_nearestTo 60 = .ok (.goto (-43), 3) := by decide +kernel
theorem dX7_nearestTo_63 : decode cX7_nearestTo 63 = .ok (.sipush 1000, 3) := by decide +kernel
theorem dX7_nearestTo_66 : decode cX7_nearestTo 66 = .ok (.istore 5, 2) := by decide +kernel
theorem dX7_nearestTo_68 : decode cX7_nearestTo 68 = .ok (.iconst 0, 1) := by decide +kernel
theorem dX7_nearestTo_69 : decode cX7_nearestTo 69 = .ok (.istore 6, 2) := by decide +kernel
theorem dX7_nearestTo_71 : decode cX7_nearestTo 71 = .ok (.iload 6, 2) := by decide +kernel
theorem dX7_nearestTo_73 : decode cX7_nearestTo 73 = .ok (.iconst 3, 1) := by decide +kernel
theorem dX7_nearestTo_74 : decode cX7_nearestTo 74 = .ok (.if_icmp .ge 39, 3) := by decide +kernel
theorem dX7_nearestTo_77 : decode cX7_nearestTo 77 = .ok (.iload 6, 2) := by decide +kernel
theorem dX7_nearestTo_79 : decode cX7_nearestTo 79 = .ok (.iload_n 1, 1) := by decide +kernel
theorem dX7_nearestTo_80 : decode cX7_nearestTo 80 = .ok (.if_icmp .eq 27, 3) := by decide +kernel
theorem dX7_nearestTo_83 : decode cX7_nearestTo 83 = .ok (.iload 5, 2) := by decide +kernel
theorem dX7_nearestTo_85 : decode cX7_nearestTo 85 = .ok (.aload_n 0, 1) := by decide +kernel
theorem dX7_nearestTo_86 : decode cX7_nearestTo 86 = .ok (.getfield 20, 3) := by decide +kernel
theorem dX7_nearestTo_89 : decode cX7_nearestTo 89 = .ok (.iload 6, 2) := by decide +kernel
theorem dX7_nearestTo_91 : decode cX7_nearestTo 91 = .ok (.iaload, 1) := by decide +kernel
theorem dX7_nearestTo_92 : decode cX7_nearestTo 92 = .ok (.aload_n 0, 1) := by decide +kernel
theorem dX7_nearestTo_93 : decode cX7_nearestTo 93 = .ok (.getfield 20, 3) := by decide +kernel
theorem dX7_nearestTo_96 : decode cX7_nearestTo 96 = .ok (.iload_n 1, 1) := by decide +kernel
theorem dX7_nearestTo_97 : decode cX7_nearestTo 97 = .ok (.iaload, 1) := by decide +kernel
theorem dX7_nearestTo_98 : decode cX7_nearestTo 98 = .ok (.isub, 1) := by decide +kernel
theorem dX7_nearestTo_99 : decode cX7_nearestTo 99 = .ok (.invokestatic 200, 3) := by decide +kernel
theorem dX7_nearestTo_102 : decode cX7_nearestTo 102 = .ok (.invokestatic 206, 3) := by decide +kernel
theorem dX7_nearestTo_105 : decode cX7_nearestTo 105 = .ok (.istore 5, 2) := by decide +kernel
theorem dX7_nearestTo_107 : decode cX7_nearestTo 107 = .ok (.iinc 6 1, 3) := by decide +kernel
theorem dX7_nearestTo_110 : decode cX7_nearestTo 110 = .ok (.goto (-39), 3) := by decide +kernel
theorem dX7_nearestTo_113 : decode cX7_nearestTo 113 = .ok (.iload 5, 2) := by decide +kernel
theorem dX7_nearestTo_115 : decode cX7_nearestTo 115 = .ok (.ireturn, 1) := by decide +kernel
theorem dX7_bestBeside_0 : decode cX7_bestBeside 0 = .ok (.aload_n 0, 1) := by decide +kernel
theorem dX7_bestBeside_1 : decode cX7_bestBeside 1 = .ok (.getfield 29, 3) := by decide +kernel
theorem dX7_bestBeside_4 : decode cX7_bestBeside 4 = .ok (.getfield 51, 3) := by decide +kernel
theorem dX7_bestBeside_7 : decode cX7_bestBeside 7 = .ok (.iload_n 1, 1) := by decide +kernel
theorem dX7_bestBeside_8 : decode cX7_bestBeside 8 = .ok (.iaload, 1) := by decide +kernel
theorem dX7_bestBeside_9 : decode cX7_bestBeside 9 = .ok (.istore_n 3, 1) := by decide +kernel
theorem dX7_bestBeside_10 : decode cX7_bestBeside 10 = .ok (.aload_n 0, 1) := by decide +kernel
theorem dX7_bestBeside_11 : decode cX7_bestBeside 11 = .ok (.getfield 29, 3) := by decide +kernel
theorem dX7_bestBeside_14 : decode cX7_bestBeside 14 = .ok (.invokevirtual 209, 3) := by decide +kernel
theorem dX7_bestBeside_17 : decode cX7_bestBeside 17 = .ok (.iconst 1, 1) := by decide +kernel
theorem dX7_bestBeside_18 : decode cX7_bestBeside 18 = .ok (.iload_n 3, 1) := by decide +kernel
theorem dX7_bestBeside_19 : decode cX7_bestBeside 19 = .ok (.ishl, 1) := by decide +kernel
theorem dX7_bestBeside_20 : decode cX7_bestBeside 20 = .ok (.iconst (-1), 1) := by decide +kernel
theorem dX7_bestBeside_21 : decode cX7_bestBeside 21 = .ok (.ixor, 1) := by decide +kernel
theorem dX7_bestBeside_22 : decode cX7_bestBeside 22 = .ok (.iand, 1) := by decide +kernel
theorem dX7_bestBeside_23 : decode cX7_bestBeside 23 = .ok (.istore 4, 2) := by decide +kernel
theorem dX7_bestBeside_25 : decode cX7_bestBeside 25 = .ok (.iload 4, 2) := by decide +kernel
theorem dX7_bestBeside_27 : decode cX7_bestBeside 27 = .ok (.invokestatic 212, 3) := by decide +kernel
theorem dX7_bestBeside_30 : decode cX7_bestBeside 30 = .ok (.iconst 2, 1) := by decide +kernel
theorem dX7_bestBeside_31 : decode cX7_bestBeside 31 = .ok (.if_icmp .ge 7, 3) := by decide +kernel
theorem dX7_bestBeside_34 : decode cX7_bestBeside 34 = .ok (.sipush (-10000), 3) := by decide +kernel
theorem dX7_bestBeside_37 : decode cX7_bestBeside 37 = .ok (.ireturn, 1) := by decide +kernel
theorem dX7_bestBeside_38 : decode cX7_bestBeside 38 = .ok (.aload_n 0, 1) := by decide +kernel
theorem dX7_bestBeside_39 : decode cX7_bestBeside 39 = .ok (.iload_n 1, 1) := by decide +kernel
theorem dX7_bestBeside_40 : decode cX7_bestBeside 40 = .ok (.iload_n 3, 1) := by decide +kernel
theorem dX7_bestBeside_41 : decode cX7_bestBeside 41 = .ok (.iconst 1, 1) := by decide +kernel
theorem dX7_bestBeside_42 : decode cX7_bestBeside 42 = .ok (.invokevirtual 194, 3) := by decide +kernel
theorem dX7_bestBeside_45 : decode cX7_bestBeside 45 = .ok (.istore 5, 2) := by decide +kernel
theorem dX7_bestBeside_47 : decode cX7_bestBeside 47 = .ok (.iconst 0, 1) := by decide +kernel
theorem dX7_bestBeside_48 : decode cX7_bestBeside 48 = .ok (.istore 6, 2) := by decide +kernel
theorem dX7_bestBeside_50 : decode cX7_bestBeside 50 = .ok (.iload 6, 2) := by decide +kernel
theorem dX7_bestBeside_52 : decode cX7_bestBeside 52 = .ok (.bipush 12, 2) := by decide +kernel
theorem dX7_bestBeside_54 : decode cX7_bestBeside 54 = .ok (.if_icmp .ge 49, 3) := by decide +kernel
theorem dX7_bestBeside_57 : decode cX7_bestBeside 57 = .ok (.iload 4, 2) := by decide +kernel
theorem dX7_bestBeside_59 : decode cX7_bestBeside 59 = .ok (.iload 6, 2) := by decide +kernel
theorem dX7_bestBeside_61 : decode cX7_bestBeside 61 = .ok (.invokestatic 217, 3) := by decide +kernel
theorem dX7_bestBeside_64 : decode cX7_bestBeside 64 = .ok (.ifCond .eq 33, 3) := by decide +kernel
theorem dX7_bestBeside_67 : decode cX7_bestBeside 67 = .ok (.aload_n 0, 1) := by decide +kernel
theorem dX7_bestBeside_68 : decode cX7_bestBeside 68 = .ok (.getfield 23, 3) := by decide +kernel
theorem dX7_bestBeside_71 : decode cX7_bestBeside 71 = .ok (.iload 6, 2) := by decide +kernel
theorem dX7_bestBeside_73 : decode cX7_bestBeside 73 = .ok (.aload_n 0, 1) := by decide +kernel
theorem dX7_bestBeside_74 : decode cX7_bestBeside 74 = .ok (.iload_n 1, 1) := by decide +kernel
theorem dX7_bestBeside_75 : decode cX7_bestBeside 75 = .ok (.iload 6, 2) := by decide +kernel
theorem dX7_bestBeside_77 : decode cX7_bestBeside 77 = .ok (.iconst 0, 1) := by decide +kernel
theorem dX7_bestBeside_78 : decode cX7_bestBeside 78 = .ok (.invokevirtual 194, 3) := by decide +kernel
theorem dX7_bestBeside_81 : decode cX7_bestBeside 81 = .ok (.iastore, 1) := by decide +kernel
theorem dX7_bestBeside_82 : decode cX7_bestBeside 82 = .ok (.aload_n 0, 1) := by decide +kernel
theorem dX7_bestBeside_83 : decode cX7_bestBeside 83 = .ok (.getfield 26, 3) := by decide +kernel
theorem dX7_bestBeside_86 : decode cX7_bestBeside 86 = .ok (.iload 6, 2) := by decide +kernel
theorem dX7_bestBeside_88 : decode cX7_bestBeside 88 = .ok (.aload_n 0, 1) := by decide +kernel
theorem dX7_bestBeside_89 : decode cX7_bestBeside 89 = .ok (.iload_n 1, 1) := by decide +kernel
theorem dX7_bestBeside_90 : decode cX7_bestBeside 90 = .ok (.iload 6, 2) := by decide +kernel
theorem dX7_bestBeside_92 : decode cX7_bestBeside 92 = .ok (.iconst 2, 1) := by decide +kernel
theorem dX7_bestBeside_93 : decode cX7_bestBeside 93 = .ok (.invokevirtual 194, 3) := by decide +kernel
theorem dX7_bestBeside_96 : decode cX7_bestBeside 96 = .ok (.iastore, 1) := by decide +kernel
theorem dX7_bestBeside_97 : decode cX7_bestBeside 97 = .ok (.iinc 6 1, 3) := by decide +kernel
theorem dX7_bestBeside_100 : decode cX7_bestBeside 100 = .ok (.goto (-50), 3) := by decide +kernel
theorem dX7_bestBeside_103 : decode cX7_bestBeside 103 = .ok (.iconst 0, 1) := by decide +kernel
theorem dX7_bestBeside_104 : decode cX7_bestBeside 104 = .ok (.istore 6, 2) := by decide +kernel
theorem dX7_bestBeside_106 : decode cX7_bestBeside 106 = .ok (.iconst 0, 1) := by decide +kernel
theorem dX7_bestBeside_107 : decode cX7_bestBeside 107 = .ok (.istore 7, 2) := by decide +kernel
theorem dX7_bestBeside_109 : decode cX7_bestBeside 109 = .ok (.iconst 1, 1) := by decide +kernel
theorem dX7_bestBeside_110 : decode cX7_bestBeside 110 = .ok (.istore 8, 2) := by decide +kernel
theorem dX7_bestBeside_112 : decode cX7_bestBeside 112 = .ok (.iload 8, 2) := by decide +kernel
theorem dX7_bestBeside_114 : decode cX7_bestBeside 114 = .ok (.bipush 12, 2) := by decide +kernel
theorem dX7_bestBeside_116 : decode cX7_bestBeside 116 = .ok (.if_icmp .ge 94, 3) := by decide +kernel
theorem dX7_bestBeside_119 : decode cX7_bestBeside 119 = .ok (.iconst 0, 1) := by decide +kernel
theorem dX7_bestBeside_120 : decode cX7_bestBeside 120 = .ok (.istore 9, 2) := by decide +kernel
theorem dX7_bestBeside_122 : decode cX7_bestBeside 122 = .ok (.iload 9, 2) := by decide +kernel
theorem dX7_bestBeside_124 : decode cX7_bestBeside 124 = .ok (.iload 8, 2) := by decide +kernel
theorem dX7_bestBeside_126 : decode cX7_bestBeside 126 = .ok (.if_icmp .ge 78, 3) := by decide +kernel
theorem dX7_bestBeside_129 : decode cX7_bestBeside 129 = .ok (.iload 5, 2) := by decide +kernel
theorem dX7_bestBeside_131 : decode cX7_bestBeside 131 = .ok (.aload_n 0, 1) := by decide +kernel
theorem dX7_bestBeside_132 : decode cX7_bestBeside 132 = .ok (.getfield 23, 3) := by decide +kernel
theorem dX7_bestBeside_135 : decode cX7_bestBeside 135 = .ok (.iload 9, 2) := by decide +kernel
theorem dX7_bestBeside_137 : decode cX7_bestBeside 137 = .ok (.iaload, 1) := by decide +kernel
theorem dX7_bestBeside_138 : decode cX7_bestBeside 138 = .ok (.aload_n 0, 1) := by decide +kernel
theorem dX7_bestBeside_139 : decode cX7_bestBeside 139 = .ok (.getfield 26, 3) := by decide +kernel
theorem dX7_bestBeside_142 : decode cX7_bestBeside 142 = .ok (.iload 8, 2) := by decide +kernel
theorem dX7_bestBeside_144 : decode cX7_bestBeside 144 = .ok (.iaload, 1) := by decide +kernel
theorem dX7_bestBeside_145 : decode cX7_bestBeside 145 = .ok (.invokestatic 221, 3) := by decide +kernel
theorem dX7_bestBeside_148 : decode cX7_bestBeside 148 = .ok (.isub, 1) := by decide +kernel
theorem dX7_bestBeside_149 : decode cX7_bestBeside 149 = .ok (.istore 10, 2) := by decide +kernel
theorem dX7_bestBeside_151 : decode cX7_bestBeside 151 = .ok (.iload 4, 2) := by decide +kernel
theorem dX7_bestBeside_153 : decode cX7_bestBeside 153 = .ok (.iload 9, 2) := by decide +kernel
theorem dX7_bestBeside_155 : decode cX7_bestBeside 155 = .ok (.invokestatic 217, 3) := by decide +kernel
theorem dX7_bestBeside_158 : decode cX7_bestBeside 158 = .ok (.ifCond .eq 40, 3) := by decide +kernel
theorem dX7_bestBeside_161 : decode cX7_bestBeside 161 = .ok (.iload 4, 2) := by decide +kernel
theorem dX7_bestBeside_163 : decode cX7_bestBeside 163 = .ok (.iload 8, 2) := by decide +kernel
theorem dX7_bestBeside_165 : decode cX7_bestBeside 165 = .ok (.invokestatic 217, 3) := by decide +kernel
theorem dX7_bestBeside_168 : decode cX7_bestBeside 168 = .ok (.ifCond .eq 30, 3) := by decide +kernel
theorem dX7_bestBeside_171 : decode cX7_bestBeside 171 = .ok (.iload 6, 2) := by decide +kernel
theorem dX7_bestBeside_173 : decode cX7_bestBeside 173 = .ok (.ifCond .eq 10, 3) := by decide +kernel
theorem dX7_bestBeside_176 : decode cX7_bestBeside 176 = .ok (.iload 10, 2) := by decide +kernel
theorem dX7_bestBeside_178 : decode cX7_bestBeside 178 = .ok (.iload 7, 2) := by decide +kernel
theorem dX7_bestBeside_180 : decode cX7_bestBeside 180 = .ok (.if_icmp .le 18, 3) := by decide +kernel
theorem dX7_bestBeside_183 : decode cX7_bestBeside 183 = .ok (.iconst 1, 1) := by decide +kernel
theorem dX7_bestBeside_184 : decode cX7_bestBeside 184 = .ok (.iload 9, 2) := by decide +kernel
theorem dX7_bestBeside_186 : decode cX7_bestBeside 186 = .ok (.ishl, 1) := by decide +kernel
theorem dX7_bestBeside_187 : decode cX7_bestBeside 187 = .ok (.iconst 1, 1) := by decide +kernel
theorem dX7_bestBeside_188 : decode cX7_bestBeside 188 = .ok (.iload 8, 2) := by decide +kernel
theorem dX7_bestBeside_190 : decode cX7_bestBeside 190 = .ok (.ishl, 1) := by decide +kernel
theorem dX7_bestBeside_191 : decode cX7_bestBeside 191 = .ok (.ior, 1) := by decide +kernel
theorem dX7_bestBeside_192 : decode cX7_bestBeside 192 = .ok (.istore 6, 2) := by decide +kernel
theorem dX7_bestBeside_194 : decode cX7_bestBeside 194 = .ok (.iload 10, 2) := by decide +kernel
theorem dX7_bestBeside_196 : decode cX7_bestBeside 196 = .ok (.istore 7, 2) := by decide +kernel
theorem dX7_bestBeside_198 : decode cX7_bestBeside 198 = .ok (.iinc 9 1, 3) := by decide +kernel
theorem dX7_bestBeside_201 : decode cX7_bestBeside 201 = .ok (.goto (-79), 3) := by decide +kernel
theorem dX7_bestBeside_204 : decode cX7_bestBeside 204 = .ok (.iinc 8 1, 3) := by decide +kernel
theorem dX7_bestBeside_207 : decode cX7_bestBeside 207 = .ok (.goto (-95), 3) := by decide +kernel
theorem dX7_bestBeside_210 : decode cX7_bestBeside 210 = .ok (.iload_n 2, 1) := by decide +kernel
theorem dX7_bestBeside_211 : decode cX7_bestBeside 211 = .ok (.ifCond .eq 8, 3) := by decide +kernel
theorem dX7_bestBeside_214 : decode cX7_bestBeside 214 = .ok (.iload 7, 2) := by decide +kernel
theorem dX7_bestBeside_216 : decode cX7_bestBeside 216 = .ok (.goto 5, 3) := by decide +kernel
theorem dX7_bestBeside_219 : decode cX7_bestBeside 219 = .ok (.iload 6, 2) := by decide +kernel
theorem dX7_bestBeside_221 : decode cX7_bestBeside 221 = .ok (.ireturn, 1) := by decide +kernel
theorem dX8_init_0 : decode cX8_init 0 = .ok (.aload_n 0, 1) := by decide +kernel
theorem dX8_init_1 : decode cX8_init 1 = .ok (.invokespecial 3, 3) := by decide +kernel
theorem dX8_init_4 : decode cX8_init 4 = .ok (.aload_n 0, 1) := by decide +kernel
theorem dX8_init_5 : decode cX8_init 5 = .ok (.bipush 12, 2) := by decide +kernel
theorem dX8_init_7 : decode cX8_init 7 = .ok (.newarray .int, 2) := by decide +kernel
theorem dX8_init_9 : decode cX8_init 9 = .ok (.putfield 9, 3) := by decide +kernel
theorem dX8_init_12 : decode cX8_init 12 = .ok (.aload_n 0, 1) := by decide +kernel
theorem dX8_init_13 : decode cX8_init 13 = .ok (.bipush 8, 2) := by decide +kernel
theorem dX8_init_15 : decode cX8_init 15 = .ok (.newarray .int, 2) := by decide +kernel
theorem dX8_init_17 : decode cX8_init 17 = .ok (.putfield 15, 3) := by decide +kernel
theorem dX8_init_20 : decode cX8_init 20 = .ok (.aload_n 0, 1) := by decide +kernel
theorem dX8_init_21 : decode cX8_init 21 = .ok (.bipush 8, 2) := by decide +kernel
theorem dX8_init_23 : decode cX8_init 23 = .ok (.newarray .int, 2) := by decide +kernel
theorem dX8_init_25 : decode cX8_init 25 = .ok (.putfield 18, 3) := by decide +kernel
theorem dX8_init_28 : decode cX8_init 28 = .ok (.aload_n 0, 1) := by decide +kernel
theorem dX8_init_29 : decode cX8_init 29 = .ok (.bipush 8, 2) := by decide +kernel
theorem dX8_init_31 : decode cX8_init 31 = .ok (.newarray .int, 2) := by decide +kernel
theorem dX8_init_33 : decode cX8_init 33 = .ok (.putfield 21, 3) := by decide +kernel
theorem dX8_init_36 : decode cX8_init 36 = .ok (.aload_n 0, 1) := by decide +kernel
theorem dX8_init_37 : decode cX8_init 37 = .ok (.bipush 8, 2) := by decide +kernel
theorem dX8_init_39 : decode cX8_init 39 = .ok (.newarray .int, 2) := by decide +kernel
theorem dX8_init_41 : decode cX8_init 41 = .ok (.putfield 24, 3) := by decide +kernel
theorem dX8_init_44 : decode cX8_init 44 = .ok (.aload_n 0, 1) := by decide +kernel
theorem dX8_init_45 : decode cX8_init 45 = .ok (.getfield 9, 3) := by decide +kernel
theorem dX8_init_48 : decode cX8_init 48 = .ok (.iconst (-1), 1) := by decide +kernel
theorem dX8_init_49 : decode cX8_init 49 = .ok (.invokestatic 27, 3) := by decide +kernel
theorem dX8_init_52 : decode cX8_init 52 = .ok (.aload_n 0, 1) := by decide +kernel
theorem dX8_init_53 : decode cX8_init 53 = .ok (.getfield 15, 3) := by decide +kernel
theorem dX8_init_56 : decode cX8_init 56 = .ok (.iconst (-1), 1) := by decide +kernel
theorem dX8_init_57 : decode cX8_init 57 = .ok (.invokestatic 27, 3) := by decide +kernel
theorem dX8_init_60 : decode cX8_init 60 = .ok (.return_, 1) := by decide +kernel
theorem dX8_copyFrom_0 : decode cX8_copyFrom 0 = .ok (.aload_n 1, 1) := by decide +kernel
theorem dX8_copyFrom_1 : decode cX8_copyFrom 1 = .ok (.getfield 9, 3) := by decide +kernel
theorem dX8_copyFrom_4 : decode cX8_copyFrom 4 = .ok (.iconst 0, 1) := by decide +kernel
theorem dX8_copyFrom_5 : decode cX8_copyFrom 5 = .ok (.aload_n 0, 1) := by decide +kernel
theorem dX8_copyFrom_6 : decode cX8_copyFrom 6 = .ok (.getfield 9, 3) := by decide +kernel
theorem dX8_copyFrom_9 : decode cX8_copyFrom 9 = .ok (.iconst 0, 1) := by decide +kernel
theorem dX8_copyFrom_10 : decode cX8_copyFrom 10 = .ok (.bipush 12, 2) := by decide +kernel
theorem dX8_copyFrom_12 : decode cX8_copyFrom 12 = .ok (.invokestatic 33, 3) := by decide +kernel
theorem dX8_copyFrom_15 : decode cX8_copyFrom 15 = .ok (.aload_n 1, 1) := by decide +kernel
theorem dX8_copyFrom_16 : decode cX8_copyFrom 16 = .ok (.getfield 15, 3) := by decide +kernel
theorem dX8_copyFrom_19 : decode cX8_copyFrom 19 = .ok (.iconst 0, 1) := by decide +kernel
theorem dX8_copyFrom_20 : decode cX8_copyFrom 20 = .ok (.aload_n 0, 1) := by decide +kernel
theorem dX8_copyFrom_21 : decode cX8_copyFrom 21 = .ok (.getfield 15, 3) := by decide +kernel
theorem dX8_copyFrom_24 : decode cX8_copyFrom 24 = .ok (.iconst 0, 1) := by decide +kernel
theorem dX8_copyFrom_25 : decode cX8_copyFrom 25 = .ok (.bipush 8, 2) := by decide +kernel
theorem dX8_copyFrom_27 : decode cX8_copyFrom 27 = .ok (.invokestatic 33, 3) := by decide +kernel
theorem dX8_copyFrom_30 : decode cX8_copyFrom 30 = .ok (.aload_n 1, 1) := by decide +kernel
theorem dX8_copyFrom_31 : decode cX8_copyFrom 31 = .ok (.getfield 18, 3) := by decide +kernel
theorem dX8_copyFrom_34 : decode cX8_copyFrom 34 = .ok (.iconst 0, 1) := by decide +kernel
theorem dX8_copyFrom_35 : decode cX8_copyFrom 35 = .ok (.aload_n 0, 1) := by decide +kernel
theorem dX8_copyFrom_36 : decode cX8_copyFrom 36 = .ok (.getfield 18, 3) := by decide +kernel
theorem dX8_copyFrom_39 : decode cX8_copyFrom 39 = .ok (.iconst 0, 1) := by decide +kernel
theorem dX8_copyFrom_40 : decode cX8_copyFrom 40 = .ok (.bipush 8, 2) := by decide +kernel
theorem dX8_copyFrom_42 : decode cX8_copyFrom 42 = .ok (.invokestatic 33, 3) := by decide +kernel
theorem dX8_copyFrom_45 : decode cX8_copyFrom 45 = .ok (.aload_n 1, 1) := by decide +kernel
theorem dX8_copyFrom_46 : decode cX8_copyFrom 46 = .ok (.getfield 21, 3) := by decide +kernel
theorem dX8_copyFrom_49 : decode cX8_copyFrom 49 = .ok (.iconst 0, 1) := by decide +kernel
theorem dX8_copyFrom_50 : decode cX8_copyFrom 50 = .ok (.aload_n 0, 1) := by decide +kernel
theorem dX8_copyFrom_51 : decode cX8_copyFrom 51 = .ok (.getfield 21, 3) := by decide +kernel
theorem dX8_copyFrom_54 : decode cX8_copyFrom 54 = .ok (.iconst 0, 1) := by decide +kernel
theorem dX8_copyFrom_55 : decode cX8_copyFrom 55 = .ok (.bipush 8, 2) := by decide +kernel
theorem dX8_copyFrom_57 : decode cX8_copyFrom 57 = .ok (.invokestatic 33, 3) := by decide +kernel
theorem dX8_copyFrom_60 : decode cX8_copyFrom 60 = .ok (.aload_n 1, 1) := by decide +kernel
theorem dX8_copyFrom_61 : decode cX8_copyFrom 61 = .ok (.getfield 24, 3) := by decide +kernel
theorem dX8_copyFrom_64 : decode cX8_copyFrom 64 = .ok (.iconst 0, 1) := by decide +kernel
theorem dX8_copyFrom_65 : decode cX8_copyFrom 65 = .ok (.aload_n 0, 1) := by decide +kernel
theorem dX8_copyFrom_66 : decode cX8_copyFrom 66 = .ok (.getfield 24, 3) := by decide +kernel
theorem dX8_copyFrom_69 : decode cX8_copyFrom 69 = .ok (.iconst 0, 1) := by decide +kernel
theorem dX8_copyFrom_70 : decode cX8_copyFrom 70 = .ok (.bipush 8, 2) := by decide +kernel
theorem dX8_copyFrom_72 : decode cX8_copyFrom 72 = .ok (.invokestatic 33, 3) := by decide +kernel
theorem dX8_copyFrom_75 : decode cX8_copyFrom 75 = .ok (.aload_n 0, 1) := by decide +kernel
theorem dX8_copyFrom_76 : decode cX8_copyFrom 76 = .ok (.aload_n 1, 1) := by decide +kernel
theorem dX8_copyFrom_77 : decode cX8_copyFrom 77 = .ok (.getfield 39, 3) := by decide +kernel
theorem dX8_copyFrom_80 : decode cX8_copyFrom 80 = .ok (.putfield 39, 3) := by decide +kernel
theorem dX8_copyFrom_83 : decode cX8_copyFrom 83 = .ok (.aload_n 0, 1) := by decide +kernel
theorem dX8_copyFrom_84 : decode cX8_copyFrom 84 = .ok (.aload_n 1, 1) := by decide +kernel
theorem dX8_copyFrom_85 : decode cX8_copyFrom 85 = .ok (.getfield 43, 3) := by decide +kernel
theorem dX8_copyFrom_88 : decode cX8_copyFrom 88 = .ok (.putfield 43, 3) := by decide +kernel
theorem dX8_copyFrom_91 : decode cX8_copyFrom 91 = .ok (.aload_n 0, 1) := by decide +kernel
theorem dX8_copyFrom_92 : decode cX8_copyFrom 92 = .ok (.aload_n 1, 1) := by decide +kernel
theorem dX8_copyFrom_93 : decode cX8_copyFrom 93 = .ok (.getfield 46, 3) := by decide +kernel
theorem dX8_copyFrom_96 : decode cX8_copyFrom 96 = .ok (.putfield 46, 3) := by decide +kernel
theorem dX8_copyFrom_99 : decode cX8_copyFrom 99 = .ok (.aload_n 0, 1) := by decide +kernel
theorem dX8_copyFrom_100 : decode cX8_copyFrom 100 = .ok (.aload_n 1, 1) := by decide +kernel
theorem dX8_copyFrom_101 : decode cX8_copyFrom 101 = .ok (.getfield 49, 3) := by decide +kernel
theorem dX8_copyFrom_104 : decode cX8_copyFrom 104 = .ok (.putfield 49, 3) := by decide +kernel
theorem dX8_copyFrom_107 : decode cX8_copyFrom 107 = .ok (.return_, 1) := by decide +kernel
theorem dX8_isToCough_0 : decode cX8_isToCough 0 = .ok (.aload_n 0, 1) := by decide +kernel
theorem dX8_isToCough_1 : decode cX8_isToCough 1 = .ok (.getfield 46, 3) := by decide +kernel
theorem dX8_isToCough_4 : decode cX8_isToCough 4 = .ok (.iload_n 1, 1) := by decide +kernel
theorem dX8_isToCough_5 : decode cX8_isToCough 5 = .ok (.invokestatic 52, 3) := by decide +kernel
theorem dX8_isToCough_8 : decode cX8_isToCough 8 = .ok (.ireturn, 1) := by decide +kernel
theorem dX8_drawOfThousand_0 : decode cX8_drawOfThousand 0 = .ok (.aload_n 0, 1) := by decide +kernel
theorem dX8_drawOfThousand_1 : decode cX8_drawOfThousand 1 = .ok (.ldc 56, 2) := by decide +kernel
theorem dX8_drawOfThousand_3 : decode cX8_drawOfThousand 3 = .ok (.aload_n 0, 1) := by decide +kernel
theorem dX8_drawOfThousand_4 : decode cX8_drawOfThousand 4 = .ok (.getfield 49, 3) := by decide +kernel
theorem dX8_drawOfThousand_7 : decode cX8_drawOfThousand 7 = .ok (.imul, 1) := by decide +kernel
theorem dX8_drawOfThousand_8 : decode cX8_drawOfThousand 8 = .ok (.ldc 57, 2) := by decide +kernel
theorem dX8_drawOfThousand_10 : decode cX8_drawOfThousand 10 = .ok (.iadd, 1) := by decide +kernel
theorem dX8_drawOfThousand_11 : decode cX8_drawOfThousand 11 = .ok (.putfield 49, 3) := by decide +kernel
theorem dX8_drawOfThousand_14 : decode cX8_drawOfThousand 14 = .ok (.aload_n 0, 1) := by decide +kernel
theorem dX8_drawOfThousand_15 : decode cX8_drawOfThousand 15 = .ok (.getfield 49, 3) := by decide +kernel
theorem dX8_drawOfThousand_18 : decode cX8_drawOfThousand 18 = .ok (.bipush 8, 2) := by decide +kernel
theorem dX8_drawOfThousand_20 : decode cX8_drawOfThousand 20 = .ok (.iushr, 1) := by decide +kernel
theorem dX8_drawOfThousand_21 : decode cX8_drawOfThousand 21 = .ok (.sipush 1000, 3) := by decide +kernel
theorem dX8_drawOfThousand_24 : decode cX8_drawOfThousand 24 = .ok (.irem, 1) := by decide +kernel
theorem dX8_drawOfThousand_25 : decode cX8_drawOfThousand 25 = .ok (.ireturn, 1) := by decide +kernel
theorem dX8_wivesOf_0 : decode cX8_wivesOf 0 = .ok (.iconst 0, 1) := by decide +kernel
theorem dX8_wivesOf_1 : decode cX8_wivesOf 1 = .ok (.istore_n 1, 1) := by decide +kernel
theorem dX8_wivesOf_2 : decode cX8_wivesOf 2 = .ok (.aload_n 0, 1) := by decide +kernel
theorem dX8_wivesOf_3 : decode cX8_wivesOf 3 = .ok (.getfield 15, 3) := by decide +kernel
theorem dX8_wivesOf_6 : decode cX8_wivesOf 6 = .ok (.astore_n 2, 1) := by decide +kernel
theorem dX8_wivesOf_7 : decode cX8_wivesOf 7 = .ok (.aload_n 2, 1) := by decide +kernel
theorem dX8_wivesOf_8 : decode cX8_wivesOf 8 = .ok (.arraylength, 1) := by decide +kernel
theorem dX8_wivesOf_9 : decode cX8_wivesOf 9 = .ok (.istore_n 3, 1) := by decide +kernel
theorem dX8_wivesOf_10 : decode cX8_wivesOf 10 = .ok (.iconst 0, 1) := by decide +kernel
theorem dX8_wivesOf_11 : decode cX8_wivesOf 11 = .ok (.istore 4, 2) := by decide +kernel
theorem dX8_wivesOf_13 : decode cX8_wivesOf 13 = .ok (.iload 4, 2) := by decide +kernel
theorem dX8_wivesOf_15 : decode cX8_wivesOf 15 = .ok (.iload_n 3, 1) := by decide +kernel
theorem dX8_wivesOf_16 : decode cX8_wivesOf 16 = .ok (.if_icmp .ge 24, 3) := by decide +kernel
theorem dX8_wivesOf_19 : decode cX8_wivesOf 19 = .ok (.aload_n 2, 1) := by decide +kernel
theorem dX8_wivesOf_20 : decode cX8_wivesOf 20 = .ok (.iload 4, 2) := by decide +kernel
theorem dX8_wivesOf_22 : decode cX8_wivesOf 22 = .ok (.iaload, 1) := by decide +kernel
theorem dX8_wivesOf_23 : decode cX8_wivesOf 23 = .ok (.istore 5, 2) := by decide +kernel
theorem dX8_wivesOf_25 : decode cX8_wivesOf 25 = .ok (.iload 5, 2) := by decide +kernel
theorem dX8_wivesOf_27 : decode cX8_wivesOf 27 = .ok (.iconst (-1), 1) := by decide +kernel
theorem dX8_wivesOf_28 : decode cX8_wivesOf 28 = .ok (.if_icmp .eq 6, 3) := by decide +kernel
theorem dX8_wivesOf_31 : decode cX8_wivesOf 31 = .ok (.iinc 1 1, 3) := by decide +kernel
theorem dX8_wivesOf_34 : decode cX8_wivesOf 34 = .ok (.iinc 4 1, 3) := by decide +kernel
theorem dX8_wivesOf_37 : decode cX8_wivesOf 37 = .ok (.goto (-24), 3) := by decide +kernel
theorem dX8_wivesOf_40 : decode cX8_wivesOf 40 = .ok (.iload_n 1, 1) := by decide +kernel
theorem dX8_wivesOf_41 : decode cX8_wivesOf 41 = .ok (.ireturn, 1) := by decide +kernel
theorem dX9_init_0 : decode cX9_init 0 = .ok (.aload_n 0, 1) := by decide +kernel
theorem dX9_init_1 : decode cX9_init 1 = .ok (.invokespecial 3, 3) := by decide +kernel
theorem dX9_init_4 : decode cX9_init 4 = .ok (.aload_n 0, 1) := by decide +kernel
theorem dX9_init_5 : decode cX9_init 5 = .ok (.bipush 10, 2) := by decide +kernel
theorem dX9_init_7 : decode cX9_init 7 = .ok (.newarray .int, 2) := by decide +kernel
theorem dX9_init_9 : decode cX9_init 9 = .ok (.putfield 11, 3) := by decide +kernel
theorem dX9_init_12 : decode cX9_init 12 = .ok (.return_, 1) := by decide +kernel
theorem dX9_lay_0 : decode cX9_lay 0 = .ok (.aload_n 0, 1) := by decide +kernel
theorem dX9_lay_1 : decode cX9_lay 1 = .ok (.getfield 11, 3) := by decide +kernel
theorem dX9_lay_4 : decode cX9_lay 4 = .ok (.iconst 0, 1) := by decide +kernel
theorem dX9_lay_5 : decode cX9_lay 5 = .ok (.invokestatic 15, 3) := by decide +kernel
theorem dX9_lay_8 : decode cX9_lay 8 = .ok (.iconst 0, 1) := by decide +kernel
theorem dX9_lay_9 : decode cX9_lay 9 = .ok (.istore_n 2, 1) := by decide +kernel
theorem dX9_lay_10 : decode cX9_lay 10 = .ok (.iload_n 2, 1) := by decide +kernel
theorem dX9_lay_11 : decode cX9_lay 11 = .ok (.aload_n 1, 1) := by decide +kernel
theorem dX9_lay_12 : decode cX9_lay 12 = .ok (.getfield 21, 3) := by decide +kernel
theorem dX9_lay_15 : decode cX9_lay 15 = .ok (.if_icmp .ge 42, 3) := by decide +kernel
theorem dX9_lay_18 : decode cX9_lay 18 = .ok (.aload_n 1, 1) := by decide +kernel
theorem dX9_lay_19 : decode cX9_lay 19 = .ok (.iload_n 2, 1) := by decide +kernel
theorem dX9_lay_20 : decode cX9_lay 20 = .ok (.iconst 0, 1) := by decide +kernel
theorem dX9_lay_21 : decode cX9_lay 21 = .ok (.invokevirtual 27, 3) := by decide +kernel
theorem dX9_lay_24 : decode cX9_lay 24 = .ok (.istore_n 3, 1) := by decide +kernel
theorem dX9_lay_25 : decode cX9_lay 25 = .ok (.iload_n 3, 1) := by decide +kernel
theorem dX9_lay_26 : decode cX9_lay 26 = .ok (.bipush 10, 2) := by decide +kernel
theorem dX9_lay_28 : decode cX9_lay 28 = .ok (.invokestatic 31, 3) := by decide +kernel
theorem dX9_lay_31 : decode cX9_lay 31 = .ok (.ifCond .eq 20, 3) := by decide +kernel
theorem dX9_lay_34 : decode cX9_lay 34 = .ok (.aload_n 0, 1) := by decide +kernel
theorem dX9_lay_35 : decode cX9_lay 35 = .ok (.getfield 11, 3) := by decide +kernel
theorem dX9_lay_38 : decode cX9_lay 38 = .ok (.iload_n 3, 1) := by decide +kernel
theorem dX9_lay_39 : decode cX9_lay 39 = .ok (.dup2, 1) := by decide +kernel
theorem dX9_lay_40 : decode cX9_lay 40 = .ok (.iaload, 1) := by decide +kernel
theorem dX9_lay_41 : decode cX9_lay 41 = .ok (.iconst 1, 1) := by decide +kernel
theorem dX9_lay_42 : decode cX9_lay 42 = .ok (.aload_n 1, 1) := by decide +kernel
theorem dX9_lay_43 : decode cX9_lay 43 = .ok (.iload_n 2, 1) := by decide +kernel
theorem dX9_lay_44 : decode cX9_lay 44 = .ok (.iconst 1, 1) := by decide +kernel
theorem dX9_lay_45 : decode cX9_lay 45 = .ok (.invokevirtual 27, 3) := by decide +kernel
theorem dX9_lay_48 : decode cX9_lay 48 = .ok (.ishl, 1) := by decide +kernel
theorem dX9_lay_49 : decode cX9_lay 49 = .ok (.ior, 1) := by decide +kernel
theorem dX9_lay_50 : decode cX9_lay 50 = .ok (.iastore, 1) := by decide +kernel
theorem dX9_lay_51 : decode cX9_lay 51 = .ok (.iinc 2 1, 3) := by decide +kernel
theorem dX9_lay_54 : decode cX9_lay 54 = .ok (.goto (-44), 3) := by decide +kernel
theorem dX9_lay_57 : decode cX9_lay 57 = .ok (.return_, 1) := by decide +kernel
theorem dX9_reached_0 : decode cX9_reached 0 = .ok (.iload_n 1, 1) := by decide +kernel
theorem dX9_reached_1 : decode cX9_reached 1 = .ok (.istore_n 2, 1) := by decide +kernel
theorem dX9_reached_2 : decode cX9_reached 2 = .ok (.iconst 0, 1) := by decide +kernel
theorem dX9_reached_3 : decode cX9_reached 3 = .ok (.istore_n 3, 1) := by decide +kernel
theorem dX9_reached_4 : decode cX9_reached 4 = .ok (.iload_n 3, 1) := by decide +kernel
theorem dX9_reached_5 : decode cX9_reached 5 = .ok (.bipush 10, 2) := by decide +kernel
theorem dX9_reached_7 : decode cX9_reached 7 = .ok (.if_icmp .ge 26, 3) := by decide +kernel
theorem dX9_reached_10 : decode cX9_reached 10 = .ok (.iload_n 1, 1) := by decide +kernel
theorem dX9_reached_11 : decode cX9_reached 11 = .ok (.iload_n 3, 1) := by decide +kernel
theorem dX9_reached_12 : decode cX9_reached 12 = .ok (.invokestatic 35, 3) := by decide +kernel
theorem dX9_reached_15 : decode cX9_reached 15 = .ok (.ifCond .eq 12, 3) := by decide +kernel
theorem dX9_reached_18 : decode cX9_reached 18 = .ok (.iload_n 2, 1) := by decide +kernel
theorem dX9_reached_19 : decode cX9_reached 19 = .ok (.aload_n 0, 1) := by decide +kernel
theorem dX9_reached_20 : decode cX9_reached 20 = .ok (.getfield 11, 3) := by decide +kernel
theorem dX9_reached_23 : decode cX9_reached 23 = .ok (.iload_n 3, 1) := by decide +kernel
theorem dX9_reached_24 : decode cX9_reached 24 = .ok (.iaload, 1) := by decide +kernel
theorem dX9_reached_25 : decode cX9_reached 25 = .ok (.ior, 1) := by decide +kernel
theorem dX9_reached_26 : decode cX9_reached 26 = .ok (.istore_n 2, 1) := by decide +kernel
theorem dX9_reached_27 : decode cX9_reached 27 = .ok (.iinc 3 1, 3) := by decide +kernel
theorem dX9_reached_30 : decode cX9_reached 30 = .ok (.goto (-26), 3) := by decide +kernel
theorem dX9_reached_33 : decode cX9_reached 33 = .ok (.iload_n 2, 1) := by decide +kernel
theorem dX9_reached_34 : decode cX9_reached 34 = .ok (.ireturn, 1) := by decide +kernel
theorem dX9_shortest_0 : decode cX9_shortest 0 = .ok (.iconst 1, 1) := by decide +kernel
theorem dX9_shortest_1 : decode cX9_shortest 1 = .ok (.iload_n 1, 1) := by decide +kernel
theorem dX9_shortest_2 : decode cX9_shortest 2 = .ok (.ishl, 1) := by decide +kernel
theorem dX9_shortest_3 : decode cX9_shortest 3 = .ok (.istore_n 3, 1) := by decide +kernel
theorem dX9_shortest_4 : decode cX9_shortest 4 = .ok (.iconst 1, 1) := by decide +kernel
theorem dX9_shortest_5 : decode cX9_shortest 5 = .ok (.istore 4, 2) := by decide +kernel
theorem dX9_shortest_7 : decode cX9_shortest 7 = .ok (.iload 4, 2) := by decide +kernel
theorem dX9_shortest_9 : decode cX9_shortest 9 = .ok (.bipush 10, 2) := by decide +kernel
theorem dX9_shortest_11 : decode cX9_shortest 11 = .ok (.if_icmp .ge 26, 3) := by decide +kernel
theorem dX9_shortest_14 : decode cX9_shortest 14 = .ok (.aload_n 0, 1) := by decide +kernel
theorem dX9_shortest_15 : decode cX9_shortest 15 = .ok (.iload_n 3, 1) := by decide +kernel
theorem dX9_shortest_16 : decode cX9_shortest 16 = .ok (.invokevirtual 38, 3) := by decide +kernel
theorem dX9_shortest_19 : decode cX9_shortest 19 = .ok (.istore_n 3, 1) := by decide +kernel
theorem dX9_shortest_20 : decode cX9_shortest 20 = .ok (.iload_n 3, 1) := by decide +kernel
theorem dX9_shortest_21 : decode cX9_shortest 21 = .ok (.iload_n 2, 1) := by decide +kernel
theorem dX9_shortest_22 : decode cX9_shortest 22 = .ok (.invokestatic 35, 3) := by decide +kernel
theorem dX9_shortest_25 : decode cX9_shortest 25 = .ok (.ifCond .eq 6, 3) := by decide +kernel
theorem dX9_shortest_28 : decode cX9_shortest 28 = .ok (.iload 4, 2) := by decide +kernel
theorem dX9_shortest_30 : decode cX9_shortest 30 = .ok (.ireturn, 1) := by decide +kernel
theorem dX9_shortest_31 : decode cX9_shortest 31 = .ok (.iinc 4 1, 3) := by decide +kernel
theorem dX9_shortest_34 : decode cX9_shortest 34 = .ok (.goto (-27), 3) := by decide +kernel
theorem dX9_shortest_37 : decode cX9_shortest 37 = .ok (.iconst (-1), 1) := by decide +kernel
theorem dX9_shortest_38 : decode cX9_shortest 38 = .ok (.ireturn, 1) := by decide +kernel
theorem dX9_apart_0 : decode cX9_apart 0 = .ok (.aload_n 0, 1) := by decide +kernel
theorem dX9_apart_1 : decode cX9_apart 1 = .ok (.getfield 11, 3) := by decide +kernel
theorem dX9_apart_4 : decode cX9_apart 4 = .ok (.iload_n 1, 1) := by decide +kernel
theorem dX9_apart_5 : decode cX9_apart 5 = .ok (.iaload, 1) := by decide +kernel
theorem dX9_apart_6 : decode cX9_apart 6 = .ok (.iload_n 2, 1) := by decide +kernel
theorem dX9_apart_7 : decode cX9_apart 7 = .ok (.ishr, 1) := by decide +kernel
theorem dX9_apart_8 : decode cX9_apart 8 = .ok (.iconst 1, 1) := by decide +kernel
theorem dX9_apart_9 : decode cX9_apart 9 = .ok (.iand, 1) := by decide +kernel
theorem dX9_apart_10 : decode cX9_apart 10 = .ok (.istore_n 3, 1) := by decide +kernel
theorem dX9_apart_11 : decode cX9_apart 11 = .ok (.aload_n 0, 1) := by decide +kernel
theorem dX9_apart_12 : decode cX9_apart 12 = .ok (.getfield 11, 3) := by decide +kernel
theorem dX9_apart_15 : decode cX9_apart 15 = .ok (.iload_n 1, 1) := by decide +kernel
theorem dX9_apart_16 : decode cX9_apart 16 = .ok (.dup2, 1) := by decide +kernel
theorem dX9_apart_17 : decode cX9_apart 17 = .ok (.iaload, 1) := by decide +kernel
theorem dX9_apart_18 : decode cX9_apart 18 = .ok (.iconst 1, 1) := by decide +kernel
theorem dX9_apart_19 : decode cX9_apart 19 = .ok (.iload_n 2, 1) := by decide +kernel
theorem dX9_apart_20 : decode cX9_apart 20 = .ok (.ishl, 1) := by decide +kernel
theorem dX9_apart_21 : decode cX9_apart 21 = .ok (.iconst (-1), 1) := by decide +kernel
theorem dX9_apart_22 : decode cX9_apart 22 = .ok (.ixor, 1) := by decide +kernel
theorem dX9_apart_23 : decode cX9_apart 23 = .ok (.iand, 1) := by decide +kernel
theorem dX9_apart_24 : decode cX9_apart 24 = .ok (.iastore, 1) := by decide +kernel
theorem dX9_apart_25 : decode cX9_apart 25 = .ok (.bipush 10, 2) := by decide +kernel
theorem dX9_apart_27 : decode cX9_apart 27 = .ok (.istore 4, 2) := by decide +kernel
theorem dX9_apart_29 : decode cX9_apart 29 = .ok (.iconst 0, 1) := by decide +kernel
theorem dX9_apart_30 : decode cX9_apart 30 = .ok (.istore 5, 2) := by decide +kernel
theorem dX9_apart_32 : decode cX9_apart 32 = .ok (.iload 5, 2) := by decide +kernel
theorem dX9_apart_34 : decode cX9_apart 34 = .ok (.sipush 1024, 3) := by decide +kernel
theorem dX9_apart_37 : decode cX9_apart 37 = .ok (.if_icmp .ge 55, 3) := by decide +kernel
theorem dX9_apart_40 : decode cX9_apart 40 = .ok (.iload 5, 2) := by decide +kernel
theorem dX9_apart_42 : decode cX9_apart 42 = .ok (.iload_n 1, 1) := by decide +kernel
theorem dX9_apart_43 : decode cX9_apart 43 = .ok (.invokestatic 35, 3) := by decide +kernel
theorem dX9_apart_46 : decode cX9_apart 46 = .ok (.ifCond .ne 40, 3) := by decide +kernel
theorem dX9_apart_49 : decode cX9_apart 49 = .ok (.iload 5, 2) := by decide +kernel
end
