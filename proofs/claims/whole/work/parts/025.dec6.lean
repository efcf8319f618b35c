section
theorem dX12_plumes_7 : decode cX12_plumes 7 = .ok (.iconst 0, 1) := by decide +kernel
theorem dX12_plumes_8 : decode cX12_plumes 8 = .ok (.iconst 2, 1) := by decide +kernel
theorem dX12_plumes_9 : decode cX12_plumes 9 = .ok (.invokevirtual 167, 3) := by decide +kernel
theorem dX12_plumes_12 : decode cX12_plumes 12 = .ok (.ifCond .ne 5, 3) := by decide +kernel
theorem dX12_plumes_15 : decode cX12_plumes 15 = .ok (.iconst (-1), 1) := by decide +kernel
theorem dX12_plumes_16 : decode cX12_plumes 16 = .ok (.ireturn, 1) := by decide +kernel
theorem dX12_plumes_17 : decode cX12_plumes 17 = .ok (.aload_n 0, 1) := by decide +kernel
theorem dX12_plumes_18 : decode cX12_plumes 18 = .ok (.invokevirtual 468, 3) := by decide +kernel
theorem dX12_plumes_21 : decode cX12_plumes 21 = .ok (.iload_n 1, 1) := by decide +kernel
theorem dX12_plumes_22 : decode cX12_plumes 22 = .ok (.ifCond .ne 8, 3) := by decide +kernel
theorem dX12_plumes_25 : decode cX12_plumes 25 = .ok (.aload_n 0, 1) := by decide +kernel
theorem dX12_plumes_26 : decode cX12_plumes 26 = .ok (.getfield 459, 3) := by decide +kernel
theorem dX12_plumes_29 : decode cX12_plumes 29 = .ok (.ireturn, 1) := by decide +kernel
theorem dX12_plumes_30 : decode cX12_plumes 30 = .ok (.aload_n 0, 1) := by decide +kernel
theorem dX12_plumes_31 : decode cX12_plumes 31 = .ok (.getfield 459, 3) := by decide +kernel
theorem dX12_plumes_34 : decode cX12_plumes 34 = .ok (.ifCond .ne 7, 3) := by decide +kernel
theorem dX12_plumes_37 : decode cX12_plumes 37 = .ok (.iconst (-1), 1) := by decide +kernel
theorem dX12_plumes_38 : decode cX12_plumes 38 = .ok (.goto 21, 3) := by decide +kernel
theorem dX12_plumes_41 : decode cX12_plumes 41 = .ok (.iload_n 1, 1) := by decide +kernel
theorem dX12_plumes_42 : decode cX12_plumes 42 = .ok (.iconst 1, 1) := by decide +kernel
theorem dX12_plumes_43 : decode cX12_plumes 43 = .ok (.if_icmp .ne 12, 3) := by decide +kernel
theorem dX12_plumes_46 : decode cX12_plumes 46 = .ok (.aload_n 0, 1) := by decide +kernel
theorem dX12_plumes_47 : decode cX12_plumes 47 = .ok (.getfield 110, 3) := by decide +kernel
theorem dX12_plumes_50 : decode cX12_plumes 50 = .ok (.iconst 0, 1) := by decide +kernel
theorem dX12_plumes_51 : decode cX12_plumes 51 = .ok (.iaload, 1) := by decide +kernel
theorem dX12_plumes_52 : decode cX12_plumes 52 = .ok (.goto 7, 3) := by decide +kernel
theorem dX12_plumes_55 : decode cX12_plumes 55 = .ok (.aload_n 0, 1) := by decide +kernel
theorem dX12_plumes_56 : decode cX12_plumes 56 = .ok (.invokevirtual 471, 3) := by decide +kernel
theorem dX12_plumes_59 : decode cX12_plumes 59 = .ok (.ireturn, 1) := by decide +kernel
theorem dX12_bet_0 : decode cX12_bet 0 = .ok (.aload_n 0, 1) := by decide +kernel
theorem dX12_bet_1 : decode cX12_bet 1 = .ok (.iconst 0, 1) := by decide +kernel
theorem dX12_bet_2 : decode cX12_bet 2 = .ok (.putfield 149, 3) := by decide +kernel
theorem dX12_bet_5 : decode cX12_bet 5 = .ok (.iload_n 1, 1) := by decide +kernel
theorem dX12_bet_6 : decode cX12_bet 6 = .ok (.iconst (-1), 1) := by decide +kernel
theorem dX12_bet_7 : decode cX12_bet 7 = .ok (.if_icmp .ne 10, 3) := by decide +kernel
theorem dX12_bet_10 : decode cX12_bet 10 = .ok (.aload_n 0, 1) := by decide +kernel
theorem dX12_bet_11 : decode cX12_bet 11 = .ok (.iconst 0, 1) := by decide +kernel
theorem dX12_bet_12 : decode cX12_bet 12 = .ok (.putfield 474, 3) := by decide +kernel
theorem dX12_bet_15 : decode cX12_bet 15 = .ok (.iconst 0, 1) := by decide +kernel
theorem dX12_bet_16 : decode cX12_bet 16 = .ok (.ireturn, 1) := by decide +kernel
theorem dX12_bet_17 : decode cX12_bet 17 = .ok (.aload_n 0, 1) := by decide +kernel
theorem dX12_bet_18 : decode cX12_bet 18 = .ok (.iload_n 1, 1) := by decide +kernel
theorem dX12_bet_19 : decode cX12_bet 19 = .ok (.iconst 0, 1) := by decide +kernel
theorem dX12_bet_20 : decode cX12_bet 20 = .ok (.iconst 2, 1) := by decide +kernel
theorem dX12_bet_21 : decode cX12_bet 21 = .ok (.invokevirtual 167, 3) := by decide +kernel
theorem dX12_bet_24 : decode cX12_bet 24 = .ok (.ifCond .eq 25, 3) := by decide +kernel
theorem dX12_bet_27 : decode cX12_bet 27 = .ok (.aload_n 0, 1) := by decide +kernel
theorem dX12_bet_28 : decode cX12_bet 28 = .ok (.iload_n 2, 1) := by decide +kernel
theorem dX12_bet_29 : decode cX12_bet 29 = .ok (.bipush 101, 2) := by decide +kernel
theorem dX12_bet_31 : decode cX12_bet 31 = .ok (.sipush 9999, 3) := by decide +kernel
theorem dX12_bet_34 : decode cX12_bet 34 = .ok (.invokevirtual 167, 3) := by decide +kernel
theorem dX12_bet_37 : decode cX12_bet 37 = .ok (.ifCond .eq 12, 3) := by decide +kernel
theorem dX12_bet_40 : decode cX12_bet 40 = .ok (.aload_n 0, 1) := by decide +kernel
theorem dX12_bet_41 : decode cX12_bet 41 = .ok (.getfield 474, 3) := by decide +kernel
theorem dX12_bet_44 : decode cX12_bet 44 = .ok (.bipush 6, 2) := by decide +kernel
theorem dX12_bet_46 : decode cX12_bet 46 = .ok (.if_icmp .ne 5, 3) := by decide +kernel
theorem dX12_bet_49 : decode cX12_bet 49 = .ok (.iconst (-1), 1) := by decide +kernel
theorem dX12_bet_50 : decode cX12_bet 50 = .ok (.ireturn, 1) := by decide +kernel
theorem dX12_bet_51 : decode cX12_bet 51 = .ok (.aload_n 0, 1) := by decide +kernel
theorem dX12_bet_52 : decode cX12_bet 52 = .ok (.getfield 113, 3) := by decide +kernel
theorem dX12_bet_55 : decode cX12_bet 55 = .ok (.aload_n 0, 1) := by decide +kernel
theorem dX12_bet_56 : decode cX12_bet 56 = .ok (.getfield 474, 3) := by decide +kernel
theorem dX12_bet_59 : decode cX12_bet 59 = .ok (.iload_n 1, 1) := by decide +kernel
theorem dX12_bet_60 : decode cX12_bet 60 = .ok (.iastore, 1) := by decide +kernel
theorem dX12_bet_61 : decode cX12_bet 61 = .ok (.aload_n 0, 1) := by decide +kernel
theorem dX12_bet_62 : decode cX12_bet 62 = .ok (.getfield 116, 3) := by decide +kernel
theorem dX12_bet_65 : decode cX12_bet 65 = .ok (.aload_n 0, 1) := by decide +kernel
theorem dX12_bet_66 : decode cX12_bet 66 = .ok (.getfield 474, 3) := by decide +kernel
theorem dX12_bet_69 : decode cX12_bet 69 = .ok (.iload_n 2, 1) := by decide +kernel
theorem dX12_bet_70 : decode cX12_bet 70 = .ok (.iastore, 1) := by decide +kernel
theorem dX12_bet_71 : decode cX12_bet 71 = .ok (.aload_n 0, 1) := by decide +kernel
theorem dX12_bet_72 : decode cX12_bet 72 = .ok (.aload_n 0, 1) := by decide +kernel
theorem dX12_bet_73 : decode cX12_bet 73 = .ok (.getfield 474, 3) := by decide +kernel
theorem dX12_bet_76 : decode cX12_bet 76 = .ok (.iconst 1, 1) := by decide +kernel
theorem dX12_bet_77 : decode cX12_bet 77 = .ok (.iadd, 1) := by decide +kernel
theorem dX12_bet_78 : decode cX12_bet 78 = .ok (.putfield 474, 3) := by decide +kernel
theorem dX12_bet_81 : decode cX12_bet 81 = .ok (.aload_n 0, 1) := by decide +kernel
theorem dX12_bet_82 : decode cX12_bet 82 = .ok (.getfield 474, 3) := by decide +kernel
theorem dX12_bet_85 : decode cX12_bet 85 = .ok (.ireturn, 1) := by decide +kernel
theorem dX12_backFrom_0 : decode cX12_backFrom 0 = .ok (.iconst 0, 1) := by decide +kernel
theorem dX12_backFrom_1 : decode cX12_backFrom 1 = .ok (.istore_n 3, 1) := by decide +kernel
theorem dX12_backFrom_2 : decode cX12_backFrom 2 = .ok (.iconst 0, 1) := by decide +kernel
theorem dX12_backFrom_3 : decode cX12_backFrom 3 = .ok (.istore 4, 2) := by decide +kernel
theorem dX12_backFrom_5 : decode cX12_backFrom 5 = .ok (.iload 4, 2) := by decide +kernel
theorem dX12_backFrom_7 : decode cX12_backFrom 7 = .ok (.aload_n 0, 1) := by decide +kernel
theorem dX12_backFrom_8 : decode cX12_backFrom 8 = .ok (.getfield 474, 3) := by decide +kernel
theorem dX12_backFrom_11 : decode cX12_backFrom 11 = .ok (.if_icmp .ge 33, 3) := by decide +kernel
theorem dX12_backFrom_14 : decode cX12_backFrom 14 = .ok (.aload_n 0, 1) := by decide +kernel
theorem dX12_backFrom_15 : decode cX12_backFrom 15 = .ok (.getfield 113, 3) := by decide +kernel
theorem dX12_backFrom_18 : decode cX12_backFrom 18 = .ok (.iload 4, 2) := by decide +kernel
theorem dX12_backFrom_20 : decode cX12_backFrom 20 = .ok (.iaload, 1) := by decide +kernel
theorem dX12_backFrom_21 : decode cX12_backFrom 21 = .ok (.iload_n 1, 1) := by decide +kernel
theorem dX12_backFrom_22 : decode cX12_backFrom 22 = .ok (.if_icmp .ne 16, 3) := by decide +kernel
theorem dX12_backFrom_25 : decode cX12_backFrom 25 = .ok (.aload_n 0, 1) := by decide +kernel
theorem dX12_backFrom_26 : decode cX12_backFrom 26 = .ok (.iload_n 3, 1) := by decide +kernel
theorem dX12_backFrom_27 : decode cX12_backFrom 27 = .ok (.aload_n 0, 1) := by decide +kernel
theorem dX12_backFrom_28 : decode cX12_backFrom 28 = .ok (.getfield 116, 3) := by decide +kernel
theorem dX12_backFrom_31 : decode cX12_backFrom 31 = .ok (.iload 4, 2) := by decide +kernel
theorem dX12_backFrom_33 : decode cX12_backFrom 33 = .ok (.iaload, 1) := by decide +kernel
theorem dX12_backFrom_34 : decode cX12_backFrom 34 = .ok (.invokevirtual 434, 3) := by decide +kernel
theorem dX12_backFrom_37 : decode cX12_backFrom 37 = .ok (.istore_n 3, 1) := by decide +kernel
theorem dX12_backFrom_38 : decode cX12_backFrom 38 = .ok (.iinc 4 1, 3) := by decide +kernel
theorem dX12_backFrom_41 : decode cX12_backFrom 41 = .ok (.goto (-36), 3) := by decide +kernel
theorem dX12_backFrom_44 : decode cX12_backFrom 44 = .ok (.iload_n 2, 1) := by decide +kernel
theorem dX12_backFrom_45 : decode cX12_backFrom 45 = .ok (.iload_n 3, 1) := by decide +kernel
theorem dX12_backFrom_46 : decode cX12_backFrom 46 = .ok (.imul, 1) := by decide +kernel
theorem dX12_backFrom_47 : decode cX12_backFrom 47 = .ok (.bipush 100, 2) := by decide +kernel
theorem dX12_backFrom_49 : decode cX12_backFrom 49 = .ok (.idiv, 1) := by decide +kernel
theorem dX12_backFrom_50 : decode cX12_backFrom 50 = .ok (.ireturn, 1) := by decide +kernel
theorem dX12_leastBack_0 : decode cX12_leastBack 0 = .ok (.aload_n 0, 1) := by decide +kernel
theorem dX12_leastBack_1 : decode cX12_leastBack 1 = .ok (.aload_n 0, 1) := by decide +kernel
theorem dX12_leastBack_2 : decode cX12_leastBack 2 = .ok (.iconst 0, 1) := by decide +kernel
theorem dX12_leastBack_3 : decode cX12_leastBack 3 = .ok (.iload_n 1, 1) := by decide +kernel
theorem dX12_leastBack_4 : decode cX12_leastBack 4 = .ok (.invokevirtual 477, 3) := by decide +kernel
theorem dX12_leastBack_7 : decode cX12_leastBack 7 = .ok (.aload_n 0, 1) := by decide +kernel
theorem dX12_leastBack_8 : decode cX12_leastBack 8 = .ok (.aload_n 0, 1) := by decide +kernel
theorem dX12_leastBack_9 : decode cX12_leastBack 9 = .ok (.iconst 1, 1) := by decide +kernel
theorem dX12_leastBack_10 : decode cX12_leastBack 10 = .ok (.iload_n 2, 1) := by decide +kernel
theorem dX12_leastBack_11 : decode cX12_leastBack 11 = .ok (.invokevirtual 477, 3) := by decide +kernel
theorem dX12_leastBack_14 : decode cX12_leastBack 14 = .ok (.aload_n 0, 1) := by decide +kernel
theorem dX12_leastBack_15 : decode cX12_leastBack 15 = .ok (.iconst 2, 1) := by decide +kernel
theorem dX12_leastBack_16 : decode cX12_leastBack 16 = .ok (.iload_n 3, 1) := by decide +kernel
theorem dX12_leastBack_17 : decode cX12_leastBack 17 = .ok (.invokevirtual 477, 3) := by decide +kernel
theorem dX12_leastBack_20 : decode cX12_leastBack 20 = .ok (.invokevirtual 428, 3) := by decide +kernel
theorem dX12_leastBack_23 : decode cX12_leastBack 23 = .ok (.invokevirtual 428, 3) := by decide +kernel
theorem dX12_leastBack_26 : decode cX12_leastBack 26 = .ok (.ireturn, 1) := by decide +kernel
theorem dX12_safe_0 : decode cX12_safe 0 = .ok (.aload_n 0, 1) := by decide +kernel
theorem dX12_safe_1 : decode cX12_safe 1 = .ok (.iconst 0, 1) := by decide +kernel
theorem dX12_safe_2 : decode cX12_safe 2 = .ok (.putfield 149, 3) := by decide +kernel
theorem dX12_safe_5 : decode cX12_safe 5 = .ok (.aload_n 0, 1) := by decide +kernel
theorem dX12_safe_6 : decode cX12_safe 6 = .ok (.iload_n 1, 1) := by decide +kernel
theorem dX12_safe_7 : decode cX12_safe 7 = .ok (.iconst 3, 1) := by decide +kernel
theorem dX12_safe_8 : decode cX12_safe 8 = .ok (.sipush 300, 3) := by decide +kernel
theorem dX12_safe_11 : decode cX12_safe 11 = .ok (.invokevirtual 167, 3) := by decide +kernel
theorem dX12_safe_14 : decode cX12_safe 14 = .ok (.ifCond .eq 19, 3) := by decide +kernel
theorem dX12_safe_17 : decode cX12_safe 17 = .ok (.iload_n 2, 1) := by decide +kernel
theorem dX12_safe_18 : decode cX12_safe 18 = .ok (.ifCond .eq 17, 3) := by decide +kernel
theorem dX12_safe_21 : decode cX12_safe 21 = .ok (.aload_n 0, 1) := by decide +kernel
theorem dX12_safe_22 : decode cX12_safe 22 = .ok (.iload_n 2, 1) := by decide +kernel
theorem dX12_safe_23 : decode cX12_safe 23 = .ok (.bipush 10, 2) := by decide +kernel
theorem dX12_safe_25 : decode cX12_safe 25 = .ok (.bipush 12, 2) := by decide +kernel
theorem dX12_safe_27 : decode cX12_safe 27 = .ok (.invokevirtual 167, 3) := by decide +kernel
theorem dX12_safe_30 : decode cX12_safe 30 = .ok (.ifCond .ne 5, 3) := by decide +kernel
theorem dX12_safe_33 : decode cX12_safe 33 = .ok (.iconst (-1), 1) := by decide +kernel
theorem dX12_safe_34 : decode cX12_safe 34 = .ok (.ireturn, 1) := by decide +kernel
theorem dX12_safe_35 : decode cX12_safe 35 = .ok (.iconst 0, 1) := by decide +kernel
theorem dX12_safe_36 : decode cX12_safe 36 = .ok (.istore_n 3, 1) := by decide +kernel
theorem dX12_safe_37 : decode cX12_safe 37 = .ok (.iconst 0, 1) := by decide +kernel
theorem dX12_safe_38 : decode cX12_safe 38 = .ok (.istore 4, 2) := by decide +kernel
theorem dX12_safe_40 : decode cX12_safe 40 = .ok (.iconst (-1), 1) := by decide +kernel
theorem dX12_safe_41 : decode cX12_safe 41 = .ok (.istore 5, 2) := by decide +kernel
theorem dX12_safe_43 : decode cX12_safe 43 = .ok (.iconst 0, 1) := by decide +kernel
theorem dX12_safe_44 : decode cX12_safe 44 = .ok (.istore 6, 2) := by decide +kernel
theorem dX12_safe_46 : decode cX12_safe 46 = .ok (.iload 6, 2) := by decide +kernel
theorem dX12_safe_48 : decode cX12_safe 48 = .ok (.iload_n 1, 1) := by decide +kernel
theorem dX12_safe_49 : decode cX12_safe 49 = .ok (.if_icmp .gt 65, 3) := by decide +kernel
theorem dX12_safe_52 : decode cX12_safe 52 = .ok (.iconst 0, 1) := by decide +kernel
theorem dX12_safe_53 : decode cX12_safe 53 = .ok (.istore 7, 2) := by decide +kernel
theorem dX12_safe_55 : decode cX12_safe 55 = .ok (.iload 6, 2) := by decide +kernel
theorem dX12_safe_57 : decode cX12_safe 57 = .ok (.iload 7, 2) := by decide +kernel
theorem dX12_safe_59 : decode cX12_safe 59 = .ok (.iadd, 1) := by decide +kernel
theorem dX12_safe_60 : decode cX12_safe 60 = .ok (.iload_n 1, 1) := by decide +kernel
theorem dX12_safe_61 : decode cX12_safe 61 = .ok (.if_icmp .gt 47, 3) := by decide +kernel
theorem dX12_safe_64 : decode cX12_safe 64 = .ok (.aload_n 0, 1) := by decide +kernel
theorem dX12_safe_65 : decode cX12_safe 65 = .ok (.iload 6, 2) := by decide +kernel
theorem dX12_safe_67 : decode cX12_safe 67 = .ok (.iload 7, 2) := by decide +kernel
theorem dX12_safe_69 : decode cX12_safe 69 = .ok (.iload_n 1, 1) := by decide +kernel
theorem dX12_safe_70 : decode cX12_safe 70 = .ok (.iload 6, 2) := by decide +kernel
theorem dX12_safe_72 : decode cX12_safe 72 = .ok (.isub, 1) := by decide +kernel
theorem dX12_safe_73 : decode cX12_safe 73 = .ok (.iload 7, 2) := by decide +kernel
theorem dX12_safe_75 : decode cX12_safe 75 = .ok (.isub, 1) := by decide +kernel
theorem dX12_safe_76 : decode cX12_safe 76 = .ok (.invokevirtual 480, 3) := by decide +kernel
theorem dX12_safe_79 : decode cX12_safe 79 = .ok (.istore 8, 2) := by decide +kernel
theorem dX12_safe_81 : decode cX12_safe 81 = .ok (.iload 8, 2) := by decide +kernel
theorem dX12_safe_83 : decode cX12_safe 83 = .ok (.iload 5, 2) := by decide +kernel
theorem dX12_safe_85 : decode cX12_safe 85 = .ok (.if_icmp .gt 6, 3) := by decide +kernel
theorem dX12_safe_88 : decode cX12_safe 88 = .ok (.goto 14, 3) := by decide +kernel
theorem dX12_safe_91 : decode cX12_safe 91 = .ok (.iload 8, 2) := by decide +kernel
theorem dX12_safe_93 : decode cX12_safe 93 = .ok (.istore 5, 2) := by decide +kernel
theorem dX12_safe_95 : decode cX12_safe 95 = .ok (.iload 6, 2) := by decide +kernel
theorem dX12_safe_97 : decode cX12_safe 97 = .ok (.istore_n 3, 1) := by decide +kernel
theorem dX12_safe_98 : decode cX12_safe 98 = .ok (.iload 7, 2) := by decide +kernel
theorem dX12_safe_100 : decode cX12_safe 100 = .ok (.istore 4, 2) := by decide +kernel
theorem dX12_safe_102 : decode cX12_safe 102 = .ok (.iinc 7 1, 3) := by decide +kernel
theorem dX12_safe_105 : decode cX12_safe 105 = .ok (.goto (-50), 3) := by decide +kernel
theorem dX12_safe_108 : decode cX12_safe 108 = .ok (.iinc 6 1, 3) := by decide +kernel
theorem dX12_safe_111 : decode cX12_safe 111 = .ok (.goto (-65), 3) := by decide +kernel
theorem dX12_safe_114 : decode cX12_safe 114 = .ok (.iload_n 2, 1) := by decide +kernel
theorem dX12_safe_115 : decode cX12_safe 115 = .ok (.ifCond .ne 6, 3) := by decide +kernel
theorem dX12_safe_118 : decode cX12_safe 118 = .ok (.iload 5, 2) := by decide +kernel
theorem dX12_safe_120 : decode cX12_safe 120 = .ok (.ireturn, 1) := by decide +kernel
theorem dX12_safe_121 : decode cX12_safe 121 = .ok (.iload_n 2, 1) := by decide +kernel
theorem dX12_safe_122 : decode cX12_safe 122 = .ok (.bipush 10, 2) := by decide +kernel
theorem dX12_safe_124 : decode cX12_safe 124 = .ok (.if_icmp .ne 7, 3) := by decide +kernel
theorem dX12_safe_127 : decode cX12_safe 127 = .ok (.iload_n 3, 1) := by decide +kernel
theorem dX12_safe_128 : decode cX12_safe 128 = .ok (.goto 20, 3) := by decide +kernel
theorem dX12_safe_131 : decode cX12_safe 131 = .ok (.iload_n 2, 1) := by decide +kernel
theorem dX12_safe_132 : decode cX12_safe 132 = .ok (.bipush 11, 2) := by decide +kernel
theorem dX12_safe_134 : decode cX12_safe 134 = .ok (.if_icmp .ne 8, 3) := by decide +kernel
theorem dX12_safe_137 : decode cX12_safe 137 = .ok (.iload 4, 2) := by decide +kernel
theorem dX12_safe_139 : decode cX12_safe 139 = .ok (.goto 9, 3) := by decide +kernel
theorem dX12_safe_142 : decode cX12_safe 142 = .ok (.iload_n 1, 1) := by decide +kernel
theorem dX12_safe_143 : decode cX12_safe 143 = .ok (.iload_n 3, 1) := by decide +kernel
theorem dX12_safe_144 : decode cX12_safe 144 = .ok (.isub, 1) := by decide +kernel
theorem dX12_safe_145 : decode cX12_safe 145 = .ok (.iload 4, 2) := by decide +kernel
theorem dX12_safe_147 : decode cX12_safe 147 = .ok (.isub, 1) := by decide +kernel
theorem dX12_safe_148 : decode cX12_safe 148 = .ok (.ireturn, 1) := by decide +kernel
theorem dX12_street_0 : decode cX12_street 0 = .ok (.aload_n 0, 1) := by decide +kernel
theorem dX12_street_1 : decode cX12_street 1 = .ok (.iconst 0, 1) := by decide +kernel
theorem dX12_street_2 : decode cX12_street 2 = .ok (.putfield 149, 3) := by decide +kernel
theorem dX12_street_5 : decode cX12_street 5 = .ok (.iload_n 1, 1) := by decide +kernel
theorem dX12_street_6 : decode cX12_street 6 = .ok (.iconst (-1), 1) := by decide +kernel
theorem dX12_street_7 : decode cX12_street 7 = .ok (.if_icmp .ne 31, 3) := by decide +kernel
theorem dX12_street_10 : decode cX12_street 10 = .ok (.aload_n 0, 1) := by decide +kernel
theorem dX12_street_11 : decode cX12_street 11 = .ok (.iconst 0, 1) := by decide +kernel
theorem dX12_street_12 : decode cX12_street 12 = .ok (.putfield 483, 3) := by decide +kernel
theorem dX12_street_15 : decode cX12_street 15 = .ok (.iconst 0, 1) := by decide +kernel
theorem dX12_street_16 : decode cX12_street 16 = .ok (.istore_n 3, 1) := by decide +kernel
theorem dX12_street_17 : decode cX12_street 17 = .ok (.iload_n 3, 1) := by decide +kernel
theorem dX12_street_18 : decode cX12_street 18 = .ok (.bipush 10, 2) := by decide +kernel
theorem dX12_street_20 : decode cX12_street 20 = .ok (.if_icmp .ge 16, 3) := by decide +kernel
theorem dX12_street_23 : decode cX12_street 23 = .ok (.aload_n 0, 1) := by decide +kernel
theorem dX12_street_24 : decode cX12_street 24 = .ok (.getfield 119, 3) := by decide +kernel
theorem dX12_street_27 : decode cX12_street 27 = .ok (.iload_n 3, 1) := by decide +kernel
theorem dX12_street_28 : decode cX12_street 28 = .ok (.iconst 0, 1) := by decide +kernel
theorem dX12_street_29 : decode cX12_street 29 = .ok (.iastore, 1) := by decide +kernel
theorem dX12_street_30 : decode cX12_street 30 = .ok (.iinc 3 1, 3) := by decide +kernel
theorem dX12_street_33 : decode cX12_street 33 = .ok (.goto (-16), 3) := by decide +kernel
theorem dX12_street_36 : decode cX12_street 36 = .ok (.iconst 0, 1) := by decide +kernel
theorem dX12_street_37 : decode cX12_street 37 = .ok (.ireturn, 1) := by decide +kernel
theorem dX12_street_38 : decode cX12_street 38 = .ok (.aload_n 0, 1) := by decide +kernel
theorem dX12_street_39 : decode cX12_street 39 = .ok (.iload_n 1, 1) := by decide +kernel
theorem dX12_street_40 : decode cX12_street 40 = .ok (.iconst 0, 1) := by decide +kernel
theorem dX12_street_41 : decode cX12_street 41 = .ok (.bipush 9, 2) := by decide +kernel
theorem dX12_street_43 : decode cX12_street 43 = .ok (.invokevirtual 167, 3) := by decide +kernel
theorem dX12_street_46 : decode cX12_street 46 = .ok (.ifCond .eq 28, 3) := by decide +kernel
theorem dX12_street_49 : decode cX12_street 49 = .ok (.aload_n 0, 1) := by decide +kernel
theorem dX12_street_50 : decode cX12_street 50 = .ok (.iload_n 2, 1) := by decide +kernel
theorem dX12_street_51 : decode cX12_street 51 = .ok (.iconst 0, 1) := by decide +kernel
theorem dX12_street_52 : decode cX12_street 52 = .ok (.bipush 9, 2) := by decide +kernel
theorem dX12_street_54 : decode cX12_street 54 = .ok (.invokevirtual 167, 3) := by decide +kernel
theorem dX12_street_57 : decode cX12_street 57 = .ok (.ifCond .eq 17, 3) := by decide +kernel
theorem dX12_street_60 : decode cX12_street 60 = .ok (.iload_n 1, 1) := by decide +kernel
theorem dX12_street_61 : decode cX12_street 61 = .ok (.iload_n 2, 1) := by decide +kernel
theorem dX12_street_62 : decode cX12_street 62 = .ok (.if_icmp .eq 12, 3) := by decide +kernel
theorem dX12_street_65 : decode cX12_street 65 = .ok (.aload_n 0, 1) := by decide +kernel
theorem dX12_street_66 : decode cX12_street 66 = .ok (.getfield 483, 3) := by decide +kernel
theorem dX12_street_69 : decode cX12_street 69 = .ok (.bipush 16, 2) := by decide +kernel
theorem dX12_street_71 : decode cX12_street 71 = .ok (.if_icmp .ne 5, 3) := by decide +kernel
theorem dX12_street_74 : decode cX12_street 74 = .ok (.iconst (-1), 1) := by decide +kernel
theorem dX12_street_75 : decode cX12_street 75 = .ok (.ireturn, 1) := by decide +kernel
theorem dX12_street_76 : decode cX12_street 76 = .ok (.aload_n 0, 1) := by decide +kernel
theorem dX12_street_77 : decode cX12_street 77 = .ok (.getfield 119, 3) := by decide +kernel
theorem dX12_street_80 : decode cX12_street 80 = .ok (.iload_n 1, 1) := by decide +kernel
theorem dX12_street_81 : decode cX12_street 81 = .ok (.aload_n 0, 1) := by decide +kernel
theorem dX12_street_82 : decode cX12_street 82 = .ok (.getfield 119, 3) := by decide +kernel
theorem dX12_street_85 : decode cX12_street 85 = .ok (.iload_n 1, 1) := by decide +kernel
theorem dX12_street_86 : decode cX12_street 86 = .ok (.iaload, 1) := by decide +kernel
theorem dX12_street_87 : decode cX12_street 87 = .ok (.iconst 1, 1) := by decide +kernel
theorem dX12_street_88 : decode cX12_street 88 = .ok (.iload_n 2, 1) := by decide +kernel
theorem dX12_street_89 : decode cX12_street 89 = .ok (.ishl, 1) := by decide +kernel
theorem dX12_street_90 : decode cX12_street 90 = .ok (.ior, 1) := by decide +kernel
theorem dX12_street_91 : decode cX12_street 91 = .ok (.iastore, 1) := by decide +kernel
theorem dX12_street_92 : decode cX12_street 92 = .ok (.aload_n 0, 1) := by decide +kernel
theorem dX12_street_93 : decode cX12_street 93 = .ok (.aload_n 0, 1) := by decide +kernel
theorem dX12_street_94 : decode cX12_street 94 = .ok (.getfield 483, 3) := by decide +kernel
theorem dX12_street_97 : decode cX12_street 97 = .ok (.iconst 1, 1) := by decide +kernel
theorem dX12_street_98 : decode cX12_street 98 = .ok (.iadd, 1) := by decide +kernel
theorem dX12_street_99 : decode cX12_street 99 = .ok (.putfield 483, 3) := by decide +kernel
theorem dX12_street_102 : decode cX12_street 102 = .ok (.aload_n 0, 1) := by decide +kernel
theorem dX12_street_103 : decode cX12_street 103 = .ok (.getfield 483, 3) := by decide +kernel
theorem dX12_street_106 : decode cX12_street 106 = .ok (.ireturn, 1) := by decide +kernel
theorem dX12_isEdge_0 : decode cX12_isEdge 0 = .ok (.iload_n 1, 1) := by decide +kernel
theorem dX12_isEdge_1 : decode cX12_isEdge 1 = .ok (.iconst 2, 1) := by decide +kernel
theorem dX12_isEdge_2 : decode cX12_isEdge 2 = .ok (.irem, 1) := by decide +kernel
theorem dX12_isEdge_3 : decode cX12_isEdge 3 = .ok (.ifCond .ne 16, 3) := by decide +kernel
theorem dX12_isEdge_6 : decode cX12_isEdge 6 = .ok (.iload_n 2, 1) := by decide +kernel
theorem dX12_isEdge_7 : decode cX12_isEdge 7 = .ok (.iload_n 1, 1) := by decide +kernel
theorem dX12_isEdge_8 : decode cX12_isEdge 8 = .ok (.iconst 1, 1) := by decide +kernel
theorem dX12_isEdge_9 : decode cX12_isEdge 9 = .ok (.iadd, 1) := by decide +kernel
theorem dX12_isEdge_10 : decode cX12_isEdge 10 = .ok (.if_icmp .ne 7, 3) := by decide +kernel
theorem dX12_isEdge_13 : decode cX12_isEdge 13 = .ok (.iconst 1, 1) := by decide +kernel
theorem dX12_isEdge_14 : decode cX12_isEdge 14 = .ok (.goto 4, 3) := by decide +kernel
theorem dX12_isEdge_17 : decode cX12_isEdge 17 = .ok (.iconst 0, 1) := by decide +kernel
theorem dX12_isEdge_18 : decode cX12_isEdge 18 = .ok (.ireturn, 1) := by decide +kernel
theorem dX12_isEdge_19 : decode cX12_isEdge 19 = .ok (.iload_n 2, 1) := by decide +kernel
theorem dX12_isEdge_20 : decode cX12_isEdge 20 = .ok (.iconst 2, 1) := by decide +kernel
theorem dX12_isEdge_21 : decode cX12_isEdge 21 = .ok (.irem, 1) := by decide +kernel
theorem dX12_isEdge_22 : decode cX12_isEdge 22 = .ok (.ifCond .ne 25, 3) := by decide +kernel
theorem dX12_isEdge_25 : decode cX12_isEdge 25 = .ok (.aload_n 0, 1) := by decide +kernel
theorem dX12_isEdge_26 : decode cX12_isEdge 26 = .ok (.aload_n 0, 1) := by decide +kernel
theorem dX12_isEdge_27 : decode cX12_isEdge 27 = .ok (.getfield 119, 3) := by decide +kernel
theorem dX12_isEdge_30 : decode cX12_isEdge 30 = .ok (.iload_n 1, 1) := by decide +kernel
theorem dX12_isEdge_31 : decode cX12_isEdge 31 = .ok (.iconst 2, 1) := by decide +kernel
theorem dX12_isEdge_32 : decode cX12_isEdge 32 = .ok (.idiv, 1) := by decide +kernel
theorem dX12_isEdge_33 : decode cX12_isEdge 33 = .ok (.iaload, 1) := by decide +kernel
theorem dX12_isEdge_34 : decode cX12_isEdge 34 = .ok (.iload_n 2, 1) := by decide +kernel
theorem dX12_isEdge_35 : decode cX12_isEdge 35 = .ok (.iconst 2, 1) := by decide +kernel
theorem dX12_isEdge_36 : decode cX12_isEdge 36 = .ok (.idiv, 1) := by decide +kernel
theorem dX12_isEdge_37 : decode cX12_isEdge 37 = .ok (.invokevirtual 371, 3) := by decide +kernel
theorem dX12_isEdge_40 : decode cX12_isEdge 40 = .ok (.ifCond .eq 7, 3) := by decide +kernel
theorem dX12_isEdge_43 : decode cX12_isEdge 43 = .ok (.iconst 1, 1) := by decide +kernel
theorem dX12_isEdge_44 : decode cX12_isEdge 44 = .ok (.goto 4, 3) := by decide +kernel
theorem dX12_isEdge_47 : decode cX12_isEdge 47 = .ok (.iconst 0, 1) := by decide +kernel
theorem dX12_isEdge_48 : decode cX12_isEdge 48 = .ok (.ireturn, 1) := by decide +kernel
theorem dX12_isLeft_0 : decode cX12_isLeft 0 = .ok (.aload_n 0, 1) := by decide +kernel
theorem dX12_isLeft_1 : decode cX12_isLeft 1 = .ok (.getfield 122, 3) := by decide +kernel
theorem dX12_isLeft_4 : decode cX12_isLeft 4 = .ok (.bipush 20, 2) := by decide +kernel
theorem dX12_isLeft_6 : decode cX12_isLeft 6 = .ok (.iload_n 2, 1) := by decide +kernel
theorem dX12_isLeft_7 : decode cX12_isLeft 7 = .ok (.imul, 1) := by decide +kernel
theorem dX12_isLeft_8 : decode cX12_isLeft 8 = .ok (.iload_n 1, 1) := by decide +kernel
theorem dX12_isLeft_9 : decode cX12_isLeft 9 = .ok (.iadd, 1) := by decide +kernel
theorem dX12_isLeft_10 : decode cX12_isLeft 10 = .ok (.iaload, 1) := by decide +kernel
theorem dX12_isLeft_11 : decode cX12_isLeft 11 = .ok (.iconst 1, 1) := by decide +kernel
theorem dX12_isLeft_12 : decode cX12_isLeft 12 = .ok (.if_icmp .eq 26, 3) := by decide +kernel
theorem dX12_isLeft_15 : decode cX12_isLeft 15 = .ok (.aload_n 0, 1) := by decide +kernel
theorem dX12_isLeft_16 : decode cX12_isLeft 16 = .ok (.iload_n 1, 1) := by decide +kernel
theorem dX12_isLeft_17 : decode cX12_isLeft 17 = .ok (.iload_n 2, 1) := by decide +kernel
theorem dX12_isLeft_18 : decode cX12_isLeft 18 = .ok (.invokevirtual 486, 3) := by decide +kernel
theorem dX12_isLeft_21 : decode cX12_isLeft 21 = .ok (.ifCond .eq 21, 3) := by decide +kernel
theorem dX12_isLeft_24 : decode cX12_isLeft 24 = .ok (.aload_n 0, 1) := by decide +kernel
theorem dX12_isLeft_25 : decode cX12_isLeft 25 = .ok (.getfield 122, 3) := by decide +kernel
theorem dX12_isLeft_28 : decode cX12_isLeft 28 = .ok (.bipush 20, 2) := by decide +kernel
theorem dX12_isLeft_30 : decode cX12_isLeft 30 = .ok (.iload_n 1, 1) := by decide +kernel
theorem dX12_isLeft_31 : decode cX12_isLeft 31 = .ok (.imul, 1) := by decide +kernel
theorem dX12_isLeft_32 : decode cX12_isLeft 32 = .ok (.iload_n 2, 1) := by decide +kernel
theorem dX12_isLeft_33 : decode cX12_isLeft 33 = .ok (.iadd, 1) := by decide +kernel
theorem dX12_isLeft_34 : decode cX12_isLeft 34 = .ok (.iaload, 1) := by decide +kernel
theorem dX12_isLeft_35 : decode cX12_isLeft 35 = .ok (.ifCond .ne 7, 3) := by decide +kernel
theorem dX12_isLeft_38 : decode cX12_isLeft 38 = .ok (.iconst 1, 1) := by decide +kernel
theorem dX12_isLeft_39 : decode cX12_isLeft 39 = .ok (.goto 4, 3) := by decide +kernel
theorem dX12_isLeft_42 : decode cX12_isLeft 42 = .ok (.iconst 0, 1) := by decide +kernel
theorem dX12_isLeft_43 : decode cX12_isLeft 43 = .ok (.ireturn, 1) := by decide +kernel
theorem dX12_goesOneMore_0 : decode cX12_goesOneMore 0 = .ok (.iconst 0, 1) := by decide +kernel
theorem dX12_goesOneMore_1 : decode cX12_goesOneMore 1 = .ok (.istore_n 3, 1) := by decide +kernel
theorem dX12_goesOneMore_2 : decode cX12_goesOneMore 2 = .ok (.iload_n 3, 1) := by decide +kernel
theorem dX12_goesOneMore_3 : decode cX12_goesOneMore 3 = .ok (.bipush 20, 2) := by decide +kernel
theorem dX12_goesOneMore_5 : decode cX12_goesOneMore 5 = .ok (.if_icmp .ge 16, 3) := by decide +kernel
theorem dX12_goesOneMore_8 : decode cX12_goesOneMore 8 = .ok (.aload_n 0, 1) := by decide +kernel
theorem dX12_goesOneMore_9 : decode cX12_goesOneMore 9 = .ok (.getfield 125, 3) := by decide +kernel
theorem dX12_goesOneMore_12 : decode cX12_goesOneMore 12 = .ok (.iload_n 3, 1) := by decide +kernel
theorem dX12_goesOneMore_13 : decode cX12_goesOneMore 13 = .ok (.iconst (-1), 1) := by decide +kernel
theorem dX12_goesOneMore_14 : decode cX12_goesOneMore 14 = .ok (.iastore, 1) := by decide +kernel
theorem dX12_goesOneMore_15 : decode cX12_goesOneMore 15 = .ok (.iinc 3 1, 3) := by decide +kernel
theorem dX12_goesOneMore_18 : decode cX12_goesOneMore 18 = .ok (.goto (-16), 3) := by decide +kernel
theorem dX12_goesOneMore_21 : decode cX12_goesOneMore 21 = .ok (.aload_n 0, 1) := by decide +kernel
theorem dX12_goesOneMore_22 : decode cX12_goesOneMore 22 = .ok (.getfield 125, 3) := by decide +kernel
theorem dX12_goesOneMore_25 : decode cX12_goesOneMore 25 = .ok (.iload_n 1, 1) := by decide +kernel
theorem dX12_goesOneMore_26 : decode cX12_goesOneMore 26 = .ok (.iload_n 1, 1) := by decide +kernel
theorem dX12_goesOneMore_27 : decode cX12_goesOneMore 27 = .ok (.iastore, 1) := by decide +kernel
theorem dX12_goesOneMore_28 : decode cX12_goesOneMore 28 = .ok (.iconst 1, 1) := by decide +kernel
theorem dX12_goesOneMore_29 : decode cX12_goesOneMore 29 = .ok (.istore_n 3, 1) := by decide +kernel
theorem dX12_goesOneMore_30 : decode cX12_goesOneMore 30 = .ok (.iload_n 3, 1) := by decide +kernel
theorem dX12_goesOneMore_31 : decode cX12_goesOneMore 31 = .ok (.ifCond .eq 100, 3) := by decide +kernel
theorem dX12_goesOneMore_34 : decode cX12_goesOneMore 34 = .ok (.aload_n 0, 1) := by decide +kernel
theorem dX12_goesOneMore_35 : decode cX12_goesOneMore 35 = .ok (.getfield 125, 3) := by decide +kernel
theorem dX12_goesOneMore_38 : decode cX12_goesOneMore 38 = .ok (.iload_n 2, 1) := by decide +kernel
theorem dX12_goesOneMore_39 : decode cX12_goesOneMore 39 = .ok (.iaload, 1) := by decide +kernel
theorem dX12_goesOneMore_40 : decode cX12_goesOneMore 40 = .ok (.iconst (-1), 1) := by decide +kernel
theorem dX12_goesOneMore_41 : decode cX12_goesOneMore 41 = .ok (.if_icmp .ne 90, 3) := by decide +kernel
theorem dX12_goesOneMore_44 : decode cX12_goesOneMore 44 = .ok (.iconst 0, 1) := by decide +kernel
theorem dX12_goesOneMore_45 : decode cX12_goesOneMore 45 = .ok (.istore_n 3, 1) := by decide +kernel
theorem dX12_goesOneMore_46 : decode cX12_goesOneMore 46 = .ok (.iconst 0, 1) := by decide +kernel
theorem dX12_goesOneMore_47 : decode cX12_goesOneMore 47 = .ok (.istore 4, 2) := by decide +kernel
theorem dX12_goesOneMore_49 : decode cX12_goesOneMore 49 = .ok (.iload 4, 2) := by decide +kernel
theorem dX12_goesOneMore_51 : decode cX12_goesOneMore 51 = .ok (.bipush 20, 2) := by decide +kernel
theorem dX12_goesOneMore_53 : decode cX12_goesOneMore 53 = .ok (.if_icmp .ge 75, 3) := by decide +kernel
theorem dX12_goesOneMore_56 : decode cX12_goesOneMore 56 = .ok (.aload_n 0, 1) := by decide +kernel
theorem dX12_goesOneMore_57 : decode cX12_goesOneMore 57 = .ok (.getfield 125, 3) := by decide +kernel
theorem dX12_goesOneMore_60 : decode cX12_goesOneMore 60 = .ok (.iload 4, 2) := by decide +kernel
theorem dX12_goesOneMore_62 : decode cX12_goesOneMore 62 = .ok (.iaload, 1) := by decide +kernel
theorem dX12_goesOneMore_63 : decode cX12_goesOneMore 63 = .ok (.iconst (-1), 1) := by decide +kernel
theorem dX12_goesOneMore_64 : decode cX12_goesOneMore 64 = .ok (.if_icmp .ne 6, 3) := by decide +kernel
theorem dX12_goesOneMore_67 : decode cX12_goesOneMore 67 = .ok (.goto 55, 3) := by decide +kernel
theorem dX12_goesOneMore_70 : decode cX12_goesOneMore 70 = .ok (.iconst 0, 1) := by decide +kernel
theorem dX12_goesOneMore_71 : decode cX12_goesOneMore 71 = .ok (.istore 5, 2) := by decide +kernel
theorem dX12_goesOneMore_73 : decode cX12_goesOneMore 73 = .ok (.iload 5, 2) := by decide +kernel
theorem dX12_goesOneMore_75 : decode cX12_goesOneMore 75 = .ok (.bipush 20, 2) := by decide +kernel
theorem dX12_goesOneMore_77 : decode cX12_goesOneMore 77 = .ok (.if_icmp .ge 45, 3) := by decide +kernel
theorem dX12_goesOneMore_80 : decode cX12_goesOneMore 80 = .ok (.aload_n 0, 1) := by decide +kernel
theorem dX12_goesOneMore_81 : decode cX12_goesOneMore 81 = .ok (.getfield 125, 3) := by decide +kernel
theorem dX12_goesOneMore_84 : decode cX12_goesOneMore 84 = .ok (.iload 5, 2) := by decide +kernel
theorem dX12_goesOneMore_86 : decode cX12_goesOneMore 86 = .ok (.iaload, 1) := by decide +kernel
theorem dX12_goesOneMore_87 : decode cX12_goesOneMore 87 = .ok (.iconst (-1), 1) := by decide +kernel
theorem dX12_goesOneMore_88 : decode cX12_goesOneMore 88 = .ok (.if_icmp .ne 28, 3) := by decide +kernel
theorem dX12_goesOneMore_91 : decode cX12_goesOneMore 91 = .ok (.aload_n 0, 1) := by decide +kernel
theorem dX12_goesOneMore_92 : decode cX12_goesOneMore 92 = .ok (.iload 4, 2) := by decide +kernel
theorem dX12_goesOneMore_94 : decode cX12_goesOneMore 94 = .ok (.iload 5, 2) := by decide +kernel
theorem dX12_goesOneMore_96 : decode cX12_goesOneMore 96 = .ok (.invokevirtual 489, 3) := by decide +kernel
theorem dX12_goesOneMore_99 : decode cX12_goesOneMore 99 = .ok (.ifCond .ne 6, 3) := by decide +kernel
theorem dX12_goesOneMore_102 : decode cX12_goesOneMore 102 = .ok (.goto 14, 3) := by decide +kernel
theorem dX12_goesOneMore_105 : decode cX12_goesOneMore 105 = .ok (.aload_n 0, 1) := by decide +kernel
theorem dX12_goesOneMore_106 : decode cX12_goesOneMore 106 = .ok (.getfield 125, 3) := by decide +kernel
theorem dX12_goesOneMore_109 : decode cX12_goesOneMore 109 = .ok (.iload 5, 2) := by decide +kernel
theorem dX12_goesOneMore_111 : decode cX12_goesOneMore 111 = .ok (.iload 4, 2) := by decide +kernel
theorem dX12_goesOneMore_113 : decode cX12_goesOneMore 113 = .ok (.iastore, 1) := by decide +kernel
theorem dX12_goesOneMore_114 : decode cX12_goesOneMore 114 = .ok (.iconst 1, 1) := by decide +kernel
theorem dX12_goesOneMore_115 : decode cX12_goesOneMore 115 = .ok (.istore_n 3, 1) := by decide +kernel
theorem dX12_goesOneMore_116 : decode cX12_goesOneMore 116 = .ok (.iinc 5 1, 3) := by decide +kernel
theorem dX12_goesOneMore_119 : decode cX12_goesOneMore 119 = .ok (.goto (-46), 3) := by decide +kernel
theorem dX12_goesOneMore_122 : decode cX12_goesOneMore 122 = .ok (.iinc 4 1, 3) := by decide +kernel
theorem dX12_goesOneMore_125 : decode cX12_goesOneMore 125 = .ok (.goto (-76), 3) := by decide +kernel
theorem dX12_goesOneMore_128 : decode cX12_goesOneMore 128 = .ok (.goto (-98), 3) := by decide +kernel
theorem dX12_goesOneMore_131 : decode cX12_goesOneMore 131 = .ok (.aload_n 0, 1) := by decide +kernel
theorem dX12_goesOneMore_132 : decode cX12_goesOneMore 132 = .ok (.getfield 125, 3) := by decide +kernel
theorem dX12_goesOneMore_135 : decode cX12_goesOneMore 135 = .ok (.iload_n 2, 1) := by decide +kernel
theorem dX12_goesOneMore_136 : decode cX12_goesOneMore 136 = .ok (.iaload, 1) := by decide +kernel
theorem dX12_goesOneMore_137 : decode cX12_goesOneMore 137 = .ok (.iconst (-1), 1) := by decide +kernel
theorem dX12_goesOneMore_138 : decode cX12_goesOneMore 138 = .ok (.if_icmp .ne 5, 3) := by decide +kernel
theorem dX12_goesOneMore_141 : decode cX12_goesOneMore 141 = .ok (.iconst 0, 1) := by decide +kernel
theorem dX12_goesOneMore_142 : decode cX12_goesOneMore 142 = .ok (.ireturn, 1) := by decide +kernel
theorem dX12_goesOneMore_143 : decode cX12_goesOneMore 143 = .ok (.iload_n 2, 1) := by decide +kernel
theorem dX12_goesOneMore_144 : decode cX12_goesOneMore 144 = .ok (.istore 4, 2) := by decide +kernel
theorem dX12_goesOneMore_146 : decode cX12_goesOneMore 146 = .ok (.iload 4, 2) := by decide +kernel
theorem dX12_goesOneMore_148 : decode cX12_goesOneMore 148 = .ok (.iload_n 1, 1) := by decide +kernel
theorem dX12_goesOneMore_149 : decode cX12_goesOneMore 149 = .ok (.if_icmp .eq 67, 3) := by decide +kernel
theorem dX12_goesOneMore_152 : decode cX12_goesOneMore 152 = .ok (.aload_n 0, 1) := by decide +kernel
theorem dX12_goesOneMore_153 : decode cX12_goesOneMore 153 = .ok (.getfield 125, 3) := by decide +kernel
theorem dX12_goesOneMore_156 : decode cX12_goesOneMore 156 = .ok (.iload 4, 2) := by decide +kernel
theorem dX12_goesOneMore_158 : decode cX12_goesOneMore 158 = .ok (.iaload, 1) := by decide +kernel
theorem dX12_goesOneMore_159 : decode cX12_goesOneMore 159 = .ok (.istore 5, 2) := by decide +kernel
theorem dX12_goesOneMore_161 : decode cX12_goesOneMore 161 = .ok (.aload_n 0, 1) := by decide +kernel
theorem dX12_goesOneMore_162 : decode cX12_goesOneMore 162 = .ok (.getfield 122, 3) := by decide +kernel
theorem dX12_goesOneMore_165 : decode cX12_goesOneMore 165 = .ok (.bipush 20, 2) := by decide +kernel
theorem dX12_goesOneMore_167 : decode cX12_goesOneMore 167 = .ok (.iload 4, 2) := by decide +kernel
theorem dX12_goesOneMore_169 : decode cX12_goesOneMore 169 = .ok (.imul, 1) := by decide +kernel
theorem dX12_goesOneMore_170 : decode cX12_goesOneMore 170 = .ok (.iload 5, 2) := by decide +kernel
theorem dX12_goesOneMore_172 : decode cX12_goesOneMore 172 = .ok (.iadd, 1) := by decide +kernel
theorem dX12_goesOneMore_173 : decode cX12_goesOneMore 173 = .ok (.iaload, 1) := by decide +kernel
theorem dX12_goesOneMore_174 : decode cX12_goesOneMore 174 = .ok (.iconst 1, 1) := by decide +kernel
theorem dX12_goesOneMore_175 : decode cX12_goesOneMore 175 = .ok (.if_icmp .ne 20, 3) := by decide +kernel
theorem dX12_goesOneMore_178 : decode cX12_goesOneMore 178 = .ok (.aload_n 0, 1) := by decide +kernel
theorem dX12_goesOneMore_179 : decode cX12_goesOneMore 179 = .ok (.getfield 122, 3) := by decide +kernel
theorem dX12_goesOneMore_182 : decode cX12_goesOneMore 182 = .ok (.bipush 20, 2) := by decide +kernel
theorem dX12_goesOneMore_184 : decode cX12_goesOneMore 184 = .ok (.iload 4, 2) := by decide +kernel
theorem dX12_goesOneMore_186 : decode cX12_goesOneMore 186 = .ok (.imul, 1) := by decide +kernel
theorem dX12_goesOneMore_187 : decode cX12_goesOneMore 187 = .ok (.iload 5, 2) := by decide +kernel
theorem dX12_goesOneMore_189 : decode cX12_goesOneMore 189 = .ok (.iadd, 1) := by decide +kernel
theorem dX12_goesOneMore_190 : decode cX12_goesOneMore 190 = .ok (.iconst 0, 1) := by decide +kernel
theorem dX12_goesOneMore_191 : decode cX12_goesOneMore 191 = .ok (.iastore, 1) := by decide +kernel
theorem dX12_goesOneMore_192 : decode cX12_goesOneMore 192 = .ok (.goto 17, 3) := by decide +kernel
theorem dX12_goesOneMore_195 : decode cX12_goesOneMore 195 = .ok (.aload_n 0, 1) := by decide +kernel
theorem dX12_goesOneMore_196 : decode cX12_goesOneMore 196 = .ok (.getfield 122, 3) := by decide +kernel
theorem dX12_goesOneMore_199 : decode cX12_goesOneMore 199 = .ok (.bipush 20, 2) := by decide +kernel
theorem dX12_goesOneMore_201 : decode cX12_goesOneMore 201 = .ok (.iload 5, 2) := by decide +kernel
theorem dX12_goesOneMore_203 : decode cX12_goesOneMore 203 = .ok (.imul, 1) := by decide +kernel
theorem dX12_goesOneMore_204 : decode cX12_goesOneMore 204 = .ok (.iload 4, 2) := by decide +kernel
theorem dX12_goesOneMore_206 : decode cX12_goesOneMore 206 = .ok (.iadd, 1) := by decide +kernel
theorem dX12_goesOneMore_207 : decode cX12_goesOneMore 207 = .ok (.iconst 1, 1) := by decide +kernel
theorem dX12_goesOneMore_208 : decode cX12_goesOneMore 208 = .ok (.iastore, 1) := by decide +kernel
theorem dX12_goesOneMore_209 : decode cX12_goesOneMore 209 = .ok (.iload 5, 2) := by decide +kernel
theorem dX12_goesOneMore_211 : decode cX12_goesOneMore 211 = .ok (.istore 4, 2) := by decide +kernel
theorem dX12_goesOneMore_213 : decode cX12_goesOneMore 213 = .ok (.goto (-67), 3) := by decide +kernel
theorem dX12_goesOneMore_216 : decode cX12_goesOneMore 216 = .ok (.iconst 1, 1) := by decide +kernel
theorem dX12_goesOneMore_217 : decode cX12_goesOneMore 217 = .ok (.ireturn, 1) := by decide +kernel
theorem dX12_apartWays_0 : decode cX12_apartWays 0 = .ok (.iconst 0, 1) := by decide +kernel
theorem dX12_apartWays_1 : decode cX12_apartWays 1 = .ok (.istore_n 3, 1) := by decide +kernel
theorem dX12_apartWays_2 : decode cX12_apartWays 2 = .ok (.iload_n 3, 1) := by decide +kernel
theorem dX12_apartWays_3 : decode cX12_apartWays 3 = .ok (.sipush 400, 3) := by decide +kernel
theorem dX12_apartWays_6 : decode cX12_apartWays 6 = .ok (.if_icmp .ge 16, 3) := by decide +kernel
theorem dX12_apartWays_9 : decode cX12_apartWays 9 = .ok (.aload_n 0, 1) := by decide +kernel
theorem dX12_apartWays_10 : decode cX12_apartWays 10 = .ok (.getfield 122, 3) := by decide +kernel
theorem dX12_apartWays_13 : decode cX12_apartWays 13 = .ok (.iload_n 3, 1) := by decide +kernel
theorem dX12_apartWays_14 : decode cX12_apartWays 14 = .ok (.iconst 0, 1) := by decide +kernel
theorem dX12_apartWays_15 : decode cX12_apartWays 15 = .ok (.iastore, 1) := by decide +kernel
theorem dX12_apartWays_16 : decode cX12_apartWays 16 = .ok (.iinc 3 1, 3) := by decide +kernel
theorem dX12_apartWays_19 : decode cX12_apartWays 19 = .ok (.goto (-17), 3) := by decide +kernel
theorem dX12_apartWays_22 : decode cX12_apartWays 22 = .ok (.iconst 0, 1) := by decide +kernel
theorem dX12_apartWays_23 : decode cX12_apartWays 23 = .ok (.istore_n 3, 1) := by decide +kernel
theorem dX12_apartWays_24 : decode cX12_apartWays 24 = .ok (.aload_n 0, 1) := by decide +kernel
theorem dX12_apartWays_25 : decode cX12_apartWays 25 = .ok (.iconst 2, 1) := by decide +kernel
theorem dX12_apartWays_26 : decode cX12_apartWays 26 = .ok (.iload_n 1, 1) := by decide +kernel
theorem dX12_apartWays_27 : decode cX12_apartWays 27 = .ok (.imul, 1) := by decide +kernel
theorem dX12_apartWays_28 : decode cX12_apartWays 28 = .ok (.iconst 1, 1) := by decide +kernel
theorem dX12_apartWays_29 : decode cX12_apartWays 29 = .ok (.iadd, 1) := by decide +kernel
theorem dX12_apartWays_30 : decode cX12_apartWays 30 = .ok (.iconst 2, 1) := by decide +kernel
theorem dX12_apartWays_31 : decode cX12_apartWays 31 = .ok (.iload_n 2, 1) := by decide +kernel
theorem dX12_apartWays_32 : decode cX12_apartWays 32 = .ok (.imul, 1) := by decide +kernel
theorem dX12_apartWays_33 : decode cX12_apartWays 33 = .ok (.invokevirtual 492, 3) := by decide +kernel
theorem dX12_apartWays_36 : decode cX12_apartWays 36 = .ok (.ifCond .eq 10, 3) := by decide +kernel
theorem dX12_apartWays_39 : decode cX12_apartWays 39 = .ok (.iload_n 3, 1) := by decide +kernel
theorem dX12_apartWays_40 : decode cX12_apartWays 40 = .ok (.iconst 1, 1) := by decide +kernel
theorem dX12_apartWays_41 : decode cX12_apartWays 41 = .ok (.iadd, 1) := by decide +kernel
theorem dX12_apartWays_42 : decode cX12_apartWays 42 = .ok (.istore_n 3, 1) := by decide +kernel
theorem dX12_apartWays_43 : decode cX12_apartWays 43 = .ok (.goto (-19), 3) := by decide +kernel
theorem dX12_apartWays_46 : decode cX12_apartWays 46 = .ok (.iload_n 3, 1) := by decide +kernel
theorem dX12_apartWays_47 : decode cX12_apartWays 47 = .ok (.ireturn, 1) := by decide +kernel
theorem dX12_shortWay_0 : decode cX12_shortWay 0 = .ok (.iconst 1, 1) := by decide +kernel
theorem dX12_shortWay_1 : decode cX12_shortWay 1 = .ok (.iload_n 1, 1) := by decide +kernel
theorem dX12_shortWay_2 : decode cX12_shortWay 2 = .ok (.ishl, 1) := by decide +kernel
theorem dX12_shortWay_3 : decode cX12_shortWay 3 = .ok (.istore_n 3, 1) := by decide +kernel
theorem dX12_shortWay_4 : decode cX12_shortWay 4 = .ok (.iconst 0, 1) := by decide +kernel
theorem dX12_shortWay_5 : decode cX12_shortWay 5 = .ok (.istore 4, 2) := by decide +kernel
theorem dX12_shortWay_7 : decode cX12_shortWay 7 = .ok (.iload 4, 2) := by decide +kernel
theorem dX12_shortWay_9 : decode cX12_shortWay 9 = .ok (.bipush 10, 2) := by decide +kernel
theorem dX12_shortWay_11 : decode cX12_shortWay 11 = .ok (.if_icmp .ge 65, 3) := by decide +kernel
theorem dX12_shortWay_14 : decode cX12_shortWay 14 = .ok (.aload_n 0, 1) := by decide +kernel
theorem dX12_shortWay_15 : decode cX12_shortWay 15 = .ok (.iload_n 3, 1) := by decide +kernel
theorem dX12_shortWay_16 : decode cX12_shortWay 16 = .ok (.iload_n 2, 1) := by decide +kernel
theorem dX12_shortWay_17 : decode cX12_shortWay 17 = .ok (.invokevirtual 371, 3) := by decide +kernel
theorem dX12_shortWay_20 : decode cX12_shortWay 20 = .ok (.ifCond .eq 6, 3) := by decide +kernel
theorem dX12_shortWay_23 : decode cX12_shortWay 23 = .ok (.iload 4, 2) := by decide +kernel
theorem dX12_shortWay_25 : decode cX12_shortWay 25 = .ok (.ireturn, 1) := by decide +kernel
theorem dX12_shortWay_26 : decode cX12_shortWay 26 = .ok (.iload_n 3, 1) := by decide +kernel
theorem dX12_shortWay_27 : decode cX12_shortWay 27 = .ok (.istore 5, 2) := by decide +kernel
theorem dX12_shortWay_29 : decode cX12_shortWay 29 = .ok (.iconst 0, 1) := by decide +kernel
theorem dX12_shortWay_30 : decode cX12_shortWay 30 = .ok (.istore 6, 2) := by decide +kernel
theorem dX12_shortWay_32 : decode cX12_shortWay 32 = .ok (.iload 6, 2) := by decide +kernel
theorem dX12_shortWay_34 : decode cX12_shortWay 34 = .ok (.bipush 10, 2) := by decide +kernel
theorem dX12_shortWay_36 : decode cX12_shortWay 36 = .ok (.if_icmp .ge 31, 3) := by decide +kernel
theorem dX12_shortWay_39 : decode cX12_shortWay 39 = .ok (.aload_n 0, 1) := by decide +kernel
theorem dX12_shortWay_40 : decode cX12_shortWay 40 = .ok (.iload_n 3, 1) := by decide +kernel
theorem dX12_shortWay_41 : decode cX12_shortWay 41 = .ok (.iload 6, 2) := by decide +kernel
theorem dX12_shortWay_43 : decode cX12_shortWay 43 = .ok (.invokevirtual 371, 3) := by decide +kernel
theorem dX12_shortWay_46 : decode cX12_shortWay 46 = .ok (.ifCond .eq 15, 3) := by decide +kernel
theorem dX12_shortWay_49 : decode cX12_shortWay 49 = .ok (.iload 5, 2) := by decide +kernel
theorem dX12_shortWay_51 : decode cX12_shortWay 51 = .ok (.aload_n 0, 1) := by decide +kernel
theorem dX12_shortWay_52 : decode cX12_shortWay 52 = .ok (.getfield 119, 3) := by decide +kernel
theorem dX12_shortWay_55 : decode cX12_shortWay 55 = .ok (.iload 6, 2) := by decide +kernel
theorem dX12_shortWay_57 : decode cX12_shortWay 57 = .ok (.iaload, 1) := by decide +kernel
theorem dX12_shortWay_58 : decode cX12_shortWay 58 = .ok (.ior, 1) := by decide +kernel
theorem dX12_shortWay_59 : decode cX12_shortWay 59 = .ok (.istore 5, 2) := by decide +kernel
theorem dX12_shortWay_61 : decode cX12_shortWay 61 = .ok (.iinc 6 1, 3) := by decide +kernel
theorem dX12_shortWay_64 : decode cX12_shortWay 64 = .ok (.goto (-32), 3) := by decide +kernel
theorem dX12_shortWay_67 : decode cX12_shortWay 67 = .ok (.iload 5, 2) := by decide +kernel
theorem dX12_shortWay_69 : decode cX12_shortWay 69 = .ok (.istore_n 3, 1) := by decide +kernel
theorem dX12_shortWay_70 : decode cX12_shortWay 70 = .ok (.iinc 4 1, 3) := by decide +kernel
theorem dX12_shortWay_73 : decode cX12_shortWay 73 = .ok (.goto (-66), 3) := by decide +kernel
theorem dX12_shortWay_76 : decode cX12_shortWay 76 = .ok (.iconst (-1), 1) := by decide +kernel
theorem dX12_shortWay_77 : decode cX12_shortWay 77 = .ok (.ireturn, 1) := by decide +kernel
theorem dX12_ways_0 : decode cX12_ways 0 = .ok (.aload_n 0, 1) := by decide +kernel
theorem dX12_ways_1 : decode cX12_ways 1 = .ok (.iconst 0, 1) := by decide +kernel
theorem dX12_ways_2 : decode cX12_ways 2 = .ok (.putfield 149, 3) := by decide +kernel
theorem dX12_ways_5 : decode cX12_ways 5 = .ok (.aload_n 0, 1) := by decide +kernel
theorem dX12_ways_6 : decode cX12_ways 6 = .ok (.iload_n 1, 1) := by decide +kernel
theorem dX12_ways_7 : decode cX12_ways 7 = .ok (.iconst 0, 1) := by decide +kernel
theorem dX12_ways_8 : decode cX12_ways 8 = .ok (.bipush 9, 2) := by decide +kernel
theorem dX12_ways_10 : decode cX12_ways 10 = .ok (.invokevirtual 167, 3) := by decide +kernel
theorem dX12_ways_13 : decode cX12_ways 13 = .ok (.ifCond .eq 29, 3) := by decide +kernel
theorem dX12_ways_16 : decode cX12_ways 16 = .ok (.aload_n 0, 1) := by decide +kernel
theorem dX12_ways_17 : decode cX12_ways 17 = .ok (.iload_n 2, 1) := by decide +kernel
theorem dX12_ways_18 : decode cX12_ways 18 = .ok (.iconst 0, 1) := by decide +kernel
theorem dX12_ways_19 : decode cX12_ways 19 = .ok (.bipush 9, 2) := by decide +kernel
theorem dX12_ways_21 : decode cX12_ways 21 = .ok (.invokevirtual 167, 3) := by decide +kernel
theorem dX12_ways_24 : decode cX12_ways 24 = .ok (.ifCond .eq 18, 3) := by decide +kernel
theorem dX12_ways_27 : decode cX12_ways 27 = .ok (.iload_n 1, 1) := by decide +kernel
theorem dX12_ways_28 : decode cX12_ways 28 = .ok (.iload_n 2, 1) := by decide +kernel
theorem dX12_ways_29 : decode cX12_ways 29 = .ok (.if_icmp .eq 13, 3) := by decide +kernel
theorem dX12_ways_32 : decode cX12_ways 32 = .ok (.aload_n 0, 1) := by decide +kernel
theorem dX12_ways_33 : decode cX12_ways 33 = .ok (.iload_n 3, 1) := by decide +kernel
theorem dX12_ways_34 : decode cX12_ways 34 = .ok (.iconst 0, 1) := by decide +kernel
theorem dX12_ways_35 : decode cX12_ways 35 = .ok (.iconst 1, 1) := by decide +kernel
theorem dX12_ways_36 : decode cX12_ways 36 = .ok (.invokevirtual 167, 3) := by decide +kernel
theorem dX12_ways_39 : decode cX12_ways 39 = .ok (.ifCond .ne 5, 3) := by decide +kernel
theorem dX12_ways_42 : decode cX12_ways 42 = .ok (.iconst (-1), 1) := by decide +kernel
theorem dX12_ways_43 : decode cX12_ways 43 = .ok (.ireturn, 1) := by decide +kernel
theorem dX12_ways_44 : decode cX12_ways 44 = .ok (.iload_n 3, 1) := by decide +kernel
theorem dX12_ways_45 : decode cX12_ways 45 = .ok (.ifCond .ne 12, 3) := by decide +kernel
theorem dX12_ways_48 : decode cX12_ways 48 = .ok (.aload_n 0, 1) := by decide +kernel
theorem dX12_ways_49 : decode cX12_ways 49 = .ok (.iload_n 1, 1) := by decide +kernel
theorem dX12_ways_50 : decode cX12_ways 50 = .ok (.iload_n 2, 1) := by decide +kernel
theorem dX12_ways_51 : decode cX12_ways 51 = .ok (.invokevirtual 495, 3) := by decide +kernel
theorem dX12_ways_54 : decode cX12_ways 54 = .ok (.goto 9, 3) := by decide +kernel
theorem dX12_ways_57 : decode cX12_ways 57 = .ok (.aload_n 0, 1) := by decide +kernel
theorem dX12_ways_58 : decode cX12_ways 58 = .ok (.iload_n 1, 1) := by decide +kernel
theorem dX12_ways_59 : decode cX12_ways 59 = .ok (.iload_n 2, 1) := by decide +kernel
theorem dX12_ways_60 : decode cX12_ways 60 = .ok (.invokevirtual 498, 3) := by decide +kernel
theorem dX12_ways_63 : decode cX12_ways 63 = .ok (.ireturn, 1) := by decide +kernel
theorem dX12_kinOf_0 : decode cX12_kinOf 0 = .ok (.iload_n 1, 1) := by decide +kernel
theorem dX12_kinOf_1 : decode cX12_kinOf 1 = .ok (.istore_n 2, 1) := by decide +kernel
theorem dX12_kinOf_2 : decode cX12_kinOf 2 = .ok (.iconst 0, 1) := by decide +kernel
theorem dX12_kinOf_3 : decode cX12_kinOf 3 = .ok (.istore_n 3, 1) := by decide +kernel
theorem dX12_kinOf_4 : decode cX12_kinOf 4 = .ok (.iload_n 3, 1) := by decide +kernel
theorem dX12_kinOf_5 : decode cX12_kinOf 5 = .ok (.aload_n 0, 1) := by decide +kernel
theorem dX12_kinOf_6 : decode cX12_kinOf 6 = .ok (.getfield 161, 3) := by decide +kernel
theorem dX12_kinOf_9 : decode cX12_kinOf 9 = .ok (.if_icmp .ge 27, 3) := by decide +kernel
theorem dX12_kinOf_12 : decode cX12_kinOf 12 = .ok (.aload_n 0, 1) := by decide +kernel
theorem dX12_kinOf_13 : decode cX12_kinOf 13 = .ok (.iload_n 1, 1) := by decide +kernel
theorem dX12_kinOf_14 : decode cX12_kinOf 14 = .ok (.iload_n 3, 1) := by decide +kernel
theorem dX12_kinOf_15 : decode cX12_kinOf 15 = .ok (.invokevirtual 371, 3) := by decide +kernel
theorem dX12_kinOf_18 : decode cX12_kinOf 18 = .ok (.ifCond .eq 12, 3) := by decide +kernel
theorem dX12_kinOf_21 : decode cX12_kinOf 21 = .ok (.iload_n 2, 1) := by decide +kernel
theorem dX12_kinOf_22 : decode cX12_kinOf 22 = .ok (.aload_n 0, 1) := by decide +kernel
theorem dX12_kinOf_23 : decode cX12_kinOf 23 = .ok (.getfield 77, 3) := by decide +kernel
theorem dX12_kinOf_26 : decode cX12_kinOf 26 = .ok (.iload_n 3, 1) := by decide +kernel
theorem dX12_kinOf_27 : decode cX12_kinOf 27 = .ok (.iaload, 1) := by decide +kernel
theorem dX12_kinOf_28 : decode cX12_kinOf 28 = .ok (.ior, 1) := by decide +kernel
theorem dX12_kinOf_29 : decode cX12_kinOf 29 = .ok (.istore_n 2, 1) := by decide +kernel
theorem dX12_kinOf_30 : decode cX12_kinOf 30 = .ok (.iinc 3 1, 3) := by decide +kernel
theorem dX12_kinOf_33 : decode cX12_kinOf 33 = .ok (.goto (-29), 3) := by decide +kernel
theorem dX12_kinOf_36 : decode cX12_kinOf 36 = .ok (.iload_n 2, 1) := by decide +kernel
theorem dX12_kinOf_37 : decode cX12_kinOf 37 = .ok (.ireturn, 1) := by decide +kernel
theorem dX12_kin_0 : decode cX12_kin 0 = .ok (.aload_n 0, 1) := by decide +kernel
theorem dX12_kin_1 : decode cX12_kin 1 = .ok (.iconst 0, 1) := by decide +kernel
theorem dX12_kin_2 : decode cX12_kin 2 = .ok (.putfield 149, 3) := by decide +kernel
theorem dX12_kin_5 : decode cX12_kin 5 = .ok (.aload_n 0, 1) := by decide +kernel
theorem dX12_kin_6 : decode cX12_kin 6 = .ok (.iload_n 1, 1) := by decide +kernel
theorem dX12_kin_7 : decode cX12_kin 7 = .ok (.invokevirtual 171, 3) := by decide +kernel
theorem dX12_kin_10 : decode cX12_kin 10 = .ok (.ifCond .eq 11, 3) := by decide +kernel
theorem dX12_kin_13 : decode cX12_kin 13 = .ok (.aload_n 0, 1) := by decide +kernel
theorem dX12_kin_14 : decode cX12_kin 14 = .ok (.iload_n 2, 1) := by decide +kernel
theorem dX12_kin_15 : decode cX12_kin 15 = .ok (.invokevirtual 171, 3) := by decide +kernel
theorem dX12_kin_18 : decode cX12_kin 18 = .ok (.ifCond .ne 5, 3) := by decide +kernel
theorem dX12_kin_21 : decode cX12_kin 21 = .ok (.iconst (-1), 1) := by decide +kernel
theorem dX12_kin_22 : decode cX12_kin 22 = .ok (.ireturn, 1) := by decide +kernel
theorem dX12_kin_23 : decode cX12_kin 23 = .ok (.iconst 1, 1) := by decide +kernel
theorem dX12_kin_24 : decode cX12_kin 24 = .ok (.iload_n 1, 1) := by decide +kernel
theorem dX12_kin_25 : decode cX12_kin 25 = .ok (.ishl, 1) := by decide +kernel
theorem dX12_kin_26 : decode cX12_kin 26 = .ok (.istore_n 3, 1) := by decide +kernel
theorem dX12_kin_27 : decode cX12_kin 27 = .ok (.iconst 0, 1) := by decide +kernel
theorem dX12_kin_28 : decode cX12_kin 28 = .ok (.istore 4, 2) := by decide +kernel
theorem dX12_kin_30 : decode cX12_kin 30 = .ok (.iload 4, 2) := by decide +kernel
theorem dX12_kin_32 : decode cX12_kin 32 = .ok (.bipush 12, 2) := by decide +kernel
theorem dX12_kin_34 : decode cX12_kin 34 = .ok (.if_icmp .ge 27, 3) := by decide +kernel
theorem dX12_kin_37 : decode cX12_kin 37 = .ok (.aload_n 0, 1) := by decide +kernel
theorem dX12_kin_38 : decode cX12_kin 38 = .ok (.iload_n 3, 1) := by decide +kernel
theorem dX12_kin_39 : decode cX12_kin 39 = .ok (.iload_n 2, 1) := by decide +kernel
theorem dX12_kin_40 : decode cX12_kin 40 = .ok (.invokevirtual 371, 3) := by decide +kernel
theorem dX12_kin_43 : decode cX12_kin 43 = .ok (.ifCond .eq 6, 3) := by decide +kernel
theorem dX12_kin_46 : decode cX12_kin 46 = .ok (.iload 4, 2) := by decide +kernel
theorem dX12_kin_48 : decode cX12_kin 48 = .ok (.ireturn, 1) := by decide +kernel
theorem dX12_kin_49 : decode cX12_kin 49 = .ok (.aload_n 0, 1) := by decide +kernel
theorem dX12_kin_50 : decode cX12_kin 50 = .ok (.iload_n 3, 1) := by decide +kernel
theorem dX12_kin_51 : decode cX12_kin 51 = .ok (.invokevirtual 501, 3) := by decide +kernel
theorem dX12_kin_54 : decode cX12_kin 54 = .ok (.istore_n 3, 1) := by decide +kernel
theorem dX12_kin_55 : decode cX12_kin 55 = .ok (.iinc 4 1, 3) := by decide +kernel
theorem dX12_kin_58 : decode cX12_kin 58 = .ok (.goto (-28), 3) := by decide +kernel
theorem dX12_kin_61 : decode cX12_kin 61 = .ok (.iconst (-1), 1) := by decide +kernel
theorem dX12_kin_62 : decode cX12_kin 62 = .ok (.ireturn, 1) := by decide +kernel
theorem dX12_groupOf_0 : decode cX12_groupOf 0 = .ok (.iconst 1, 1) := by decide +kernel
theorem dX12_groupOf_1 : decode cX12_groupOf 1 = .ok (.iload_n 1, 1) := by decide +kernel
theorem dX12_groupOf_2 : decode cX12_groupOf 2 = .ok (.ishl, 1) := by decide +kernel
theorem dX12_groupOf_3 : decode cX12_groupOf 3 = .ok (.istore_n 2, 1) := by decide +kernel
theorem dX12_groupOf_4 : decode cX12_groupOf 4 = .ok (.iconst 0, 1) := by decide +kernel
theorem dX12_groupOf_5 : decode cX12_groupOf 5 = .ok (.istore_n 3, 1) := by decide +kernel
theorem dX12_groupOf_6 : decode cX12_groupOf 6 = .ok (.iload_n 3, 1) := by decide +kernel
theorem dX12_groupOf_7 : decode cX12_groupOf 7 = .ok (.bipush 12, 2) := by decide +kernel
theorem dX12_groupOf_9 : decode cX12_groupOf 9 = .ok (.if_icmp .ge 15, 3) := by decide +kernel
theorem dX12_groupOf_12 : decode cX12_groupOf 12 = .ok (.aload_n 0, 1) := by decide +kernel
theorem dX12_groupOf_13 : decode cX12_groupOf 13 = .ok (.iload_n 2, 1) := by decide +kernel
theorem dX12_groupOf_14 : decode cX12_groupOf 14 = .ok (.invokevirtual 501, 3) := by decide +kernel
theorem dX12_groupOf_17 : decode cX12_groupOf 17 = .ok (.istore_n 2, 1) := by decide +kernel
theorem dX12_groupOf_18 : decode cX12_groupOf 18 = .ok (.iinc 3 1, 3) := by decide +kernel
theorem dX12_groupOf_21 : decode cX12_groupOf 21 = .ok (.goto (-15), 3) := by decide +kernel
theorem dX12_groupOf_24 : decode cX12_groupOf 24 = .ok (.iload_n 2, 1) := by decide +kernel
theorem dX12_groupOf_25 : decode cX12_groupOf 25 = .ok (.ireturn, 1) := by decide +kernel
theorem dX12_groups_0 : decode cX12_groups 0 = .ok (.aload_n 0, 1) := by decide +kernel
theorem dX12_groups_1 : decode cX12_groups 1 = .ok (.iconst 0, 1) := by decide +kernel
theorem dX12_groups_2 : decode cX12_groups 2 = .ok (.putfield 149, 3) := by decide +kernel
theorem dX12_groups_5 : decode cX12_groups 5 = .ok (.aload_n 0, 1) := by decide +kernel
theorem dX12_groups_6 : decode cX12_groups 6 = .ok (.iload_n 1, 1) := by decide +kernel
theorem dX12_groups_7 : decode cX12_groups 7 = .ok (.iconst 0, 1) := by decide +kernel
theorem dX12_groups_8 : decode cX12_groups 8 = .ok (.iconst 1, 1) := by decide +kernel
theorem dX12_groups_9 : decode cX12_groups 9 = .ok (.invokevirtual 167, 3) := by decide +kernel
theorem dX12_groups_12 : decode cX12_groups 12 = .ok (.ifCond .ne 5, 3) := by decide +kernel
theorem dX12_groups_15 : decode cX12_groups 15 = .ok (.iconst (-1), 1) := by decide +kernel
theorem dX12_groups_16 : decode cX12_groups 16 = .ok (.ireturn, 1) := by decide +kernel
theorem dX12_groups_17 : decode cX12_groups 17 = .ok (.iconst 0, 1) := by decide +kernel
theorem dX12_groups_18 : decode cX12_groups 18 = .ok (.istore_n 2, 1) := by decide +kernel
theorem dX12_groups_19 : decode cX12_groups 19 = .ok (.iconst 0, 1) := by decide +kernel
theorem dX12_groups_20 : decode cX12_groups 20 = .ok (.istore_n 3, 1) := by decide +kernel
theorem dX12_groups_21 : decode cX12_groups 21 = .ok (.iconst 0, 1) := by decide +kernel
theorem dX12_groups_22 : decode cX12_groups 22 = .ok (.istore 4, 2) := by decide +kernel
theorem dX12_groups_24 : decode cX12_groups 24 = .ok (.iconst 0, 1) := by decide +kernel
theorem dX12_groups_25 : decode cX12_groups 25 = .ok (.istore 5, 2) := by decide +kernel
theorem dX12_groups_27 : decode cX12_groups 27 = .ok (.iload 5, 2) := by decide +kernel
theorem dX12_groups_29 : decode cX12_groups 29 = .ok (.aload_n 0, 1) := by decide +kernel
theorem dX12_groups_30 : decode cX12_groups 30 = .ok (.getfield 161, 3) := by decide +kernel
theorem dX12_groups_33 : decode cX12_groups 33 = .ok (.if_icmp .ge 58, 3) := by decide +kernel
theorem dX12_groups_36 : decode cX12_groups 36 = .ok (.aload_n 0, 1) := by decide +kernel
theorem dX12_groups_37 : decode cX12_groups 37 = .ok (.iload_n 2, 1) := by decide +kernel
theorem dX12_groups_38 : decode cX12_groups 38 = .ok (.iload 5, 2) := by decide +kernel
theorem dX12_groups_40 : decode cX12_groups 40 = .ok (.invokevirtual 371, 3) := by decide +kernel
theorem dX12_groups_43 : decode cX12_groups 43 = .ok (.ifCond .eq 6, 3) := by decide +kernel
theorem dX12_groups_46 : decode cX12_groups 46 = .ok (.goto 39, 3) := by decide +kernel
theorem dX12_groups_49 : decode cX12_groups 49 = .ok (.aload_n 0, 1) := by decide +kernel
theorem dX12_groups_50 : decode cX12_groups 50 = .ok (.iload 5, 2) := by decide +kernel
theorem dX12_groups_52 : decode cX12_groups 52 = .ok (.invokevirtual 504, 3) := by decide +kernel
theorem dX12_groups_55 : decode cX12_groups 55 = .ok (.istore 6, 2) := by decide +kernel
theorem dX12_groups_57 : decode cX12_groups 57 = .ok (.iload_n 2, 1) := by decide +kernel
theorem dX12_groups_58 : decode cX12_groups 58 = .ok (.iload 6, 2) := by decide +kernel
theorem dX12_groups_60 : decode cX12_groups 60 = .ok (.ior, 1) := by decide +kernel
theorem dX12_groups_61 : decode cX12_groups 61 = .ok (.istore_n 2, 1) := by decide +kernel
theorem dX12_groups_62 : decode cX12_groups 62 = .ok (.iload_n 3, 1) := by decide +kernel
theorem dX12_groups_63 : decode cX12_groups 63 = .ok (.iconst 1, 1) := by decide +kernel
theorem dX12_groups_64 : decode cX12_groups 64 = .ok (.iadd, 1) := by decide +kernel
theorem dX12_groups_65 : decode cX12_groups 65 = .ok (.istore_n 3, 1) := by decide +kernel
theorem dX12_groups_66 : decode cX12_groups 66 = .ok (.aload_n 0, 1) := by decide +kernel
theorem dX12_groups_67 : decode cX12_groups 67 = .ok (.iload 6, 2) := by decide +kernel
theorem dX12_groups_69 : decode cX12_groups 69 = .ok (.invokevirtual 447, 3) := by decide +kernel
theorem dX12_groups_72 : decode cX12_groups 72 = .ok (.aload_n 0, 1) := by decide +kernel
theorem dX12_groups_73 : decode cX12_groups 73 = .ok (.iload 4, 2) := by decide +kernel
theorem dX12_groups_75 : decode cX12_groups 75 = .ok (.invokevirtual 447, 3) := by decide +kernel
theorem dX12_groups_78 : decode cX12_groups 78 = .ok (.if_icmp .le 7, 3) := by decide +kernel
theorem dX12_groups_81 : decode cX12_groups 81 = .ok (.iload 6, 2) := by decide +kernel
theorem dX12_groups_83 : decode cX12_groups 83 = .ok (.istore 4, 2) := by decide +kernel
theorem dX12_groups_85 : decode cX12_groups 85 = .ok (.iinc 5 1, 3) := by decide +kernel
theorem dX12_groups_88 : decode cX12_groups 88 = .ok (.goto (-61), 3) := by decide +kernel
theorem dX12_groups_91 : decode cX12_groups 91 = .ok (.iload_n 1, 1) := by decide +kernel
theorem dX12_groups_92 : decode cX12_groups 92 = .ok (.ifCond .ne 7, 3) := by decide +kernel
theorem dX12_groups_95 : decode cX12_groups 95 = .ok (.iload_n 3, 1) := by decide +kernel
theorem dX12_groups_96 : decode cX12_groups 96 = .ok (.goto 5, 3) := by decide +kernel
theorem dX12_groups_99 : decode cX12_groups 99 = .ok (.iload 4, 2) := by decide +kernel
theorem dX12_groups_101 : decode cX12_groups 101 = .ok (.ireturn, 1) := by decide +kernel
theorem dX12_step_0 : decode cX12_step 0 = .ok (.aload_n 0, 1) := by decide +kernel
theorem dX12_step_1 : decode cX12_step 1 = .ok (.iconst 0, 1) := by decide +kernel
theorem dX12_step_2 : decode cX12_step 2 = .ok (.putfield 149, 3) := by decide +kernel
theorem dX12_step_5 : decode cX12_step 5 = .ok (.iload_n 1, 1) := by decide +kernel
theorem dX12_step_6 : decode cX12_step 6 = .ok (.iconst (-1), 1) := by decide +kernel
theorem dX12_step_7 : decode cX12_step 7 = .ok (.if_icmp .ne 10, 3) := by decide +kernel
theorem dX12_step_10 : decode cX12_step 10 = .ok (.aload_n 0, 1) := by decide +kernel
theorem dX12_step_11 : decode cX12_step 11 = .ok (.iconst 0, 1) := by decide +kernel
theorem dX12_step_12 : decode cX12_step 12 = .ok (.putfield 507, 3) := by decide +kernel
theorem dX12_step_15 : decode cX12_step 15 = .ok (.iconst 0, 1) := by decide +kernel
theorem dX12_step_16 : decode cX12_step 16 = .ok (.ireturn, 1) := by decide +kernel
theorem dX12_step_17 : decode cX12_step 17 = .ok (.aload_n 0, 1) := by decide +kernel
theorem dX12_step_18 : decode cX12_step 18 = .ok (.iload_n 1, 1) := by decide +kernel
theorem dX12_step_19 : decode cX12_step 19 = .ok (.iconst 0, 1) := by decide +kernel
theorem dX12_step_20 : decode cX12_step 20 = .ok (.bipush 99, 2) := by decide +kernel
theorem dX12_step_22 : decode cX12_step 22 = .ok (.invokevirtual 167, 3) := by decide +kernel
theorem dX12_step_25 : decode cX12_step 25 = .ok (.ifCond .eq 12, 3) := by decide +kernel
theorem dX12_step_28 : decode cX12_step 28 = .ok (.aload_n 0, 1) := by decide +kernel
theorem dX12_step_29 : decode cX12_step 29 = .ok (.getfield 507, 3) := by decide +kernel
theorem dX12_step_32 : decode cX12_step 32 = .ok (.bipush 12, 2) := by decide +kernel
theorem dX12_step_34 : decode cX12_step 34 = .ok (.if_icmp .ne 5, 3) := by decide +kernel
theorem dX12_step_37 : decode cX12_step 37 = .ok (.iconst (-1), 1) := by decide +kernel
theorem dX12_step_38 : decode cX12_step 38 = .ok (.ireturn, 1) := by decide +kernel
theorem dX12_step_39 : decode cX12_step 39 = .ok (.aload_n 0, 1) := by decide +kernel
theorem dX12_step_40 : decode cX12_step 40 = .ok (.getfield 128, 3) := by decide +kernel
theorem dX12_step_43 : decode cX12_step 43 = .ok (.aload_n 0, 1) := by decide +kernel
theorem dX12_step_44 : decode cX12_step 44 = .ok (.getfield 507, 3) := by decide +kernel
theorem dX12_step_47 : decode cX12_step 47 = .ok (.iload_n 1, 1) := by decide +kernel
theorem dX12_step_48 : decode cX12_step 48 = .ok (.iastore, 1) := by decide +kernel
theorem dX12_step_49 : decode cX12_step 49 = .ok (.aload_n 0, 1) := by decide +kernel
theorem dX12_step_50 : decode cX12_step 50 = .ok (.aload_n 0, 1) := by decide +kernel
theorem dX12_step_51 : decode cX12_step 51 = .ok (.getfield 507, 3) := by decide +kernel
theorem dX12_step_54 : decode cX12_step 54 = .ok (.iconst 1, 1) := by decide +kernel
theorem dX12_step_55 : decode cX12_step 55 = .ok (.iadd, 1) := by decide +kernel
theorem dX12_step_56 : decode cX12_step 56 = .ok (.putfield 507, 3) := by decide +kernel
theorem dX12_step_59 : decode cX12_step 59 = .ok (.aload_n 0, 1) := by decide +kernel
theorem dX12_step_60 : decode cX12_step 60 = .ok (.getfield 507, 3) := by decide +kernel
theorem dX12_step_63 : decode cX12_step 63 = .ok (.ireturn, 1) := by decide +kernel
theorem dX12_alike_0 : decode cX12_alike 0 = .ok (.aload_n 0, 1) := by decide +kernel
theorem dX12_alike_1 : decode cX12_alike 1 = .ok (.iconst 0, 1) := by decide +kernel
theorem dX12_alike_2 : decode cX12_alike 2 = .ok (.putfield 149, 3) := by decide +kernel
theorem dX12_alike_5 : decode cX12_alike 5 = .ok (.aload_n 0, 1) := by decide +kernel
theorem dX12_alike_6 : decode cX12_alike 6 = .ok (.iload_n 1, 1) := by decide +kernel
theorem dX12_alike_7 : decode cX12_alike 7 = .ok (.iconst 0, 1) := by decide +kernel
theorem dX12_alike_8 : decode cX12_alike 8 = .ok (.bipush 99, 2) := by decide +kernel
theorem dX12_alike_10 : decode cX12_alike 10 = .ok (.invokevirtual 167, 3) := by decide +kernel
theorem dX12_alike_13 : decode cX12_alike 13 = .ok (.ifCond .eq 13, 3) := by decide +kernel
theorem dX12_alike_16 : decode cX12_alike 16 = .ok (.aload_n 0, 1) := by decide +kernel
theorem dX12_alike_17 : decode cX12_alike 17 = .ok (.iload_n 2, 1) := by decide +kernel
theorem dX12_alike_18 : decode cX12_alike 18 = .ok (.iconst 0, 1) := by decide +kernel
theorem dX12_alike_19 : decode cX12_alike 19 = .ok (.iconst 1, 1) := by decide +kernel
theorem dX12_alike_20 : decode cX12_alike 20 = .ok (.invokevirtual 167, 3) := by decide +kernel
theorem dX12_alike_23 : decode cX12_alike 23 = .ok (.ifCond .ne 5, 3) := by decide +kernel
theorem dX12_alike_26 : decode cX12_alike 26 = .ok (.iconst (-1), 1) := by decide +kernel
theorem dX12_alike_27 : decode cX12_alike 27 = .ok (.ireturn, 1) := by decide +kernel
theorem dX12_alike_28 : decode cX12_alike 28 = .ok (.iconst 0, 1) := by decide +kernel
theorem dX12_alike_29 : decode cX12_alike 29 = .ok (.istore_n 3, 1) := by decide +kernel
theorem dX12_alike_30 : decode cX12_alike 30 = .ok (.iconst 0, 1) := by decide +kernel
theorem dX12_alike_31 : decode cX12_alike 31 = .ok (.istore 4, 2) := by decide +kernel
theorem dX12_alike_33 : decode cX12_alike 33 = .ok (.iconst 0, 1) := by decide +kernel
theorem dX12_alike_34 : decode cX12_alike 34 = .ok (.istore 5, 2) := by decide +kernel
theorem dX12_alike_36 : decode cX12_alike 36 = .ok (.iload 5, 2) := by decide +kernel
theorem dX12_alike_38 : decode cX12_alike 38 = .ok (.aload_n 0, 1) := by decide +kernel
theorem dX12_alike_39 : decode cX12_alike 39 = .ok (.getfield 507, 3) := by decide +kernel
theorem dX12_alike_42 : decode cX12_alike 42 = .ok (.if_icmp .ge 109, 3) := by decide +kernel
theorem dX12_alike_45 : decode cX12_alike 45 = .ok (.iconst 0, 1) := by decide +kernel
theorem dX12_alike_46 : decode cX12_alike 46 = .ok (.istore 6, 2) := by decide +kernel
theorem dX12_alike_48 : decode cX12_alike 48 = .ok (.iconst 0, 1) := by decide +kernel
theorem dX12_alike_49 : decode cX12_alike 49 = .ok (.istore 7, 2) := by decide +kernel
theorem dX12_alike_51 : decode cX12_alike 51 = .ok (.iload 7, 2) := by decide +kernel
theorem dX12_alike_53 : decode cX12_alike 53 = .ok (.aload_n 0, 1) := by decide +kernel
theorem dX12_alike_54 : decode cX12_alike 54 = .ok (.getfield 507, 3) := by decide +kernel
theorem dX12_alike_57 : decode cX12_alike 57 = .ok (.if_icmp .ge 80, 3) := by decide +kernel
theorem dX12_alike_60 : decode cX12_alike 60 = .ok (.aload_n 0, 1) := by decide +kernel
theorem dX12_alike_61 : decode cX12_alike 61 = .ok (.aload_n 0, 1) := by decide +kernel
theorem dX12_alike_62 : decode cX12_alike 62 = .ok (.getfield 128, 3) := by decide +kernel
theorem dX12_alike_65 : decode cX12_alike 65 = .ok (.iload 7, 2) := by decide +kernel
theorem dX12_alike_67 : decode cX12_alike 67 = .ok (.iaload, 1) := by decide +kernel
theorem dX12_alike_68 : decode cX12_alike 68 = .ok (.aload_n 0, 1) := by decide +kernel
theorem dX12_alike_69 : decode cX12_alike 69 = .ok (.getfield 128, 3) := by decide +kernel
theorem dX12_alike_72 : decode cX12_alike 72 = .ok (.iload 5, 2) := by decide +kernel
theorem dX12_alike_74 : decode cX12_alike 74 = .ok (.iaload, 1) := by decide +kernel
theorem dX12_alike_75 : decode cX12_alike 75 = .ok (.aload_n 0, 1) := by decide +kernel
theorem dX12_alike_76 : decode cX12_alike 76 = .ok (.getfield 128, 3) := by decide +kernel
theorem dX12_alike_79 : decode cX12_alike 79 = .ok (.iload 5, 2) := by decide +kernel
theorem dX12_alike_81 : decode cX12_alike 81 = .ok (.iaload, 1) := by decide +kernel
theorem dX12_alike_82 : decode cX12_alike 82 = .ok (.iload_n 1, 1) := by decide +kernel
theorem dX12_alike_83 : decode cX12_alike 83 = .ok (.iadd, 1) := by decide +kernel
theorem dX12_alike_84 : decode cX12_alike 84 = .ok (.invokevirtual 167, 3) := by decide +kernel
theorem dX12_alike_87 : decode cX12_alike 87 = .ok (.ifCond .eq 9, 3) := by decide +kernel
theorem dX12_alike_90 : decode cX12_alike 90 = .ok (.iload 6, 2) := by decide +kernel
theorem dX12_alike_92 : decode cX12_alike 92 = .ok (.iconst 1, 1) := by decide +kernel
theorem dX12_alike_93 : decode cX12_alike 93 = .ok (.iadd, 1) := by decide +kernel
theorem dX12_alike_94 : decode cX12_alike 94 = .ok (.istore 6, 2) := by decide +kernel
theorem dX12_alike_96 : decode cX12_alike 96 = .ok (.iload 7, 2) := by decide +kernel
theorem dX12_alike_98 : decode cX12_alike 98 = .ok (.iload 5, 2) := by decide +kernel
theorem dX12_alike_100 : decode cX12_alike 100 = .ok (.if_icmp .ge 31, 3) := by decide +kernel
theorem dX12_alike_103 : decode cX12_alike 103 = .ok (.aload_n 0, 1) := by decide +kernel
theorem dX12_alike_104 : decode cX12_alike 104 = .ok (.aload_n 0, 1) := by decide +kernel
theorem dX12_alike_105 : decode cX12_alike 105 = .ok (.getfield 128, 3) := by decide +kernel
theorem dX12_alike_108 : decode cX12_alike 108 = .ok (.iload 7, 2) := by decide +kernel
theorem dX12_alike_110 : decode cX12_alike 110 = .ok (.iaload, 1) := by decide +kernel
theorem dX12_alike_111 : decode cX12_alike 111 = .ok (.aload_n 0, 1) := by decide +kernel
theorem dX12_alike_112 : decode cX12_alike 112 = .ok (.getfield 128, 3) := by decide +kernel
theorem dX12_alike_115 : decode cX12_alike 115 = .ok (.iload 5, 2) := by decide +kernel
theorem dX12_alike_117 : decode cX12_alike 117 = .ok (.iaload, 1) := by decide +kernel
theorem dX12_alike_118 : decode cX12_alike 118 = .ok (.invokevirtual 425, 3) := by decide +kernel
theorem dX12_alike_121 : decode cX12_alike 121 = .ok (.iload_n 1, 1) := by decide +kernel
theorem dX12_alike_122 : decode cX12_alike 122 = .ok (.if_icmp .gt 9, 3) := by decide +kernel
theorem dX12_alike_125 : decode cX12_alike 125 = .ok (.iload 4, 2) := by decide +kernel
theorem dX12_alike_127 : decode cX12_alike 127 = .ok (.iconst 1, 1) := by decide +kernel
theorem dX12_alike_128 : decode cX12_alike 128 = .ok (.iadd, 1) := by decide +kernel
theorem dX12_alike_129 : decode cX12_alike 129 = .ok (.istore 4, 2) := by decide +kernel
theorem dX12_alike_131 : decode cX12_alike 131 = .ok (.iinc 7 1, 3) := by decide +kernel
theorem dX12_alike_134 : decode cX12_alike 134 = .ok (.goto (-83), 3) := by decide +kernel
theorem dX12_alike_137 : decode cX12_alike 137 = .ok (.aload_n 0, 1) := by decide +kernel
theorem dX12_alike_138 : decode cX12_alike 138 = .ok (.iload_n 3, 1) := by decide +kernel
theorem dX12_alike_139 : decode cX12_alike 139 = .ok (.iload 6, 2) := by decide +kernel
theorem dX12_alike_141 : decode cX12_alike 141 = .ok (.invokevirtual 434, 3) := by decide +kernel
theorem dX12_alike_144 : decode cX12_alike 144 = .ok (.istore_n 3, 1) := by decide +kernel
theorem dX12_alike_145 : decode cX12_alike 145 = .ok (.iinc 5 1, 3) := by decide +kernel
theorem dX12_alike_148 : decode cX12_alike 148 = .ok (.goto (-112), 3) := by decide +kernel
theorem dX12_alike_151 : decode cX12_alike 151 = .ok (.iload_n 2, 1) := by decide +kernel
theorem dX12_alike_152 : decode cX12_alike 152 = .ok (.ifCond .ne 7, 3) := by decide +kernel
theorem dX12_alike_155 : decode cX12_alike 155 = .ok (.iload_n 3, 1) := by decide +kernel
theorem dX12_alike_156 : decode cX12_alike 156 = .ok (.goto 5, 3) := by decide +kernel
theorem dX12_alike_159 : decode cX12_alike 159 = .ok (.iload 4, 2) := by decide +kernel
theorem dX12_alike_161 : decode cX12_alike 161 = .ok (.ireturn, 1) := by decide +kernel
theorem dX12_carriage_0 : decode cX12_carriage 0 = .ok (.aload_n 0, 1) := by decide +kernel
theorem dX12_carriage_1 : decode cX12_carriage 1 = .ok (.iconst 0, 1) := by decide +kernel
theorem dX12_carriage_2 : decode cX12_carriage 2 = .ok (.putfield 149, 3) := by decide +kernel
theorem dX12_carriage_5 : decode cX12_carriage 5 = .ok (.aload_n 0, 1) := by decide +kernel
theorem dX12_carriage_6 : decode cX12_carriage 6 = .ok (.iload_n 1, 1) := by decide +kernel
theorem dX12_carriage_7 : decode cX12_carriage 7 = .ok (.iconst 0, 1) := by decide +kernel
theorem dX12_carriage_8 : decode cX12_carriage 8 = .ok (.iconst 2, 1) := by decide +kernel
theorem dX12_carriage_9 : decode cX12_carriage 9 = .ok (.invokevirtual 167, 3) := by decide +kernel
theorem dX12_carriage_12 : decode cX12_carriage 12 = .ok (.ifCond .eq 25, 3) := by decide +kernel
theorem dX12_carriage_15 : decode cX12_carriage 15 = .ok (.aload_n 0, 1) := by decide +kernel
theorem dX12_carriage_16 : decode cX12_carriage 16 = .ok (.iload_n 2, 1) := by decide +kernel
theorem dX12_carriage_17 : decode cX12_carriage 17 = .ok (.iconst 1, 1) := by decide +kernel
theorem dX12_carriage_18 : decode cX12_carriage 18 = .ok (.bipush 30, 2) := by decide +kernel
theorem dX12_carriage_20 : decode cX12_carriage 20 = .ok (.invokevirtual 167, 3) := by decide +kernel
theorem dX12_carriage_23 : decode cX12_carriage 23 = .ok (.ifCond .eq 14, 3) := by decide +kernel
theorem dX12_carriage_26 : decode cX12_carriage 26 = .ok (.aload_n 0, 1) := by decide +kernel
theorem dX12_carriage_27 : decode cX12_carriage 27 = .ok (.iload_n 3, 1) := by decide +kernel
theorem dX12_carriage_28 : decode cX12_carriage 28 = .ok (.iconst 0, 1) := by decide +kernel
theorem dX12_carriage_29 : decode cX12_carriage 29 = .ok (.bipush 30, 2) := by decide +kernel
theorem dX12_carriage_31 : decode cX12_carriage 31 = .ok (.invokevirtual 167, 3) := by decide +kernel
theorem dX12_carriage_34 : decode cX12_carriage 34 = .ok (.ifCond .ne 5, 3) := by decide +kernel
theorem dX12_carriage_37 : decode cX12_carriage 37 = .ok (.iconst 0, 1) := by decide +kernel
theorem dX12_carriage_38 : decode cX12_carriage 38 = .ok (.ireturn, 1) := by decide +kernel
theorem dX12_carriage_39 : decode cX12_carriage 39 = .ok (.aload_n 0, 1) := by decide +kernel
theorem dX12_carriage_40 : decode cX12_carriage 40 = .ok (.getfield 131, 3) := by decide +kernel
theorem dX12_carriage_43 : decode cX12_carriage 43 = .ok (.iload_n 1, 1) := by decide +kernel
theorem dX12_carriage_44 : decode cX12_carriage 44 = .ok (.iload_n 2, 1) := by decide +kernel
theorem dX12_carriage_45 : decode cX12_carriage 45 = .ok (.iconst 1, 1) := by decide +kernel
theorem dX12_carriage_46 : decode cX12_carriage 46 = .ok (.isub, 1) := by decide +kernel
theorem dX12_carriage_47 : decode cX12_carriage 47 = .ok (.iastore, 1) := by decide +kernel
theorem dX12_carriage_48 : decode cX12_carriage 48 = .ok (.aload_n 0, 1) := by decide +kernel
theorem dX12_carriage_49 : decode cX12_carriage 49 = .ok (.getfield 134, 3) := by decide +kernel
theorem dX12_carriage_52 : decode cX12_carriage 52 = .ok (.iload_n 1, 1) := by decide +kernel
theorem dX12_carriage_53 : decode cX12_carriage 53 = .ok (.iload_n 3, 1) := by decide +kernel
theorem dX12_carriage_54 : decode cX12_carriage 54 = .ok (.iastore, 1) := by decide +kernel
theorem dX12_carriage_55 : decode cX12_carriage 55 = .ok (.iconst 1, 1) := by decide +kernel
theorem dX12_carriage_56 : decode cX12_carriage 56 = .ok (.ireturn, 1) := by decide +kernel
theorem dX12_doneBy_0 : decode cX12_doneBy 0 = .ok (.iconst 0, 1) := by decide +kernel
theorem dX12_doneBy_1 : decode cX12_doneBy 1 = .ok (.istore_n 2, 1) := by decide +kernel
theorem dX12_doneBy_2 : decode cX12_doneBy 2 = .ok (.iconst 0, 1) := by decide +kernel
theorem dX12_doneBy_3 : decode cX12_doneBy 3 = .ok (.istore_n 3, 1) := by decide +kernel
theorem dX12_doneBy_4 : decode cX12_doneBy 4 = .ok (.iload_n 3, 1) := by decide +kernel
theorem dX12_doneBy_5 : decode cX12_doneBy 5 = .ok (.iconst 3, 1) := by decide +kernel
theorem dX12_doneBy_6 : decode cX12_doneBy 6 = .ok (.if_icmp .ge 40, 3) := by decide +kernel
theorem dX12_doneBy_9 : decode cX12_doneBy 9 = .ok (.aload_n 0, 1) := by decide +kernel
theorem dX12_doneBy_10 : decode cX12_doneBy 10 = .ok (.iload_n 1, 1) := by decide +kernel
theorem dX12_doneBy_11 : decode cX12_doneBy 11 = .ok (.iload_n 3, 1) := by decide +kernel
theorem dX12_doneBy_12 : decode cX12_doneBy 12 = .ok (.invokevirtual 450, 3) := by decide +kernel
theorem dX12_doneBy_15 : decode cX12_doneBy 15 = .ok (.istore 4, 2) := by decide +kernel
theorem dX12_doneBy_17 : decode cX12_doneBy 17 = .ok (.aload_n 0, 1) := by decide +kernel
theorem dX12_doneBy_18 : decode cX12_doneBy 18 = .ok (.iload_n 2, 1) := by decide +kernel
theorem dX12_doneBy_19 : decode cX12_doneBy 19 = .ok (.aload_n 0, 1) := by decide +kernel
theorem dX12_doneBy_20 : decode cX12_doneBy 20 = .ok (.getfield 134, 3) := by decide +kernel
theorem dX12_doneBy_23 : decode cX12_doneBy 23 = .ok (.iload 4, 2) := by decide +kernel
theorem dX12_doneBy_25 : decode cX12_doneBy 25 = .ok (.iaload, 1) := by decide +kernel
theorem dX12_doneBy_26 : decode cX12_doneBy 26 = .ok (.invokevirtual 434, 3) := by decide +kernel
theorem dX12_doneBy_29 : decode cX12_doneBy 29 = .ok (.aload_n 0, 1) := by decide +kernel
theorem dX12_doneBy_30 : decode cX12_doneBy 30 = .ok (.getfield 131, 3) := by decide +kernel
theorem dX12_doneBy_33 : decode cX12_doneBy 33 = .ok (.iload 4, 2) := by decide +kernel
theorem dX12_doneBy_35 : decode cX12_doneBy 35 = .ok (.iaload, 1) := by decide +kernel
theorem dX12_doneBy_36 : decode cX12_doneBy 36 = .ok (.iadd, 1) := by decide +kernel
theorem dX12_doneBy_37 : decode cX12_doneBy 37 = .ok (.iconst 1, 1) := by decide +kernel
theorem dX12_doneBy_38 : decode cX12_doneBy 38 = .ok (.iadd, 1) := by decide +kernel
theorem dX12_doneBy_39 : decode cX12_doneBy 39 = .ok (.istore_n 2, 1) := by decide +kernel
theorem dX12_doneBy_40 : decode cX12_doneBy 40 = .ok (.iinc 3 1, 3) := by decide +kernel
theorem dX12_doneBy_43 : decode cX12_doneBy 43 = .ok (.goto (-39), 3) := by decide +kernel
theorem dX12_doneBy_46 : decode cX12_doneBy 46 = .ok (.iload_n 2, 1) := by decide +kernel
theorem dX12_doneBy_47 : decode cX12_doneBy 47 = .ok (.ireturn, 1) := by decide +kernel
theorem dX12_isOrder_0 : decode cX12_isOrder 0 = .ok (.iconst 1, 1) := by decide +kernel
theorem dX12_isOrder_1 : decode cX12_isOrder 1 = .ok (.aload_n 0, 1) := by decide +kernel
theorem dX12_isOrder_2 : decode cX12_isOrder 2 = .ok (.iload_n 1, 1) := by decide +kernel
theorem dX12_isOrder_3 : decode cX12_isOrder 3 = .ok (.iconst 0, 1) := by decide +kernel
theorem dX12_isOrder_4 : decode cX12_isOrder 4 = .ok (.invokevirtual 450, 3) := by decide +kernel
theorem dX12_isOrder_7 : decode cX12_isOrder 7 = .ok (.ishl, 1) := by decide +kernel
theorem dX12_isOrder_8 : decode cX12_isOrder 8 = .ok (.iconst 1, 1) := by decide +kernel
theorem dX12_isOrder_9 : decode cX12_isOrder 9 = .ok (.aload_n 0, 1) := by decide +kernel
theorem dX12_isOrder_10 : decode cX12_isOrder 10 = .ok (.iload_n 1, 1) := by decide +kernel
theorem dX12_isOrder_11 : decode cX12_isOrder 11 = .ok (.iconst 1, 1) := by decide +kernel
theorem dX12_isOrder_12 : decode cX12_isOrder 12 = .ok (.invokevirtual 450, 3) := by decide +kernel
theorem dX12_isOrder_15 : decode cX12_isOrder 15 = .ok (.ishl, 1) := by decide +kernel
theorem dX12_isOrder_16 : decode cX12_isOrder 16 = .ok (.ior, 1) := by decide +kernel
theorem dX12_isOrder_17 : decode cX12_isOrder 17 = .ok (.iconst 1, 1) := by decide +kernel
theorem dX12_isOrder_18 : decode cX12_isOrder 18 = .ok (.aload_n 0, 1) := by decide +kernel
theorem dX12_isOrder_19 : decode cX12_isOrder 19 = .ok (.iload_n 1, 1) := by decide +kernel
theorem dX12_isOrder_20 : decode cX12_isOrder 20 = .ok (.iconst 2, 1) := by decide +kernel
theorem dX12_isOrder_21 : decode cX12_isOrder 21 = .ok (.invokevirtual 450, 3) := by decide +kernel
theorem dX12_isOrder_24 : decode cX12_isOrder 24 = .ok (.ishl, 1) := by decide +kernel
theorem dX12_isOrder_25 : decode cX12_isOrder 25 = .ok (.ior, 1) := by decide +kernel
theorem dX12_isOrder_26 : decode cX12_isOrder 26 = .ok (.bipush 7, 2) := by decide +kernel
theorem dX12_isOrder_28 : decode cX12_isOrder 28 = .ok (.if_icmp .ne 7, 3) := by decide +kernel
theorem dX12_isOrder_31 : decode cX12_isOrder 31 = .ok (.iconst 1, 1) := by decide +kernel
theorem dX12_isOrder_32 : decode cX12_isOrder 32 = .ok (.goto 4, 3) := by decide +kernel
theorem dX12_isOrder_35 : decode cX12_isOrder 35 = .ok (.iconst 0, 1) := by decide +kernel
theorem dX12_isOrder_36 : decode cX12_isOrder 36 = .ok (.ireturn, 1) := by decide +kernel
theorem dX12_down_0 : decode cX12_down 0 = .ok (.aload_n 0, 1) := by decide +kernel
theorem dX12_down_1 : decode cX12_down 1 = .ok (.iconst 0, 1) := by decide +kernel
theorem dX12_down_2 : decode cX12_down 2 = .ok (.putfield 149, 3) := by decide +kernel
theorem dX12_down_5 : decode cX12_down 5 = .ok (.aload_n 0, 1) := by decide +kernel
theorem dX12_down_6 : decode cX12_down 6 = .ok (.iload_n 1, 1) := by decide +kernel
theorem dX12_down_7 : decode cX12_down 7 = .ok (.iconst 0, 1) := by decide +kernel
theorem dX12_down_8 : decode cX12_down 8 = .ok (.iconst 1, 1) := by decide +kernel
theorem dX12_down_9 : decode cX12_down 9 = .ok (.invokevirtual 167, 3) := by decide +kernel
theorem dX12_down_12 : decode cX12_down 12 = .ok (.ifCond .ne 5, 3) := by decide +kernel
theorem dX12_down_15 : decode cX12_down 15 = .ok (.iconst (-1), 1) := by decide +kernel
theorem dX12_down_16 : decode cX12_down 16 = .ok (.ireturn, 1) := by decide +kernel
theorem dX12_down_17 : decode cX12_down 17 = .ok (.bipush 12, 2) := by decide +kernel
theorem dX12_down_19 : decode cX12_down 19 = .ok (.istore_n 2, 1) := by decide +kernel
theorem dX12_down_20 : decode cX12_down 20 = .ok (.bipush 12, 2) := by decide +kernel
theorem dX12_down_22 : decode cX12_down 22 = .ok (.istore_n 3, 1) := by decide +kernel
theorem dX12_down_23 : decode cX12_down 23 = .ok (.iload_n 3, 1) := by decide +kernel
theorem dX12_down_24 : decode cX12_down 24 = .ok (.sipush 211, 3) := by decide +kernel
theorem dX12_down_27 : decode cX12_down 27 = .ok (.if_icmp .ge 32, 3) := by decide +kernel
theorem dX12_down_30 : decode cX12_down 30 = .ok (.aload_n 0, 1) := by decide +kernel
theorem dX12_down_31 : decode cX12_down 31 = .ok (.iload_n 3, 1) := by decide +kernel
theorem dX12_down_32 : decode cX12_down 32 = .ok (.invokevirtual 510, 3) := by decide +kernel
theorem dX12_down_35 : decode cX12_down 35 = .ok (.ifCond .eq 18, 3) := by decide +kernel
theorem dX12_down_38 : decode cX12_down 38 = .ok (.aload_n 0, 1) := by decide +kernel
theorem dX12_down_39 : decode cX12_down 39 = .ok (.iload_n 3, 1) := by decide +kernel
theorem dX12_down_40 : decode cX12_down 40 = .ok (.invokevirtual 513, 3) := by decide +kernel
theorem dX12_down_43 : decode cX12_down 43 = .ok (.aload_n 0, 1) := by decide +kernel
theorem dX12_down_44 : decode cX12_down 44 = .ok (.iload_n 2, 1) := by decide +kernel
theorem dX12_down_45 : decode cX12_down 45 = .ok (.invokevirtual 513, 3) := by decide +kernel
theorem dX12_down_48 : decode cX12_down 48 = .ok (.if_icmp .ge 5, 3) := by decide +kernel
theorem dX12_down_51 : decode cX12_down 51 = .ok (.iload_n 3, 1) := by decide +kernel
theorem dX12_down_52 : decode cX12_down 52 = .ok (.istore_n 2, 1) := by decide +kernel
theorem dX12_down_53 : decode cX12_down 53 = .ok (.iinc 3 1, 3) := by decide +kernel
theorem dX12_down_56 : decode cX12_down 56 = .ok (.goto (-33), 3) := by decide +kernel
theorem dX12_down_59 : decode cX12_down 59 = .ok (.iload_n 1, 1) := by decide +kernel
theorem dX12_down_60 : decode cX12_down 60 = .ok (.ifCond .ne 7, 3) := by decide +kernel
theorem dX12_down_63 : decode cX12_down 63 = .ok (.iload_n 2, 1) := by decide +kernel
theorem dX12_down_64 : decode cX12_down 64 = .ok (.goto 8, 3) := by decide +kernel
theorem dX12_down_67 : decode cX12_down 67 = .ok (.aload_n 0, 1) := by decide +kernel
theorem dX12_down_68 : decode cX12_down 68 = .ok (.iload_n 2, 1) := by decide +kernel
theorem dX12_down_69 : decode cX12_down 69 = .ok (.invokevirtual 513, 3) := by decide +kernel
theorem dX12_down_72 : decode cX12_down 72 = .ok (.ireturn, 1) := by decide +kernel
theorem dX12_offer_0 : decode cX12_offer 0 = .ok (.aload_n 0, 1) := by decide +kernel
theorem dX12_offer_1 : decode cX12_offer 1 = .ok (.iconst 0, 1) := by decide +kernel
theorem dX12_offer_2 : decode cX12_offer 2 = .ok (.putfield 149, 3) := by decide +kernel
theorem dX12_offer_5 : decode cX12_offer 5 = .ok (.iload_n 1, 1) := by decide +kernel
theorem dX12_offer_6 : decode cX12_offer 6 = .ok (.iconst (-1), 1) := by decide +kernel
theorem dX12_offer_7 : decode cX12_offer 7 = .ok (.if_icmp .ne 10, 3) := by decide +kernel
theorem dX12_offer_10 : decode cX12_offer 10 = .ok (.aload_n 0, 1) := by decide +kernel
theorem dX12_offer_11 : decode cX12_offer 11 = .ok (.iconst 0, 1) := by decide +kernel
theorem dX12_offer_12 : decode cX12_offer 12 = .ok (.putfield 516, 3) := by decide +kernel
theorem dX12_offer_15 : decode cX12_offer 15 = .ok (.iconst 0, 1) := by decide +kernel
theorem dX12_offer_16 : decode cX12_offer 16 = .ok (.ireturn, 1) := by decide +kernel
theorem dX12_offer_17 : decode cX12_offer 17 = .ok (.aload_n 0, 1) := by decide +kernel
theorem dX12_offer_18 : decode cX12_offer 18 = .ok (.iload_n 1, 1) := by decide +kernel
theorem dX12_offer_19 : decode cX12_offer 19 = .ok (.iconst 0, 1) := by decide +kernel
theorem dX12_offer_20 : decode cX12_offer 20 = .ok (.bipush 99, 2) := by decide +kernel
theorem dX12_offer_22 : decode cX12_offer 22 = .ok (.invokevirtual 167, 3) := by decide +kernel
theorem dX12_offer_25 : decode cX12_offer 25 = .ok (.ifCond .eq 12, 3) := by decide +kernel
theorem dX12_offer_28 : decode cX12_offer 28 = .ok (.aload_n 0, 1) := by decide +kernel
theorem dX12_offer_29 : decode cX12_offer 29 = .ok (.getfield 516, 3) := by decide +kernel
theorem dX12_offer_32 : decode cX12_offer 32 = .ok (.bipush 7, 2) := by decide +kernel
theorem dX12_offer_34 : decode cX12_offer 34 = .ok (.if_icmp .ne 5, 3) := by decide +kernel
theorem dX12_offer_37 : decode cX12_offer 37 = .ok (.iconst (-1), 1) := by decide +kernel
theorem dX12_offer_38 : decode cX12_offer 38 = .ok (.ireturn, 1) := by decide +kernel
theorem dX12_offer_39 : decode cX12_offer 39 = .ok (.aload_n 0, 1) := by decide +kernel
theorem dX12_offer_40 : decode cX12_offer 40 = .ok (.getfield 137, 3) := by decide +kernel
theorem dX12_offer_43 : decode cX12_offer 43 = .ok (.aload_n 0, 1) := by decide +kernel
theorem dX12_offer_44 : decode cX12_offer 44 = .ok (.getfield 516, 3) := by decide +kernel
theorem dX12_offer_47 : decode cX12_offer 47 = .ok (.iload_n 1, 1) := by decide +kernel
theorem dX12_offer_48 : decode cX12_offer 48 = .ok (.iastore, 1) := by decide +kernel
theorem dX12_offer_49 : decode cX12_offer 49 = .ok (.aload_n 0, 1) := by decide +kernel
theorem dX12_offer_50 : decode cX12_offer 50 = .ok (.aload_n 0, 1) := by decide +kernel
theorem dX12_offer_51 : decode cX12_offer 51 = .ok (.getfield 516, 3) := by decide +kernel
theorem dX12_offer_54 : decode cX12_offer 54 = .ok (.iconst 1, 1) := by decide +kernel
theorem dX12_offer_55 : decode cX12_offer 55 = .ok (.iadd, 1) := by decide +kernel
theorem dX12_offer_56 : decode cX12_offer 56 = .ok (.putfield 516, 3) := by decide +kernel
theorem dX12_offer_59 : decode cX12_offer 59 = .ok (.aload_n 0, 1) := by decide +kernel
theorem dX12_offer_60 : decode cX12_offer 60 = .ok (.getfield 516, 3) := by decide +kernel
theorem dX12_offer_63 : decode cX12_offer 63 = .ok (.ireturn, 1) := by decide +kernel
theorem dX12_goesToNextOrder_0 : decode cX12_goesToNextOrder 0 = .ok (.aload_n 0, 1) := by decide +kernel
theorem dX12_goesToNextOrder_1 : decode cX12_goesToNextOrder 1 = .ok (.getfield 516, 3) := by decide +kernel
theorem dX12_goesToNextOrder_4 : decode cX12_goesToNextOrder 4 = .ok (.iconst 2, 1) := by decide +kernel
theorem dX12_goesToNextOrder_5 : decode cX12_goesToNextOrder 5 = .ok (.isub, 1) := by decide +kernel
theorem dX12_goesToNextOrder_6 : decode cX12_goesToNextOrder 6 = .ok (.istore_n 1, 1) := by decide +kernel
theorem dX12_goesToNextOrder_7 : decode cX12_goesToNextOrder 7 = .ok (.iload_n 1, 1) := by decide +kernel
theorem dX12_goesToNextOrder_8 : decode cX12_goesToNextOrder 8 = .ok (.ifCond .lt 27, 3) := by decide +kernel
theorem dX12_goesToNextOrder_11 : decode cX12_goesToNextOrder 11 = .ok (.aload_n 0, 1) := by decide +kernel
theorem dX12_goesToNextOrder_12 : decode cX12_goesToNextOrder 12 = .ok (.getfield 140, 3) := by decide +kernel
theorem dX12_goesToNextOrder_15 : decode cX12_goesToNextOrder 15 = .ok (.iload_n 1, 1) := by decide +kernel
theorem dX12_goesToNextOrder_16 : decode cX12_goesToNextOrder 16 = .ok (.iaload, 1) := by decide +kernel
theorem dX12_goesToNextOrder_17 : decode cX12_goesToNextOrder 17 = .ok (.aload_n 0, 1) := by decide +kernel
theorem dX12_goesToNextOrder_18 : decode cX12_goesToNextOrder 18 = .ok (.getfield 140, 3) := by decide +kernel
theorem dX12_goesToNextOrder_21 : decode cX12_goesToNextOrder 21 = .ok (.iload_n 1, 1) := by decide +kernel
theorem dX12_goesToNextOrder_22 : decode cX12_goesToNextOrder 22 = .ok (.iconst 1, 1) := by decide +kernel
theorem dX12_goesToNextOrder_23 : decode cX12_goesToNextOrder 23 = .ok (.iadd, 1) := by decide +kernel
theorem dX12_goesToNextOrder_24 : decode cX12_goesToNextOrder 24 = .ok (.iaload, 1) := by decide +kernel
theorem dX12_goesToNextOrder_25 : decode cX12_goesToNextOrder 25 = .ok (.if_icmp .le 10, 3) := by decide +kernel
theorem dX12_goesToNextOrder_28 : decode cX12_goesToNextOrder 28 = .ok (.iload_n 1, 1) := by decide +kernel
theorem dX12_goesToNextOrder_29 : decode cX12_goesToNextOrder 29 = .ok (.iconst 1, 1) := by decide +kernel
theorem dX12_goesToNextOrder_30 : decode cX12_goesToNextOrder 30 = .ok (.isub, 1) := by decide +kernel
theorem dX12_goesToNextOrder_31 : decode cX12_goesToNextOrder 31 = .ok (.istore_n 1, 1) := by decide +kernel
theorem dX12_goesToNextOrder_32 : decode cX12_goesToNextOrder 32 = .ok (.goto (-25), 3) := by decide +kernel
theorem dX12_goesToNextOrder_35 : decode cX12_goesToNextOrder 35 = .ok (.iload_n 1, 1) := by decide +kernel
theorem dX12_goesToNextOrder_36 : decode cX12_goesToNextOrder 36 = .ok (.ifCond .ge 5, 3) := by decide +kernel
theorem dX12_goesToNextOrder_39 : decode cX12_goesToNextOrder 39 = .ok (.iconst 0, 1) := by decide +kernel
theorem dX12_goesToNextOrder_40 : decode cX12_goesToNextOrder 40 = .ok (.ireturn, 1) := by decide +kernel
theorem dX12_goesToNextOrder_41 : decode cX12_goesToNextOrder 41 = .ok (.aload_n 0, 1) := by decide +kernel
theorem dX12_goesToNextOrder_42 : decode cX12_goesToNextOrder 42 = .ok (.getfield 516, 3) := by decide +kernel
theorem dX12_goesToNextOrder_45 : decode cX12_goesToNextOrder 45 = .ok (.iconst 1, 1) := by decide +kernel
theorem dX12_goesToNextOrder_46 : decode cX12_goesToNextOrder 46 = .ok (.isub, 1) := by decide +kernel
theorem dX12_goesToNextOrder_47 : decode cX12_goesToNextOrder 47 = .ok (.istore_n 2, 1) := by decide +kernel
theorem dX12_goesToNextOrder_48 : decode cX12_goesToNextOrder 48 = .ok (.aload_n 0, 1) := by decide +kernel
theorem dX12_goesToNextOrder_49 : decode cX12_goesToNextOrder 49 = .ok (.getfield 140, 3) := by decide +kernel
theorem dX12_goesToNextOrder_52 : decode cX12_goesToNextOrder 52 = .ok (.iload_n 2, 1) := by decide +kernel
theorem dX12_goesToNextOrder_53 : decode cX12_goesToNextOrder 53 = .ok (.iaload, 1) := by decide +kernel
theorem dX12_goesToNextOrder_54 : decode cX12_goesToNextOrder 54 = .ok (.aload_n 0, 1) := by decide +kernel
theorem dX12_goesToNextOrder_55 : decode cX12_goesToNextOrder 55 = .ok (.getfield 140, 3) := by decide +kernel
theorem dX12_goesToNextOrder_58 : decode cX12_goesToNextOrder 58 = .ok (.iload_n 1, 1) := by decide +kernel
theorem dX12_goesToNextOrder_59 : decode cX12_goesToNextOrder 59 = .ok (.iaload, 1) := by decide +kernel
theorem dX12_goesToNextOrder_60 : decode cX12_goesToNextOrder 60 = .ok (.if_icmp .ge 10, 3) := by decide +kernel
theorem dX12_goesToNextOrder_63 : decode cX12_goesToNextOrder 63 = .ok (.iload_n 2, 1) := by decide +kernel
theorem dX12_goesToNextOrder_64 : decode cX12_goesToNextOrder 64 = .ok (.iconst 1, 1) := by decide +kernel
theorem dX12_goesToNextOrder_65 : decode cX12_goesToNextOrder 65 = .ok (.isub, 1) := by decide +kernel
theorem dX12_goesToNextOrder_66 : decode cX12_goesToNextOrder 66 = .ok (.istore_n 2, 1) := by decide +kernel
theorem dX12_goesToNextOrder_67 : decode cX12_goesToNextOrder 67 = .ok (.goto (-19), 3) := by decide +kernel
theorem dX12_goesToNextOrder_70 : decode cX12_goesToNextOrder 70 = .ok (.aload_n 0, 1) := by decide +kernel
theorem dX12_goesToNextOrder_71 : decode cX12_goesToNextOrder 71 = .ok (.getfield 140, 3) := by decide +kernel
theorem dX12_goesToNextOrder_74 : decode cX12_goesToNextOrder 74 = .ok (.iload_n 1, 1) := by decide +kernel
theorem dX12_goesToNextOrder_75 : decode cX12_goesToNextOrder 75 = .ok (.iaload, 1) := by decide +kernel
theorem dX12_goesToNextOrder_76 : decode cX12_goesToNextOrder 76 = .ok (.istore_n 3, 1) := by decide +kernel
theorem dX12_goesToNextOrder_77 : decode cX12_goesToNextOrder 77 = .ok (.aload_n 0, 1) := by decide +kernel
theorem dX12_goesToNextOrder_78 : decode cX12_goesToNextOrder 78 = .ok (.getfield 140, 3) := by decide +kernel
theorem dX12_goesToNextOrder_81 : decode cX12_goesToNextOrder 81 = .ok (.iload_n 1, 1) := by decide +kernel
theorem dX12_goesToNextOrder_82 : decode cX12_goesToNextOrder 82 = .ok (.aload_n 0, 1) := by decide +kernel
theorem dX12_goesToNextOrder_83 : decode cX12_goesToNextOrder 83 = .ok (.getfield 140, 3) := by decide +kernel
theorem dX12_goesToNextOrder_86 : decode cX12_goesToNextOrder 86 = .ok (.iload_n 2, 1) := by decide +kernel
theorem dX12_goesToNextOrder_87 : decode cX12_goesToNextOrder 87 = .ok (.iaload, 1) := by decide +kernel
theorem dX12_goesToNextOrder_88 : decode cX12_goesToNextOrder 88 = .ok (.iastore, 1) := by decide +kernel
theorem dX12_goesToNextOrder_89 : decode cX12_goesToNextOrder 89 = .ok (.aload_n 0, 1) := by decide +kernel
theorem dX12_goesToNextOrder_90 : decode cX12_goesToNextOrder 90 = .ok (.getfield 140, 3) := by decide +kernel
theorem dX12_goesToNextOrder_93 : decode cX12_goesToNextOrder 93 = .ok (.iload_n 2, 1) := by decide +kernel
theorem dX12_goesToNextOrder_94 : decode cX12_goesToNextOrder 94 = .ok (.iload_n 3, 1) := by decide +kernel
theorem dX12_goesToNextOrder_95 : decode cX12_goesToNextOrder 95 = .ok (.iastore, 1) := by decide +kernel
theorem dX12_goesToNextOrder_96 : decode cX12_goesToNextOrder 96 = .ok (.iload_n 1, 1) := by decide +kernel
theorem dX12_goesToNextOrder_97 : decode cX12_goesToNextOrder 97 = .ok (.iconst 1, 1) := by decide +kernel
theorem dX12_goesToNextOrder_98 : decode cX12_goesToNextOrder 98 = .ok (.iadd, 1) := by decide +kernel
theorem dX12_goesToNextOrder_99 : decode cX12_goesToNextOrder 99 = .ok (.istore 4, 2) := by decide +kernel
theorem dX12_goesToNextOrder_101 : decode cX12_goesToNextOrder 101 = .ok (.aload_n 0, 1) := by decide +kernel
theorem dX12_goesToNextOrder_102 : decode cX12_goesToNextOrder 102 = .ok (.getfield 516, 3) := by decide +kernel
theorem dX12_goesToNextOrder_105 : decode cX12_goesToNextOrder 105 = .ok (.iconst 1, 1) := by decide +kernel
theorem dX12_goesToNextOrder_106 : decode cX12_goesToNextOrder 106 = .ok (.isub, 1) := by decide +kernel
theorem dX12_goesToNextOrder_107 : decode cX12_goesToNextOrder 107 = .ok (.istore 5, 2) := by decide +kernel
theorem dX12_goesToNextOrder_109 : decode cX12_goesToNextOrder 109 = .ok (.iload 4, 2) := by decide +kernel
theorem dX12_goesToNextOrder_111 : decode cX12_goesToNextOrder 111 = .ok (.iload 5, 2) := by decide +kernel
theorem dX12_goesToNextOrder_113 : decode cX12_goesToNextOrder 113 = .ok (.if_icmp .ge 45, 3) := by decide +kernel
theorem dX12_goesToNextOrder_116 : decode cX12_goesToNextOrder 116 = .ok (.aload_n 0, 1) := by decide +kernel
theorem dX12_goesToNextOrder_117 : decode cX12_goesToNextOrder 117 = .ok (.getfield 140, 3) := by decide +kernel
theorem dX12_goesToNextOrder_120 : decode cX12_goesToNextOrder 120 = .ok (.iload 4, 2) := by decide +kernel
theorem dX12_goesToNextOrder_122 : decode cX12_goesToNextOrder 122 = .ok (.iaload, 1) := by decide +kernel
theorem dX12_goesToNextOrder_123 : decode cX12_goesToNextOrder 123 = .ok (.istore_n 3, 1) := by decide +kernel
theorem dX12_goesToNextOrder_124 : decode cX12_goesToNextOrder 124 = .ok (.aload_n 0, 1) := by decide +kernel
theorem dX12_goesToNextOrder_125 : decode cX12_goesToNextOrder 125 = .ok (.getfield 140, 3) := by decide +kernel
theorem dX12_goesToNextOrder_128 : decode cX12_goesToNextOrder 128 = .ok (.iload 4, 2) := by decide +kernel
theorem dX12_goesToNextOrder_130 : decode cX12_goesToNextOrder 130 = .ok (.aload_n 0, 1) := by decide +kernel
theorem dX12_goesToNextOrder_131 : decode cX12_goesToNextOrder 131 = .ok (.getfield 140, 3) := by decide +kernel
theorem dX12_goesToNextOrder_134 : decode cX12_goesToNextOrder 134 = .ok (.iload 5, 2) := by decide +kernel
theorem dX12_goesToNextOrder_136 : decode cX12_goesToNextOrder 136 = .ok (.iaload, 1) := by decide +kernel
theorem dX12_goesToNextOrder_137 : decode cX12_goesToNextOrder 137 = .ok (.iastore, 1) := by decide +kernel
theorem dX12_goesToNextOrder_138 : decode cX12_goesToNextOrder 138 = .ok (.aload_n 0, 1) := by decide +kernel
theorem dX12_goesToNextOrder_139 : decode cX12_goesToNextOrder 139 = .ok (.getfield 140, 3) := by decide +kernel
theorem dX12_goesToNextOrder_142 : decode cX12_goesToNextOrder 142 = .ok (.iload 5, 2) := by decide +kernel
theorem dX12_goesToNextOrder_144 : decode cX12_goesToNextOrder 144 = .ok (.iload_n 3, 1) := by decide +kernel
theorem dX12_goesToNextOrder_145 : decode cX12_goesToNextOrder 145 = .ok (.iastore, 1) := by decide +kernel
theorem dX12_goesToNextOrder_146 : decode cX12_goesToNextOrder 146 = .ok (.iload 5, 2) := by decide +kernel
theorem dX12_goesToNextOrder_148 : decode cX12_goesToNextOrder 148 = .ok (.iconst 1, 1) := by decide +kernel
theorem dX12_goesToNextOrder_149 : decode cX12_goesToNextOrder 149 = .ok (.isub, 1) := by decide +kernel
theorem dX12_goesToNextOrder_150 : decode cX12_goesToNextOrder 150 = .ok (.istore 5, 2) := by decide +kernel
theorem dX12_goesToNextOrder_152 : decode cX12_goesToNextOrder 152 = .ok (.iinc 4 1, 3) := by decide +kernel
theorem dX12_goesToNextOrder_155 : decode cX12_goesToNextOrder 155 = .ok (.goto (-46), 3) := by decide +kernel
theorem dX12_goesToNextOrder_158 : decode cX12_goesToNextOrder 158 = .ok (.iconst 1, 1) := by decide +kernel
theorem dX12_goesToNextOrder_159 : decode cX12_goesToNextOrder 159 = .ok (.ireturn, 1) := by decide +kernel
theorem dX12_takenBy_0 : decode cX12_takenBy 0 = .ok (.iconst (-1), 1) := by decide +kernel
theorem dX12_takenBy_1 : decode cX12_takenBy 1 = .ok (.istore_n 2, 1) := by decide +kernel
theorem dX12_takenBy_2 : decode cX12_takenBy 2 = .ok (.iconst 0, 1) := by decide +kernel
theorem dX12_takenBy_3 : decode cX12_takenBy 3 = .ok (.istore_n 3, 1) := by decide +kernel
theorem dX12_takenBy_4 : decode cX12_takenBy 4 = .ok (.iload_n 3, 1) := by decide +kernel
theorem dX12_takenBy_5 : decode cX12_takenBy 5 = .ok (.iload_n 1, 1) := by decide +kernel
theorem dX12_takenBy_6 : decode cX12_takenBy 6 = .ok (.if_icmp .ge 26, 3) := by decide +kernel
theorem dX12_takenBy_9 : decode cX12_takenBy 9 = .ok (.aload_n 0, 1) := by decide +kernel
theorem dX12_takenBy_10 : decode cX12_takenBy 10 = .ok (.iload_n 2, 1) := by decide +kernel
theorem dX12_takenBy_11 : decode cX12_takenBy 11 = .ok (.aload_n 0, 1) := by decide +kernel
theorem dX12_takenBy_12 : decode cX12_takenBy 12 = .ok (.getfield 137, 3) := by decide +kernel
theorem dX12_takenBy_15 : decode cX12_takenBy 15 = .ok (.aload_n 0, 1) := by decide +kernel
theorem dX12_takenBy_16 : decode cX12_takenBy 16 = .ok (.getfield 140, 3) := by decide +kernel
theorem dX12_takenBy_19 : decode cX12_takenBy 19 = .ok (.iload_n 3, 1) := by decide +kernel
theorem dX12_takenBy_20 : decode cX12_takenBy 20 = .ok (.iaload, 1) := by decide +kernel
theorem dX12_takenBy_21 : decode cX12_takenBy 21 = .ok (.iaload, 1) := by decide +kernel
theorem dX12_takenBy_22 : decode cX12_takenBy 22 = .ok (.invokevirtual 434, 3) := by decide +kernel
theorem dX12_takenBy_25 : decode cX12_takenBy 25 = .ok (.istore_n 2, 1) := by decide +kernel
theorem dX12_takenBy_26 : decode cX12_takenBy 26 = .ok (.iinc 3 1, 3) := by decide +kernel
theorem dX12_takenBy_29 : decode cX12_takenBy 29 = .ok (.goto (-25), 3) := by decide +kernel
theorem dX12_takenBy_32 : decode cX12_takenBy 32 = .ok (.iload_n 1, 1) := by decide +kernel
theorem dX12_takenBy_33 : decode cX12_takenBy 33 = .ok (.istore_n 3, 1) := by decide +kernel
theorem dX12_takenBy_34 : decode cX12_takenBy 34 = .ok (.iload_n 3, 1) := by decide +kernel
theorem dX12_takenBy_35 : decode cX12_takenBy 35 = .ok (.aload_n 0, 1) := by decide +kernel
theorem dX12_takenBy_36 : decode cX12_takenBy 36 = .ok (.getfield 516, 3) := by decide +kernel
theorem dX12_takenBy_39 : decode cX12_takenBy 39 = .ok (.if_icmp .ge 36, 3) := by decide +kernel
theorem dX12_takenBy_42 : decode cX12_takenBy 42 = .ok (.aload_n 0, 1) := by decide +kernel
theorem dX12_takenBy_43 : decode cX12_takenBy 43 = .ok (.getfield 137, 3) := by decide +kernel
theorem dX12_takenBy_46 : decode cX12_takenBy 46 = .ok (.aload_n 0, 1) := by decide +kernel
theorem dX12_takenBy_47 : decode cX12_takenBy 47 = .ok (.getfield 140, 3) := by decide +kernel
theorem dX12_takenBy_50 : decode cX12_takenBy 50 = .ok (.iload_n 3, 1) := by decide +kernel
theorem dX12_takenBy_51 : decode cX12_takenBy 51 = .ok (.iaload, 1) := by decide +kernel
theorem dX12_takenBy_52 : decode cX12_takenBy 52 = .ok (.iaload, 1) := by decide +kernel
theorem dX12_takenBy_53 : decode cX12_takenBy 53 = .ok (.iload_n 2, 1) := by decide +kernel
theorem dX12_takenBy_54 : decode cX12_takenBy 54 = .ok (.if_icmp .le 15, 3) := by decide +kernel
theorem dX12_takenBy_57 : decode cX12_takenBy 57 = .ok (.aload_n 0, 1) := by decide +kernel
theorem dX12_takenBy_58 : decode cX12_takenBy 58 = .ok (.getfield 137, 3) := by decide +kernel
theorem dX12_takenBy_61 : decode cX12_takenBy 61 = .ok (.aload_n 0, 1) := by decide +kernel
theorem dX12_takenBy_62 : decode cX12_takenBy 62 = .ok (.getfield 140, 3) := by decide +kernel
theorem dX12_takenBy_65 : decode cX12_takenBy 65 = .ok (.iload_n 3, 1) := by decide +kernel
theorem dX12_takenBy_66 : decode cX12_takenBy 66 = .ok (.iaload, 1) := by decide +kernel
theorem dX12_takenBy_67 : decode cX12_takenBy 67 = .ok (.iaload, 1) := by decide +kernel
theorem dX12_takenBy_68 : decode cX12_takenBy 68 = .ok (.ireturn, 1) := by decide +kernel
theorem dX12_takenBy_69 : decode cX12_takenBy 69 = .ok (.iinc 3 1, 3) := by decide +kernel
theorem dX12_takenBy_72 : decode cX12_takenBy 72 = .ok (.goto (-38), 3) := by decide +kernel
theorem dX12_takenBy_75 : decode cX12_takenBy 75 = .ok (.aload_n 0, 1) := by decide +kernel
theorem dX12_takenBy_76 : decode cX12_takenBy 76 = .ok (.getfield 137, 3) := by decide +kernel
theorem dX12_takenBy_79 : decode cX12_takenBy 79 = .ok (.aload_n 0, 1) := by decide +kernel
theorem dX12_takenBy_80 : decode cX12_takenBy 80 = .ok (.getfield 140, 3) := by decide +kernel
theorem dX12_takenBy_83 : decode cX12_takenBy 83 = .ok (.aload_n 0, 1) := by decide +kernel
theorem dX12_takenBy_84 : decode cX12_takenBy 84 = .ok (.getfield 516, 3) := by decide +kernel
theorem dX12_takenBy_87 : decode cX12_takenBy 87 = .ok (.iconst 1, 1) := by decide +kernel
theorem dX12_takenBy_88 : decode cX12_takenBy 88 = .ok (.isub, 1) := by decide +kernel
theorem dX12_takenBy_89 : decode cX12_takenBy 89 = .ok (.iaload, 1) := by decide +kernel
theorem dX12_takenBy_90 : decode cX12_takenBy 90 = .ok (.iaload, 1) := by decide +kernel
theorem dX12_takenBy_91 : decode cX12_takenBy 91 = .ok (.ireturn, 1) := by decide +kernel
theorem dX12_findsGood_0 : decode cX12_findsGood 0 = .ok (.iconst 0, 1) := by decide +kernel
theorem dX12_findsGood_1 : decode cX12_findsGood 1 = .ok (.istore_n 1, 1) := by decide +kernel
theorem dX12_findsGood_2 : decode cX12_findsGood 2 = .ok (.iconst 0, 1) := by decide +kernel
theorem dX12_findsGood_3 : decode cX12_findsGood 3 = .ok (.istore_n 2, 1) := by decide +kernel
theorem dX12_findsGood_4 : decode cX12_findsGood 4 = .ok (.iload_n 2, 1) := by decide +kernel
theorem dX12_findsGood_5 : decode cX12_findsGood 5 = .ok (.aload_n 0, 1) := by decide +kernel
theorem dX12_findsGood_6 : decode cX12_findsGood 6 = .ok (.getfield 516, 3) := by decide +kernel
theorem dX12_findsGood_9 : decode cX12_findsGood 9 = .ok (.if_icmp .ge 35, 3) := by decide +kernel
theorem dX12_findsGood_12 : decode cX12_findsGood 12 = .ok (.aload_n 0, 1) := by decide +kernel
theorem dX12_findsGood_13 : decode cX12_findsGood 13 = .ok (.iload_n 1, 1) := by decide +kernel
theorem dX12_findsGood_14 : decode cX12_findsGood 14 = .ok (.aload_n 0, 1) := by decide +kernel
theorem dX12_findsGood_15 : decode cX12_findsGood 15 = .ok (.getfield 137, 3) := by decide +kernel
theorem dX12_findsGood_18 : decode cX12_findsGood 18 = .ok (.iload_n 2, 1) := by decide +kernel
theorem dX12_findsGood_19 : decode cX12_findsGood 19 = .ok (.iaload, 1) := by decide +kernel
theorem dX12_findsGood_20 : decode cX12_findsGood 20 = .ok (.invokevirtual 434, 3) := by decide +kernel
theorem dX12_findsGood_23 : decode cX12_findsGood 23 = .ok (.istore_n 1, 1) := by decide +kernel
theorem dX12_findsGood_24 : decode cX12_findsGood 24 = .ok (.aload_n 0, 1) := by decide +kernel
theorem dX12_findsGood_25 : decode cX12_findsGood 25 = .ok (.getfield 140, 3) := by decide +kernel
theorem dX12_findsGood_28 : decode cX12_findsGood 28 = .ok (.iload_n 2, 1) := by decide +kernel
theorem dX12_findsGood_29 : decode cX12_findsGood 29 = .ok (.iload_n 2, 1) := by decide +kernel
theorem dX12_findsGood_30 : decode cX12_findsGood 30 = .ok (.iastore, 1) := by decide +kernel
theorem dX12_findsGood_31 : decode cX12_findsGood 31 = .ok (.aload_n 0, 1) := by decide +kernel
theorem dX12_findsGood_32 : decode cX12_findsGood 32 = .ok (.getfield 143, 3) := by decide +kernel
theorem dX12_findsGood_35 : decode cX12_findsGood 35 = .ok (.iload_n 2, 1) := by decide +kernel
theorem dX12_findsGood_36 : decode cX12_findsGood 36 = .ok (.iconst 0, 1) := by decide +kernel
theorem dX12_findsGood_37 : decode cX12_findsGood 37 = .ok (.iastore, 1) := by decide +kernel
theorem dX12_findsGood_38 : decode cX12_findsGood 38 = .ok (.iinc 2 1, 3) := by decide +kernel
theorem dX12_findsGood_41 : decode cX12_findsGood 41 = .ok (.goto (-37), 3) := by decide +kernel
theorem dX12_findsGood_44 : decode cX12_findsGood 44 = .ok (.iconst 1, 1) := by decide +kernel
theorem dX12_findsGood_45 : decode cX12_findsGood 45 = .ok (.istore_n 2, 1) := by decide +kernel
theorem dX12_findsGood_46 : decode cX12_findsGood 46 = .ok (.iload_n 2, 1) := by decide +kernel
theorem dX12_findsGood_47 : decode cX12_findsGood 47 = .ok (.ifCond .eq 50, 3) := by decide +kernel
theorem dX12_findsGood_50 : decode cX12_findsGood 50 = .ok (.iconst 0, 1) := by decide +kernel
theorem dX12_findsGood_51 : decode cX12_findsGood 51 = .ok (.istore_n 3, 1) := by decide +kernel
theorem dX12_findsGood_52 : decode cX12_findsGood 52 = .ok (.iload_n 3, 1) := by decide +kernel
theorem dX12_findsGood_53 : decode cX12_findsGood 53 = .ok (.aload_n 0, 1) := by decide +kernel
theorem dX12_findsGood_54 : decode cX12_findsGood 54 = .ok (.getfield 516, 3) := by decide +kernel
theorem dX12_findsGood_57 : decode cX12_findsGood 57 = .ok (.if_icmp .ge 32, 3) := by decide +kernel
theorem dX12_findsGood_60 : decode cX12_findsGood 60 = .ok (.aload_n 0, 1) := by decide +kernel
theorem dX12_findsGood_61 : decode cX12_findsGood 61 = .ok (.iload_n 3, 1) := by decide +kernel
theorem dX12_findsGood_62 : decode cX12_findsGood 62 = .ok (.invokevirtual 519, 3) := by decide +kernel
theorem dX12_findsGood_65 : decode cX12_findsGood 65 = .ok (.iload_n 1, 1) := by decide +kernel
theorem dX12_findsGood_66 : decode cX12_findsGood 66 = .ok (.if_icmp .ne 17, 3) := by decide +kernel
theorem dX12_findsGood_69 : decode cX12_findsGood 69 = .ok (.aload_n 0, 1) := by decide +kernel
theorem dX12_findsGood_70 : decode cX12_findsGood 70 = .ok (.getfield 143, 3) := by decide +kernel
theorem dX12_findsGood_73 : decode cX12_findsGood 73 = .ok (.iload_n 3, 1) := by decide +kernel
theorem dX12_findsGood_74 : decode cX12_findsGood 74 = .ok (.aload_n 0, 1) := by decide +kernel
theorem dX12_findsGood_75 : decode cX12_findsGood 75 = .ok (.getfield 143, 3) := by decide +kernel
theorem dX12_findsGood_78 : decode cX12_findsGood 78 = .ok (.iload_n 3, 1) := by decide +kernel
theorem dX12_findsGood_79 : decode cX12_findsGood 79 = .ok (.iaload, 1) := by decide +kernel
theorem dX12_findsGood_80 : decode cX12_findsGood 80 = .ok (.iconst 1, 1) := by decide +kernel
theorem dX12_findsGood_81 : decode cX12_findsGood 81 = .ok (.iadd, 1) := by decide +kernel
theorem dX12_findsGood_82 : decode cX12_findsGood 82 = .ok (.iastore, 1) := by decide +kernel
theorem dX12_findsGood_83 : decode cX12_findsGood 83 = .ok (.iinc 3 1, 3) := by decide +kernel
theorem dX12_findsGood_86 : decode cX12_findsGood 86 = .ok (.goto (-34), 3) := by decide +kernel
theorem dX12_findsGood_89 : decode cX12_findsGood 89 = .ok (.aload_n 0, 1) := by decide +kernel
theorem dX12_findsGood_90 : decode cX12_findsGood 90 = .ok (.invokevirtual 522, 3) := by decide +kernel
theorem dX12_findsGood_93 : decode cX12_findsGood 93 = .ok (.istore_n 2, 1) := by decide +kernel
theorem dX12_findsGood_94 : decode cX12_findsGood 94 = .ok (.goto (-48), 3) := by decide +kernel
theorem dX12_findsGood_97 : decode cX12_findsGood 97 = .ok (.return_, 1) := by decide +kernel
theorem dX12_stop_0 : decode cX12_stop 0 = .ok (.aload_n 0, 1) := by decide +kernel
theorem dX12_stop_1 : decode cX12_stop 1 = .ok (.iconst 0, 1) := by decide +kernel
theorem dX12_stop_2 : decode cX12_stop 2 = .ok (.putfield 149, 3) := by decide +kernel
theorem dX12_stop_5 : decode cX12_stop 5 = .ok (.aload_n 0, 1) := by decide +kernel
theorem dX12_stop_6 : decode cX12_stop 6 = .ok (.getfield 516, 3) := by decide +kernel
theorem dX12_stop_9 : decode cX12_stop 9 = .ok (.ifCond .eq 13, 3) := by decide +kernel
theorem dX12_stop_12 : decode cX12_stop 12 = .ok (.aload_n 0, 1) := by decide +kernel
theorem dX12_stop_13 : decode cX12_stop 13 = .ok (.iload_n 1, 1) := by decide +kernel
theorem dX12_stop_14 : decode cX12_stop 14 = .ok (.iconst 0, 1) := by decide +kernel
theorem dX12_stop_15 : decode cX12_stop 15 = .ok (.iconst 1, 1) := by decide +kernel
theorem dX12_stop_16 : decode cX12_stop 16 = .ok (.invokevirtual 167, 3) := by decide +kernel
theorem dX12_stop_19 : decode cX12_stop 19 = .ok (.ifCond .ne 5, 3) := by decide +kernel
theorem dX12_stop_22 : decode cX12_stop 22 = .ok (.iconst (-1), 1) := by decide +kernel
theorem dX12_stop_23 : decode cX12_stop 23 = .ok (.ireturn, 1) := by decide +kernel
theorem dX12_stop_24 : decode cX12_stop 24 = .ok (.aload_n 0, 1) := by decide +kernel
theorem dX12_stop_25 : decode cX12_stop 25 = .ok (.invokevirtual 525, 3) := by decide +kernel
theorem dX12_stop_28 : decode cX12_stop 28 = .ok (.iconst 0, 1) := by decide +kernel
theorem dX12_stop_29 : decode cX12_stop 29 = .ok (.istore_n 2, 1) := by decide +kernel
theorem dX12_stop_30 : decode cX12_stop 30 = .ok (.iconst 1, 1) := by decide +kernel
theorem dX12_stop_31 : decode cX12_stop 31 = .ok (.istore_n 3, 1) := by decide +kernel
theorem dX12_stop_32 : decode cX12_stop 32 = .ok (.iload_n 3, 1) := by decide +kernel
theorem dX12_stop_33 : decode cX12_stop 33 = .ok (.aload_n 0, 1) := by decide +kernel
theorem dX12_stop_34 : decode cX12_stop 34 = .ok (.getfield 516, 3) := by decide +kernel
theorem dX12_stop_37 : decode cX12_stop 37 = .ok (.if_icmp .ge 26, 3) := by decide +kernel
theorem dX12_stop_40 : decode cX12_stop 40 = .ok (.aload_n 0, 1) := by decide +kernel
theorem dX12_stop_41 : decode cX12_stop 41 = .ok (.getfield 143, 3) := by decide +kernel
theorem dX12_stop_44 : decode cX12_stop 44 = .ok (.iload_n 3, 1) := by decide +kernel
theorem dX12_stop_45 : decode cX12_stop 45 = .ok (.iaload, 1) := by decide +kernel
theorem dX12_stop_46 : decode cX12_stop 46 = .ok (.aload_n 0, 1) := by decide +kernel
theorem dX12_stop_47 : decode cX12_stop 47 = .ok (.getfield 143, 3) := by decide +kernel
theorem dX12_stop_50 : decode cX12_stop 50 = .ok (.iload_n 2, 1) := by decide +kernel
theorem dX12_stop_51 : decode cX12_stop 51 = .ok (.iaload, 1) := by decide +kernel
theorem dX12_stop_52 : decode cX12_stop 52 = .ok (.if_icmp .le 5, 3) := by decide +kernel
theorem dX12_stop_55 : decode cX12_stop 55 = .ok (.iload_n 3, 1) := by decide +kernel
theorem dX12_stop_56 : decode cX12_stop 56 = .ok (.istore_n 2, 1) := by decide +kernel
theorem dX12_stop_57 : decode cX12_stop 57 = .ok (.iinc 3 1, 3) := by decide +kernel
theorem dX12_stop_60 : decode cX12_stop 60 = .ok (.goto (-28), 3) := by decide +kernel
theorem dX12_stop_63 : decode cX12_stop 63 = .ok (.iload_n 1, 1) := by decide +kernel
theorem dX12_stop_64 : decode cX12_stop 64 = .ok (.ifCond .ne 7, 3) := by decide +kernel
theorem dX12_stop_67 : decode cX12_stop 67 = .ok (.iload_n 2, 1) := by decide +kernel
theorem dX12_stop_68 : decode cX12_stop 68 = .ok (.goto 9, 3) := by decide +kernel
theorem dX12_stop_71 : decode cX12_stop 71 = .ok (.aload_n 0, 1) := by decide +kernel
theorem dX12_stop_72 : decode cX12_stop 72 = .ok (.getfield 143, 3) := by decide +kernel
theorem dX12_stop_75 : decode cX12_stop 75 = .ok (.iload_n 2, 1) := by decide +kernel
theorem dX12_stop_76 : decode cX12_stop 76 = .ok (.iaload, 1) := by decide +kernel
theorem dX12_stop_77 : decode cX12_stop 77 = .ok (.ireturn, 1) := by decide +kernel
theorem dX12_restOf_0 : decode cX12_restOf 0 = .ok (.iload_n 1, 1) := by decide +kernel
theorem dX12_restOf_1 : decode cX12_restOf 1 = .ok (.iload_n 2, 1) := by decide +kernel
theorem dX12_restOf_2 : decode cX12_restOf 2 = .ok (.if_icmp .ne 17, 3) := by decide +kernel
theorem dX12_restOf_5 : decode cX12_restOf 5 = .ok (.aload_n 0, 1) := by decide +kernel
theorem dX12_restOf_6 : decode cX12_restOf 6 = .ok (.getfield 7, 3) := by decide +kernel
theorem dX12_restOf_9 : decode cX12_restOf 9 = .ok (.bipush 33, 2) := by decide +kernel
theorem dX12_restOf_11 : decode cX12_restOf 11 = .ok (.iload_n 1, 1) := by decide +kernel
theorem dX12_restOf_12 : decode cX12_restOf 12 = .ok (.iadd, 1) := by decide +kernel
theorem dX12_restOf_13 : decode cX12_restOf 13 = .ok (.iaload, 1) := by decide +kernel
theorem dX12_restOf_14 : decode cX12_restOf 14 = .ok (.iload_n 3, 1) := by decide +kernel
theorem dX12_restOf_15 : decode cX12_restOf 15 = .ok (.isub, 1) := by decide +kernel
theorem dX12_restOf_16 : decode cX12_restOf 16 = .ok (.goto 12, 3) := by decide +kernel
theorem dX12_restOf_19 : decode cX12_restOf 19 = .ok (.aload_n 0, 1) := by decide +kernel
theorem dX12_restOf_20 : decode cX12_restOf 20 = .ok (.getfield 7, 3) := by decide +kernel
theorem dX12_restOf_23 : decode cX12_restOf 23 = .ok (.bipush 33, 2) := by decide +kernel
theorem dX12_restOf_25 : decode cX12_restOf 25 = .ok (.iload_n 1, 1) := by decide +kernel
theorem dX12_restOf_26 : decode cX12_restOf 26 = .ok (.iadd, 1) := by decide +kernel
theorem dX12_restOf_27 : decode cX12_restOf 27 = .ok (.iaload, 1) := by decide +kernel
theorem dX12_restOf_28 : decode cX12_restOf 28 = .ok (.iconst 4, 1) := by decide +kernel
theorem dX12_restOf_29 : decode cX12_restOf 29 = .ok (.irem, 1) := by decide +kernel
theorem dX12_restOf_30 : decode cX12_restOf 30 = .ok (.ireturn, 1) := by decide +kernel
theorem dX12_isLost_0 : decode cX12_isLost 0 = .ok (.iconst 0, 1) := by decide +kernel
theorem dX12_isLost_1 : decode cX12_isLost 1 = .ok (.istore_n 3, 1) := by decide +kernel
theorem dX12_isLost_2 : decode cX12_isLost 2 = .ok (.iconst 0, 1) := by decide +kernel
theorem dX12_isLost_3 : decode cX12_isLost 3 = .ok (.istore 4, 2) := by decide +kernel
theorem dX12_isLost_5 : decode cX12_isLost 5 = .ok (.iconst 0, 1) := by decide +kernel
theorem dX12_isLost_6 : decode cX12_isLost 6 = .ok (.istore 5, 2) := by decide +kernel
theorem dX12_isLost_8 : decode cX12_isLost 8 = .ok (.iload 5, 2) := by decide +kernel
theorem dX12_isLost_10 : decode cX12_isLost 10 = .ok (.aload_n 0, 1) := by decide +kernel
theorem dX12_isLost_11 : decode cX12_isLost 11 = .ok (.getfield 164, 3) := by decide +kernel
theorem dX12_isLost_14 : decode cX12_isLost 14 = .ok (.if_icmp .ge 35, 3) := by decide +kernel
theorem dX12_isLost_17 : decode cX12_isLost 17 = .ok (.iload_n 3, 1) := by decide +kernel
theorem dX12_isLost_18 : decode cX12_isLost 18 = .ok (.aload_n 0, 1) := by decide +kernel
theorem dX12_isLost_19 : decode cX12_isLost 19 = .ok (.iload 5, 2) := by decide +kernel
theorem dX12_isLost_21 : decode cX12_isLost 21 = .ok (.iload_n 1, 1) := by decide +kernel
theorem dX12_isLost_22 : decode cX12_isLost 22 = .ok (.iload_n 2, 1) := by decide +kernel
theorem dX12_isLost_23 : decode cX12_isLost 23 = .ok (.invokevirtual 528, 3) := by decide +kernel
theorem dX12_isLost_26 : decode cX12_isLost 26 = .ok (.ixor, 1) := by decide +kernel
theorem dX12_isLost_27 : decode cX12_isLost 27 = .ok (.istore_n 3, 1) := by decide +kernel
theorem dX12_isLost_28 : decode cX12_isLost 28 = .ok (.aload_n 0, 1) := by decide +kernel
theorem dX12_isLost_29 : decode cX12_isLost 29 = .ok (.iload 5, 2) := by decide +kernel
theorem dX12_isLost_31 : decode cX12_isLost 31 = .ok (.iload_n 1, 1) := by decide +kernel
theorem dX12_isLost_32 : decode cX12_isLost 32 = .ok (.iload_n 2, 1) := by decide +kernel
theorem dX12_isLost_33 : decode cX12_isLost 33 = .ok (.invokevirtual 528, 3) := by decide +kernel
theorem dX12_isLost_36 : decode cX12_isLost 36 = .ok (.iconst 1, 1) := by decide +kernel
theorem dX12_isLost_37 : decode cX12_isLost 37 = .ok (.if_icmp .le 6, 3) := by decide +kernel
theorem dX12_isLost_40 : decode cX12_isLost 40 = .ok (.iconst 1, 1) := by decide +kernel
theorem dX12_isLost_41 : decode cX12_isLost 41 = .ok (.istore 4, 2) := by decide +kernel
theorem dX12_isLost_43 : decode cX12_isLost 43 = .ok (.iinc 5 1, 3) := by decide +kernel
theorem dX12_isLost_46 : decode cX12_isLost 46 = .ok (.goto (-38), 3) := by decide +kernel
theorem dX12_isLost_49 : decode cX12_isLost 49 = .ok (.iload 4, 2) := by decide +kernel
theorem dX12_isLost_51 : decode cX12_isLost 51 = .ok (.ifCond .eq 15, 3) := by decide +kernel
theorem dX12_isLost_54 : decode cX12_isLost 54 = .ok (.iload_n 3, 1) := by decide +kernel
theorem dX12_isLost_55 : decode cX12_isLost 55 = .ok (.ifCond .ne 7, 3) := by decide +kernel
theorem dX12_isLost_58 : decode cX12_isLost 58 = .ok (.iconst 1, 1) := by decide +kernel
theorem dX12_isLost_59 : decode cX12_isLost 59 = .ok (.goto 17, 3) := by decide +kernel
theorem dX12_isLost_62 : decode cX12_isLost 62 = .ok (.iconst 0, 1) := by decide +kernel
theorem dX12_isLost_63 : decode cX12_isLost 63 = .ok (.goto 13, 3) := by decide +kernel
theorem dX12_isLost_66 : decode cX12_isLost 66 = .ok (.iload_n 3, 1) := by decide +kernel
theorem dX12_isLost_67 : decode cX12_isLost 67 = .ok (.iconst 1, 1) := by decide +kernel
theorem dX12_isLost_68 : decode cX12_isLost 68 = .ok (.if_icmp .ne 7, 3) := by decide +kernel
theorem dX12_isLost_71 : decode cX12_isLost 71 = .ok (.iconst 1, 1) := by decide +kernel
theorem dX12_isLost_72 : decode cX12_isLost 72 = .ok (.goto 4, 3) := by decide +kernel
theorem dX12_isLost_75 : decode cX12_isLost 75 = .ok (.iconst 0, 1) := by decide +kernel
theorem dX12_isLost_76 : decode cX12_isLost 76 = .ok (.ireturn, 1) := by decide +kernel
theorem dX12_game_0 : decode cX12_game 0 = .ok (.aload_n 0, 1) := by decide +kernel
theorem dX12_game_1 : decode cX12_game 1 = .ok (.iconst 0, 1) := by decide +kernel
theorem dX12_game_2 : decode cX12_game 2 = .ok (.putfield 149, 3) := by decide +kernel
theorem dX12_game_5 : decode cX12_game 5 = .ok (.aload_n 0, 1) := by decide +kernel
theorem dX12_game_6 : decode cX12_game 6 = .ok (.iload_n 1, 1) := by decide +kernel
theorem dX12_game_7 : decode cX12_game 7 = .ok (.iconst 0, 1) := by decide +kernel
theorem dX12_game_8 : decode cX12_game 8 = .ok (.iconst 1, 1) := by decide +kernel
theorem dX12_game_9 : decode cX12_game 9 = .ok (.invokevirtual 167, 3) := by decide +kernel
theorem dX12_game_12 : decode cX12_game 12 = .ok (.ifCond .ne 5, 3) := by decide +kernel
theorem dX12_game_15 : decode cX12_game 15 = .ok (.iconst (-1), 1) := by decide +kernel
theorem dX12_game_16 : decode cX12_game 16 = .ok (.ireturn, 1) := by decide +kernel
theorem dX12_game_17 : decode cX12_game 17 = .ok (.iconst 0, 1) := by decide +kernel
theorem dX12_game_18 : decode cX12_game 18 = .ok (.istore_n 2, 1) := by decide +kernel
theorem dX12_game_19 : decode cX12_game 19 = .ok (.iload_n 2, 1) := by decide +kernel
theorem dX12_game_20 : decode cX12_game 20 = .ok (.aload_n 0, 1) := by decide +kernel
theorem dX12_game_21 : decode cX12_game 21 = .ok (.getfield 164, 3) := by decide +kernel
theorem dX12_game_24 : decode cX12_game 24 = .ok (.if_icmp .ge 54, 3) := by decide +kernel
theorem dX12_game_27 : decode cX12_game 27 = .ok (.iconst 1, 1) := by decide +kernel
theorem dX12_game_28 : decode cX12_game 28 = .ok (.istore_n 3, 1) := by decide +kernel
theorem dX12_game_29 : decode cX12_game 29 = .ok (.iload_n 3, 1) := by decide +kernel
theorem dX12_game_30 : decode cX12_game 30 = .ok (.aload_n 0, 1) := by decide +kernel
theorem dX12_game_31 : decode cX12_game 31 = .ok (.iconst 3, 1) := by decide +kernel
theorem dX12_game_32 : decode cX12_game 32 = .ok (.aload_n 0, 1) := by decide +kernel
theorem dX12_game_33 : decode cX12_game 33 = .ok (.getfield 7, 3) := by decide +kernel
theorem dX12_game_36 : decode cX12_game 36 = .ok (.bipush 33, 2) := by decide +kernel
theorem dX12_game_38 : decode cX12_game 38 = .ok (.iload_n 2, 1) := by decide +kernel
theorem dX12_game_39 : decode cX12_game 39 = .ok (.iadd, 1) := by decide +kernel
theorem dX12_game_40 : decode cX12_game 40 = .ok (.iaload, 1) := by decide +kernel
theorem dX12_game_41 : decode cX12_game 41 = .ok (.invokevirtual 428, 3) := by decide +kernel
theorem dX12_game_44 : decode cX12_game 44 = .ok (.if_icmp .gt 28, 3) := by decide +kernel
theorem dX12_game_47 : decode cX12_game 47 = .ok (.aload_n 0, 1) := by decide +kernel
theorem dX12_game_48 : decode cX12_game 48 = .ok (.iload_n 2, 1) := by decide +kernel
theorem dX12_game_49 : decode cX12_game 49 = .ok (.iload_n 3, 1) := by decide +kernel
theorem dX12_game_50 : decode cX12_game 50 = .ok (.invokevirtual 531, 3) := by decide +kernel
theorem dX12_game_53 : decode cX12_game 53 = .ok (.ifCond .eq 13, 3) := by decide +kernel
theorem dX12_game_56 : decode cX12_game 56 = .ok (.iload_n 1, 1) := by decide +kernel
theorem dX12_game_57 : decode cX12_game 57 = .ok (.ifCond .ne 7, 3) := by decide +kernel
theorem dX12_game_60 : decode cX12_game 60 = .ok (.iload_n 2, 1) := by decide +kernel
theorem dX12_game_61 : decode cX12_game 61 = .ok (.goto 4, 3) := by decide +kernel
theorem dX12_game_64 : decode cX12_game 64 = .ok (.iload_n 3, 1) := by decide +kernel
theorem dX12_game_65 : decode cX12_game 65 = .ok (.ireturn, 1) := by decide +kernel
theorem dX12_game_66 : decode cX12_game 66 = .ok (.iinc 3 1, 3) := by decide +kernel
theorem dX12_game_69 : decode cX12_game 69 = .ok (.goto (-40), 3) := by decide +kernel
theorem dX12_game_72 : decode cX12_game 72 = .ok (.iinc 2 1, 3) := by decide +kernel
theorem dX12_game_75 : decode cX12_game 75 = .ok (.goto (-56), 3) := by decide +kernel
theorem dX12_game_78 : decode cX12_game 78 = .ok (.iconst (-1), 1) := by decide +kernel
theorem dX12_game_79 : decode cX12_game 79 = .ok (.ireturn, 1) := by decide +kernel
theorem dX12_keeps_0 : decode cX12_keeps 0 = .ok (.aload_n 0, 1) := by decide +kernel
theorem dX12_keeps_1 : decode cX12_keeps 1 = .ok (.aload_n 0, 1) := by decide +kernel
theorem dX12_keeps_2 : decode cX12_keeps 2 = .ok (.getfield 534, 3) := by decide +kernel
theorem dX12_keeps_5 : decode cX12_keeps 5 = .ok (.iconst 1, 1) := by decide +kernel
theorem dX12_keeps_6 : decode cX12_keeps 6 = .ok (.iadd, 1) := by decide +kernel
theorem dX12_keeps_7 : decode cX12_keeps 7 = .ok (.putfield 534, 3) := by decide +kernel
theorem dX12_keeps_10 : decode cX12_keeps 10 = .ok (.aload_n 0, 1) := by decide +kernel
theorem dX12_keeps_11 : decode cX12_keeps 11 = .ok (.getfield 537, 3) := by decide +kernel
theorem dX12_keeps_14 : decode cX12_keeps 14 = .ok (.ifCond .ne 15, 3) := by decide +kernel
theorem dX12_keeps_17 : decode cX12_keeps 17 = .ok (.aload_n 0, 1) := by decide +kernel
theorem dX12_keeps_18 : decode cX12_keeps 18 = .ok (.getfield 146, 3) := by decide +kernel
theorem dX12_keeps_21 : decode cX12_keeps 21 = .ok (.aload_n 0, 1) := by decide +kernel
theorem dX12_keeps_22 : decode cX12_keeps 22 = .ok (.getfield 534, 3) := by decide +kernel
theorem dX12_keeps_25 : decode cX12_keeps 25 = .ok (.iconst 1, 1) := by decide +kernel
theorem dX12_keeps_26 : decode cX12_keeps 26 = .ok (.isub, 1) := by decide +kernel
theorem dX12_keeps_27 : decode cX12_keeps 27 = .ok (.iaload, 1) := by decide +kernel
theorem dX12_keeps_28 : decode cX12_keeps 28 = .ok (.ireturn, 1) := by decide +kernel
theorem dX12_keeps_29 : decode cX12_keeps 29 = .ok (.aload_n 0, 1) := by decide +kernel
theorem dX12_keeps_30 : decode cX12_keeps 30 = .ok (.getfield 146, 3) := by decide +kernel
theorem dX12_keeps_33 : decode cX12_keeps 33 = .ok (.aload_n 0, 1) := by decide +kernel
theorem dX12_keeps_34 : decode cX12_keeps 34 = .ok (.getfield 534, 3) := by decide +kernel
theorem dX12_keeps_37 : decode cX12_keeps 37 = .ok (.iconst 1, 1) := by decide +kernel
theorem dX12_keeps_38 : decode cX12_keeps 38 = .ok (.isub, 1) := by decide +kernel
theorem dX12_keeps_39 : decode cX12_keeps 39 = .ok (.iload_n 1, 1) := by decide +kernel
theorem dX12_keeps_40 : decode cX12_keeps 40 = .ok (.iastore, 1) := by decide +kernel
theorem dX12_keeps_41 : decode cX12_keeps 41 = .ok (.iload_n 1, 1) := by decide +kernel
theorem dX12_keeps_42 : decode cX12_keeps 42 = .ok (.ireturn, 1) := by decide +kernel
theorem dX12_keepsLaw_0 : decode cX12_keepsLaw 0 = .ok (.aload_n 0, 1) := by decide +kernel
theorem dX12_keepsLaw_1 : decode cX12_keepsLaw 1 = .ok (.getfield 43, 3) := by decide +kernel
theorem dX12_keepsLaw_4 : decode cX12_keepsLaw 4 = .ok (.iconst 0, 1) := by decide +kernel
theorem dX12_keepsLaw_5 : decode cX12_keepsLaw 5 = .ok (.aload_n 0, 1) := by decide +kernel
theorem dX12_keepsLaw_6 : decode cX12_keepsLaw 6 = .ok (.aload_n 0, 1) := by decide +kernel
theorem dX12_keepsLaw_7 : decode cX12_keepsLaw 7 = .ok (.getfield 43, 3) := by decide +kernel
theorem dX12_keepsLaw_10 : decode cX12_keepsLaw 10 = .ok (.iconst 0, 1) := by decide +kernel
theorem dX12_keepsLaw_11 : decode cX12_keepsLaw 11 = .ok (.iaload, 1) := by decide +kernel
theorem dX12_keepsLaw_12 : decode cX12_keepsLaw 12 = .ok (.invokevirtual 540, 3) := by decide +kernel
theorem dX12_keepsLaw_15 : decode cX12_keepsLaw 15 = .ok (.iastore, 1) := by decide +kernel
theorem dX12_keepsLaw_16 : decode cX12_keepsLaw 16 = .ok (.iconst 0, 1) := by decide +kernel
theorem dX12_keepsLaw_17 : decode cX12_keepsLaw 17 = .ok (.istore_n 1, 1) := by decide +kernel
theorem dX12_keepsLaw_18 : decode cX12_keepsLaw 18 = .ok (.iload_n 1, 1) := by decide +kernel
theorem dX12_keepsLaw_19 : decode cX12_keepsLaw 19 = .ok (.bipush 16, 2) := by decide +kernel
theorem dX12_keepsLaw_21 : decode cX12_keepsLaw 21 = .ok (.if_icmp .ge 73, 3) := by decide +kernel
theorem dX12_keepsLaw_24 : decode cX12_keepsLaw 24 = .ok (.aload_n 0, 1) := by decide +kernel
theorem dX12_keepsLaw_25 : decode cX12_keepsLaw 25 = .ok (.getfield 46, 3) := by decide +kernel
theorem dX12_keepsLaw_28 : decode cX12_keepsLaw 28 = .ok (.iload_n 1, 1) := by decide +kernel
theorem dX12_keepsLaw_29 : decode cX12_keepsLaw 29 = .ok (.aload_n 0, 1) := by decide +kernel
theorem dX12_keepsLaw_30 : decode cX12_keepsLaw 30 = .ok (.aload_n 0, 1) := by decide +kernel
theorem dX12_keepsLaw_31 : decode cX12_keepsLaw 31 = .ok (.getfield 46, 3) := by decide +kernel
theorem dX12_keepsLaw_34 : decode cX12_keepsLaw 34 = .ok (.iload_n 1, 1) := by decide +kernel
theorem dX12_keepsLaw_35 : decode cX12_keepsLaw 35 = .ok (.iaload, 1) := by decide +kernel
theorem dX12_keepsLaw_36 : decode cX12_keepsLaw 36 = .ok (.invokevirtual 540, 3) := by decide +kernel
theorem dX12_keepsLaw_39 : decode cX12_keepsLaw 39 = .ok (.iastore, 1) := by decide +kernel
theorem dX12_keepsLaw_40 : decode cX12_keepsLaw 40 = .ok (.aload_n 0, 1) := by decide +kernel
theorem dX12_keepsLaw_41 : decode cX12_keepsLaw 41 = .ok (.getfield 49, 3) := by decide +kernel
theorem dX12_keepsLaw_44 : decode cX12_keepsLaw 44 = .ok (.iload_n 1, 1) := by decide +kernel
theorem dX12_keepsLaw_45 : decode cX12_keepsLaw 45 = .ok (.aload_n 0, 1) := by decide +kernel
theorem dX12_keepsLaw_46 : decode cX12_keepsLaw 46 = .ok (.aload_n 0, 1) := by decide +kernel
theorem dX12_keepsLaw_47 : decode cX12_keepsLaw 47 = .ok (.getfield 49, 3) := by decide +kernel
theorem dX12_keepsLaw_50 : decode cX12_keepsLaw 50 = .ok (.iload_n 1, 1) := by decide +kernel
theorem dX12_keepsLaw_51 : decode cX12_keepsLaw 51 = .ok (.iaload, 1) := by decide +kernel
theorem dX12_keepsLaw_52 : decode cX12_keepsLaw 52 = .ok (.invokevirtual 540, 3) := by decide +kernel
theorem dX12_keepsLaw_55 : decode cX12_keepsLaw 55 = .ok (.iastore, 1) := by decide +kernel
theorem dX12_keepsLaw_56 : decode cX12_keepsLaw 56 = .ok (.aload_n 0, 1) := by decide +kernel
theorem dX12_keepsLaw_57 : decode cX12_keepsLaw 57 = .ok (.getfield 52, 3) := by decide +kernel
theorem dX12_keepsLaw_60 : decode cX12_keepsLaw 60 = .ok (.iload_n 1, 1) := by decide +kernel
theorem dX12_keepsLaw_61 : decode cX12_keepsLaw 61 = .ok (.aload_n 0, 1) := by decide +kernel
theorem dX12_keepsLaw_62 : decode cX12_keepsLaw 62 = .ok (.aload_n 0, 1) := by decide +kernel
theorem dX12_keepsLaw_63 : decode cX12_keepsLaw 63 = .ok (.getfield 52, 3) := by decide +kernel
theorem dX12_keepsLaw_66 : decode cX12_keepsLaw 66 = .ok (.iload_n 1, 1) := by decide +kernel
theorem dX12_keepsLaw_67 : decode cX12_keepsLaw 67 = .ok (.iaload, 1) := by decide +kernel
theorem dX12_keepsLaw_68 : decode cX12_keepsLaw 68 = .ok (.invokevirtual 540, 3) := by decide +kernel
theorem dX12_keepsLaw_71 : decode cX12_keepsLaw 71 = .ok (.iastore, 1) := by decide +kernel
theorem dX12_keepsLaw_72 : decode cX12_keepsLaw 72 = .ok (.aload_n 0, 1) := by decide +kernel
theorem dX12_keepsLaw_73 : decode cX12_keepsLaw 73 = .ok (.getfield 55, 3) := by decide +kernel
theorem dX12_keepsLaw_76 : decode cX12_keepsLaw 76 = .ok (.iload_n 1, 1) := by decide +kernel
theorem dX12_keepsLaw_77 : decode cX12_keepsLaw 77 = .ok (.aload_n 0, 1) := by decide +kernel
theorem dX12_keepsLaw_78 : decode cX12_keepsLaw 78 = .ok (.aload_n 0, 1) := by decide +kernel
theorem dX12_keepsLaw_79 : decode cX12_keepsLaw 79 = .ok (.getfield 55, 3) := by decide +kernel
theorem dX12_keepsLaw_82 : decode cX12_keepsLaw 82 = .ok (.iload_n 1, 1) := by decide +kernel
theorem dX12_keepsLaw_83 : decode cX12_keepsLaw 83 = .ok (.iaload, 1) := by decide +kernel
theorem dX12_keepsLaw_84 : decode cX12_keepsLaw 84 = .ok (.invokevirtual 540, 3) := by decide +kernel
theorem dX12_keepsLaw_87 : decode cX12_keepsLaw 87 = .ok (.iastore, 1) := by decide +kernel
theorem dX12_keepsLaw_88 : decode cX12_keepsLaw 88 = .ok (.iinc 1 1, 3) := by decide +kernel
theorem dX12_keepsLaw_91 : decode cX12_keepsLaw 91 = .ok (.goto (-73), 3) := by decide +kernel
theorem dX12_keepsLaw_94 : decode cX12_keepsLaw 94 = .ok (.iconst 0, 1) := by decide +kernel
theorem dX12_keepsLaw_95 : decode cX12_keepsLaw 95 = .ok (.istore_n 1, 1) := by decide +kernel
theorem dX12_keepsLaw_96 : decode cX12_keepsLaw 96 = .ok (.iload_n 1, 1) := by decide +kernel
theorem dX12_keepsLaw_97 : decode cX12_keepsLaw 97 = .ok (.sipush 400, 3) := by decide +kernel
theorem dX12_keepsLaw_100 : decode cX12_keepsLaw 100 = .ok (.if_icmp .ge 41, 3) := by decide +kernel
theorem dX12_keepsLaw_103 : decode cX12_keepsLaw 103 = .ok (.aload_n 0, 1) := by decide +kernel
theorem dX12_keepsLaw_104 : decode cX12_keepsLaw 104 = .ok (.getfield 58, 3) := by decide +kernel
theorem dX12_keepsLaw_107 : decode cX12_keepsLaw 107 = .ok (.iload_n 1, 1) := by decide +kernel
theorem dX12_keepsLaw_108 : decode cX12_keepsLaw 108 = .ok (.aload_n 0, 1) := by decide +kernel
theorem dX12_keepsLaw_109 : decode cX12_keepsLaw 109 = .ok (.aload_n 0, 1) := by decide +kernel
theorem dX12_keepsLaw_110 : decode cX12_keepsLaw 110 = .ok (.getfield 58, 3) := by decide +kernel
theorem dX12_keepsLaw_113 : decode cX12_keepsLaw 113 = .ok (.iload_n 1, 1) := by decide +kernel
theorem dX12_keepsLaw_114 : decode cX12_keepsLaw 114 = .ok (.iaload, 1) := by decide +kernel
theorem dX12_keepsLaw_115 : decode cX12_keepsLaw 115 = .ok (.invokevirtual 540, 3) := by decide +kernel
theorem dX12_keepsLaw_118 : decode cX12_keepsLaw 118 = .ok (.iastore, 1) := by decide +kernel
theorem dX12_keepsLaw_119 : decode cX12_keepsLaw 119 = .ok (.aload_n 0, 1) := by decide +kernel
theorem dX12_keepsLaw_120 : decode cX12_keepsLaw 120 = .ok (.getfield 61, 3) := by decide +kernel
theorem dX12_keepsLaw_123 : decode cX12_keepsLaw 123 = .ok (.iload_n 1, 1) := by decide +kernel
theorem dX12_keepsLaw_124 : decode cX12_keepsLaw 124 = .ok (.aload_n 0, 1) := by decide +kernel
theorem dX12_keepsLaw_125 : decode cX12_keepsLaw 125 = .ok (.aload_n 0, 1) := by decide +kernel
theorem dX12_keepsLaw_126 : decode cX12_keepsLaw 126 = .ok (.getfield 61, 3) := by decide +kernel
theorem dX12_keepsLaw_129 : decode cX12_keepsLaw 129 = .ok (.iload_n 1, 1) := by decide +kernel
theorem dX12_keepsLaw_130 : decode cX12_keepsLaw 130 = .ok (.iaload, 1) := by decide +kernel
theorem dX12_keepsLaw_131 : decode cX12_keepsLaw 131 = .ok (.invokevirtual 540, 3) := by decide +kernel
theorem dX12_keepsLaw_134 : decode cX12_keepsLaw 134 = .ok (.iastore, 1) := by decide +kernel
theorem dX12_keepsLaw_135 : decode cX12_keepsLaw 135 = .ok (.iinc 1 1, 3) := by decide +kernel
theorem dX12_keepsLaw_138 : decode cX12_keepsLaw 138 = .ok (.goto (-42), 3) := by decide +kernel
theorem dX12_keepsLaw_141 : decode cX12_keepsLaw 141 = .ok (.return_, 1) := by decide +kernel
theorem dX12_keepsMany_0 : decode cX12_keepsMany 0 = .ok (.aload_n 0, 1) := by decide +kernel
theorem dX12_keepsMany_1 : decode cX12_keepsMany 1 = .ok (.aload_n 0, 1) := by decide +kernel
theorem dX12_keepsMany_2 : decode cX12_keepsMany 2 = .ok (.aload_n 0, 1) := by decide +kernel
theorem dX12_keepsMany_3 : decode cX12_keepsMany 3 = .ok (.getfield 161, 3) := by decide +kernel
theorem dX12_keepsMany_6 : decode cX12_keepsMany 6 = .ok (.invokevirtual 540, 3) := by decide +kernel
theorem dX12_keepsMany_9 : decode cX12_keepsMany 9 = .ok (.putfield 161, 3) := by decide +kernel
theorem dX12_keepsMany_12 : decode cX12_keepsMany 12 = .ok (.aload_n 0, 1) := by decide +kernel
theorem dX12_keepsMany_13 : decode cX12_keepsMany 13 = .ok (.aload_n 0, 1) := by decide +kernel
theorem dX12_keepsMany_14 : decode cX12_keepsMany 14 = .ok (.aload_n 0, 1) := by decide +kernel
theorem dX12_keepsMany_15 : decode cX12_keepsMany 15 = .ok (.getfield 164, 3) := by decide +kernel
theorem dX12_keepsMany_18 : decode cX12_keepsMany 18 = .ok (.invokevirtual 540, 3) := by decide +kernel
theorem dX12_keepsMany_21 : decode cX12_keepsMany 21 = .ok (.putfield 164, 3) := by decide +kernel
theorem dX12_keepsMany_24 : decode cX12_keepsMany 24 = .ok (.aload_n 0, 1) := by decide +kernel
theorem dX12_keepsMany_25 : decode cX12_keepsMany 25 = .ok (.aload_n 0, 1) := by decide +kernel
theorem dX12_keepsMany_26 : decode cX12_keepsMany 26 = .ok (.aload_n 0, 1) := by decide +kernel
theorem dX12_keepsMany_27 : decode cX12_keepsMany 27 = .ok (.getfield 317, 3) := by decide +kernel
theorem dX12_keepsMany_30 : decode cX12_keepsMany 30 = .ok (.invokevirtual 540, 3) := by decide +kernel
theorem dX12_keepsMany_33 : decode cX12_keepsMany 33 = .ok (.putfield 317, 3) := by decide +kernel
theorem dX12_keepsMany_36 : decode cX12_keepsMany 36 = .ok (.aload_n 0, 1) := by decide +kernel
theorem dX12_keepsMany_37 : decode cX12_keepsMany 37 = .ok (.aload_n 0, 1) := by decide +kernel
theorem dX12_keepsMany_38 : decode cX12_keepsMany 38 = .ok (.aload_n 0, 1) := by decide +kernel
theorem dX12_keepsMany_39 : decode cX12_keepsMany 39 = .ok (.getfield 320, 3) := by decide +kernel
theorem dX12_keepsMany_42 : decode cX12_keepsMany 42 = .ok (.invokevirtual 540, 3) := by decide +kernel
theorem dX12_keepsMany_45 : decode cX12_keepsMany 45 = .ok (.putfield 320, 3) := by decide +kernel
theorem dX12_keepsMany_48 : decode cX12_keepsMany 48 = .ok (.aload_n 0, 1) := by decide +kernel
theorem dX12_keepsMany_49 : decode cX12_keepsMany 49 = .ok (.aload_n 0, 1) := by decide +kernel
theorem dX12_keepsMany_50 : decode cX12_keepsMany 50 = .ok (.aload_n 0, 1) := by decide +kernel
theorem dX12_keepsMany_51 : decode cX12_keepsMany 51 = .ok (.getfield 314, 3) := by decide +kernel
theorem dX12_keepsMany_54 : decode cX12_keepsMany 54 = .ok (.invokevirtual 540, 3) := by decide +kernel
theorem dX12_keepsMany_57 : decode cX12_keepsMany 57 = .ok (.putfield 314, 3) := by decide +kernel
theorem dX12_keepsMany_60 : decode cX12_keepsMany 60 = .ok (.aload_n 0, 1) := by decide +kernel
theorem dX12_keepsMany_61 : decode cX12_keepsMany 61 = .ok (.aload_n 0, 1) := by decide +kernel
theorem dX12_keepsMany_62 : decode cX12_keepsMany 62 = .ok (.aload_n 0, 1) := by decide +kernel
theorem dX12_keepsMany_63 : decode cX12_keepsMany 63 = .ok (.getfield 441, 3) := by decide +kernel
theorem dX12_keepsMany_66 : decode cX12_keepsMany 66 = .ok (.invokevirtual 540, 3) := by decide +kernel
theorem dX12_keepsMany_69 : decode cX12_keepsMany 69 = .ok (.putfield 441, 3) := by decide +kernel
theorem dX12_keepsMany_72 : decode cX12_keepsMany 72 = .ok (.aload_n 0, 1) := by decide +kernel
theorem dX12_keepsMany_73 : decode cX12_keepsMany 73 = .ok (.aload_n 0, 1) := by decide +kernel
theorem dX12_keepsMany_74 : decode cX12_keepsMany 74 = .ok (.aload_n 0, 1) := by decide +kernel
theorem dX12_keepsMany_75 : decode cX12_keepsMany 75 = .ok (.getfield 453, 3) := by decide +kernel
theorem dX12_keepsMany_78 : decode cX12_keepsMany 78 = .ok (.invokevirtual 540, 3) := by decide +kernel
theorem dX12_keepsMany_81 : decode cX12_keepsMany 81 = .ok (.putfield 453, 3) := by decide +kernel
theorem dX12_keepsMany_84 : decode cX12_keepsMany 84 = .ok (.aload_n 0, 1) := by decide +kernel
theorem dX12_keepsMany_85 : decode cX12_keepsMany 85 = .ok (.aload_n 0, 1) := by decide +kernel
theorem dX12_keepsMany_86 : decode cX12_keepsMany 86 = .ok (.aload_n 0, 1) := by decide +kernel
theorem dX12_keepsMany_87 : decode cX12_keepsMany 87 = .ok (.getfield 474, 3) := by decide +kernel
theorem dX12_keepsMany_90 : decode cX12_keepsMany 90 = .ok (.invokevirtual 540, 3) := by decide +kernel
theorem dX12_keepsMany_93 : decode cX12_keepsMany 93 = .ok (.putfield 474, 3) := by decide +kernel
theorem dX12_keepsMany_96 : decode cX12_keepsMany 96 = .ok (.aload_n 0, 1) := by decide +kernel
theorem dX12_keepsMany_97 : decode cX12_keepsMany 97 = .ok (.aload_n 0, 1) := by decide +kernel
theorem dX12_keepsMany_98 : decode cX12_keepsMany 98 = .ok (.aload_n 0, 1) := by decide +kernel
theorem dX12_keepsMany_99 : decode cX12_keepsMany 99 = .ok (.getfield 483, 3) := by decide +kernel
theorem dX12_keepsMany_102 : decode cX12_keepsMany 102 = .ok (.invokevirtual 540, 3) := by decide +kernel
theorem dX12_keepsMany_105 : decode cX12_keepsMany 105 = .ok (.putfield 483, 3) := by decide +kernel
theorem dX12_keepsMany_108 : decode cX12_keepsMany 108 = .ok (.aload_n 0, 1) := by decide +kernel
theorem dX12_keepsMany_109 : decode cX12_keepsMany 109 = .ok (.aload_n 0, 1) := by decide +kernel
theorem dX12_keepsMany_110 : decode cX12_keepsMany 110 = .ok (.aload_n 0, 1) := by decide +kernel
theorem dX12_keepsMany_111 : decode cX12_keepsMany 111 = .ok (.getfield 507, 3) := by decide +kernel
theorem dX12_keepsMany_114 : decode cX12_keepsMany 114 = .ok (.invokevirtual 540, 3) := by decide +kernel
theorem dX12_keepsMany_117 : decode cX12_keepsMany 117 = .ok (.putfield 507, 3) := by decide +kernel
theorem dX12_keepsMany_120 : decode cX12_keepsMany 120 = .ok (.aload_n 0, 1) := by decide +kernel
theorem dX12_keepsMany_121 : decode cX12_keepsMany 121 = .ok (.aload_n 0, 1) := by decide +kernel
theorem dX12_keepsMany_122 : decode cX12_keepsMany 122 = .ok (.aload_n 0, 1) := by decide +kernel
theorem dX12_keepsMany_123 : decode cX12_keepsMany 123 = .ok (.getfield 516, 3) := by decide +kernel
theorem dX12_keepsMany_126 : decode cX12_keepsMany 126 = .ok (.invokevirtual 540, 3) := by decide +kernel
theorem dX12_keepsMany_129 : decode cX12_keepsMany 129 = .ok (.putfield 516, 3) := by decide +kernel
theorem dX12_keepsMany_132 : decode cX12_keepsMany 132 = .ok (.return_, 1) := by decide +kernel
theorem dX12_keepsTold_0 : decode cX12_keepsTold 0 = .ok (.iconst 0, 1) := by decide +kernel
theorem dX12_keepsTold_1 : decode cX12_keepsTold 1 = .ok (.istore_n 1, 1) := by decide +kernel
theorem dX12_keepsTold_2 : decode cX12_keepsTold 2 = .ok (.iload_n 1, 1) := by decide +kernel
theorem dX12_keepsTold_3 : decode cX12_keepsTold 3 = .ok (.bipush 12, 2) := by decide +kernel
theorem dX12_keepsTold_5 : decode cX12_keepsTold 5 = .ok (.if_icmp .ge 89, 3) := by decide +kernel
theorem dX12_keepsTold_8 : decode cX12_keepsTold 8 = .ok (.aload_n 0, 1) := by decide +kernel
theorem dX12_keepsTold_9 : decode cX12_keepsTold 9 = .ok (.getfield 19, 3) := by decide +kernel
theorem dX12_keepsTold_12 : decode cX12_keepsTold 12 = .ok (.iload_n 1, 1) := by decide +kernel
theorem dX12_keepsTold_13 : decode cX12_keepsTold 13 = .ok (.aload_n 0, 1) := by decide +kernel
theorem dX12_keepsTold_14 : decode cX12_keepsTold 14 = .ok (.aload_n 0, 1) := by decide +kernel
theorem dX12_keepsTold_15 : decode cX12_keepsTold 15 = .ok (.getfield 19, 3) := by decide +kernel
theorem dX12_keepsTold_18 : decode cX12_keepsTold 18 = .ok (.iload_n 1, 1) := by decide +kernel
theorem dX12_keepsTold_19 : decode cX12_keepsTold 19 = .ok (.iaload, 1) := by decide +kernel
theorem dX12_keepsTold_20 : decode cX12_keepsTold 20 = .ok (.invokevirtual 540, 3) := by decide +kernel
theorem dX12_keepsTold_23 : decode cX12_keepsTold 23 = .ok (.iastore, 1) := by decide +kernel
theorem dX12_keepsTold_24 : decode cX12_keepsTold 24 = .ok (.aload_n 0, 1) := by decide +kernel
theorem dX12_keepsTold_25 : decode cX12_keepsTold 25 = .ok (.getfield 22, 3) := by decide +kernel
theorem dX12_keepsTold_28 : decode cX12_keepsTold 28 = .ok (.iload_n 1, 1) := by decide +kernel
theorem dX12_keepsTold_29 : decode cX12_keepsTold 29 = .ok (.aload_n 0, 1) := by decide +kernel
theorem dX12_keepsTold_30 : decode cX12_keepsTold 30 = .ok (.aload_n 0, 1) := by decide +kernel
theorem dX12_keepsTold_31 : decode cX12_keepsTold 31 = .ok (.getfield 22, 3) := by decide +kernel
theorem dX12_keepsTold_34 : decode cX12_keepsTold 34 = .ok (.iload_n 1, 1) := by decide +kernel
theorem dX12_keepsTold_35 : decode cX12_keepsTold 35 = .ok (.iaload, 1) := by decide +kernel
theorem dX12_keepsTold_36 : decode cX12_keepsTold 36 = .ok (.invokevirtual 540, 3) := by decide +kernel
theorem dX12_keepsTold_39 : decode cX12_keepsTold 39 = .ok (.iastore, 1) := by decide +kernel
theorem dX12_keepsTold_40 : decode cX12_keepsTold 40 = .ok (.aload_n 0, 1) := by decide +kernel
theorem dX12_keepsTold_41 : decode cX12_keepsTold 41 = .ok (.getfield 25, 3) := by decide +kernel
theorem dX12_keepsTold_44 : decode cX12_keepsTold 44 = .ok (.iload_n 1, 1) := by decide +kernel
theorem dX12_keepsTold_45 : decode cX12_keepsTold 45 = .ok (.aload_n 0, 1) := by decide +kernel
theorem dX12_keepsTold_46 : decode cX12_keepsTold 46 = .ok (.aload_n 0, 1) := by decide +kernel
theorem dX12_keepsTold_47 : decode cX12_keepsTold 47 = .ok (.getfield 25, 3) := by decide +kernel
theorem dX12_keepsTold_50 : decode cX12_keepsTold 50 = .ok (.iload_n 1, 1) := by decide +kernel
theorem dX12_keepsTold_51 : decode cX12_keepsTold 51 = .ok (.iaload, 1) := by decide +kernel
theorem dX12_keepsTold_52 : decode cX12_keepsTold 52 = .ok (.invokevirtual 540, 3) := by decide +kernel
theorem dX12_keepsTold_55 : decode cX12_keepsTold 55 = .ok (.iastore, 1) := by decide +kernel
theorem dX12_keepsTold_56 : decode cX12_keepsTold 56 = .ok (.aload_n 0, 1) := by decide +kernel
theorem dX12_keepsTold_57 : decode cX12_keepsTold 57 = .ok (.getfield 77, 3) := by decide +kernel
theorem dX12_keepsTold_60 : decode cX12_keepsTold 60 = .ok (.iload_n 1, 1) := by decide +kernel
theorem dX12_keepsTold_61 : decode cX12_keepsTold 61 = .ok (.aload_n 0, 1) := by decide +kernel
theorem dX12_keepsTold_62 : decode cX12_keepsTold 62 = .ok (.aload_n 0, 1) := by decide +kernel
theorem dX12_keepsTold_63 : decode cX12_keepsTold 63 = .ok (.getfield 77, 3) := by decide +kernel
theorem dX12_keepsTold_66 : decode cX12_keepsTold 66 = .ok (.iload_n 1, 1) := by decide +kernel
theorem dX12_keepsTold_67 : decode cX12_keepsTold 67 = .ok (.iaload, 1) := by decide +kernel
theorem dX12_keepsTold_68 : decode cX12_keepsTold 68 = .ok (.invokevirtual 540, 3) := by decide +kernel
theorem dX12_keepsTold_71 : decode cX12_keepsTold 71 = .ok (.iastore, 1) := by decide +kernel
theorem dX12_keepsTold_72 : decode cX12_keepsTold 72 = .ok (.aload_n 0, 1) := by decide +kernel
theorem dX12_keepsTold_73 : decode cX12_keepsTold 73 = .ok (.getfield 128, 3) := by decide +kernel
theorem dX12_keepsTold_76 : decode cX12_keepsTold 76 = .ok (.iload_n 1, 1) := by decide +kernel
theorem dX12_keepsTold_77 : decode cX12_keepsTold 77 = .ok (.aload_n 0, 1) := by decide +kernel
theorem dX12_keepsTold_78 : decode cX12_keepsTold 78 = .ok (.aload_n 0, 1) := by decide +kernel
theorem dX12_keepsTold_79 : decode cX12_keepsTold 79 = .ok (.getfield 128, 3) := by decide +kernel
theorem dX12_keepsTold_82 : decode cX12_keepsTold 82 = .ok (.iload_n 1, 1) := by decide +kernel
theorem dX12_keepsTold_83 : decode cX12_keepsTold 83 = .ok (.iaload, 1) := by decide +kernel
theorem dX12_keepsTold_84 : decode cX12_keepsTold 84 = .ok (.invokevirtual 540, 3) := by decide +kernel
theorem dX12_keepsTold_87 : decode cX12_keepsTold 87 = .ok (.iastore, 1) := by decide +kernel
theorem dX12_keepsTold_88 : decode cX12_keepsTold 88 = .ok (.iinc 1 1, 3) := by decide +kernel
theorem dX12_keepsTold_91 : decode cX12_keepsTold 91 = .ok (.goto (-89), 3) := by decide +kernel
theorem dX12_keepsTold_94 : decode cX12_keepsTold 94 = .ok (.iconst 0, 1) := by decide +kernel
theorem dX12_keepsTold_95 : decode cX12_keepsTold 95 = .ok (.istore_n 1, 1) := by decide +kernel
theorem dX12_keepsTold_96 : decode cX12_keepsTold 96 = .ok (.iload_n 1, 1) := by decide +kernel
theorem dX12_keepsTold_97 : decode cX12_keepsTold 97 = .ok (.bipush 8, 2) := by decide +kernel
theorem dX12_keepsTold_99 : decode cX12_keepsTold 99 = .ok (.if_icmp .ge 73, 3) := by decide +kernel
theorem dX12_keepsTold_102 : decode cX12_keepsTold 102 = .ok (.aload_n 0, 1) := by decide +kernel
theorem dX12_keepsTold_103 : decode cX12_keepsTold 103 = .ok (.getfield 28, 3) := by decide +kernel
theorem dX12_keepsTold_106 : decode cX12_keepsTold 106 = .ok (.iload_n 1, 1) := by decide +kernel
theorem dX12_keepsTold_107 : decode cX12_keepsTold 107 = .ok (.aload_n 0, 1) := by decide +kernel
theorem dX12_keepsTold_108 : decode cX12_keepsTold 108 = .ok (.aload_n 0, 1) := by decide +kernel
theorem dX12_keepsTold_109 : decode cX12_keepsTold 109 = .ok (.getfield 28, 3) := by decide +kernel
theorem dX12_keepsTold_112 : decode cX12_keepsTold 112 = .ok (.iload_n 1, 1) := by decide +kernel
theorem dX12_keepsTold_113 : decode cX12_keepsTold 113 = .ok (.iaload, 1) := by decide +kernel
theorem dX12_keepsTold_114 : decode cX12_keepsTold 114 = .ok (.invokevirtual 540, 3) := by decide +kernel
theorem dX12_keepsTold_117 : decode cX12_keepsTold 117 = .ok (.iastore, 1) := by decide +kernel
theorem dX12_keepsTold_118 : decode cX12_keepsTold 118 = .ok (.aload_n 0, 1) := by decide +kernel
theorem dX12_keepsTold_119 : decode cX12_keepsTold 119 = .ok (.getfield 31, 3) := by decide +kernel
theorem dX12_keepsTold_122 : decode cX12_keepsTold 122 = .ok (.iload_n 1, 1) := by decide +kernel
theorem dX12_keepsTold_123 : decode cX12_keepsTold 123 = .ok (.aload_n 0, 1) := by decide +kernel
theorem dX12_keepsTold_124 : decode cX12_keepsTold 124 = .ok (.aload_n 0, 1) := by decide +kernel
theorem dX12_keepsTold_125 : decode cX12_keepsTold 125 = .ok (.getfield 31, 3) := by decide +kernel
theorem dX12_keepsTold_128 : decode cX12_keepsTold 128 = .ok (.iload_n 1, 1) := by decide +kernel
theorem dX12_keepsTold_129 : decode cX12_keepsTold 129 = .ok (.iaload, 1) := by decide +kernel
theorem dX12_keepsTold_130 : decode cX12_keepsTold 130 = .ok (.invokevirtual 540, 3) := by decide +kernel
theorem dX12_keepsTold_133 : decode cX12_keepsTold 133 = .ok (.iastore, 1) := by decide +kernel
theorem dX12_keepsTold_134 : decode cX12_keepsTold 134 = .ok (.aload_n 0, 1) := by decide +kernel
theorem dX12_keepsTold_135 : decode cX12_keepsTold 135 = .ok (.getfield 101, 3) := by decide +kernel
theorem dX12_keepsTold_138 : decode cX12_keepsTold 138 = .ok (.iload_n 1, 1) := by decide +kernel
theorem dX12_keepsTold_139 : decode cX12_keepsTold 139 = .ok (.aload_n 0, 1) := by decide +kernel
theorem dX12_keepsTold_140 : decode cX12_keepsTold 140 = .ok (.aload_n 0, 1) := by decide +kernel
theorem dX12_keepsTold_141 : decode cX12_keepsTold 141 = .ok (.getfield 101, 3) := by decide +kernel
theorem dX12_keepsTold_144 : decode cX12_keepsTold 144 = .ok (.iload_n 1, 1) := by decide +kernel
theorem dX12_keepsTold_145 : decode cX12_keepsTold 145 = .ok (.iaload, 1) := by decide +kernel
theorem dX12_keepsTold_146 : decode cX12_keepsTold 146 = .ok (.invokevirtual 540, 3) := by decide +kernel
theorem dX12_keepsTold_149 : decode cX12_keepsTold 149 = .ok (.iastore, 1) := by decide +kernel
theorem dX12_keepsTold_150 : decode cX12_keepsTold 150 = .ok (.aload_n 0, 1) := by decide +kernel
theorem dX12_keepsTold_151 : decode cX12_keepsTold 151 = .ok (.getfield 104, 3) := by decide +kernel
theorem dX12_keepsTold_154 : decode cX12_keepsTold 154 = .ok (.iload_n 1, 1) := by decide +kernel
theorem dX12_keepsTold_155 : decode cX12_keepsTold 155 = .ok (.aload_n 0, 1) := by decide +kernel
theorem dX12_keepsTold_156 : decode cX12_keepsTold 156 = .ok (.aload_n 0, 1) := by decide +kernel
theorem dX12_keepsTold_157 : decode cX12_keepsTold 157 = .ok (.getfield 104, 3) := by decide +kernel
theorem dX12_keepsTold_160 : decode cX12_keepsTold 160 = .ok (.iload_n 1, 1) := by decide +kernel
theorem dX12_keepsTold_161 : decode cX12_keepsTold 161 = .ok (.iaload, 1) := by decide +kernel
theorem dX12_keepsTold_162 : decode cX12_keepsTold 162 = .ok (.invokevirtual 540, 3) := by decide +kernel
theorem dX12_keepsTold_165 : decode cX12_keepsTold 165 = .ok (.iastore, 1) := by decide +kernel
theorem dX12_keepsTold_166 : decode cX12_keepsTold 166 = .ok (.iinc 1 1, 3) := by decide +kernel
theorem dX12_keepsTold_169 : decode cX12_keepsTold 169 = .ok (.goto (-73), 3) := by decide +kernel
theorem dX12_keepsTold_172 : decode cX12_keepsTold 172 = .ok (.iconst 0, 1) := by decide +kernel
theorem dX12_keepsTold_173 : decode cX12_keepsTold 173 = .ok (.istore_n 1, 1) := by decide +kernel
theorem dX12_keepsTold_174 : decode cX12_keepsTold 174 = .ok (.iload_n 1, 1) := by decide +kernel
theorem dX12_keepsTold_175 : decode cX12_keepsTold 175 = .ok (.bipush 10, 2) := by decide +kernel
theorem dX12_keepsTold_177 : decode cX12_keepsTold 177 = .ok (.if_icmp .ge 73, 3) := by decide +kernel
theorem dX12_keepsTold_180 : decode cX12_keepsTold 180 = .ok (.aload_n 0, 1) := by decide +kernel
theorem dX12_keepsTold_181 : decode cX12_keepsTold 181 = .ok (.getfield 92, 3) := by decide +kernel
theorem dX12_keepsTold_184 : decode cX12_keepsTold 184 = .ok (.iload_n 1, 1) := by decide +kernel
theorem dX12_keepsTold_185 : decode cX12_keepsTold 185 = .ok (.aload_n 0, 1) := by decide +kernel
theorem dX12_keepsTold_186 : decode cX12_keepsTold 186 = .ok (.aload_n 0, 1) := by decide +kernel
theorem dX12_keepsTold_187 : decode cX12_keepsTold 187 = .ok (.getfield 92, 3) := by decide +kernel
theorem dX12_keepsTold_190 : decode cX12_keepsTold 190 = .ok (.iload_n 1, 1) := by decide +kernel
theorem dX12_keepsTold_191 : decode cX12_keepsTold 191 = .ok (.iaload, 1) := by decide +kernel
theorem dX12_keepsTold_192 : decode cX12_keepsTold 192 = .ok (.invokevirtual 540, 3) := by decide +kernel
theorem dX12_keepsTold_195 : decode cX12_keepsTold 195 = .ok (.iastore, 1) := by decide +kernel
theorem dX12_keepsTold_196 : decode cX12_keepsTold 196 = .ok (.aload_n 0, 1) := by decide +kernel
theorem dX12_keepsTold_197 : decode cX12_keepsTold 197 = .ok (.getfield 95, 3) := by decide +kernel
theorem dX12_keepsTold_200 : decode cX12_keepsTold 200 = .ok (.iload_n 1, 1) := by decide +kernel
theorem dX12_keepsTold_201 : decode cX12_keepsTold 201 = .ok (.aload_n 0, 1) := by decide +kernel
theorem dX12_keepsTold_202 : decode cX12_keepsTold 202 = .ok (.aload_n 0, 1) := by decide +kernel
theorem dX12_keepsTold_203 : decode cX12_keepsTold 203 = .ok (.getfield 95, 3) := by decide +kernel
theorem dX12_keepsTold_206 : decode cX12_keepsTold 206 = .ok (.iload_n 1, 1) := by decide +kernel
theorem dX12_keepsTold_207 : decode cX12_keepsTold 207 = .ok (.iaload, 1) := by decide +kernel
theorem dX12_keepsTold_208 : decode cX12_keepsTold 208 = .ok (.invokevirtual 540, 3) := by decide +kernel
theorem dX12_keepsTold_211 : decode cX12_keepsTold 211 = .ok (.iastore, 1) := by decide +kernel
theorem dX12_keepsTold_212 : decode cX12_keepsTold 212 = .ok (.aload_n 0, 1) := by decide +kernel
theorem dX12_keepsTold_213 : decode cX12_keepsTold 213 = .ok (.getfield 98, 3) := by decide +kernel
theorem dX12_keepsTold_216 : decode cX12_keepsTold 216 = .ok (.iload_n 1, 1) := by decide +kernel
theorem dX12_keepsTold_217 : decode cX12_keepsTold 217 = .ok (.aload_n 0, 1) := by decide +kernel
theorem dX12_keepsTold_218 : decode cX12_keepsTold 218 = .ok (.aload_n 0, 1) := by decide +kernel
theorem dX12_keepsTold_219 : decode cX12_keepsTold 219 = .ok (.getfield 98, 3) := by decide +kernel
theorem dX12_keepsTold_222 : decode cX12_keepsTold 222 = .ok (.iload_n 1, 1) := by decide +kernel
theorem dX12_keepsTold_223 : decode cX12_keepsTold 223 = .ok (.iaload, 1) := by decide +kernel
theorem dX12_keepsTold_224 : decode cX12_keepsTold 224 = .ok (.invokevirtual 540, 3) := by decide +kernel
theorem dX12_keepsTold_227 : decode cX12_keepsTold 227 = .ok (.iastore, 1) := by decide +kernel
theorem dX12_keepsTold_228 : decode cX12_keepsTold 228 = .ok (.aload_n 0, 1) := by decide +kernel
theorem dX12_keepsTold_229 : decode cX12_keepsTold 229 = .ok (.getfield 119, 3) := by decide +kernel
theorem dX12_keepsTold_232 : decode cX12_keepsTold 232 = .ok (.iload_n 1, 1) := by decide +kernel
theorem dX12_keepsTold_233 : decode cX12_keepsTold 233 = .ok (.aload_n 0, 1) := by decide +kernel
theorem dX12_keepsTold_234 : decode cX12_keepsTold 234 = .ok (.aload_n 0, 1) := by decide +kernel
theorem dX12_keepsTold_235 : decode cX12_keepsTold 235 = .ok (.getfield 119, 3) := by decide +kernel
theorem dX12_keepsTold_238 : decode cX12_keepsTold 238 = .ok (.iload_n 1, 1) := by decide +kernel
theorem dX12_keepsTold_239 : decode cX12_keepsTold 239 = .ok (.iaload, 1) := by decide +kernel
theorem dX12_keepsTold_240 : decode cX12_keepsTold 240 = .ok (.invokevirtual 540, 3) := by decide +kernel
theorem dX12_keepsTold_243 : decode cX12_keepsTold 243 = .ok (.iastore, 1) := by decide +kernel
theorem dX12_keepsTold_244 : decode cX12_keepsTold 244 = .ok (.iinc 1 1, 3) := by decide +kernel
theorem dX12_keepsTold_247 : decode cX12_keepsTold 247 = .ok (.goto (-73), 3) := by decide +kernel
theorem dX12_keepsTold_250 : decode cX12_keepsTold 250 = .ok (.iconst 0, 1) := by decide +kernel
theorem dX12_keepsTold_251 : decode cX12_keepsTold 251 = .ok (.istore_n 1, 1) := by decide +kernel
theorem dX12_keepsTold_252 : decode cX12_keepsTold 252 = .ok (.iload_n 1, 1) := by decide +kernel
theorem dX12_keepsTold_253 : decode cX12_keepsTold 253 = .ok (.bipush 6, 2) := by decide +kernel
theorem dX12_keepsTold_255 : decode cX12_keepsTold 255 = .ok (.if_icmp .ge 41, 3) := by decide +kernel
theorem dX12_keepsTold_258 : decode cX12_keepsTold 258 = .ok (.aload_n 0, 1) := by decide +kernel
theorem dX12_keepsTold_259 : decode cX12_keepsTold 259 = .ok (.getfield 113, 3) := by decide +kernel
theorem dX12_keepsTold_262 : decode cX12_keepsTold 262 = .ok (.iload_n 1, 1) := by decide +kernel
theorem dX12_keepsTold_263 : decode cX12_keepsTold 263 = .ok (.aload_n 0, 1) := by decide +kernel
theorem dX12_keepsTold_264 : decode cX12_keepsTold 264 = .ok (.aload_n 0, 1) := by decide +kernel
theorem dX12_keepsTold_265 : decode cX12_keepsTold 265 = .ok (.getfield 113, 3) := by decide +kernel
theorem dX12_keepsTold_268 : decode cX12_keepsTold 268 = .ok (.iload_n 1, 1) := by decide +kernel
theorem dX12_keepsTold_269 : decode cX12_keepsTold 269 = .ok (.iaload, 1) := by decide +kernel
theorem dX12_keepsTold_270 : decode cX12_keepsTold 270 = .ok (.invokevirtual 540, 3) := by decide +kernel
theorem dX12_keepsTold_273 : decode cX12_keepsTold 273 = .ok (.iastore, 1) := by decide +kernel
theorem dX12_keepsTold_274 : decode cX12_keepsTold 274 = .ok (.aload_n 0, 1) := by decide +kernel
theorem dX12_keepsTold_275 : decode cX12_keepsTold 275 = .ok (.getfield 116, 3) := by decide +kernel
theorem dX12_keepsTold_278 : decode cX12_keepsTold 278 = .ok (.iload_n 1, 1) := by decide +kernel
theorem dX12_keepsTold_279 : decode cX12_keepsTold 279 = .ok (.aload_n 0, 1) := by decide +kernel
theorem dX12_keepsTold_280 : decode cX12_keepsTold 280 = .ok (.aload_n 0, 1) := by decide +kernel
theorem dX12_keepsTold_281 : decode cX12_keepsTold 281 = .ok (.getfield 116, 3) := by decide +kernel
theorem dX12_keepsTold_284 : decode cX12_keepsTold 284 = .ok (.iload_n 1, 1) := by decide +kernel
theorem dX12_keepsTold_285 : decode cX12_keepsTold 285 = .ok (.iaload, 1) := by decide +kernel
theorem dX12_keepsTold_286 : decode cX12_keepsTold 286 = .ok (.invokevirtual 540, 3) := by decide +kernel
theorem dX12_keepsTold_289 : decode cX12_keepsTold 289 = .ok (.iastore, 1) := by decide +kernel
theorem dX12_keepsTold_290 : decode cX12_keepsTold 290 = .ok (.iinc 1 1, 3) := by decide +kernel
theorem dX12_keepsTold_293 : decode cX12_keepsTold 293 = .ok (.goto (-41), 3) := by decide +kernel
theorem dX12_keepsTold_296 : decode cX12_keepsTold 296 = .ok (.iconst 0, 1) := by decide +kernel
theorem dX12_keepsTold_297 : decode cX12_keepsTold 297 = .ok (.istore_n 1, 1) := by decide +kernel
theorem dX12_keepsTold_298 : decode cX12_keepsTold 298 = .ok (.iload_n 1, 1) := by decide +kernel
theorem dX12_keepsTold_299 : decode cX12_keepsTold 299 = .ok (.iconst 3, 1) := by decide +kernel
theorem dX12_keepsTold_300 : decode cX12_keepsTold 300 = .ok (.if_icmp .ge 41, 3) := by decide +kernel
theorem dX12_keepsTold_303 : decode cX12_keepsTold 303 = .ok (.aload_n 0, 1) := by decide +kernel
theorem dX12_keepsTold_304 : decode cX12_keepsTold 304 = .ok (.getfield 131, 3) := by decide +kernel
theorem dX12_keepsTold_307 : decode cX12_keepsTold 307 = .ok (.iload_n 1, 1) := by decide +kernel
theorem dX12_keepsTold_308 : decode cX12_keepsTold 308 = .ok (.aload_n 0, 1) := by decide +kernel
theorem dX12_keepsTold_309 : decode cX12_keepsTold 309 = .ok (.aload_n 0, 1) := by decide +kernel
theorem dX12_keepsTold_310 : decode cX12_keepsTold 310 = .ok (.getfield 131, 3) := by decide +kernel
theorem dX12_keepsTold_313 : decode cX12_keepsTold 313 = .ok (.iload_n 1, 1) := by decide +kernel
theorem dX12_keepsTold_314 : decode cX12_keepsTold 314 = .ok (.iaload, 1) := by decide +kernel
theorem dX12_keepsTold_315 : decode cX12_keepsTold 315 = .ok (.invokevirtual 540, 3) := by decide +kernel
theorem dX12_keepsTold_318 : decode cX12_keepsTold 318 = .ok (.iastore, 1) := by decide +kernel
theorem dX12_keepsTold_319 : decode cX12_keepsTold 319 = .ok (.aload_n 0, 1) := by decide +kernel
theorem dX12_keepsTold_320 : decode cX12_keepsTold 320 = .ok (.getfield 134, 3) := by decide +kernel
theorem dX12_keepsTold_323 : decode cX12_keepsTold 323 = .ok (.iload_n 1, 1) := by decide +kernel
theorem dX12_keepsTold_324 : decode cX12_keepsTold 324 = .ok (.aload_n 0, 1) := by decide +kernel
theorem dX12_keepsTold_325 : decode cX12_keepsTold 325 = .ok (.aload_n 0, 1) := by decide +kernel
theorem dX12_keepsTold_326 : decode cX12_keepsTold 326 = .ok (.getfield 134, 3) := by decide +kernel
theorem dX12_keepsTold_329 : decode cX12_keepsTold 329 = .ok (.iload_n 1, 1) := by decide +kernel
theorem dX12_keepsTold_330 : decode cX12_keepsTold 330 = .ok (.iaload, 1) := by decide +kernel
theorem dX12_keepsTold_331 : decode cX12_keepsTold 331 = .ok (.invokevirtual 540, 3) := by decide +kernel
theorem dX12_keepsTold_334 : decode cX12_keepsTold 334 = .ok (.iastore, 1) := by decide +kernel
theorem dX12_keepsTold_335 : decode cX12_keepsTold 335 = .ok (.iinc 1 1, 3) := by decide +kernel
theorem dX12_keepsTold_338 : decode cX12_keepsTold 338 = .ok (.goto (-40), 3) := by decide +kernel
theorem dX12_keepsTold_341 : decode cX12_keepsTold 341 = .ok (.iconst 0, 1) := by decide +kernel
theorem dX12_keepsTold_342 : decode cX12_keepsTold 342 = .ok (.istore_n 1, 1) := by decide +kernel
theorem dX12_keepsTold_343 : decode cX12_keepsTold 343 = .ok (.iload_n 1, 1) := by decide +kernel
theorem dX12_keepsTold_344 : decode cX12_keepsTold 344 = .ok (.bipush 7, 2) := by decide +kernel
theorem dX12_keepsTold_346 : decode cX12_keepsTold 346 = .ok (.if_icmp .ge 25, 3) := by decide +kernel
theorem dX12_keepsTold_349 : decode cX12_keepsTold 349 = .ok (.aload_n 0, 1) := by decide +kernel
theorem dX12_keepsTold_350 : decode cX12_keepsTold 350 = .ok (.getfield 137, 3) := by decide +kernel
theorem dX12_keepsTold_353 : decode cX12_keepsTold 353 = .ok (.iload_n 1, 1) := by decide +kernel
theorem dX12_keepsTold_354 : decode cX12_keepsTold 354 = .ok (.aload_n 0, 1) := by decide +kernel
theorem dX12_keepsTold_355 : decode cX12_keepsTold 355 = .ok (.aload_n 0, 1) := by decide +kernel
theorem dX12_keepsTold_356 : decode cX12_keepsTold 356 = .ok (.getfield 137, 3) := by decide +kernel
theorem dX12_keepsTold_359 : decode cX12_keepsTold 359 = .ok (.iload_n 1, 1) := by decide +kernel
theorem dX12_keepsTold_360 : decode cX12_keepsTold 360 = .ok (.iaload, 1) := by decide +kernel
theorem dX12_keepsTold_361 : decode cX12_keepsTold 361 = .ok (.invokevirtual 540, 3) := by decide +kernel
theorem dX12_keepsTold_364 : decode cX12_keepsTold 364 = .ok (.iastore, 1) := by decide +kernel
theorem dX12_keepsTold_365 : decode cX12_keepsTold 365 = .ok (.iinc 1 1, 3) := by decide +kernel
theorem dX12_keepsTold_368 : decode cX12_keepsTold 368 = .ok (.goto (-25), 3) := by decide +kernel
theorem dX12_keepsTold_371 : decode cX12_keepsTold 371 = .ok (.iconst 0, 1) := by decide +kernel
theorem dX12_keepsTold_372 : decode cX12_keepsTold 372 = .ok (.istore_n 1, 1) := by decide +kernel
theorem dX12_keepsTold_373 : decode cX12_keepsTold 373 = .ok (.iload_n 1, 1) := by decide +kernel
theorem dX12_keepsTold_374 : decode cX12_keepsTold 374 = .ok (.bipush 16, 2) := by decide +kernel
theorem dX12_keepsTold_376 : decode cX12_keepsTold 376 = .ok (.if_icmp .ge 25, 3) := by decide +kernel
theorem dX12_keepsTold_379 : decode cX12_keepsTold 379 = .ok (.aload_n 0, 1) := by decide +kernel
theorem dX12_keepsTold_380 : decode cX12_keepsTold 380 = .ok (.getfield 71, 3) := by decide +kernel
theorem dX12_keepsTold_383 : decode cX12_keepsTold 383 = .ok (.iload_n 1, 1) := by decide +kernel
theorem dX12_keepsTold_384 : decode cX12_keepsTold 384 = .ok (.aload_n 0, 1) := by decide +kernel
theorem dX12_keepsTold_385 : decode cX12_keepsTold 385 = .ok (.aload_n 0, 1) := by decide +kernel
theorem dX12_keepsTold_386 : decode cX12_keepsTold 386 = .ok (.getfield 71, 3) := by decide +kernel
theorem dX12_keepsTold_389 : decode cX12_keepsTold 389 = .ok (.iload_n 1, 1) := by decide +kernel
theorem dX12_keepsTold_390 : decode cX12_keepsTold 390 = .ok (.iaload, 1) := by decide +kernel
theorem dX12_keepsTold_391 : decode cX12_keepsTold 391 = .ok (.invokevirtual 540, 3) := by decide +kernel
theorem dX12_keepsTold_394 : decode cX12_keepsTold 394 = .ok (.iastore, 1) := by decide +kernel
theorem dX12_keepsTold_395 : decode cX12_keepsTold 395 = .ok (.iinc 1 1, 3) := by decide +kernel
theorem dX12_keepsTold_398 : decode cX12_keepsTold 398 = .ok (.goto (-25), 3) := by decide +kernel
theorem dX12_keepsTold_401 : decode cX12_keepsTold 401 = .ok (.iconst 0, 1) := by decide +kernel
theorem dX12_keepsTold_402 : decode cX12_keepsTold 402 = .ok (.istore_n 1, 1) := by decide +kernel
theorem dX12_keepsTold_403 : decode cX12_keepsTold 403 = .ok (.iload_n 1, 1) := by decide +kernel
theorem dX12_keepsTold_404 : decode cX12_keepsTold 404 = .ok (.bipush 96, 2) := by decide +kernel
theorem dX12_keepsTold_406 : decode cX12_keepsTold 406 = .ok (.if_icmp .ge 25, 3) := by decide +kernel
theorem dX12_keepsTold_409 : decode cX12_keepsTold 409 = .ok (.aload_n 0, 1) := by decide +kernel
theorem dX12_keepsTold_410 : decode cX12_keepsTold 410 = .ok (.getfield 74, 3) := by decide +kernel
theorem dX12_keepsTold_413 : decode cX12_keepsTold 413 = .ok (.iload_n 1, 1) := by decide +kernel
theorem dX12_keepsTold_414 : decode cX12_keepsTold 414 = .ok (.aload_n 0, 1) := by decide +kernel
theorem dX12_keepsTold_415 : decode cX12_keepsTold 415 = .ok (.aload_n 0, 1) := by decide +kernel
theorem dX12_keepsTold_416 : decode cX12_keepsTold 416 = .ok (.getfield 74, 3) := by decide +kernel
theorem dX12_keepsTold_419 : decode cX12_keepsTold 419 = .ok (.iload_n 1, 1) := by decide +kernel
theorem dX12_keepsTold_420 : decode cX12_keepsTold 420 = .ok (.iaload, 1) := by decide +kernel
theorem dX12_keepsTold_421 : decode cX12_keepsTold 421 = .ok (.invokevirtual 540, 3) := by decide +kernel
theorem dX12_keepsTold_424 : decode cX12_keepsTold 424 = .ok (.iastore, 1) := by decide +kernel
theorem dX12_keepsTold_425 : decode cX12_keepsTold 425 = .ok (.iinc 1 1, 3) := by decide +kernel
theorem dX12_keepsTold_428 : decode cX12_keepsTold 428 = .ok (.goto (-25), 3) := by decide +kernel
theorem dX12_keepsTold_431 : decode cX12_keepsTold 431 = .ok (.return_, 1) := by decide +kernel
theorem dX12_image_0 : decode cX12_image 0 = .ok (.aload_n 0, 1) := by decide +kernel
theorem dX12_image_1 : decode cX12_image 1 = .ok (.iconst 0, 1) := by decide +kernel
theorem dX12_image_2 : decode cX12_image 2 = .ok (.putfield 149, 3) := by decide +kernel
theorem dX12_image_5 : decode cX12_image 5 = .ok (.iload_n 1, 1) := by decide +kernel
theorem dX12_image_6 : decode cX12_image 6 = .ok (.ifCond .ne 12, 3) := by decide +kernel
theorem dX12_image_9 : decode cX12_image 9 = .ok (.aload_n 0, 1) := by decide +kernel
theorem dX12_image_10 : decode cX12_image 10 = .ok (.getfield 543, 3) := by decide +kernel
theorem dX12_image_13 : decode cX12_image 13 = .ok (.ifCond .ne 5, 3) := by decide +kernel
theorem dX12_image_16 : decode cX12_image 16 = .ok (.iconst 0, 1) := by decide +kernel
theorem dX12_image_17 : decode cX12_image 17 = .ok (.ireturn, 1) := by decide +kernel
theorem dX12_image_18 : decode cX12_image 18 = .ok (.aload_n 0, 1) := by decide +kernel
theorem dX12_image_19 : decode cX12_image 19 = .ok (.iload_n 1, 1) := by decide +kernel
theorem dX12_image_20 : decode cX12_image 20 = .ok (.putfield 537, 3) := by decide +kernel
theorem dX12_image_23 : decode cX12_image 23 = .ok (.aload_n 0, 1) := by decide +kernel
theorem dX12_image_24 : decode cX12_image 24 = .ok (.iconst 1, 1) := by decide +kernel
theorem dX12_image_25 : decode cX12_image 25 = .ok (.putfield 543, 3) := by decide +kernel
theorem dX12_image_28 : decode cX12_image 28 = .ok (.aload_n 0, 1) := by decide +kernel
theorem dX12_image_29 : decode cX12_image 29 = .ok (.iconst 0, 1) := by decide +kernel
theorem dX12_image_30 : decode cX12_image 30 = .ok (.putfield 534, 3) := by decide +kernel
theorem dX12_image_33 : decode cX12_image 33 = .ok (.iconst 0, 1) := by decide +kernel
theorem dX12_image_34 : decode cX12_image 34 = .ok (.istore_n 2, 1) := by decide +kernel
theorem dX12_image_35 : decode cX12_image 35 = .ok (.iload_n 2, 1) := by decide +kernel
theorem dX12_image_36 : decode cX12_image 36 = .ok (.bipush 49, 2) := by decide +kernel
theorem dX12_image_38 : decode cX12_image 38 = .ok (.if_icmp .ge 25, 3) := by decide +kernel
theorem dX12_image_41 : decode cX12_image 41 = .ok (.aload_n 0, 1) := by decide +kernel
theorem dX12_image_42 : decode cX12_image 42 = .ok (.getfield 7, 3) := by decide +kernel
theorem dX12_image_45 : decode cX12_image 45 = .ok (.iload_n 2, 1) := by decide +kernel
theorem dX12_image_46 : decode cX12_image 46 = .ok (.aload_n 0, 1) := by decide +kernel
theorem dX12_image_47 : decode cX12_image 47 = .ok (.aload_n 0, 1) := by decide +kernel
theorem dX12_image_48 : decode cX12_image 48 = .ok (.getfield 7, 3) := by decide +kernel
theorem dX12_image_51 : decode cX12_image 51 = .ok (.iload_n 2, 1) := by decide +kernel
theorem dX12_image_52 : decode cX12_image 52 = .ok (.iaload, 1) := by decide +kernel
theorem dX12_image_53 : decode cX12_image 53 = .ok (.invokevirtual 540, 3) := by decide +kernel
theorem dX12_image_56 : decode cX12_image 56 = .ok (.iastore, 1) := by decide +kernel
theorem dX12_image_57 : decode cX12_image 57 = .ok (.iinc 2 1, 3) := by decide +kernel
theorem dX12_image_60 : decode cX12_image 60 = .ok (.goto (-25), 3) := by decide +kernel
theorem dX12_image_63 : decode cX12_image 63 = .ok (.aload_n 0, 1) := by decide +kernel
theorem dX12_image_64 : decode cX12_image 64 = .ok (.invokevirtual 546, 3) := by decide +kernel
theorem dX12_image_67 : decode cX12_image 67 = .ok (.aload_n 0, 1) := by decide +kernel
theorem dX12_image_68 : decode cX12_image 68 = .ok (.invokevirtual 549, 3) := by decide +kernel
theorem dX12_image_71 : decode cX12_image 71 = .ok (.iconst 0, 1) := by decide +kernel
theorem dX12_image_72 : decode cX12_image 72 = .ok (.istore_n 2, 1) := by decide +kernel
theorem dX12_image_73 : decode cX12_image 73 = .ok (.iload_n 2, 1) := by decide +kernel
theorem dX12_image_74 : decode cX12_image 74 = .ok (.sipush 600, 3) := by decide +kernel
theorem dX12_image_77 : decode cX12_image 77 = .ok (.if_icmp .ge 25, 3) := by decide +kernel
theorem dX12_image_80 : decode cX12_image 80 = .ok (.aload_n 0, 1) := by decide +kernel
theorem dX12_image_81 : decode cX12_image 81 = .ok (.getfield 34, 3) := by decide +kernel
theorem dX12_image_84 : decode cX12_image 84 = .ok (.iload_n 2, 1) := by decide +kernel
theorem dX12_image_85 : decode cX12_image 85 = .ok (.aload_n 0, 1) := by decide +kernel
theorem dX12_image_86 : decode cX12_image 86 = .ok (.aload_n 0, 1) := by decide +kernel
theorem dX12_image_87 : decode cX12_image 87 = .ok (.getfield 34, 3) := by decide +kernel
theorem dX12_image_90 : decode cX12_image 90 = .ok (.iload_n 2, 1) := by decide +kernel
theorem dX12_image_91 : decode cX12_image 91 = .ok (.iaload, 1) := by decide +kernel
theorem dX12_image_92 : decode cX12_image 92 = .ok (.invokevirtual 540, 3) := by decide +kernel
theorem dX12_image_95 : decode cX12_image 95 = .ok (.iastore, 1) := by decide +kernel
theorem dX12_image_96 : decode cX12_image 96 = .ok (.iinc 2 1, 3) := by decide +kernel
theorem dX12_image_99 : decode cX12_image 99 = .ok (.goto (-26), 3) := by decide +kernel
theorem dX12_image_102 : decode cX12_image 102 = .ok (.aload_n 0, 1) := by decide +kernel
theorem dX12_image_103 : decode cX12_image 103 = .ok (.invokevirtual 552, 3) := by decide +kernel
theorem dX12_image_106 : decode cX12_image 106 = .ok (.iload_n 1, 1) := by decide +kernel
theorem dX12_image_107 : decode cX12_image 107 = .ok (.ifCond .ne 8, 3) := by decide +kernel
theorem dX12_image_110 : decode cX12_image 110 = .ok (.aload_n 0, 1) := by decide +kernel
theorem dX12_image_111 : decode cX12_image 111 = .ok (.iconst 0, 1) := by decide +kernel
theorem dX12_image_112 : decode cX12_image 112 = .ok (.putfield 152, 3) := by decide +kernel
theorem dX12_image_115 : decode cX12_image 115 = .ok (.iconst 1, 1) := by decide +kernel
theorem dX12_image_116 : decode cX12_image 116 = .ok (.ireturn, 1) := by decide +kernel
theorem dX12_freeSet_0 : decode cX12_freeSet 0 = .ok (.iconst 0, 1) := by decide +kernel
theorem dX12_freeSet_1 : decode cX12_freeSet 1 = .ok (.istore_n 1, 1) := by decide +kernel
theorem dX12_freeSet_2 : decode cX12_freeSet 2 = .ok (.iconst 0, 1) := by decide +kernel
theorem dX12_freeSet_3 : decode cX12_freeSet 3 = .ok (.istore_n 2, 1) := by decide +kernel
theorem dX12_freeSet_4 : decode cX12_freeSet 4 = .ok (.iload_n 2, 1) := by decide +kernel
theorem dX12_freeSet_5 : decode cX12_freeSet 5 = .ok (.aload_n 0, 1) := by decide +kernel
theorem dX12_freeSet_6 : decode cX12_freeSet 6 = .ok (.getfield 161, 3) := by decide +kernel
theorem dX12_freeSet_9 : decode cX12_freeSet 9 = .ok (.if_icmp .ge 23, 3) := by decide +kernel
theorem dX12_freeSet_12 : decode cX12_freeSet 12 = .ok (.aload_n 0, 1) := by decide +kernel
theorem dX12_freeSet_13 : decode cX12_freeSet 13 = .ok (.iload_n 2, 1) := by decide +kernel
theorem dX12_freeSet_14 : decode cX12_freeSet 14 = .ok (.invokevirtual 384, 3) := by decide +kernel
theorem dX12_freeSet_17 : decode cX12_freeSet 17 = .ok (.ifCond .eq 9, 3) := by decide +kernel
theorem dX12_freeSet_20 : decode cX12_freeSet 20 = .ok (.iload_n 1, 1) := by decide +kernel
theorem dX12_freeSet_21 : decode cX12_freeSet 21 = .ok (.iconst 1, 1) := by decide +kernel
theorem dX12_freeSet_22 : decode cX12_freeSet 22 = .ok (.iload_n 2, 1) := by decide +kernel
theorem dX12_freeSet_23 : decode cX12_freeSet 23 = .ok (.ishl, 1) := by decide +kernel
theorem dX12_freeSet_24 : decode cX12_freeSet 24 = .ok (.ior, 1) := by decide +kernel
theorem dX12_freeSet_25 : decode cX12_freeSet 25 = .ok (.istore_n 1, 1) := by decide +kernel
theorem dX12_freeSet_26 : decode cX12_freeSet 26 = .ok (.iinc 2 1, 3) := by decide +kernel
theorem dX12_freeSet_29 : decode cX12_freeSet 29 = .ok (.goto (-25), 3) := by decide +kernel
theorem dX12_freeSet_32 : decode cX12_freeSet 32 = .ok (.iload_n 1, 1) := by decide +kernel
theorem dX12_freeSet_33 : decode cX12_freeSet 33 = .ok (.ireturn, 1) := by decide +kernel
theorem dX12_look_0 : decode cX12_look 0 = .ok (.aload_n 0, 1) := by decide +kernel
theorem dX12_look_1 : decode cX12_look 1 = .ok (.iconst 0, 1) := by decide +kernel
theorem dX12_look_2 : decode cX12_look 2 = .ok (.putfield 149, 3) := by decide +kernel
theorem dX12_look_5 : decode cX12_look 5 = .ok (.iload_n 1, 1) := by decide +kernel
theorem dX12_look_6 : decode cX12_look 6 = .ok (.ifCond .ne 8, 3) := by decide +kernel
theorem dX12_look_9 : decode cX12_look 9 = .ok (.aload_n 0, 1) := by decide +kernel
theorem dX12_look_10 : decode cX12_look 10 = .ok (.getfield 161, 3) := by decide +kernel
theorem dX12_look_13 : decode cX12_look 13 = .ok (.ireturn, 1) := by decide +kernel
theorem dX12_look_14 : decode cX12_look 14 = .ok (.iload_n 1, 1) := by decide +kernel
theorem dX12_look_15 : decode cX12_look 15 = .ok (.iconst 1, 1) := by decide +kernel
theorem dX12_look_16 : decode cX12_look 16 = .ok (.if_icmp .ne 8, 3) := by decide +kernel
theorem dX12_look_19 : decode cX12_look 19 = .ok (.aload_n 0, 1) := by decide +kernel
theorem dX12_look_20 : decode cX12_look 20 = .ok (.getfield 164, 3) := by decide +kernel
theorem dX12_look_23 : decode cX12_look 23 = .ok (.ireturn, 1) := by decide +kernel
theorem dX12_look_24 : decode cX12_look 24 = .ok (.iload_n 1, 1) := by decide +kernel
theorem dX12_look_25 : decode cX12_look 25 = .ok (.iconst 2, 1) := by decide +kernel
theorem dX12_look_26 : decode cX12_look 26 = .ok (.if_icmp .ne 10, 3) := by decide +kernel
theorem dX12_look_29 : decode cX12_look 29 = .ok (.aload_n 0, 1) := by decide +kernel
theorem dX12_look_30 : decode cX12_look 30 = .ok (.getfield 7, 3) := by decide +kernel
theorem dX12_look_33 : decode cX12_look 33 = .ok (.iconst 0, 1) := by decide +kernel
theorem dX12_look_34 : decode cX12_look 34 = .ok (.iaload, 1) := by decide +kernel
theorem dX12_look_35 : decode cX12_look 35 = .ok (.ireturn, 1) := by decide +kernel
theorem dX12_look_36 : decode cX12_look 36 = .ok (.iload_n 1, 1) := by decide +kernel
theorem dX12_look_37 : decode cX12_look 37 = .ok (.iconst 3, 1) := by decide +kernel
theorem dX12_look_38 : decode cX12_look 38 = .ok (.if_icmp .ne 10, 3) := by decide +kernel
theorem dX12_look_41 : decode cX12_look 41 = .ok (.aload_n 0, 1) := by decide +kernel
theorem dX12_look_42 : decode cX12_look 42 = .ok (.getfield 7, 3) := by decide +kernel
theorem dX12_look_45 : decode cX12_look 45 = .ok (.iconst 3, 1) := by decide +kernel
theorem dX12_look_46 : decode cX12_look 46 = .ok (.iaload, 1) := by decide +kernel
theorem dX12_look_47 : decode cX12_look 47 = .ok (.ireturn, 1) := by decide +kernel
theorem dX12_look_48 : decode cX12_look 48 = .ok (.iload_n 1, 1) := by decide +kernel
theorem dX12_look_49 : decode cX12_look 49 = .ok (.iconst 4, 1) := by decide +kernel
theorem dX12_look_50 : decode cX12_look 50 = .ok (.if_icmp .ne 10, 3) := by decide +kernel
theorem dX12_look_53 : decode cX12_look 53 = .ok (.aload_n 0, 1) := by decide +kernel
theorem dX12_look_54 : decode cX12_look 54 = .ok (.getfield 7, 3) := by decide +kernel
theorem dX12_look_57 : decode cX12_look 57 = .ok (.iconst 4, 1) := by decide +kernel
theorem dX12_look_58 : decode cX12_look 58 = .ok (.iaload, 1) := by decide +kernel
theorem dX12_look_59 : decode cX12_look 59 = .ok (.ireturn, 1) := by decide +kernel
theorem dX12_look_60 : decode cX12_look 60 = .ok (.iload_n 1, 1) := by decide +kernel
theorem dX12_look_61 : decode cX12_look 61 = .ok (.iconst 5, 1) := by decide +kernel
theorem dX12_look_62 : decode cX12_look 62 = .ok (.if_icmp .ne 8, 3) := by decide +kernel
theorem dX12_look_65 : decode cX12_look 65 = .ok (.aload_n 0, 1) := by decide +kernel
theorem dX12_look_66 : decode cX12_look 66 = .ok (.invokevirtual 555, 3) := by decide +kernel
theorem dX12_look_69 : decode cX12_look 69 = .ok (.ireturn, 1) := by decide +kernel
theorem dX12_look_70 : decode cX12_look 70 = .ok (.iload_n 1, 1) := by decide +kernel
theorem dX12_look_71 : decode cX12_look 71 = .ok (.bipush 6, 2) := by decide +kernel
theorem dX12_look_73 : decode cX12_look 73 = .ok (.if_icmp .ne 10, 3) := by decide +kernel
theorem dX12_look_76 : decode cX12_look 76 = .ok (.aload_n 0, 1) := by decide +kernel
theorem dX12_look_77 : decode cX12_look 77 = .ok (.getfield 7, 3) := by decide +kernel
theorem dX12_look_80 : decode cX12_look 80 = .ok (.iconst 2, 1) := by decide +kernel
theorem dX12_look_81 : decode cX12_look 81 = .ok (.iaload, 1) := by decide +kernel
theorem dX12_look_82 : decode cX12_look 82 = .ok (.ireturn, 1) := by decide +kernel
theorem dX12_look_83 : decode cX12_look 83 = .ok (.iload_n 1, 1) := by decide +kernel
theorem dX12_look_84 : decode cX12_look 84 = .ok (.bipush 7, 2) := by decide +kernel
theorem dX12_look_86 : decode cX12_look 86 = .ok (.if_icmp .ne 10, 3) := by decide +kernel
theorem dX12_look_89 : decode cX12_look 89 = .ok (.aload_n 0, 1) := by decide +kernel
theorem dX12_look_90 : decode cX12_look 90 = .ok (.getfield 7, 3) := by decide +kernel
theorem dX12_look_93 : decode cX12_look 93 = .ok (.iconst 1, 1) := by decide +kernel
theorem dX12_look_94 : decode cX12_look 94 = .ok (.iaload, 1) := by decide +kernel
theorem dX12_look_95 : decode cX12_look 95 = .ok (.ireturn, 1) := by decide +kernel
theorem dX12_look_96 : decode cX12_look 96 = .ok (.iload_n 1, 1) := by decide +kernel
theorem dX12_look_97 : decode cX12_look 97 = .ok (.bipush 8, 2) := by decide +kernel
theorem dX12_look_99 : decode cX12_look 99 = .ok (.if_icmp .ne 10, 3) := by decide +kernel
theorem dX12_look_102 : decode cX12_look 102 = .ok (.aload_n 0, 1) := by decide +kernel
theorem dX12_look_103 : decode cX12_look 103 = .ok (.getfield 43, 3) := by decide +kernel
theorem dX12_look_106 : decode cX12_look 106 = .ok (.iconst 0, 1) := by decide +kernel
theorem dX12_look_107 : decode cX12_look 107 = .ok (.iaload, 1) := by decide +kernel
theorem dX12_look_108 : decode cX12_look 108 = .ok (.ireturn, 1) := by decide +kernel
theorem dX12_look_109 : decode cX12_look 109 = .ok (.iload_n 1, 1) := by decide +kernel
theorem dX12_look_110 : decode cX12_look 110 = .ok (.bipush 9, 2) := by decide +kernel
theorem dX12_look_112 : decode cX12_look 112 = .ok (.if_icmp .ne 8, 3) := by decide +kernel
theorem dX12_look_115 : decode cX12_look 115 = .ok (.aload_n 0, 1) := by decide +kernel
theorem dX12_look_116 : decode cX12_look 116 = .ok (.getfield 317, 3) := by decide +kernel
theorem dX12_look_119 : decode cX12_look 119 = .ok (.ireturn, 1) := by decide +kernel
theorem dX12_look_120 : decode cX12_look 120 = .ok (.iload_n 1, 1) := by decide +kernel
theorem dX12_look_121 : decode cX12_look 121 = .ok (.bipush 10, 2) := by decide +kernel
theorem dX12_look_123 : decode cX12_look 123 = .ok (.if_icmp .ne 8, 3) := by decide +kernel
theorem dX12_look_126 : decode cX12_look 126 = .ok (.aload_n 0, 1) := by decide +kernel
theorem dX12_look_127 : decode cX12_look 127 = .ok (.getfield 320, 3) := by decide +kernel
theorem dX12_look_130 : decode cX12_look 130 = .ok (.ireturn, 1) := by decide +kernel
theorem dX12_look_131 : decode cX12_look 131 = .ok (.iload_n 1, 1) := by decide +kernel
theorem dX12_look_132 : decode cX12_look 132 = .ok (.bipush 11, 2) := by decide +kernel
theorem dX12_look_134 : decode cX12_look 134 = .ok (.if_icmp .ne 8, 3) := by decide +kernel
theorem dX12_look_137 : decode cX12_look 137 = .ok (.aload_n 0, 1) := by decide +kernel
theorem dX12_look_138 : decode cX12_look 138 = .ok (.getfield 314, 3) := by decide +kernel
theorem dX12_look_141 : decode cX12_look 141 = .ok (.ireturn, 1) := by decide +kernel
theorem dX12_look_142 : decode cX12_look 142 = .ok (.iload_n 1, 1) := by decide +kernel
theorem dX12_look_143 : decode cX12_look 143 = .ok (.bipush 12, 2) := by decide +kernel
theorem dX12_look_145 : decode cX12_look 145 = .ok (.if_icmp .ne 10, 3) := by decide +kernel
theorem dX12_look_148 : decode cX12_look 148 = .ok (.aload_n 0, 1) := by decide +kernel
theorem dX12_look_149 : decode cX12_look 149 = .ok (.getfield 152, 3) := by decide +kernel
theorem dX12_look_152 : decode cX12_look 152 = .ok (.goto 6, 3) := by decide +kernel
theorem dX12_look_155 : decode cX12_look 155 = .ok (.sipush (-10000), 3) := by decide +kernel
theorem dX12_look_158 : decode cX12_look 158 = .ok (.ireturn, 1) := by decide +kernel
theorem dJ6_bitCount_0f7a4_0 : decode cJ6_bitCount_0f7a4 0 = .ok (.iload_n 0, 1) := by decide +kernel
theorem dJ6_bitCount_0f7a4_1 : decode cJ6_bitCount_0f7a4 1 = .ok (.iload_n 0, 1) := by decide +kernel
theorem dJ6_bitCount_0f7a4_2 : decode cJ6_bitCount_0f7a4 2 = .ok (.iconst 1, 1) := by decide +kernel
theorem dJ6_bitCount_0f7a4_3 : decode cJ6_bitCount_0f7a4 3 = .ok (.iushr, 1) := by decide +kernel
theorem dJ6_bitCount_0f7a4_4 : decode cJ6_bitCount_0f7a4 4 = .ok (.ldc_w 265, 3) := by decide +kernel
theorem dJ6_bitCount_0f7a4_7 : decode cJ6_bitCount_0f7a4 7 = .ok (.iand, 1) := by decide +kernel
theorem dJ6_bitCount_0f7a4_8 : decode cJ6_bitCount_0f7a4 8 = .ok (.isub, 1) := by decide +kernel
theorem dJ6_bitCount_0f7a4_9 : decode cJ6_bitCount_0f7a4 9 = .ok (.istore_n 0, 1) := by decide +kernel
theorem dJ6_bitCount_0f7a4_10 : decode cJ6_bitCount_0f7a4 10 = .ok (.iload_n 0, 1) := by decide +kernel
theorem dJ6_bitCount_0f7a4_11 : decode cJ6_bitCount_0f7a4 11 = .ok (.ldc_w 266, 3) := by decide +kernel
theorem dJ6_bitCount_0f7a4_14 : decode cJ6_bitCount_0f7a4 14 = .ok (.iand, 1) := by decide +kernel
theorem dJ6_bitCount_0f7a4_15 : decode cJ6_bitCount_0f7a4 15 = .ok (.iload_n 0, 1) := by decide +kernel
theorem dJ6_bitCount_0f7a4_16 : decode cJ6_bitCount_0f7a4 16 = .ok (.iconst 2, 1) := by decide +kernel
theorem dJ6_bitCount_0f7a4_17 : decode cJ6_bitCount_0f7a4 17 = .ok (.iushr, 1) := by decide +kernel
theorem dJ6_bitCount_0f7a4_18 : decode cJ6_bitCount_0f7a4 18 = .ok (.ldc_w 266, 3) := by decide +kernel
theorem dJ6_bitCount_0f7a4_21 : decode cJ6_bitCount_0f7a4 21 = .ok (.iand, 1) := by decide +kernel
theorem dJ6_bitCount_0f7a4_22 : decode cJ6_bitCount_0f7a4 22 = .ok (.iadd, 1) := by decide +kernel
theorem dJ6_bitCount_0f7a4_23 : decode cJ6_bitCount_0f7a4 23 = .ok (.istore_n 0, 1) := by decide +kernel
theorem dJ6_bitCount_0f7a4_24 : decode cJ6_bitCount_0f7a4 24 = .ok (.iload_n 0, 1) := by decide +kernel
theorem dJ6_bitCount_0f7a4_25 : decode cJ6_bitCount_0f7a4 25 = .ok (.iload_n 0, 1) := by decide +kernel
theorem dJ6_bitCount_0f7a4_26 : decode cJ6_bitCount_0f7a4 26 = .ok (.iconst 4, 1) := by decide +kernel
theorem dJ6_bitCount_0f7a4_27 : decode cJ6_bitCount_0f7a4 27 = .ok (.iushr, 1) := by decide +kernel
theorem dJ6_bitCount_0f7a4_28 : decode cJ6_bitCount_0f7a4 28 = .ok (.iadd, 1) := by decide +kernel
theorem dJ6_bitCount_0f7a4_29 : decode cJ6_bitCount_0f7a4 29 = .ok (.ldc_w 267, 3) := by decide +kernel
theorem dJ6_bitCount_0f7a4_32 : decode cJ6_bitCount_0f7a4 32 = .ok (.iand, 1) := by decide +kernel
theorem dJ6_bitCount_0f7a4_33 : decode cJ6_bitCount_0f7a4 33 = .ok (.istore_n 0, 1) := by decide +kernel
theorem dJ6_bitCount_0f7a4_34 : decode cJ6_bitCount_0f7a4 34 = .ok (.iload_n 0, 1) := by decide +kernel
theorem dJ6_bitCount_0f7a4_35 : decode cJ6_bitCount_0f7a4 35 = .ok (.iload_n 0, 1) := by decide +kernel
theorem dJ6_bitCount_0f7a4_36 : decode cJ6_bitCount_0f7a4 36 = .ok (.bipush 8, 2) := by decide +kernel
theorem dJ6_bitCount_0f7a4_38 : decode cJ6_bitCount_0f7a4 38 = .ok (.iushr, 1) := by decide +kernel
theorem dJ6_bitCount_0f7a4_39 : decode cJ6_bitCount_0f7a4 39 = .ok (.iadd, 1) := by decide +kernel
theorem dJ6_bitCount_0f7a4_40 : decode cJ6_bitCount_0f7a4 40 = .ok (.istore_n 0, 1) := by decide +kernel
theorem dJ6_bitCount_0f7a4_41 : decode cJ6_bitCount_0f7a4 41 = .ok (.iload_n 0, 1) := by decide +kernel
theorem dJ6_bitCount_0f7a4_42 : decode cJ6_bitCount_0f7a4 42 = .ok (.iload_n 0, 1) := by decide +kernel
theorem dJ6_bitCount_0f7a4_43 : decode cJ6_bitCount_0f7a4 43 = .ok (.bipush 16, 2) := by decide +kernel
theorem dJ6_bitCount_0f7a4_45 : decode cJ6_bitCount_0f7a4 45 = .ok (.iushr, 1) := by decide +kernel
theorem dJ6_bitCount_0f7a4_46 : decode cJ6_bitCount_0f7a4 46 = .ok (.iadd, 1) := by decide +kernel
theorem dJ6_bitCount_0f7a4_47 : decode cJ6_bitCount_0f7a4 47 = .ok (.istore_n 0, 1) := by decide +kernel
theorem dJ6_bitCount_0f7a4_48 : decode cJ6_bitCount_0f7a4 48 = .ok (.iload_n 0, 1) := by decide +kernel
theorem dJ6_bitCount_0f7a4_49 : decode cJ6_bitCount_0f7a4 49 = .ok (.bipush 63, 2) := by decide +kernel
theorem dJ6_bitCount_0f7a4_51 : decode cJ6_bitCount_0f7a4 51 = .ok (.iand, 1) := by decide +kernel
theorem dJ6_bitCount_0f7a4_52 : decode cJ6_bitCount_0f7a4 52 = .ok (.ireturn, 1) := by decide +kernel
theorem dJ9_abs_0f7a4_0 : decode cJ9_abs_0f7a4 0 = .ok (.iload_n 0, 1) := by decide +kernel
theorem dJ9_abs_0f7a4_1 : decode cJ9_abs_0f7a4 1 = .ok (.ifCond .ge 8, 3) := by decide +kernel
theorem dJ9_abs_0f7a4_4 : decode cJ9_abs_0f7a4 4 = .ok (.iload_n 0, 1) := by decide +kernel
theorem dJ9_abs_0f7a4_5 : decode cJ9_abs_0f7a4 5 = .ok (.ineg, 1) := by decide +kernel
theorem dJ9_abs_0f7a4_6 : decode cJ9_abs_0f7a4 6 = .ok (.goto 4, 3) := by decide +kernel
theorem dJ9_abs_0f7a4_9 : decode cJ9_abs_0f7a4 9 = .ok (.iload_n 0, 1) := by decide +kernel
theorem dJ9_abs_0f7a4_10 : decode cJ9_abs_0f7a4 10 = .ok (.ireturn, 1) := by decide +kernel
theorem dJ9_max_7cf53_0 : decode cJ9_max_7cf53 0 = .ok (.iload_n 0, 1) := by decide +kernel
theorem dJ9_max_7cf53_1 : decode cJ9_max_7cf53 1 = .ok (.iload_n 1, 1) := by decide +kernel
theorem dJ9_max_7cf53_2 : decode cJ9_max_7cf53 2 = .ok (.if_icmp .lt 7, 3) := by decide +kernel
theorem dJ9_max_7cf53_5 : decode cJ9_max_7cf53 5 = .ok (.iload_n 0, 1) := by decide +kernel
theorem dJ9_max_7cf53_6 : decode cJ9_max_7cf53 6 = .ok (.goto 4, 3) := by decide +kernel
theorem dJ9_max_7cf53_9 : decode cJ9_max_7cf53 9 = .ok (.iload_n 1, 1) := by decide +kernel
theorem dJ9_max_7cf53_10 : decode cJ9_max_7cf53 10 = .ok (.ireturn, 1) := by decide +kernel
theorem dJ9_min_7cf53_0 : decode cJ9_min_7cf53 0 = .ok (.iload_n 0, 1) := by decide +kernel
theorem dJ9_min_7cf53_1 : decode cJ9_min_7cf53 1 = .ok (.iload_n 1, 1) := by decide +kernel
theorem dJ9_min_7cf53_2 : decode cJ9_min_7cf53 2 = .ok (.if_icmp .gt 7, 3) := by decide +kernel
theorem dJ9_min_7cf53_5 : decode cJ9_min_7cf53 5 = .ok (.iload_n 0, 1) := by decide +kernel
theorem dJ9_min_7cf53_6 : decode cJ9_min_7cf53 6 = .ok (.goto 4, 3) := by decide +kernel
theorem dJ9_min_7cf53_9 : decode cJ9_min_7cf53 9 = .ok (.iload_n 1, 1) := by decide +kernel
theorem dJ9_min_7cf53_10 : decode cJ9_min_7cf53 10 = .ok (.ireturn, 1) := by decide +kernel
theorem dJ0_length_8abf5_0 : decode cJ0_length_8abf5 0 = .ok (.aload_n 0, 1) := by decide +kernel
theorem dJ0_length_8abf5_1 : decode cJ0_length_8abf5 1 = .ok (.getfield 9, 3) := by decide +kernel
theorem dJ0_length_8abf5_4 : decode cJ0_length_8abf5 4 = .ok (.arraylength, 1) := by decide +kernel
theorem dJ0_length_8abf5_5 : decode cJ0_length_8abf5 5 = .ok (.aload_n 0, 1) := by decide +kernel
theorem dJ0_length_8abf5_6 : decode cJ0_length_8abf5 6 = .ok (.invokevirtual 335, 3) := by decide +kernel
theorem dJ0_length_8abf5_9 : decode cJ0_length_8abf5 9 = .ok (.ishr, 1) := by decide +kernel
theorem dJ0_length_8abf5_10 : decode cJ0_length_8abf5 10 = .ok (.ireturn, 1) := by decide +kernel
theorem dJ0_charAt_5068e_0 : decode cJ0_charAt_5068e 0 = .ok (.aload_n 0, 1) := by decide +kernel
theorem dJ0_charAt_5068e_1 : decode cJ0_charAt_5068e 1 = .ok (.invokevirtual 492, 3) := by decide +kernel
theorem dJ0_charAt_5068e_4 : decode cJ0_charAt_5068e 4 = .ok (.ifCond .eq 12, 3) := by decide +kernel
theorem dJ0_charAt_5068e_7 : decode cJ0_charAt_5068e 7 = .ok (.aload_n 0, 1) := by decide +kernel
theorem dJ0_charAt_5068e_8 : decode cJ0_charAt_5068e 8 = .ok (.getfield 9, 3) := by decide +kernel
theorem dJ0_charAt_5068e_11 : decode cJ0_charAt_5068e 11 = .ok (.iload_n 1, 1) := by decide +kernel
theorem dJ0_charAt_5068e_12 : decode cJ0_charAt_5068e 12 = .ok (.invokestatic 495, 3) := by decide +kernel
theorem dJ0_charAt_5068e_15 : decode cJ0_charAt_5068e 15 = .ok (.ireturn, 1) := by decide +kernel
theorem dJ0_charAt_5068e_16 : decode cJ0_charAt_5068e 16 = .ok (.aload_n 0, 1) := by decide +kernel
theorem dJ0_charAt_5068e_17 : decode cJ0_charAt_5068e 17 = .ok (.getfield 9, 3) := by decide +kernel
theorem dJ0_charAt_5068e_20 : decode cJ0_charAt_5068e 20 = .ok (.iload_n 1, 1) := by decide +kernel
theorem dJ0_charAt_5068e_21 : decode cJ0_charAt_5068e 21 = .ok (.invokestatic 498, 3) := by decide +kernel
theorem dJ0_charAt_5068e_24 : decode cJ0_charAt_5068e 24 = .ok (.ireturn, 1) := by decide +kernel
theorem dJ0_coder_7d493_0 : decode cJ0_coder_7d493 0 = .ok (.getstatic 38, 3) := by decide +kernel
theorem dJ0_coder_7d493_3 : decode cJ0_coder_7d493 3 = .ok (.ifCond .eq 10, 3) := by decide +kernel
theorem dJ0_coder_7d493_6 : decode cJ0_coder_7d493 6 = .ok (.aload_n 0, 1) := by decide +kernel
theorem dJ0_coder_7d493_7 : decode cJ0_coder_7d493 7 = .ok (.getfield 15, 3) := by decide +kernel
theorem dJ0_coder_7d493_10 : decode cJ0_coder_7d493 10 = .ok (.goto 4, 3) := by decide +kernel
theorem dJ0_coder_7d493_13 : decode cJ0_coder_7d493 13 = .ok (.iconst 1, 1) := by decide +kernel
theorem dJ0_coder_7d493_14 : decode cJ0_coder_7d493 14 = .ok (.ireturn, 1) := by decide +kernel
theorem dJ0_isLatin1_aae02_0 : decode cJ0_isLatin1_aae02 0 = .ok (.getstatic 38, 3) := by decide +kernel
theorem dJ0_isLatin1_aae02_3 : decode cJ0_isLatin1_aae02 3 = .ok (.ifCond .eq 14, 3) := by decide +kernel
theorem dJ0_isLatin1_aae02_6 : decode cJ0_isLatin1_aae02 6 = .ok (.aload_n 0, 1) := by decide +kernel
theorem dJ0_isLatin1_aae02_7 : decode cJ0_isLatin1_aae02 7 = .ok (.getfield 15, 3) := by decide +kernel
theorem dJ0_isLatin1_aae02_10 : decode cJ0_isLatin1_aae02 10 = .ok (.ifCond .ne 7, 3) := by decide +kernel
theorem dJ0_isLatin1_aae02_13 : decode cJ0_isLatin1_aae02 13 = .ok (.iconst 1, 1) := by decide +kernel
theorem dJ0_isLatin1_aae02_14 : decode cJ0_isLatin1_aae02 14 = .ok (.goto 4, 3) := by decide +kernel
theorem dJ0_isLatin1_aae02_17 : decode cJ0_isLatin1_aae02 17 = .ok (.iconst 0, 1) := by decide +kernel
theorem dJ0_isLatin1_aae02_18 : decode cJ0_isLatin1_aae02 18 = .ok (.ireturn, 1) := by decide +kernel
theorem dJ0_checkIndex_df160_0 : decode cJ0_checkIndex_df160 0 = .ok (.iload_n 0, 1) := by decide +kernel
theorem dJ0_checkIndex_df160_1 : decode cJ0_checkIndex_df160 1 = .ok (.iload_n 1, 1) := by decide +kernel
theorem dJ0_checkIndex_df160_2 : decode cJ0_checkIndex_df160 2 = .ok (.getstatic 1053, 3) := by decide +kernel
theorem dJ0_checkIndex_df160_5 : decode cJ0_checkIndex_df160 5 = .ok (.invokestatic 1059, 3) := by decide +kernel
theorem dJ0_checkIndex_df160_8 : decode cJ0_checkIndex_df160 8 = .ok (.pop, 1) := by decide +kernel
theorem dJ0_checkIndex_df160_9 : decode cJ0_checkIndex_df160 9 = .ok (.return_, 1) := by decide +kernel
theorem dJ1_charAt_3b067_0 : decode cJ1_charAt_3b067 0 = .ok (.iload_n 1, 1) := by decide +kernel
theorem dJ1_charAt_3b067_1 : decode cJ1_charAt_3b067 1 = .ok (.aload_n 0, 1) := by decide +kernel
theorem dJ1_charAt_3b067_2 : decode cJ1_charAt_3b067 2 = .ok (.arraylength, 1) := by decide +kernel
theorem dJ1_charAt_3b067_3 : decode cJ1_charAt_3b067 3 = .ok (.invokestatic 9, 3) := by decide +kernel
theorem dJ1_charAt_3b067_6 : decode cJ1_charAt_3b067 6 = .ok (.aload_n 0, 1) := by decide +kernel
theorem dJ1_charAt_3b067_7 : decode cJ1_charAt_3b067 7 = .ok (.iload_n 1, 1) := by decide +kernel
theorem dJ1_charAt_3b067_8 : decode cJ1_charAt_3b067 8 = .ok (.baload, 1) := by decide +kernel
theorem dJ1_charAt_3b067_9 : decode cJ1_charAt_3b067 9 = .ok (.sipush 255, 3) := by decide +kernel
theorem dJ1_charAt_3b067_12 : decode cJ1_charAt_3b067 12 = .ok (.iand, 1) := by decide +kernel
theorem dJ1_charAt_3b067_13 : decode cJ1_charAt_3b067 13 = .ok (.i2c, 1) := by decide +kernel
theorem dJ1_charAt_3b067_14 : decode cJ1_charAt_3b067 14 = .ok (.ireturn, 1) := by decide +kernel
theorem dJ2_getChar_3b067_0 : decode cJ2_getChar_3b067 0 = .ok (.getstatic 44, 3) := by decide +kernel
theorem dJ2_getChar_3b067_3 : decode cJ2_getChar_3b067 3 = .ok (.ifCond .ne 25, 3) := by decide +kernel
theorem dJ2_getChar_3b067_6 : decode cJ2_getChar_3b067 6 = .ok (.iload_n 1, 1) := by decide +kernel
theorem dJ2_getChar_3b067_7 : decode cJ2_getChar_3b067 7 = .ok (.ifCond .lt 11, 3) := by decide +kernel
theorem dJ2_getChar_3b067_10 : decode cJ2_getChar_3b067 10 = .ok (.iload_n 1, 1) := by decide +kernel
theorem dJ2_getChar_3b067_11 : decode cJ2_getChar_3b067 11 = .ok (.aload_n 0, 1) := by decide +kernel
theorem dJ2_getChar_3b067_12 : decode cJ2_getChar_3b067 12 = .ok (.invokestatic 48, 3) := by decide +kernel
theorem dJ2_getChar_3b067_15 : decode cJ2_getChar_3b067 15 = .ok (.if_icmp .lt 13, 3) := by decide +kernel
theorem dJ2_getChar_3b067_18 : decode cJ2_getChar_3b067 18 = .ok (.new 52, 3) := by decide +kernel
theorem dJ2_getChar_3b067_21 : decode cJ2_getChar_3b067 21 = .ok (.dup, 1) := by decide +kernel
theorem dJ2_getChar_3b067_22 : decode cJ2_getChar_3b067 22 = .ok (.ldc 54, 2) := by decide +kernel
theorem dJ2_getChar_3b067_24 : decode cJ2_getChar_3b067 24 = .ok (.invokespecial 56, 3) := by decide +kernel
theorem dJ2_getChar_3b067_27 : decode cJ2_getChar_3b067 27 = .ok (.athrow, 1) := by decide +kernel
theorem dJ2_getChar_3b067_28 : decode cJ2_getChar_3b067 28 = .ok (.iload_n 1, 1) := by decide +kernel
theorem dJ2_getChar_3b067_29 : decode cJ2_getChar_3b067 29 = .ok (.iconst 1, 1) := by decide +kernel
theorem dJ2_getChar_3b067_30 : decode cJ2_getChar_3b067 30 = .ok (.ishl, 1) := by decide +kernel
theorem dJ2_getChar_3b067_31 : decode cJ2_getChar_3b067 31 = .ok (.istore_n 1, 1) := by decide +kernel
theorem dJ2_getChar_3b067_32 : decode cJ2_getChar_3b067 32 = .ok (.aload_n 0, 1) := by decide +kernel
theorem dJ2_getChar_3b067_33 : decode cJ2_getChar_3b067 33 = .ok (.iload_n 1, 1) := by decide +kernel
theorem dJ2_getChar_3b067_34 : decode cJ2_getChar_3b067 34 = .ok (.iinc 1 1, 3) := by decide +kernel
theorem dJ2_getChar_3b067_37 : decode cJ2_getChar_3b067 37 = .ok (.baload, 1) := by decide +kernel
theorem dJ2_getChar_3b067_38 : decode cJ2_getChar_3b067 38 = .ok (.sipush 255, 3) := by decide +kernel
theorem dJ2_getChar_3b067_41 : decode cJ2_getChar_3b067 41 = .ok (.iand, 1) := by decide +kernel
theorem dJ2_getChar_3b067_42 : decode cJ2_getChar_3b067 42 = .ok (.getstatic 59, 3) := by decide +kernel
theorem dJ2_getChar_3b067_45 : decode cJ2_getChar_3b067 45 = .ok (.ishl, 1) := by decide +kernel
theorem dJ2_getChar_3b067_46 : decode cJ2_getChar_3b067 46 = .ok (.aload_n 0, 1) := by decide +kernel
theorem dJ2_getChar_3b067_47 : decode cJ2_getChar_3b067 47 = .ok (.iload_n 1, 1) := by decide +kernel
theorem dJ2_getChar_3b067_48 : decode cJ2_getChar_3b067 48 = .ok (.baload, 1) := by decide +kernel
theorem dJ2_getChar_3b067_49 : decode cJ2_getChar_3b067 49 = .ok (.sipush 255, 3) := by decide +kernel
theorem dJ2_getChar_3b067_52 : decode cJ2_getChar_3b067 52 = .ok (.iand, 1) := by decide +kernel
theorem dJ2_getChar_3b067_53 : decode cJ2_getChar_3b067 53 = .ok (.getstatic 63, 3) := by decide +kernel
theorem dJ2_getChar_3b067_56 : decode cJ2_getChar_3b067 56 = .ok (.ishl, 1) := by decide +kernel
theorem dJ2_getChar_3b067_57 : decode cJ2_getChar_3b067 57 = .ok (.ior, 1) := by decide +kernel
theorem dJ2_getChar_3b067_58 : decode cJ2_getChar_3b067 58 = .ok (.i2c, 1) := by decide +kernel
theorem dJ2_getChar_3b067_59 : decode cJ2_getChar_3b067 59 = .ok (.ireturn, 1) := by decide +kernel
theorem dJ2_length_9d52b_0 : decode cJ2_length_9d52b 0 = .ok (.aload_n 0, 1) := by decide +kernel
theorem dJ2_length_9d52b_1 : decode cJ2_length_9d52b 1 = .ok (.arraylength, 1) := by decide +kernel
theorem dJ2_length_9d52b_2 : decode cJ2_length_9d52b 2 = .ok (.iconst 1, 1) := by decide +kernel
theorem dJ2_length_9d52b_3 : decode cJ2_length_9d52b 3 = .ok (.ishr, 1) := by decide +kernel
theorem dJ2_length_9d52b_4 : decode cJ2_length_9d52b 4 = .ok (.ireturn, 1) := by decide +kernel
theorem dJ2_charAt_3b067_0 : decode cJ2_charAt_3b067 0 = .ok (.iload_n 1, 1) := by decide +kernel
theorem dJ2_charAt_3b067_1 : decode cJ2_charAt_3b067 1 = .ok (.aload_n 0, 1) := by decide +kernel
theorem dJ2_charAt_3b067_2 : decode cJ2_charAt_3b067 2 = .ok (.invokestatic 67, 3) := by decide +kernel
theorem dJ2_charAt_3b067_5 : decode cJ2_charAt_3b067 5 = .ok (.aload_n 0, 1) := by decide +kernel
theorem dJ2_charAt_3b067_6 : decode cJ2_charAt_3b067 6 = .ok (.iload_n 1, 1) := by decide +kernel
theorem dJ2_charAt_3b067_7 : decode cJ2_charAt_3b067 7 = .ok (.invokestatic 71, 3) := by decide +kernel
theorem dJ2_charAt_3b067_10 : decode cJ2_charAt_3b067 10 = .ok (.ireturn, 1) := by decide +kernel
theorem dJ2_checkIndex_2214a_0 : decode cJ2_checkIndex_2214a 0 = .ok (.iload_n 0, 1) := by decide +kernel
theorem dJ2_checkIndex_2214a_1 : decode cJ2_checkIndex_2214a 1 = .ok (.aload_n 1, 1) := by decide +kernel
theorem dJ2_checkIndex_2214a_2 : decode cJ2_checkIndex_2214a 2 = .ok (.invokestatic 48, 3) := by decide +kernel
theorem dJ2_checkIndex_2214a_5 : decode cJ2_checkIndex_2214a 5 = .ok (.invokestatic 414, 3) := by decide +kernel
theorem dJ2_checkIndex_2214a_8 : decode cJ2_checkIndex_2214a 8 = .ok (.return_, 1) := by decide +kernel
theorem dJ7_fill_53178_0 : decode cJ7_fill_53178 0 = .ok (.iconst 0, 1) := by decide +kernel
theorem dJ7_fill_53178_1 : decode cJ7_fill_53178 1 = .ok (.istore_n 2, 1) := by decide +kernel
theorem dJ7_fill_53178_2 : decode cJ7_fill_53178 2 = .ok (.aload_n 0, 1) := by decide +kernel
theorem dJ7_fill_53178_3 : decode cJ7_fill_53178 3 = .ok (.arraylength, 1) := by decide +kernel
theorem dJ7_fill_53178_4 : decode cJ7_fill_53178 4 = .ok (.istore_n 3, 1) := by decide +kernel
theorem dJ7_fill_53178_5 : decode cJ7_fill_53178 5 = .ok (.iload_n 2, 1) := by decide +kernel
theorem dJ7_fill_53178_6 : decode cJ7_fill_53178 6 = .ok (.iload_n 3, 1) := by decide +kernel
theorem dJ7_fill_53178_7 : decode cJ7_fill_53178 7 = .ok (.if_icmp .ge 13, 3) := by decide +kernel
theorem dJ7_fill_53178_10 : decode cJ7_fill_53178 10 = .ok (.aload_n 0, 1) := by decide +kernel
theorem dJ7_fill_53178_11 : decode cJ7_fill_53178 11 = .ok (.iload_n 2, 1) := by decide +kernel
theorem dJ7_fill_53178_12 : decode cJ7_fill_53178 12 = .ok (.iload_n 1, 1) := by decide +kernel
theorem dJ7_fill_53178_13 : decode cJ7_fill_53178 13 = .ok (.iastore, 1) := by decide +kernel
theorem dJ7_fill_53178_14 : decode cJ7_fill_53178 14 = .ok (.iinc 2 1, 3) := by decide +kernel
theorem dJ7_fill_53178_17 : decode cJ7_fill_53178 17 = .ok (.goto (-12), 3) := by decide +kernel
theorem dJ7_fill_53178_20 : decode cJ7_fill_53178 20 = .ok (.return_, 1) := by decide +kernel
theorem dJ3_checkIndex_8e157_0 : decode cJ3_checkIndex_8e157 0 = .ok (.iload_n 0, 1) := by decide +kernel
theorem dJ3_checkIndex_8e157_1 : decode cJ3_checkIndex_8e157 1 = .ok (.ifCond .lt 8, 3) := by decide +kernel
theorem dJ3_checkIndex_8e157_4 : decode cJ3_checkIndex_8e157 4 = .ok (.iload_n 0, 1) := by decide +kernel
theorem dJ3_checkIndex_8e157_5 : decode cJ3_checkIndex_8e157 5 = .ok (.iload_n 1, 1) := by decide +kernel
theorem dJ3_checkIndex_8e157_6 : decode cJ3_checkIndex_8e157 6 = .ok (.if_icmp .lt 10, 3) := by decide +kernel
theorem dJ3_checkIndex_8e157_9 : decode cJ3_checkIndex_8e157 9 = .ok (.aload_n 2, 1) := by decide +kernel
theorem dJ3_checkIndex_8e157_10 : decode cJ3_checkIndex_8e157 10 = .ok (.iload_n 0, 1) := by decide +kernel
theorem dJ3_checkIndex_8e157_11 : decode cJ3_checkIndex_8e157 11 = .ok (.iload_n 1, 1) := by decide +kernel
theorem dJ3_checkIndex_8e157_12 : decode cJ3_checkIndex_8e157 12 = .ok (.invokestatic 95, 3) := by decide +kernel
theorem dJ3_checkIndex_8e157_15 : decode cJ3_checkIndex_8e157 15 = .ok (.athrow, 1) := by decide +kernel
theorem dJ3_checkIndex_8e157_16 : decode cJ3_checkIndex_8e157 16 = .ok (.iload_n 0, 1) := by decide +kernel
theorem dJ3_checkIndex_8e157_17 : decode cJ3_checkIndex_8e157 17 = .ok (.ireturn, 1) := by decide +kernel
end
