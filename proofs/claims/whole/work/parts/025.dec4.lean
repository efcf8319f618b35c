section
theorem dX12_greater_10 : decode cX12_greater 10 = .ok (.ireturn, 1) := by decide +kernel
theorem dX12_lesser_0 : decode cX12_lesser 0 = .ok (.iload_n 1, 1) := by decide +kernel
theorem dX12_lesser_1 : decode cX12_lesser 1 = .ok (.iload_n 2, 1) := by decide +kernel
theorem dX12_lesser_2 : decode cX12_lesser 2 = .ok (.if_icmp .ge 7, 3) := by decide +kernel
theorem dX12_lesser_5 : decode cX12_lesser 5 = .ok (.iload_n 1, 1) := by decide +kernel
theorem dX12_lesser_6 : decode cX12_lesser 6 = .ok (.goto 4, 3) := by decide +kernel
theorem dX12_lesser_9 : decode cX12_lesser 9 = .ok (.iload_n 2, 1) := by decide +kernel
theorem dX12_lesser_10 : decode cX12_lesser 10 = .ok (.ireturn, 1) := by decide +kernel
theorem dX12_apart_0 : decode cX12_apart 0 = .ok (.iload_n 1, 1) := by decide +kernel
theorem dX12_apart_1 : decode cX12_apart 1 = .ok (.iload_n 2, 1) := by decide +kernel
theorem dX12_apart_2 : decode cX12_apart 2 = .ok (.if_icmp .le 9, 3) := by decide +kernel
theorem dX12_apart_5 : decode cX12_apart 5 = .ok (.iload_n 1, 1) := by decide +kernel
theorem dX12_apart_6 : decode cX12_apart 6 = .ok (.iload_n 2, 1) := by decide +kernel
theorem dX12_apart_7 : decode cX12_apart 7 = .ok (.isub, 1) := by decide +kernel
theorem dX12_apart_8 : decode cX12_apart 8 = .ok (.goto 6, 3) := by decide +kernel
theorem dX12_apart_11 : decode cX12_apart 11 = .ok (.iload_n 2, 1) := by decide +kernel
theorem dX12_apart_12 : decode cX12_apart 12 = .ok (.iload_n 1, 1) := by decide +kernel
theorem dX12_apart_13 : decode cX12_apart 13 = .ok (.isub, 1) := by decide +kernel
theorem dX12_apart_14 : decode cX12_apart 14 = .ok (.ireturn, 1) := by decide +kernel
theorem dX12_onesOf_0 : decode cX12_onesOf 0 = .ok (.iconst 0, 1) := by decide +kernel
theorem dX12_onesOf_1 : decode cX12_onesOf 1 = .ok (.istore_n 2, 1) := by decide +kernel
theorem dX12_onesOf_2 : decode cX12_onesOf 2 = .ok (.iload_n 1, 1) := by decide +kernel
theorem dX12_onesOf_3 : decode cX12_onesOf 3 = .ok (.istore_n 3, 1) := by decide +kernel
theorem dX12_onesOf_4 : decode cX12_onesOf 4 = .ok (.iload_n 3, 1) := by decide +kernel
theorem dX12_onesOf_5 : decode cX12_onesOf 5 = .ok (.ifCond .eq 16, 3) := by decide +kernel
theorem dX12_onesOf_8 : decode cX12_onesOf 8 = .ok (.iload_n 2, 1) := by decide +kernel
theorem dX12_onesOf_9 : decode cX12_onesOf 9 = .ok (.iconst 1, 1) := by decide +kernel
theorem dX12_onesOf_10 : decode cX12_onesOf 10 = .ok (.iadd, 1) := by decide +kernel
theorem dX12_onesOf_11 : decode cX12_onesOf 11 = .ok (.istore_n 2, 1) := by decide +kernel
theorem dX12_onesOf_12 : decode cX12_onesOf 12 = .ok (.iload_n 3, 1) := by decide +kernel
theorem dX12_onesOf_13 : decode cX12_onesOf 13 = .ok (.iload_n 3, 1) := by decide +kernel
theorem dX12_onesOf_14 : decode cX12_onesOf 14 = .ok (.iconst 1, 1) := by decide +kernel
theorem dX12_onesOf_15 : decode cX12_onesOf 15 = .ok (.isub, 1) := by decide +kernel
theorem dX12_onesOf_16 : decode cX12_onesOf 16 = .ok (.iand, 1) := by decide +kernel
theorem dX12_onesOf_17 : decode cX12_onesOf 17 = .ok (.istore_n 3, 1) := by decide +kernel
theorem dX12_onesOf_18 : decode cX12_onesOf 18 = .ok (.goto (-14), 3) := by decide +kernel
theorem dX12_onesOf_21 : decode cX12_onesOf 21 = .ok (.iload_n 2, 1) := by decide +kernel
theorem dX12_onesOf_22 : decode cX12_onesOf 22 = .ok (.ireturn, 1) := by decide +kernel
theorem dX12_has_0 : decode cX12_has 0 = .ok (.iload_n 1, 1) := by decide +kernel
theorem dX12_has_1 : decode cX12_has 1 = .ok (.iload_n 2, 1) := by decide +kernel
theorem dX12_has_2 : decode cX12_has 2 = .ok (.ishr, 1) := by decide +kernel
theorem dX12_has_3 : decode cX12_has 3 = .ok (.iconst 1, 1) := by decide +kernel
theorem dX12_has_4 : decode cX12_has 4 = .ok (.iand, 1) := by decide +kernel
theorem dX12_has_5 : decode cX12_has 5 = .ok (.iconst 1, 1) := by decide +kernel
theorem dX12_has_6 : decode cX12_has 6 = .ok (.if_icmp .ne 7, 3) := by decide +kernel
theorem dX12_has_9 : decode cX12_has 9 = .ok (.iconst 1, 1) := by decide +kernel
theorem dX12_has_10 : decode cX12_has 10 = .ok (.goto 4, 3) := by decide +kernel
theorem dX12_has_13 : decode cX12_has 13 = .ok (.iconst 0, 1) := by decide +kernel
theorem dX12_has_14 : decode cX12_has 14 = .ok (.ireturn, 1) := by decide +kernel
theorem dX12_keepsAhead_0 : decode cX12_keepsAhead 0 = .ok (.aload_n 0, 1) := by decide +kernel
theorem dX12_keepsAhead_1 : decode cX12_keepsAhead 1 = .ok (.getfield 152, 3) := by decide +kernel
theorem dX12_keepsAhead_4 : decode cX12_keepsAhead 4 = .ok (.bipush 6, 2) := by decide +kernel
theorem dX12_keepsAhead_6 : decode cX12_keepsAhead 6 = .ok (.if_icmp .ne 47, 3) := by decide +kernel
theorem dX12_keepsAhead_9 : decode cX12_keepsAhead 9 = .ok (.aload_n 0, 1) := by decide +kernel
theorem dX12_keepsAhead_10 : decode cX12_keepsAhead 10 = .ok (.aload_n 0, 1) := by decide +kernel
theorem dX12_keepsAhead_11 : decode cX12_keepsAhead 11 = .ok (.getfield 152, 3) := by decide +kernel
theorem dX12_keepsAhead_14 : decode cX12_keepsAhead 14 = .ok (.iconst 1, 1) := by decide +kernel
theorem dX12_keepsAhead_15 : decode cX12_keepsAhead 15 = .ok (.isub, 1) := by decide +kernel
theorem dX12_keepsAhead_16 : decode cX12_keepsAhead 16 = .ok (.putfield 152, 3) := by decide +kernel
theorem dX12_keepsAhead_19 : decode cX12_keepsAhead 19 = .ok (.iconst 0, 1) := by decide +kernel
theorem dX12_keepsAhead_20 : decode cX12_keepsAhead 20 = .ok (.istore_n 1, 1) := by decide +kernel
theorem dX12_keepsAhead_21 : decode cX12_keepsAhead 21 = .ok (.iload_n 1, 1) := by decide +kernel
theorem dX12_keepsAhead_22 : decode cX12_keepsAhead 22 = .ok (.bipush 49, 2) := by decide +kernel
theorem dX12_keepsAhead_24 : decode cX12_keepsAhead 24 = .ok (.aload_n 0, 1) := by decide +kernel
theorem dX12_keepsAhead_25 : decode cX12_keepsAhead 25 = .ok (.getfield 152, 3) := by decide +kernel
theorem dX12_keepsAhead_28 : decode cX12_keepsAhead 28 = .ok (.imul, 1) := by decide +kernel
theorem dX12_keepsAhead_29 : decode cX12_keepsAhead 29 = .ok (.if_icmp .ge 24, 3) := by decide +kernel
theorem dX12_keepsAhead_32 : decode cX12_keepsAhead 32 = .ok (.aload_n 0, 1) := by decide +kernel
theorem dX12_keepsAhead_33 : decode cX12_keepsAhead 33 = .ok (.getfield 13, 3) := by decide +kernel
theorem dX12_keepsAhead_36 : decode cX12_keepsAhead 36 = .ok (.iload_n 1, 1) := by decide +kernel
theorem dX12_keepsAhead_37 : decode cX12_keepsAhead 37 = .ok (.aload_n 0, 1) := by decide +kernel
theorem dX12_keepsAhead_38 : decode cX12_keepsAhead 38 = .ok (.getfield 13, 3) := by decide +kernel
theorem dX12_keepsAhead_41 : decode cX12_keepsAhead 41 = .ok (.iload_n 1, 1) := by decide +kernel
theorem dX12_keepsAhead_42 : decode cX12_keepsAhead 42 = .ok (.bipush 49, 2) := by decide +kernel
theorem dX12_keepsAhead_44 : decode cX12_keepsAhead 44 = .ok (.iadd, 1) := by decide +kernel
theorem dX12_keepsAhead_45 : decode cX12_keepsAhead 45 = .ok (.iaload, 1) := by decide +kernel
theorem dX12_keepsAhead_46 : decode cX12_keepsAhead 46 = .ok (.iastore, 1) := by decide +kernel
theorem dX12_keepsAhead_47 : decode cX12_keepsAhead 47 = .ok (.iinc 1 1, 3) := by decide +kernel
theorem dX12_keepsAhead_50 : decode cX12_keepsAhead 50 = .ok (.goto (-29), 3) := by decide +kernel
theorem dX12_keepsAhead_53 : decode cX12_keepsAhead 53 = .ok (.iconst 0, 1) := by decide +kernel
theorem dX12_keepsAhead_54 : decode cX12_keepsAhead 54 = .ok (.istore_n 1, 1) := by decide +kernel
theorem dX12_keepsAhead_55 : decode cX12_keepsAhead 55 = .ok (.iload_n 1, 1) := by decide +kernel
theorem dX12_keepsAhead_56 : decode cX12_keepsAhead 56 = .ok (.bipush 49, 2) := by decide +kernel
theorem dX12_keepsAhead_58 : decode cX12_keepsAhead 58 = .ok (.if_icmp .ge 29, 3) := by decide +kernel
theorem dX12_keepsAhead_61 : decode cX12_keepsAhead 61 = .ok (.aload_n 0, 1) := by decide +kernel
theorem dX12_keepsAhead_62 : decode cX12_keepsAhead 62 = .ok (.getfield 13, 3) := by decide +kernel
theorem dX12_keepsAhead_65 : decode cX12_keepsAhead 65 = .ok (.bipush 49, 2) := by decide +kernel
theorem dX12_keepsAhead_67 : decode cX12_keepsAhead 67 = .ok (.aload_n 0, 1) := by decide +kernel
theorem dX12_keepsAhead_68 : decode cX12_keepsAhead 68 = .ok (.getfield 152, 3) := by decide +kernel
theorem dX12_keepsAhead_71 : decode cX12_keepsAhead 71 = .ok (.imul, 1) := by decide +kernel
theorem dX12_keepsAhead_72 : decode cX12_keepsAhead 72 = .ok (.iload_n 1, 1) := by decide +kernel
theorem dX12_keepsAhead_73 : decode cX12_keepsAhead 73 = .ok (.iadd, 1) := by decide +kernel
theorem dX12_keepsAhead_74 : decode cX12_keepsAhead 74 = .ok (.aload_n 0, 1) := by decide +kernel
theorem dX12_keepsAhead_75 : decode cX12_keepsAhead 75 = .ok (.getfield 7, 3) := by decide +kernel
theorem dX12_keepsAhead_78 : decode cX12_keepsAhead 78 = .ok (.iload_n 1, 1) := by decide +kernel
theorem dX12_keepsAhead_79 : decode cX12_keepsAhead 79 = .ok (.iaload, 1) := by decide +kernel
theorem dX12_keepsAhead_80 : decode cX12_keepsAhead 80 = .ok (.iastore, 1) := by decide +kernel
theorem dX12_keepsAhead_81 : decode cX12_keepsAhead 81 = .ok (.iinc 1 1, 3) := by decide +kernel
theorem dX12_keepsAhead_84 : decode cX12_keepsAhead 84 = .ok (.goto (-29), 3) := by decide +kernel
theorem dX12_keepsAhead_87 : decode cX12_keepsAhead 87 = .ok (.aload_n 0, 1) := by decide +kernel
theorem dX12_keepsAhead_88 : decode cX12_keepsAhead 88 = .ok (.aload_n 0, 1) := by decide +kernel
theorem dX12_keepsAhead_89 : decode cX12_keepsAhead 89 = .ok (.getfield 152, 3) := by decide +kernel
theorem dX12_keepsAhead_92 : decode cX12_keepsAhead 92 = .ok (.iconst 1, 1) := by decide +kernel
theorem dX12_keepsAhead_93 : decode cX12_keepsAhead 93 = .ok (.iadd, 1) := by decide +kernel
theorem dX12_keepsAhead_94 : decode cX12_keepsAhead 94 = .ok (.putfield 152, 3) := by decide +kernel
theorem dX12_keepsAhead_97 : decode cX12_keepsAhead 97 = .ok (.return_, 1) := by decide +kernel
theorem dX12_undo_0 : decode cX12_undo 0 = .ok (.aload_n 0, 1) := by decide +kernel
theorem dX12_undo_1 : decode cX12_undo 1 = .ok (.iconst 0, 1) := by decide +kernel
theorem dX12_undo_2 : decode cX12_undo 2 = .ok (.putfield 149, 3) := by decide +kernel
theorem dX12_undo_5 : decode cX12_undo 5 = .ok (.aload_n 0, 1) := by decide +kernel
theorem dX12_undo_6 : decode cX12_undo 6 = .ok (.getfield 152, 3) := by decide +kernel
theorem dX12_undo_9 : decode cX12_undo 9 = .ok (.ifCond .ne 5, 3) := by decide +kernel
theorem dX12_undo_12 : decode cX12_undo 12 = .ok (.iconst 0, 1) := by decide +kernel
theorem dX12_undo_13 : decode cX12_undo 13 = .ok (.ireturn, 1) := by decide +kernel
theorem dX12_undo_14 : decode cX12_undo 14 = .ok (.aload_n 0, 1) := by decide +kernel
theorem dX12_undo_15 : decode cX12_undo 15 = .ok (.aload_n 0, 1) := by decide +kernel
theorem dX12_undo_16 : decode cX12_undo 16 = .ok (.getfield 152, 3) := by decide +kernel
theorem dX12_undo_19 : decode cX12_undo 19 = .ok (.iconst 1, 1) := by decide +kernel
theorem dX12_undo_20 : decode cX12_undo 20 = .ok (.isub, 1) := by decide +kernel
theorem dX12_undo_21 : decode cX12_undo 21 = .ok (.putfield 152, 3) := by decide +kernel
theorem dX12_undo_24 : decode cX12_undo 24 = .ok (.iconst 0, 1) := by decide +kernel
theorem dX12_undo_25 : decode cX12_undo 25 = .ok (.istore_n 1, 1) := by decide +kernel
theorem dX12_undo_26 : decode cX12_undo 26 = .ok (.iload_n 1, 1) := by decide +kernel
theorem dX12_undo_27 : decode cX12_undo 27 = .ok (.bipush 49, 2) := by decide +kernel
theorem dX12_undo_29 : decode cX12_undo 29 = .ok (.if_icmp .ge 29, 3) := by decide +kernel
theorem dX12_undo_32 : decode cX12_undo 32 = .ok (.aload_n 0, 1) := by decide +kernel
theorem dX12_undo_33 : decode cX12_undo 33 = .ok (.getfield 7, 3) := by decide +kernel
theorem dX12_undo_36 : decode cX12_undo 36 = .ok (.iload_n 1, 1) := by decide +kernel
theorem dX12_undo_37 : decode cX12_undo 37 = .ok (.aload_n 0, 1) := by decide +kernel
theorem dX12_undo_38 : decode cX12_undo 38 = .ok (.getfield 13, 3) := by decide +kernel
theorem dX12_undo_41 : decode cX12_undo 41 = .ok (.bipush 49, 2) := by decide +kernel
theorem dX12_undo_43 : decode cX12_undo 43 = .ok (.aload_n 0, 1) := by decide +kernel
theorem dX12_undo_44 : decode cX12_undo 44 = .ok (.getfield 152, 3) := by decide +kernel
theorem dX12_undo_47 : decode cX12_undo 47 = .ok (.imul, 1) := by decide +kernel
theorem dX12_undo_48 : decode cX12_undo 48 = .ok (.iload_n 1, 1) := by decide +kernel
theorem dX12_undo_49 : decode cX12_undo 49 = .ok (.iadd, 1) := by decide +kernel
theorem dX12_undo_50 : decode cX12_undo 50 = .ok (.iaload, 1) := by decide +kernel
theorem dX12_undo_51 : decode cX12_undo 51 = .ok (.iastore, 1) := by decide +kernel
theorem dX12_undo_52 : decode cX12_undo 52 = .ok (.iinc 1 1, 3) := by decide +kernel
theorem dX12_undo_55 : decode cX12_undo 55 = .ok (.goto (-29), 3) := by decide +kernel
theorem dX12_undo_58 : decode cX12_undo 58 = .ok (.iconst 1, 1) := by decide +kernel
theorem dX12_undo_59 : decode cX12_undo 59 = .ok (.ireturn, 1) := by decide +kernel
theorem dX12_thinks_0 : decode cX12_thinks 0 = .ok (.iconst 0, 1) := by decide +kernel
theorem dX12_thinks_1 : decode cX12_thinks 1 = .ok (.istore_n 1, 1) := by decide +kernel
theorem dX12_thinks_2 : decode cX12_thinks 2 = .ok (.iload_n 1, 1) := by decide +kernel
theorem dX12_thinks_3 : decode cX12_thinks 3 = .ok (.bipush 49, 2) := by decide +kernel
theorem dX12_thinks_5 : decode cX12_thinks 5 = .ok (.if_icmp .ge 21, 3) := by decide +kernel
theorem dX12_thinks_8 : decode cX12_thinks 8 = .ok (.aload_n 0, 1) := by decide +kernel
theorem dX12_thinks_9 : decode cX12_thinks 9 = .ok (.getfield 16, 3) := by decide +kernel
theorem dX12_thinks_12 : decode cX12_thinks 12 = .ok (.iload_n 1, 1) := by decide +kernel
theorem dX12_thinks_13 : decode cX12_thinks 13 = .ok (.aload_n 0, 1) := by decide +kernel
theorem dX12_thinks_14 : decode cX12_thinks 14 = .ok (.getfield 7, 3) := by decide +kernel
theorem dX12_thinks_17 : decode cX12_thinks 17 = .ok (.iload_n 1, 1) := by decide +kernel
theorem dX12_thinks_18 : decode cX12_thinks 18 = .ok (.iaload, 1) := by decide +kernel
theorem dX12_thinks_19 : decode cX12_thinks 19 = .ok (.iastore, 1) := by decide +kernel
theorem dX12_thinks_20 : decode cX12_thinks 20 = .ok (.iinc 1 1, 3) := by decide +kernel
theorem dX12_thinks_23 : decode cX12_thinks 23 = .ok (.goto (-21), 3) := by decide +kernel
theorem dX12_thinks_26 : decode cX12_thinks 26 = .ok (.aload_n 0, 1) := by decide +kernel
theorem dX12_thinks_27 : decode cX12_thinks 27 = .ok (.iconst 1, 1) := by decide +kernel
theorem dX12_thinks_28 : decode cX12_thinks 28 = .ok (.putfield 155, 3) := by decide +kernel
theorem dX12_thinks_31 : decode cX12_thinks 31 = .ok (.return_, 1) := by decide +kernel
theorem dX12_endsThought_0 : decode cX12_endsThought 0 = .ok (.iconst 0, 1) := by decide +kernel
theorem dX12_endsThought_1 : decode cX12_endsThought 1 = .ok (.istore_n 1, 1) := by decide +kernel
theorem dX12_endsThought_2 : decode cX12_endsThought 2 = .ok (.iload_n 1, 1) := by decide +kernel
theorem dX12_endsThought_3 : decode cX12_endsThought 3 = .ok (.bipush 49, 2) := by decide +kernel
theorem dX12_endsThought_5 : decode cX12_endsThought 5 = .ok (.if_icmp .ge 21, 3) := by decide +kernel
theorem dX12_endsThought_8 : decode cX12_endsThought 8 = .ok (.aload_n 0, 1) := by decide +kernel
theorem dX12_endsThought_9 : decode cX12_endsThought 9 = .ok (.getfield 7, 3) := by decide +kernel
theorem dX12_endsThought_12 : decode cX12_endsThought 12 = .ok (.iload_n 1, 1) := by decide +kernel
theorem dX12_endsThought_13 : decode cX12_endsThought 13 = .ok (.aload_n 0, 1) := by decide +kernel
theorem dX12_endsThought_14 : decode cX12_endsThought 14 = .ok (.getfield 16, 3) := by decide +kernel
theorem dX12_endsThought_17 : decode cX12_endsThought 17 = .ok (.iload_n 1, 1) := by decide +kernel
theorem dX12_endsThought_18 : decode cX12_endsThought 18 = .ok (.iaload, 1) := by decide +kernel
theorem dX12_endsThought_19 : decode cX12_endsThought 19 = .ok (.iastore, 1) := by decide +kernel
theorem dX12_endsThought_20 : decode cX12_endsThought 20 = .ok (.iinc 1 1, 3) := by decide +kernel
theorem dX12_endsThought_23 : decode cX12_endsThought 23 = .ok (.goto (-21), 3) := by decide +kernel
theorem dX12_endsThought_26 : decode cX12_endsThought 26 = .ok (.aload_n 0, 1) := by decide +kernel
theorem dX12_endsThought_27 : decode cX12_endsThought 27 = .ok (.iconst 0, 1) := by decide +kernel
theorem dX12_endsThought_28 : decode cX12_endsThought 28 = .ok (.putfield 155, 3) := by decide +kernel
theorem dX12_endsThought_31 : decode cX12_endsThought 31 = .ok (.return_, 1) := by decide +kernel
theorem dX12_state_0 : decode cX12_state 0 = .ok (.aload_n 0, 1) := by decide +kernel
theorem dX12_state_1 : decode cX12_state 1 = .ok (.iconst 0, 1) := by decide +kernel
theorem dX12_state_2 : decode cX12_state 2 = .ok (.putfield 149, 3) := by decide +kernel
theorem dX12_state_5 : decode cX12_state 5 = .ok (.aload_n 0, 1) := by decide +kernel
theorem dX12_state_6 : decode cX12_state 6 = .ok (.getfield 7, 3) := by decide +kernel
theorem dX12_state_9 : decode cX12_state 9 = .ok (.iconst 1, 1) := by decide +kernel
theorem dX12_state_10 : decode cX12_state 10 = .ok (.iaload, 1) := by decide +kernel
theorem dX12_state_11 : decode cX12_state 11 = .ok (.istore_n 2, 1) := by decide +kernel
theorem dX12_state_12 : decode cX12_state 12 = .ok (.aload_n 0, 1) := by decide +kernel
theorem dX12_state_13 : decode cX12_state 13 = .ok (.getfield 7, 3) := by decide +kernel
theorem dX12_state_16 : decode cX12_state 16 = .ok (.iconst 1, 1) := by decide +kernel
theorem dX12_state_17 : decode cX12_state 17 = .ok (.iload_n 1, 1) := by decide +kernel
theorem dX12_state_18 : decode cX12_state 18 = .ok (.iastore, 1) := by decide +kernel
theorem dX12_state_19 : decode cX12_state 19 = .ok (.aload_n 0, 1) := by decide +kernel
theorem dX12_state_20 : decode cX12_state 20 = .ok (.iconst 0, 1) := by decide +kernel
theorem dX12_state_21 : decode cX12_state 21 = .ok (.putfield 152, 3) := by decide +kernel
theorem dX12_state_24 : decode cX12_state 24 = .ok (.iload_n 2, 1) := by decide +kernel
theorem dX12_state_25 : decode cX12_state 25 = .ok (.ireturn, 1) := by decide +kernel
theorem dX12_draw_0 : decode cX12_draw 0 = .ok (.aload_n 0, 1) := by decide +kernel
theorem dX12_draw_1 : decode cX12_draw 1 = .ok (.getfield 7, 3) := by decide +kernel
theorem dX12_draw_4 : decode cX12_draw 4 = .ok (.iconst 1, 1) := by decide +kernel
theorem dX12_draw_5 : decode cX12_draw 5 = .ok (.ldc 159, 2) := by decide +kernel
theorem dX12_draw_7 : decode cX12_draw 7 = .ok (.aload_n 0, 1) := by decide +kernel
theorem dX12_draw_8 : decode cX12_draw 8 = .ok (.getfield 7, 3) := by decide +kernel
theorem dX12_draw_11 : decode cX12_draw 11 = .ok (.iconst 1, 1) := by decide +kernel
theorem dX12_draw_12 : decode cX12_draw 12 = .ok (.iaload, 1) := by decide +kernel
theorem dX12_draw_13 : decode cX12_draw 13 = .ok (.imul, 1) := by decide +kernel
theorem dX12_draw_14 : decode cX12_draw 14 = .ok (.ldc 160, 2) := by decide +kernel
theorem dX12_draw_16 : decode cX12_draw 16 = .ok (.iadd, 1) := by decide +kernel
theorem dX12_draw_17 : decode cX12_draw 17 = .ok (.iastore, 1) := by decide +kernel
theorem dX12_draw_18 : decode cX12_draw 18 = .ok (.aload_n 0, 1) := by decide +kernel
theorem dX12_draw_19 : decode cX12_draw 19 = .ok (.getfield 7, 3) := by decide +kernel
theorem dX12_draw_22 : decode cX12_draw 22 = .ok (.iconst 1, 1) := by decide +kernel
theorem dX12_draw_23 : decode cX12_draw 23 = .ok (.iaload, 1) := by decide +kernel
theorem dX12_draw_24 : decode cX12_draw 24 = .ok (.bipush 8, 2) := by decide +kernel
theorem dX12_draw_26 : decode cX12_draw 26 = .ok (.iushr, 1) := by decide +kernel
theorem dX12_draw_27 : decode cX12_draw 27 = .ok (.iload_n 1, 1) := by decide +kernel
theorem dX12_draw_28 : decode cX12_draw 28 = .ok (.irem, 1) := by decide +kernel
theorem dX12_draw_29 : decode cX12_draw 29 = .ok (.ireturn, 1) := by decide +kernel
theorem dX12_isWoman_0 : decode cX12_isWoman 0 = .ok (.iload_n 1, 1) := by decide +kernel
theorem dX12_isWoman_1 : decode cX12_isWoman 1 = .ok (.ifCond .lt 15, 3) := by decide +kernel
theorem dX12_isWoman_4 : decode cX12_isWoman 4 = .ok (.iload_n 1, 1) := by decide +kernel
theorem dX12_isWoman_5 : decode cX12_isWoman 5 = .ok (.aload_n 0, 1) := by decide +kernel
theorem dX12_isWoman_6 : decode cX12_isWoman 6 = .ok (.getfield 161, 3) := by decide +kernel
theorem dX12_isWoman_9 : decode cX12_isWoman 9 = .ok (.if_icmp .ge 7, 3) := by decide +kernel
theorem dX12_isWoman_12 : decode cX12_isWoman 12 = .ok (.iconst 1, 1) := by decide +kernel
theorem dX12_isWoman_13 : decode cX12_isWoman 13 = .ok (.goto 4, 3) := by decide +kernel
theorem dX12_isWoman_16 : decode cX12_isWoman 16 = .ok (.iconst 0, 1) := by decide +kernel
theorem dX12_isWoman_17 : decode cX12_isWoman 17 = .ok (.ireturn, 1) := by decide +kernel
theorem dX12_isGroom_0 : decode cX12_isGroom 0 = .ok (.iload_n 1, 1) := by decide +kernel
theorem dX12_isGroom_1 : decode cX12_isGroom 1 = .ok (.ifCond .lt 15, 3) := by decide +kernel
theorem dX12_isGroom_4 : decode cX12_isGroom 4 = .ok (.iload_n 1, 1) := by decide +kernel
theorem dX12_isGroom_5 : decode cX12_isGroom 5 = .ok (.aload_n 0, 1) := by decide +kernel
theorem dX12_isGroom_6 : decode cX12_isGroom 6 = .ok (.getfield 164, 3) := by decide +kernel
theorem dX12_isGroom_9 : decode cX12_isGroom 9 = .ok (.if_icmp .ge 7, 3) := by decide +kernel
theorem dX12_isGroom_12 : decode cX12_isGroom 12 = .ok (.iconst 1, 1) := by decide +kernel
theorem dX12_isGroom_13 : decode cX12_isGroom 13 = .ok (.goto 4, 3) := by decide +kernel
theorem dX12_isGroom_16 : decode cX12_isGroom 16 = .ok (.iconst 0, 1) := by decide +kernel
theorem dX12_isGroom_17 : decode cX12_isGroom 17 = .ok (.ireturn, 1) := by decide +kernel
theorem dX12_wifeOf_0 : decode cX12_wifeOf 0 = .ok (.aload_n 0, 1) := by decide +kernel
theorem dX12_wifeOf_1 : decode cX12_wifeOf 1 = .ok (.getfield 7, 3) := by decide +kernel
theorem dX12_wifeOf_4 : decode cX12_wifeOf 4 = .ok (.bipush 17, 2) := by decide +kernel
theorem dX12_wifeOf_6 : decode cX12_wifeOf 6 = .ok (.iload_n 1, 1) := by decide +kernel
theorem dX12_wifeOf_7 : decode cX12_wifeOf 7 = .ok (.iadd, 1) := by decide +kernel
theorem dX12_wifeOf_8 : decode cX12_wifeOf 8 = .ok (.iaload, 1) := by decide +kernel
theorem dX12_wifeOf_9 : decode cX12_wifeOf 9 = .ok (.iconst 1, 1) := by decide +kernel
theorem dX12_wifeOf_10 : decode cX12_wifeOf 10 = .ok (.isub, 1) := by decide +kernel
theorem dX12_wifeOf_11 : decode cX12_wifeOf 11 = .ok (.ireturn, 1) := by decide +kernel
theorem dX12_isFree_0 : decode cX12_isFree 0 = .ok (.aload_n 0, 1) := by decide +kernel
theorem dX12_isFree_1 : decode cX12_isFree 1 = .ok (.getfield 7, 3) := by decide +kernel
theorem dX12_isFree_4 : decode cX12_isFree 4 = .ok (.iconst 5, 1) := by decide +kernel
theorem dX12_isFree_5 : decode cX12_isFree 5 = .ok (.iload_n 1, 1) := by decide +kernel
theorem dX12_isFree_6 : decode cX12_isFree 6 = .ok (.iadd, 1) := by decide +kernel
theorem dX12_isFree_7 : decode cX12_isFree 7 = .ok (.iaload, 1) := by decide +kernel
theorem dX12_isFree_8 : decode cX12_isFree 8 = .ok (.ifCond .ne 7, 3) := by decide +kernel
theorem dX12_isFree_11 : decode cX12_isFree 11 = .ok (.iconst 1, 1) := by decide +kernel
theorem dX12_isFree_12 : decode cX12_isFree 12 = .ok (.goto 4, 3) := by decide +kernel
theorem dX12_isFree_15 : decode cX12_isFree 15 = .ok (.iconst 0, 1) := by decide +kernel
theorem dX12_isFree_16 : decode cX12_isFree 16 = .ok (.ireturn, 1) := by decide +kernel
theorem dX12_woman_0 : decode cX12_woman 0 = .ok (.aload_n 0, 1) := by decide +kernel
theorem dX12_woman_1 : decode cX12_woman 1 = .ok (.iconst 0, 1) := by decide +kernel
theorem dX12_woman_2 : decode cX12_woman 2 = .ok (.putfield 149, 3) := by decide +kernel
theorem dX12_woman_5 : decode cX12_woman 5 = .ok (.aload_n 0, 1) := by decide +kernel
theorem dX12_woman_6 : decode cX12_woman 6 = .ok (.iload_n 1, 1) := by decide +kernel
theorem dX12_woman_7 : decode cX12_woman 7 = .ok (.iconst 0, 1) := by decide +kernel
theorem dX12_woman_8 : decode cX12_woman 8 = .ok (.bipush 9, 2) := by decide +kernel
theorem dX12_woman_10 : decode cX12_woman 10 = .ok (.invokevirtual 167, 3) := by decide +kernel
theorem dX12_woman_13 : decode cX12_woman 13 = .ok (.ifCond .eq 34, 3) := by decide +kernel
theorem dX12_woman_16 : decode cX12_woman 16 = .ok (.aload_n 0, 1) := by decide +kernel
theorem dX12_woman_17 : decode cX12_woman 17 = .ok (.iload_n 2, 1) := by decide +kernel
theorem dX12_woman_18 : decode cX12_woman 18 = .ok (.iconst 0, 1) := by decide +kernel
theorem dX12_woman_19 : decode cX12_woman 19 = .ok (.bipush 9, 2) := by decide +kernel
theorem dX12_woman_21 : decode cX12_woman 21 = .ok (.invokevirtual 167, 3) := by decide +kernel
theorem dX12_woman_24 : decode cX12_woman 24 = .ok (.ifCond .eq 23, 3) := by decide +kernel
theorem dX12_woman_27 : decode cX12_woman 27 = .ok (.aload_n 0, 1) := by decide +kernel
theorem dX12_woman_28 : decode cX12_woman 28 = .ok (.iload_n 3, 1) := by decide +kernel
theorem dX12_woman_29 : decode cX12_woman 29 = .ok (.iconst 0, 1) := by decide +kernel
theorem dX12_woman_30 : decode cX12_woman 30 = .ok (.bipush 9, 2) := by decide +kernel
theorem dX12_woman_32 : decode cX12_woman 32 = .ok (.invokevirtual 167, 3) := by decide +kernel
theorem dX12_woman_35 : decode cX12_woman 35 = .ok (.ifCond .eq 12, 3) := by decide +kernel
theorem dX12_woman_38 : decode cX12_woman 38 = .ok (.aload_n 0, 1) := by decide +kernel
theorem dX12_woman_39 : decode cX12_woman 39 = .ok (.getfield 161, 3) := by decide +kernel
theorem dX12_woman_42 : decode cX12_woman 42 = .ok (.bipush 12, 2) := by decide +kernel
theorem dX12_woman_44 : decode cX12_woman 44 = .ok (.if_icmp .ne 5, 3) := by decide +kernel
theorem dX12_woman_47 : decode cX12_woman 47 = .ok (.iconst (-1), 1) := by decide +kernel
theorem dX12_woman_48 : decode cX12_woman 48 = .ok (.ireturn, 1) := by decide +kernel
theorem dX12_woman_49 : decode cX12_woman 49 = .ok (.aload_n 0, 1) := by decide +kernel
theorem dX12_woman_50 : decode cX12_woman 50 = .ok (.getfield 19, 3) := by decide +kernel
theorem dX12_woman_53 : decode cX12_woman 53 = .ok (.aload_n 0, 1) := by decide +kernel
theorem dX12_woman_54 : decode cX12_woman 54 = .ok (.getfield 161, 3) := by decide +kernel
theorem dX12_woman_57 : decode cX12_woman 57 = .ok (.iload_n 1, 1) := by decide +kernel
theorem dX12_woman_58 : decode cX12_woman 58 = .ok (.iastore, 1) := by decide +kernel
theorem dX12_woman_59 : decode cX12_woman 59 = .ok (.aload_n 0, 1) := by decide +kernel
theorem dX12_woman_60 : decode cX12_woman 60 = .ok (.getfield 22, 3) := by decide +kernel
theorem dX12_woman_63 : decode cX12_woman 63 = .ok (.aload_n 0, 1) := by decide +kernel
theorem dX12_woman_64 : decode cX12_woman 64 = .ok (.getfield 161, 3) := by decide +kernel
theorem dX12_woman_67 : decode cX12_woman 67 = .ok (.iload_n 2, 1) := by decide +kernel
theorem dX12_woman_68 : decode cX12_woman 68 = .ok (.iastore, 1) := by decide +kernel
theorem dX12_woman_69 : decode cX12_woman 69 = .ok (.aload_n 0, 1) := by decide +kernel
theorem dX12_woman_70 : decode cX12_woman 70 = .ok (.getfield 25, 3) := by decide +kernel
theorem dX12_woman_73 : decode cX12_woman 73 = .ok (.aload_n 0, 1) := by decide +kernel
theorem dX12_woman_74 : decode cX12_woman 74 = .ok (.getfield 161, 3) := by decide +kernel
theorem dX12_woman_77 : decode cX12_woman 77 = .ok (.iload_n 3, 1) := by decide +kernel
theorem dX12_woman_78 : decode cX12_woman 78 = .ok (.iastore, 1) := by decide +kernel
theorem dX12_woman_79 : decode cX12_woman 79 = .ok (.aload_n 0, 1) := by decide +kernel
theorem dX12_woman_80 : decode cX12_woman 80 = .ok (.getfield 7, 3) := by decide +kernel
theorem dX12_woman_83 : decode cX12_woman 83 = .ok (.iconst 5, 1) := by decide +kernel
theorem dX12_woman_84 : decode cX12_woman 84 = .ok (.aload_n 0, 1) := by decide +kernel
theorem dX12_woman_85 : decode cX12_woman 85 = .ok (.getfield 161, 3) := by decide +kernel
theorem dX12_woman_88 : decode cX12_woman 88 = .ok (.iadd, 1) := by decide +kernel
theorem dX12_woman_89 : decode cX12_woman 89 = .ok (.iconst 0, 1) := by decide +kernel
theorem dX12_woman_90 : decode cX12_woman 90 = .ok (.iastore, 1) := by decide +kernel
theorem dX12_woman_91 : decode cX12_woman 91 = .ok (.aload_n 0, 1) := by decide +kernel
theorem dX12_woman_92 : decode cX12_woman 92 = .ok (.getfield 7, 3) := by decide +kernel
theorem dX12_woman_95 : decode cX12_woman 95 = .ok (.iconst 4, 1) := by decide +kernel
theorem dX12_woman_96 : decode cX12_woman 96 = .ok (.aload_n 0, 1) := by decide +kernel
theorem dX12_woman_97 : decode cX12_woman 97 = .ok (.getfield 7, 3) := by decide +kernel
theorem dX12_woman_100 : decode cX12_woman 100 = .ok (.iconst 4, 1) := by decide +kernel
theorem dX12_woman_101 : decode cX12_woman 101 = .ok (.iaload, 1) := by decide +kernel
theorem dX12_woman_102 : decode cX12_woman 102 = .ok (.iconst 1, 1) := by decide +kernel
theorem dX12_woman_103 : decode cX12_woman 103 = .ok (.aload_n 0, 1) := by decide +kernel
theorem dX12_woman_104 : decode cX12_woman 104 = .ok (.getfield 161, 3) := by decide +kernel
theorem dX12_woman_107 : decode cX12_woman 107 = .ok (.ishl, 1) := by decide +kernel
theorem dX12_woman_108 : decode cX12_woman 108 = .ok (.iconst (-1), 1) := by decide +kernel
theorem dX12_woman_109 : decode cX12_woman 109 = .ok (.ixor, 1) := by decide +kernel
theorem dX12_woman_110 : decode cX12_woman 110 = .ok (.iand, 1) := by decide +kernel
theorem dX12_woman_111 : decode cX12_woman 111 = .ok (.iastore, 1) := by decide +kernel
theorem dX12_woman_112 : decode cX12_woman 112 = .ok (.aload_n 0, 1) := by decide +kernel
theorem dX12_woman_113 : decode cX12_woman 113 = .ok (.aload_n 0, 1) := by decide +kernel
theorem dX12_woman_114 : decode cX12_woman 114 = .ok (.getfield 161, 3) := by decide +kernel
theorem dX12_woman_117 : decode cX12_woman 117 = .ok (.iconst 1, 1) := by decide +kernel
theorem dX12_woman_118 : decode cX12_woman 118 = .ok (.iadd, 1) := by decide +kernel
theorem dX12_woman_119 : decode cX12_woman 119 = .ok (.putfield 161, 3) := by decide +kernel
theorem dX12_woman_122 : decode cX12_woman 122 = .ok (.aload_n 0, 1) := by decide +kernel
theorem dX12_woman_123 : decode cX12_woman 123 = .ok (.iconst 0, 1) := by decide +kernel
theorem dX12_woman_124 : decode cX12_woman 124 = .ok (.putfield 152, 3) := by decide +kernel
theorem dX12_woman_127 : decode cX12_woman 127 = .ok (.aload_n 0, 1) := by decide +kernel
theorem dX12_woman_128 : decode cX12_woman 128 = .ok (.getfield 161, 3) := by decide +kernel
theorem dX12_woman_131 : decode cX12_woman 131 = .ok (.iconst 1, 1) := by decide +kernel
theorem dX12_woman_132 : decode cX12_woman 132 = .ok (.isub, 1) := by decide +kernel
theorem dX12_woman_133 : decode cX12_woman 133 = .ok (.ireturn, 1) := by decide +kernel
theorem dX12_groom_0 : decode cX12_groom 0 = .ok (.aload_n 0, 1) := by decide +kernel
theorem dX12_groom_1 : decode cX12_groom 1 = .ok (.iconst 0, 1) := by decide +kernel
theorem dX12_groom_2 : decode cX12_groom 2 = .ok (.putfield 149, 3) := by decide +kernel
theorem dX12_groom_5 : decode cX12_groom 5 = .ok (.aload_n 0, 1) := by decide +kernel
theorem dX12_groom_6 : decode cX12_groom 6 = .ok (.iload_n 1, 1) := by decide +kernel
theorem dX12_groom_7 : decode cX12_groom 7 = .ok (.iconst 0, 1) := by decide +kernel
theorem dX12_groom_8 : decode cX12_groom 8 = .ok (.bipush 9, 2) := by decide +kernel
theorem dX12_groom_10 : decode cX12_groom 10 = .ok (.invokevirtual 167, 3) := by decide +kernel
theorem dX12_groom_13 : decode cX12_groom 13 = .ok (.ifCond .eq 20, 3) := by decide +kernel
theorem dX12_groom_16 : decode cX12_groom 16 = .ok (.aload_n 0, 1) := by decide +kernel
theorem dX12_groom_17 : decode cX12_groom 17 = .ok (.iload_n 2, 1) := by decide +kernel
theorem dX12_groom_18 : decode cX12_groom 18 = .ok (.invokevirtual 171, 3) := by decide +kernel
theorem dX12_groom_21 : decode cX12_groom 21 = .ok (.ifCond .eq 12, 3) := by decide +kernel
theorem dX12_groom_24 : decode cX12_groom 24 = .ok (.aload_n 0, 1) := by decide +kernel
theorem dX12_groom_25 : decode cX12_groom 25 = .ok (.getfield 164, 3) := by decide +kernel
theorem dX12_groom_28 : decode cX12_groom 28 = .ok (.bipush 8, 2) := by decide +kernel
theorem dX12_groom_30 : decode cX12_groom 30 = .ok (.if_icmp .ne 5, 3) := by decide +kernel
theorem dX12_groom_33 : decode cX12_groom 33 = .ok (.iconst (-1), 1) := by decide +kernel
theorem dX12_groom_34 : decode cX12_groom 34 = .ok (.ireturn, 1) := by decide +kernel
theorem dX12_groom_35 : decode cX12_groom 35 = .ok (.aload_n 0, 1) := by decide +kernel
theorem dX12_groom_36 : decode cX12_groom 36 = .ok (.getfield 28, 3) := by decide +kernel
theorem dX12_groom_39 : decode cX12_groom 39 = .ok (.aload_n 0, 1) := by decide +kernel
theorem dX12_groom_40 : decode cX12_groom 40 = .ok (.getfield 164, 3) := by decide +kernel
theorem dX12_groom_43 : decode cX12_groom 43 = .ok (.iload_n 1, 1) := by decide +kernel
theorem dX12_groom_44 : decode cX12_groom 44 = .ok (.iastore, 1) := by decide +kernel
theorem dX12_groom_45 : decode cX12_groom 45 = .ok (.aload_n 0, 1) := by decide +kernel
theorem dX12_groom_46 : decode cX12_groom 46 = .ok (.getfield 31, 3) := by decide +kernel
theorem dX12_groom_49 : decode cX12_groom 49 = .ok (.aload_n 0, 1) := by decide +kernel
theorem dX12_groom_50 : decode cX12_groom 50 = .ok (.getfield 164, 3) := by decide +kernel
theorem dX12_groom_53 : decode cX12_groom 53 = .ok (.iload_n 2, 1) := by decide +kernel
theorem dX12_groom_54 : decode cX12_groom 54 = .ok (.iastore, 1) := by decide +kernel
theorem dX12_groom_55 : decode cX12_groom 55 = .ok (.aload_n 0, 1) := by decide +kernel
theorem dX12_groom_56 : decode cX12_groom 56 = .ok (.getfield 7, 3) := by decide +kernel
theorem dX12_groom_59 : decode cX12_groom 59 = .ok (.bipush 17, 2) := by decide +kernel
theorem dX12_groom_61 : decode cX12_groom 61 = .ok (.aload_n 0, 1) := by decide +kernel
theorem dX12_groom_62 : decode cX12_groom 62 = .ok (.getfield 164, 3) := by decide +kernel
theorem dX12_groom_65 : decode cX12_groom 65 = .ok (.iadd, 1) := by decide +kernel
theorem dX12_groom_66 : decode cX12_groom 66 = .ok (.iconst 0, 1) := by decide +kernel
theorem dX12_groom_67 : decode cX12_groom 67 = .ok (.iastore, 1) := by decide +kernel
theorem dX12_groom_68 : decode cX12_groom 68 = .ok (.aload_n 0, 1) := by decide +kernel
theorem dX12_groom_69 : decode cX12_groom 69 = .ok (.getfield 7, 3) := by decide +kernel
theorem dX12_groom_72 : decode cX12_groom 72 = .ok (.bipush 25, 2) := by decide +kernel
theorem dX12_groom_74 : decode cX12_groom 74 = .ok (.aload_n 0, 1) := by decide +kernel
theorem dX12_groom_75 : decode cX12_groom 75 = .ok (.getfield 164, 3) := by decide +kernel
theorem dX12_groom_78 : decode cX12_groom 78 = .ok (.iadd, 1) := by decide +kernel
theorem dX12_groom_79 : decode cX12_groom 79 = .ok (.iconst 0, 1) := by decide +kernel
theorem dX12_groom_80 : decode cX12_groom 80 = .ok (.iastore, 1) := by decide +kernel
theorem dX12_groom_81 : decode cX12_groom 81 = .ok (.aload_n 0, 1) := by decide +kernel
theorem dX12_groom_82 : decode cX12_groom 82 = .ok (.getfield 7, 3) := by decide +kernel
theorem dX12_groom_85 : decode cX12_groom 85 = .ok (.bipush 33, 2) := by decide +kernel
theorem dX12_groom_87 : decode cX12_groom 87 = .ok (.aload_n 0, 1) := by decide +kernel
theorem dX12_groom_88 : decode cX12_groom 88 = .ok (.getfield 164, 3) := by decide +kernel
theorem dX12_groom_91 : decode cX12_groom 91 = .ok (.iadd, 1) := by decide +kernel
theorem dX12_groom_92 : decode cX12_groom 92 = .ok (.iconst 0, 1) := by decide +kernel
theorem dX12_groom_93 : decode cX12_groom 93 = .ok (.iastore, 1) := by decide +kernel
theorem dX12_groom_94 : decode cX12_groom 94 = .ok (.aload_n 0, 1) := by decide +kernel
theorem dX12_groom_95 : decode cX12_groom 95 = .ok (.getfield 7, 3) := by decide +kernel
theorem dX12_groom_98 : decode cX12_groom 98 = .ok (.bipush 41, 2) := by decide +kernel
theorem dX12_groom_100 : decode cX12_groom 100 = .ok (.aload_n 0, 1) := by decide +kernel
theorem dX12_groom_101 : decode cX12_groom 101 = .ok (.getfield 164, 3) := by decide +kernel
theorem dX12_groom_104 : decode cX12_groom 104 = .ok (.iadd, 1) := by decide +kernel
theorem dX12_groom_105 : decode cX12_groom 105 = .ok (.iconst 0, 1) := by decide +kernel
theorem dX12_groom_106 : decode cX12_groom 106 = .ok (.iastore, 1) := by decide +kernel
theorem dX12_groom_107 : decode cX12_groom 107 = .ok (.aload_n 0, 1) := by decide +kernel
theorem dX12_groom_108 : decode cX12_groom 108 = .ok (.aload_n 0, 1) := by decide +kernel
theorem dX12_groom_109 : decode cX12_groom 109 = .ok (.getfield 164, 3) := by decide +kernel
theorem dX12_groom_112 : decode cX12_groom 112 = .ok (.iconst 1, 1) := by decide +kernel
theorem dX12_groom_113 : decode cX12_groom 113 = .ok (.iadd, 1) := by decide +kernel
theorem dX12_groom_114 : decode cX12_groom 114 = .ok (.putfield 164, 3) := by decide +kernel
theorem dX12_groom_117 : decode cX12_groom 117 = .ok (.aload_n 0, 1) := by decide +kernel
theorem dX12_groom_118 : decode cX12_groom 118 = .ok (.iconst 0, 1) := by decide +kernel
theorem dX12_groom_119 : decode cX12_groom 119 = .ok (.putfield 152, 3) := by decide +kernel
theorem dX12_groom_122 : decode cX12_groom 122 = .ok (.aload_n 0, 1) := by decide +kernel
theorem dX12_groom_123 : decode cX12_groom 123 = .ok (.getfield 164, 3) := by decide +kernel
theorem dX12_groom_126 : decode cX12_groom 126 = .ok (.iconst 1, 1) := by decide +kernel
theorem dX12_groom_127 : decode cX12_groom 127 = .ok (.isub, 1) := by decide +kernel
theorem dX12_groom_128 : decode cX12_groom 128 = .ok (.ireturn, 1) := by decide +kernel
theorem dX12_canSet_0 : decode cX12_canSet 0 = .ok (.aload_n 0, 1) := by decide +kernel
theorem dX12_canSet_1 : decode cX12_canSet 1 = .ok (.iload_n 1, 1) := by decide +kernel
theorem dX12_canSet_2 : decode cX12_canSet 2 = .ok (.iconst 0, 1) := by decide +kernel
theorem dX12_canSet_3 : decode cX12_canSet 3 = .ok (.iconst 2, 1) := by decide +kernel
theorem dX12_canSet_4 : decode cX12_canSet 4 = .ok (.invokevirtual 167, 3) := by decide +kernel
theorem dX12_canSet_7 : decode cX12_canSet 7 = .ok (.ifCond .eq 28, 3) := by decide +kernel
theorem dX12_canSet_10 : decode cX12_canSet 10 = .ok (.aload_n 0, 1) := by decide +kernel
theorem dX12_canSet_11 : decode cX12_canSet 11 = .ok (.iload_n 2, 1) := by decide +kernel
theorem dX12_canSet_12 : decode cX12_canSet 12 = .ok (.invokevirtual 171, 3) := by decide +kernel
theorem dX12_canSet_15 : decode cX12_canSet 15 = .ok (.ifCond .eq 18, 3) := by decide +kernel
theorem dX12_canSet_18 : decode cX12_canSet 18 = .ok (.aload_n 0, 1) := by decide +kernel
theorem dX12_canSet_19 : decode cX12_canSet 19 = .ok (.iload_n 3, 1) := by decide +kernel
theorem dX12_canSet_20 : decode cX12_canSet 20 = .ok (.iconst 0, 1) := by decide +kernel
theorem dX12_canSet_21 : decode cX12_canSet 21 = .ok (.bipush 9, 2) := by decide +kernel
theorem dX12_canSet_23 : decode cX12_canSet 23 = .ok (.invokevirtual 167, 3) := by decide +kernel
theorem dX12_canSet_26 : decode cX12_canSet 26 = .ok (.ifCond .eq 7, 3) := by decide +kernel
theorem dX12_canSet_29 : decode cX12_canSet 29 = .ok (.iconst 1, 1) := by decide +kernel
theorem dX12_canSet_30 : decode cX12_canSet 30 = .ok (.goto 4, 3) := by decide +kernel
theorem dX12_canSet_33 : decode cX12_canSet 33 = .ok (.iconst 0, 1) := by decide +kernel
theorem dX12_canSet_34 : decode cX12_canSet 34 = .ok (.ireturn, 1) := by decide +kernel
theorem dX12_canSet_35 : decode cX12_canSet 35 = .ok (.aload_n 0, 1) := by decide +kernel
theorem dX12_canSet_36 : decode cX12_canSet 36 = .ok (.iload_n 2, 1) := by decide +kernel
theorem dX12_canSet_37 : decode cX12_canSet 37 = .ok (.invokevirtual 175, 3) := by decide +kernel
theorem dX12_canSet_40 : decode cX12_canSet 40 = .ok (.ifCond .ne 5, 3) := by decide +kernel
theorem dX12_canSet_43 : decode cX12_canSet 43 = .ok (.iconst 0, 1) := by decide +kernel
theorem dX12_canSet_44 : decode cX12_canSet 44 = .ok (.ireturn, 1) := by decide +kernel
theorem dX12_canSet_45 : decode cX12_canSet 45 = .ok (.iload_n 1, 1) := by decide +kernel
theorem dX12_canSet_46 : decode cX12_canSet 46 = .ok (.iconst 3, 1) := by decide +kernel
theorem dX12_canSet_47 : decode cX12_canSet 47 = .ok (.if_icmp .ne 14, 3) := by decide +kernel
theorem dX12_canSet_50 : decode cX12_canSet 50 = .ok (.aload_n 0, 1) := by decide +kernel
theorem dX12_canSet_51 : decode cX12_canSet 51 = .ok (.iload_n 3, 1) := by decide +kernel
theorem dX12_canSet_52 : decode cX12_canSet 52 = .ok (.iconst 0, 1) := by decide +kernel
theorem dX12_canSet_53 : decode cX12_canSet 53 = .ok (.bipush 9, 2) := by decide +kernel
theorem dX12_canSet_55 : decode cX12_canSet 55 = .ok (.invokevirtual 167, 3) := by decide +kernel
theorem dX12_canSet_58 : decode cX12_canSet 58 = .ok (.ifCond .ne 33, 3) := by decide +kernel
theorem dX12_canSet_61 : decode cX12_canSet 61 = .ok (.iload_n 1, 1) := by decide +kernel
theorem dX12_canSet_62 : decode cX12_canSet 62 = .ok (.iconst 4, 1) := by decide +kernel
theorem dX12_canSet_63 : decode cX12_canSet 63 = .ok (.if_icmp .ne 11, 3) := by decide +kernel
theorem dX12_canSet_66 : decode cX12_canSet 66 = .ok (.aload_n 0, 1) := by decide +kernel
theorem dX12_canSet_67 : decode cX12_canSet 67 = .ok (.iload_n 3, 1) := by decide +kernel
theorem dX12_canSet_68 : decode cX12_canSet 68 = .ok (.invokevirtual 171, 3) := by decide +kernel
theorem dX12_canSet_71 : decode cX12_canSet 71 = .ok (.ifCond .ne 20, 3) := by decide +kernel
theorem dX12_canSet_74 : decode cX12_canSet 74 = .ok (.iload_n 1, 1) := by decide +kernel
theorem dX12_canSet_75 : decode cX12_canSet 75 = .ok (.iconst 5, 1) := by decide +kernel
theorem dX12_canSet_76 : decode cX12_canSet 76 = .ok (.if_icmp .ne 19, 3) := by decide +kernel
theorem dX12_canSet_79 : decode cX12_canSet 79 = .ok (.aload_n 0, 1) := by decide +kernel
theorem dX12_canSet_80 : decode cX12_canSet 80 = .ok (.iload_n 3, 1) := by decide +kernel
theorem dX12_canSet_81 : decode cX12_canSet 81 = .ok (.bipush (-99), 2) := by decide +kernel
theorem dX12_canSet_83 : decode cX12_canSet 83 = .ok (.bipush 99, 2) := by decide +kernel
theorem dX12_canSet_85 : decode cX12_canSet 85 = .ok (.invokevirtual 167, 3) := by decide +kernel
theorem dX12_canSet_88 : decode cX12_canSet 88 = .ok (.ifCond .eq 7, 3) := by decide +kernel
theorem dX12_canSet_91 : decode cX12_canSet 91 = .ok (.iconst 1, 1) := by decide +kernel
theorem dX12_canSet_92 : decode cX12_canSet 92 = .ok (.goto 4, 3) := by decide +kernel
theorem dX12_canSet_95 : decode cX12_canSet 95 = .ok (.iconst 0, 1) := by decide +kernel
theorem dX12_canSet_96 : decode cX12_canSet 96 = .ok (.ireturn, 1) := by decide +kernel
theorem dX12_set_0 : decode cX12_set 0 = .ok (.aload_n 0, 1) := by decide +kernel
theorem dX12_set_1 : decode cX12_set 1 = .ok (.iconst 0, 1) := by decide +kernel
theorem dX12_set_2 : decode cX12_set 2 = .ok (.putfield 149, 3) := by decide +kernel
theorem dX12_set_5 : decode cX12_set 5 = .ok (.aload_n 0, 1) := by decide +kernel
theorem dX12_set_6 : decode cX12_set 6 = .ok (.iload_n 1, 1) := by decide +kernel
theorem dX12_set_7 : decode cX12_set 7 = .ok (.iload_n 2, 1) := by decide +kernel
theorem dX12_set_8 : decode cX12_set 8 = .ok (.iload_n 3, 1) := by decide +kernel
theorem dX12_set_9 : decode cX12_set 9 = .ok (.invokevirtual 178, 3) := by decide +kernel
theorem dX12_set_12 : decode cX12_set 12 = .ok (.ifCond .ne 5, 3) := by decide +kernel
theorem dX12_set_15 : decode cX12_set 15 = .ok (.iconst 0, 1) := by decide +kernel
theorem dX12_set_16 : decode cX12_set 16 = .ok (.ireturn, 1) := by decide +kernel
theorem dX12_set_17 : decode cX12_set 17 = .ok (.iload_n 1, 1) := by decide +kernel
theorem dX12_set_18 : decode cX12_set 18 = .ok (.ifCond .ne 10, 3) := by decide +kernel
theorem dX12_set_21 : decode cX12_set 21 = .ok (.aload_n 0, 1) := by decide +kernel
theorem dX12_set_22 : decode cX12_set 22 = .ok (.getfield 19, 3) := by decide +kernel
theorem dX12_set_25 : decode cX12_set 25 = .ok (.iload_n 2, 1) := by decide +kernel
theorem dX12_set_26 : decode cX12_set 26 = .ok (.iload_n 3, 1) := by decide +kernel
theorem dX12_set_27 : decode cX12_set 27 = .ok (.iastore, 1) := by decide +kernel
theorem dX12_set_28 : decode cX12_set 28 = .ok (.iload_n 1, 1) := by decide +kernel
theorem dX12_set_29 : decode cX12_set 29 = .ok (.iconst 1, 1) := by decide +kernel
theorem dX12_set_30 : decode cX12_set 30 = .ok (.if_icmp .ne 10, 3) := by decide +kernel
theorem dX12_set_33 : decode cX12_set 33 = .ok (.aload_n 0, 1) := by decide +kernel
theorem dX12_set_34 : decode cX12_set 34 = .ok (.getfield 22, 3) := by decide +kernel
theorem dX12_set_37 : decode cX12_set 37 = .ok (.iload_n 2, 1) := by decide +kernel
theorem dX12_set_38 : decode cX12_set 38 = .ok (.iload_n 3, 1) := by decide +kernel
theorem dX12_set_39 : decode cX12_set 39 = .ok (.iastore, 1) := by decide +kernel
theorem dX12_set_40 : decode cX12_set 40 = .ok (.iload_n 1, 1) := by decide +kernel
theorem dX12_set_41 : decode cX12_set 41 = .ok (.iconst 2, 1) := by decide +kernel
theorem dX12_set_42 : decode cX12_set 42 = .ok (.if_icmp .ne 10, 3) := by decide +kernel
theorem dX12_set_45 : decode cX12_set 45 = .ok (.aload_n 0, 1) := by decide +kernel
theorem dX12_set_46 : decode cX12_set 46 = .ok (.getfield 25, 3) := by decide +kernel
theorem dX12_set_49 : decode cX12_set 49 = .ok (.iload_n 2, 1) := by decide +kernel
theorem dX12_set_50 : decode cX12_set 50 = .ok (.iload_n 3, 1) := by decide +kernel
theorem dX12_set_51 : decode cX12_set 51 = .ok (.iastore, 1) := by decide +kernel
theorem dX12_set_52 : decode cX12_set 52 = .ok (.iload_n 1, 1) := by decide +kernel
theorem dX12_set_53 : decode cX12_set 53 = .ok (.iconst 3, 1) := by decide +kernel
theorem dX12_set_54 : decode cX12_set 54 = .ok (.if_icmp .ne 10, 3) := by decide +kernel
theorem dX12_set_57 : decode cX12_set 57 = .ok (.aload_n 0, 1) := by decide +kernel
theorem dX12_set_58 : decode cX12_set 58 = .ok (.getfield 28, 3) := by decide +kernel
theorem dX12_set_61 : decode cX12_set 61 = .ok (.iload_n 2, 1) := by decide +kernel
theorem dX12_set_62 : decode cX12_set 62 = .ok (.iload_n 3, 1) := by decide +kernel
theorem dX12_set_63 : decode cX12_set 63 = .ok (.iastore, 1) := by decide +kernel
theorem dX12_set_64 : decode cX12_set 64 = .ok (.iload_n 1, 1) := by decide +kernel
theorem dX12_set_65 : decode cX12_set 65 = .ok (.iconst 4, 1) := by decide +kernel
theorem dX12_set_66 : decode cX12_set 66 = .ok (.if_icmp .ne 10, 3) := by decide +kernel
theorem dX12_set_69 : decode cX12_set 69 = .ok (.aload_n 0, 1) := by decide +kernel
theorem dX12_set_70 : decode cX12_set 70 = .ok (.getfield 31, 3) := by decide +kernel
theorem dX12_set_73 : decode cX12_set 73 = .ok (.iload_n 2, 1) := by decide +kernel
theorem dX12_set_74 : decode cX12_set 74 = .ok (.iload_n 3, 1) := by decide +kernel
theorem dX12_set_75 : decode cX12_set 75 = .ok (.iastore, 1) := by decide +kernel
theorem dX12_set_76 : decode cX12_set 76 = .ok (.iload_n 1, 1) := by decide +kernel
theorem dX12_set_77 : decode cX12_set 77 = .ok (.iconst 5, 1) := by decide +kernel
theorem dX12_set_78 : decode cX12_set 78 = .ok (.if_icmp .ne 13, 3) := by decide +kernel
theorem dX12_set_81 : decode cX12_set 81 = .ok (.aload_n 0, 1) := by decide +kernel
theorem dX12_set_82 : decode cX12_set 82 = .ok (.getfield 7, 3) := by decide +kernel
theorem dX12_set_85 : decode cX12_set 85 = .ok (.bipush 25, 2) := by decide +kernel
theorem dX12_set_87 : decode cX12_set 87 = .ok (.iload_n 2, 1) := by decide +kernel
theorem dX12_set_88 : decode cX12_set 88 = .ok (.iadd, 1) := by decide +kernel
theorem dX12_set_89 : decode cX12_set 89 = .ok (.iload_n 3, 1) := by decide +kernel
theorem dX12_set_90 : decode cX12_set 90 = .ok (.iastore, 1) := by decide +kernel
theorem dX12_set_91 : decode cX12_set 91 = .ok (.aload_n 0, 1) := by decide +kernel
theorem dX12_set_92 : decode cX12_set 92 = .ok (.iconst 0, 1) := by decide +kernel
theorem dX12_set_93 : decode cX12_set 93 = .ok (.putfield 152, 3) := by decide +kernel
theorem dX12_set_96 : decode cX12_set 96 = .ok (.iconst 1, 1) := by decide +kernel
theorem dX12_set_97 : decode cX12_set 97 = .ok (.ireturn, 1) := by decide +kernel
theorem dX12_types_0 : decode cX12_types 0 = .ok (.bipush 24, 2) := by decide +kernel
theorem dX12_types_2 : decode cX12_types 2 = .ok (.istore_n 2, 1) := by decide +kernel
theorem dX12_types_3 : decode cX12_types 3 = .ok (.iload_n 2, 1) := by decide +kernel
theorem dX12_types_4 : decode cX12_types 4 = .ok (.ifCond .lt 35, 3) := by decide +kernel
theorem dX12_types_7 : decode cX12_types 7 = .ok (.aload_n 0, 1) := by decide +kernel
theorem dX12_types_8 : decode cX12_types 8 = .ok (.getfield 37, 3) := by decide +kernel
theorem dX12_types_11 : decode cX12_types 11 = .ok (.aload_n 0, 1) := by decide +kernel
theorem dX12_types_12 : decode cX12_types 12 = .ok (.getfield 181, 3) := by decide +kernel
theorem dX12_types_15 : decode cX12_types 15 = .ok (.iload_n 1, 1) := by decide +kernel
theorem dX12_types_16 : decode cX12_types 16 = .ok (.iload_n 2, 1) := by decide +kernel
theorem dX12_types_17 : decode cX12_types 17 = .ok (.ishr, 1) := by decide +kernel
theorem dX12_types_18 : decode cX12_types 18 = .ok (.sipush 255, 3) := by decide +kernel
theorem dX12_types_21 : decode cX12_types 21 = .ok (.iand, 1) := by decide +kernel
theorem dX12_types_22 : decode cX12_types 22 = .ok (.iastore, 1) := by decide +kernel
theorem dX12_types_23 : decode cX12_types 23 = .ok (.aload_n 0, 1) := by decide +kernel
theorem dX12_types_24 : decode cX12_types 24 = .ok (.aload_n 0, 1) := by decide +kernel
theorem dX12_types_25 : decode cX12_types 25 = .ok (.getfield 181, 3) := by decide +kernel
theorem dX12_types_28 : decode cX12_types 28 = .ok (.iconst 1, 1) := by decide +kernel
theorem dX12_types_29 : decode cX12_types 29 = .ok (.iadd, 1) := by decide +kernel
theorem dX12_types_30 : decode cX12_types 30 = .ok (.putfield 181, 3) := by decide +kernel
theorem dX12_types_33 : decode cX12_types 33 = .ok (.iinc 2 (-8), 3) := by decide +kernel
theorem dX12_types_36 : decode cX12_types 36 = .ok (.goto (-33), 3) := by decide +kernel
theorem dX12_types_39 : decode cX12_types 39 = .ok (.return_, 1) := by decide +kernel
theorem dX12_feed_0 : decode cX12_feed 0 = .ok (.aload_n 0, 1) := by decide +kernel
theorem dX12_feed_1 : decode cX12_feed 1 = .ok (.iconst 0, 1) := by decide +kernel
theorem dX12_feed_2 : decode cX12_feed 2 = .ok (.putfield 149, 3) := by decide +kernel
theorem dX12_feed_5 : decode cX12_feed 5 = .ok (.aload_n 0, 1) := by decide +kernel
theorem dX12_feed_6 : decode cX12_feed 6 = .ok (.getfield 181, 3) := by decide +kernel
theorem dX12_feed_9 : decode cX12_feed 9 = .ok (.sipush 380, 3) := by decide +kernel
theorem dX12_feed_12 : decode cX12_feed 12 = .ok (.if_icmp .le 5, 3) := by decide +kernel
theorem dX12_feed_15 : decode cX12_feed 15 = .ok (.iconst (-1), 1) := by decide +kernel
theorem dX12_feed_16 : decode cX12_feed 16 = .ok (.ireturn, 1) := by decide +kernel
theorem dX12_feed_17 : decode cX12_feed 17 = .ok (.aload_n 0, 1) := by decide +kernel
theorem dX12_feed_18 : decode cX12_feed 18 = .ok (.iload_n 1, 1) := by decide +kernel
theorem dX12_feed_19 : decode cX12_feed 19 = .ok (.invokevirtual 184, 3) := by decide +kernel
theorem dX12_feed_22 : decode cX12_feed 22 = .ok (.aload_n 0, 1) := by decide +kernel
theorem dX12_feed_23 : decode cX12_feed 23 = .ok (.iload_n 2, 1) := by decide +kernel
theorem dX12_feed_24 : decode cX12_feed 24 = .ok (.invokevirtual 184, 3) := by decide +kernel
theorem dX12_feed_27 : decode cX12_feed 27 = .ok (.aload_n 0, 1) := by decide +kernel
theorem dX12_feed_28 : decode cX12_feed 28 = .ok (.iload_n 3, 1) := by decide +kernel
theorem dX12_feed_29 : decode cX12_feed 29 = .ok (.invokevirtual 184, 3) := by decide +kernel
theorem dX12_feed_32 : decode cX12_feed 32 = .ok (.aload_n 0, 1) := by decide +kernel
theorem dX12_feed_33 : decode cX12_feed 33 = .ok (.iload 4, 2) := by decide +kernel
theorem dX12_feed_35 : decode cX12_feed 35 = .ok (.invokevirtual 184, 3) := by decide +kernel
theorem dX12_feed_38 : decode cX12_feed 38 = .ok (.aload_n 0, 1) := by decide +kernel
theorem dX12_feed_39 : decode cX12_feed 39 = .ok (.iload 5, 2) := by decide +kernel
theorem dX12_feed_41 : decode cX12_feed 41 = .ok (.invokevirtual 184, 3) := by decide +kernel
theorem dX12_feed_44 : decode cX12_feed 44 = .ok (.aload_n 0, 1) := by decide +kernel
theorem dX12_feed_45 : decode cX12_feed 45 = .ok (.getfield 181, 3) := by decide +kernel
theorem dX12_feed_48 : decode cX12_feed 48 = .ok (.ireturn, 1) := by decide +kernel
theorem dX12_end_0 : decode cX12_end 0 = .ok (.aload_n 0, 1) := by decide +kernel
theorem dX12_end_1 : decode cX12_end 1 = .ok (.iconst 0, 1) := by decide +kernel
theorem dX12_end_2 : decode cX12_end 2 = .ok (.putfield 149, 3) := by decide +kernel
theorem dX12_end_5 : decode cX12_end 5 = .ok (.aload_n 0, 1) := by decide +kernel
theorem dX12_end_6 : decode cX12_end 6 = .ok (.iload_n 1, 1) := by decide +kernel
theorem dX12_end_7 : decode cX12_end 7 = .ok (.iconst 0, 1) := by decide +kernel
theorem dX12_end_8 : decode cX12_end 8 = .ok (.aload_n 0, 1) := by decide +kernel
theorem dX12_end_9 : decode cX12_end 9 = .ok (.getfield 181, 3) := by decide +kernel
theorem dX12_end_12 : decode cX12_end 12 = .ok (.invokevirtual 167, 3) := by decide +kernel
theorem dX12_end_15 : decode cX12_end 15 = .ok (.ifCond .ne 5, 3) := by decide +kernel
theorem dX12_end_18 : decode cX12_end 18 = .ok (.iconst 0, 1) := by decide +kernel
theorem dX12_end_19 : decode cX12_end 19 = .ok (.ireturn, 1) := by decide +kernel
theorem dX12_end_20 : decode cX12_end 20 = .ok (.aload_n 0, 1) := by decide +kernel
theorem dX12_end_21 : decode cX12_end 21 = .ok (.iload_n 1, 1) := by decide +kernel
theorem dX12_end_22 : decode cX12_end 22 = .ok (.putfield 181, 3) := by decide +kernel
theorem dX12_end_25 : decode cX12_end 25 = .ok (.iconst 1, 1) := by decide +kernel
theorem dX12_end_26 : decode cX12_end 26 = .ok (.ireturn, 1) := by decide +kernel
theorem dX12_raw_0 : decode cX12_raw 0 = .ok (.iload_n 1, 1) := by decide +kernel
theorem dX12_raw_1 : decode cX12_raw 1 = .ok (.aload_n 0, 1) := by decide +kernel
theorem dX12_raw_2 : decode cX12_raw 2 = .ok (.getfield 181, 3) := by decide +kernel
theorem dX12_raw_5 : decode cX12_raw 5 = .ok (.if_icmp .ge 12, 3) := by decide +kernel
theorem dX12_raw_8 : decode cX12_raw 8 = .ok (.aload_n 0, 1) := by decide +kernel
theorem dX12_raw_9 : decode cX12_raw 9 = .ok (.getfield 37, 3) := by decide +kernel
theorem dX12_raw_12 : decode cX12_raw 12 = .ok (.iload_n 1, 1) := by decide +kernel
theorem dX12_raw_13 : decode cX12_raw 13 = .ok (.iaload, 1) := by decide +kernel
theorem dX12_raw_14 : decode cX12_raw 14 = .ok (.goto 4, 3) := by decide +kernel
theorem dX12_raw_17 : decode cX12_raw 17 = .ok (.iconst (-1), 1) := by decide +kernel
theorem dX12_raw_18 : decode cX12_raw 18 = .ok (.ireturn, 1) := by decide +kernel
theorem dX12_isLetter_0 : decode cX12_isLetter 0 = .ok (.aload_n 0, 1) := by decide +kernel
theorem dX12_isLetter_1 : decode cX12_isLetter 1 = .ok (.iload_n 1, 1) := by decide +kernel
theorem dX12_isLetter_2 : decode cX12_isLetter 2 = .ok (.bipush 97, 2) := by decide +kernel
theorem dX12_isLetter_4 : decode cX12_isLetter 4 = .ok (.bipush 122, 2) := by decide +kernel
theorem dX12_isLetter_6 : decode cX12_isLetter 6 = .ok (.invokevirtual 167, 3) := by decide +kernel
theorem dX12_isLetter_9 : decode cX12_isLetter 9 = .ok (.ifCond .ne 15, 3) := by decide +kernel
theorem dX12_isLetter_12 : decode cX12_isLetter 12 = .ok (.aload_n 0, 1) := by decide +kernel
theorem dX12_isLetter_13 : decode cX12_isLetter 13 = .ok (.iload_n 1, 1) := by decide +kernel
theorem dX12_isLetter_14 : decode cX12_isLetter 14 = .ok (.bipush 65, 2) := by decide +kernel
theorem dX12_isLetter_16 : decode cX12_isLetter 16 = .ok (.bipush 90, 2) := by decide +kernel
theorem dX12_isLetter_18 : decode cX12_isLetter 18 = .ok (.invokevirtual 167, 3) := by decide +kernel
theorem dX12_isLetter_21 : decode cX12_isLetter 21 = .ok (.ifCond .eq 7, 3) := by decide +kernel
theorem dX12_isLetter_24 : decode cX12_isLetter 24 = .ok (.iconst 1, 1) := by decide +kernel
theorem dX12_isLetter_25 : decode cX12_isLetter 25 = .ok (.goto 4, 3) := by decide +kernel
theorem dX12_isLetter_28 : decode cX12_isLetter 28 = .ok (.iconst 0, 1) := by decide +kernel
theorem dX12_isLetter_29 : decode cX12_isLetter 29 = .ok (.ireturn, 1) := by decide +kernel
theorem dX12_isDigit_0 : decode cX12_isDigit 0 = .ok (.aload_n 0, 1) := by decide +kernel
theorem dX12_isDigit_1 : decode cX12_isDigit 1 = .ok (.iload_n 1, 1) := by decide +kernel
theorem dX12_isDigit_2 : decode cX12_isDigit 2 = .ok (.bipush 48, 2) := by decide +kernel
theorem dX12_isDigit_4 : decode cX12_isDigit 4 = .ok (.bipush 57, 2) := by decide +kernel
theorem dX12_isDigit_6 : decode cX12_isDigit 6 = .ok (.invokevirtual 167, 3) := by decide +kernel
theorem dX12_isDigit_9 : decode cX12_isDigit 9 = .ok (.ireturn, 1) := by decide +kernel
theorem dX12_isMarkSign_0 : decode cX12_isMarkSign 0 = .ok (.iload_n 1, 1) := by decide +kernel
theorem dX12_isMarkSign_1 : decode cX12_isMarkSign 1 = .ok (.bipush 59, 2) := by decide +kernel
theorem dX12_isMarkSign_3 : decode cX12_isMarkSign 3 = .ok (.if_icmp .eq 57, 3) := by decide +kernel
theorem dX12_isMarkSign_6 : decode cX12_isMarkSign 6 = .ok (.iload_n 1, 1) := by decide +kernel
theorem dX12_isMarkSign_7 : decode cX12_isMarkSign 7 = .ok (.bipush 43, 2) := by decide +kernel
theorem dX12_isMarkSign_9 : decode cX12_isMarkSign 9 = .ok (.if_icmp .eq 51, 3) := by decide +kernel
theorem dX12_isMarkSign_12 : decode cX12_isMarkSign 12 = .ok (.iload_n 1, 1) := by decide +kernel
theorem dX12_isMarkSign_13 : decode cX12_isMarkSign 13 = .ok (.bipush 45, 2) := by decide +kernel
theorem dX12_isMarkSign_15 : decode cX12_isMarkSign 15 = .ok (.if_icmp .eq 45, 3) := by decide +kernel
theorem dX12_isMarkSign_18 : decode cX12_isMarkSign 18 = .ok (.iload_n 1, 1) := by decide +kernel
theorem dX12_isMarkSign_19 : decode cX12_isMarkSign 19 = .ok (.bipush 42, 2) := by decide +kernel
theorem dX12_isMarkSign_21 : decode cX12_isMarkSign 21 = .ok (.if_icmp .eq 39, 3) := by decide +kernel
theorem dX12_isMarkSign_24 : decode cX12_isMarkSign 24 = .ok (.iload_n 1, 1) := by decide +kernel
theorem dX12_isMarkSign_25 : decode cX12_isMarkSign 25 = .ok (.bipush 47, 2) := by decide +kernel
theorem dX12_isMarkSign_27 : decode cX12_isMarkSign 27 = .ok (.if_icmp .eq 33, 3) := by decide +kernel
theorem dX12_isMarkSign_30 : decode cX12_isMarkSign 30 = .ok (.iload_n 1, 1) := by decide +kernel
theorem dX12_isMarkSign_31 : decode cX12_isMarkSign 31 = .ok (.bipush 40, 2) := by decide +kernel
theorem dX12_isMarkSign_33 : decode cX12_isMarkSign 33 = .ok (.if_icmp .eq 27, 3) := by decide +kernel
theorem dX12_isMarkSign_36 : decode cX12_isMarkSign 36 = .ok (.iload_n 1, 1) := by decide +kernel
theorem dX12_isMarkSign_37 : decode cX12_isMarkSign 37 = .ok (.bipush 41, 2) := by decide +kernel
theorem dX12_isMarkSign_39 : decode cX12_isMarkSign 39 = .ok (.if_icmp .eq 21, 3) := by decide +kernel
theorem dX12_isMarkSign_42 : decode cX12_isMarkSign 42 = .ok (.iload_n 1, 1) := by decide +kernel
theorem dX12_isMarkSign_43 : decode cX12_isMarkSign 43 = .ok (.bipush 60, 2) := by decide +kernel
theorem dX12_isMarkSign_45 : decode cX12_isMarkSign 45 = .ok (.if_icmp .eq 15, 3) := by decide +kernel
theorem dX12_isMarkSign_48 : decode cX12_isMarkSign 48 = .ok (.iload_n 1, 1) := by decide +kernel
theorem dX12_isMarkSign_49 : decode cX12_isMarkSign 49 = .ok (.bipush 61, 2) := by decide +kernel
theorem dX12_isMarkSign_51 : decode cX12_isMarkSign 51 = .ok (.if_icmp .eq 9, 3) := by decide +kernel
theorem dX12_isMarkSign_54 : decode cX12_isMarkSign 54 = .ok (.iload_n 1, 1) := by decide +kernel
theorem dX12_isMarkSign_55 : decode cX12_isMarkSign 55 = .ok (.bipush 62, 2) := by decide +kernel
theorem dX12_isMarkSign_57 : decode cX12_isMarkSign 57 = .ok (.if_icmp .ne 7, 3) := by decide +kernel
theorem dX12_isMarkSign_60 : decode cX12_isMarkSign 60 = .ok (.iconst 1, 1) := by decide +kernel
theorem dX12_isMarkSign_61 : decode cX12_isMarkSign 61 = .ok (.goto 4, 3) := by decide +kernel
theorem dX12_isMarkSign_64 : decode cX12_isMarkSign 64 = .ok (.iconst 0, 1) := by decide +kernel
theorem dX12_isMarkSign_65 : decode cX12_isMarkSign 65 = .ok (.ireturn, 1) := by decide +kernel
theorem dX12_wordAt_0 : decode cX12_wordAt 0 = .ok (.iconst (-1), 1) := by decide +kernel
theorem dX12_wordAt_1 : decode cX12_wordAt 1 = .ok (.istore_n 3, 1) := by decide +kernel
theorem dX12_wordAt_2 : decode cX12_wordAt 2 = .ok (.iconst 0, 1) := by decide +kernel
theorem dX12_wordAt_3 : decode cX12_wordAt 3 = .ok (.istore 4, 2) := by decide +kernel
theorem dX12_wordAt_5 : decode cX12_wordAt 5 = .ok (.iload 4, 2) := by decide +kernel
theorem dX12_wordAt_7 : decode cX12_wordAt 7 = .ok (.sipush 131, 3) := by decide +kernel
theorem dX12_wordAt_10 : decode cX12_wordAt 10 = .ok (.if_icmp .ge 108, 3) := by decide +kernel
theorem dX12_wordAt_13 : decode cX12_wordAt 13 = .ok (.iconst 0, 1) := by decide +kernel
theorem dX12_wordAt_14 : decode cX12_wordAt 14 = .ok (.istore 5, 2) := by decide +kernel
theorem dX12_wordAt_16 : decode cX12_wordAt 16 = .ok (.iload_n 3, 1) := by decide +kernel
theorem dX12_wordAt_17 : decode cX12_wordAt 17 = .ok (.iconst 1, 1) := by decide +kernel
theorem dX12_wordAt_18 : decode cX12_wordAt 18 = .ok (.iadd, 1) := by decide +kernel
theorem dX12_wordAt_19 : decode cX12_wordAt 19 = .ok (.istore_n 3, 1) := by decide +kernel
theorem dX12_wordAt_20 : decode cX12_wordAt 20 = .ok (.iload_n 1, 1) := by decide +kernel
theorem dX12_wordAt_21 : decode cX12_wordAt 21 = .ok (.iload 5, 2) := by decide +kernel
theorem dX12_wordAt_23 : decode cX12_wordAt 23 = .ok (.iadd, 1) := by decide +kernel
theorem dX12_wordAt_24 : decode cX12_wordAt 24 = .ok (.iload_n 2, 1) := by decide +kernel
theorem dX12_wordAt_25 : decode cX12_wordAt 25 = .ok (.if_icmp .ge 36, 3) := by decide +kernel
theorem dX12_wordAt_28 : decode cX12_wordAt 28 = .ok (.aload_n 0, 1) := by decide +kernel
theorem dX12_wordAt_29 : decode cX12_wordAt 29 = .ok (.getfield 40, 3) := by decide +kernel
theorem dX12_wordAt_32 : decode cX12_wordAt 32 = .ok (.iload 4, 2) := by decide +kernel
theorem dX12_wordAt_34 : decode cX12_wordAt 34 = .ok (.iconst 1, 1) := by decide +kernel
theorem dX12_wordAt_35 : decode cX12_wordAt 35 = .ok (.iadd, 1) := by decide +kernel
theorem dX12_wordAt_36 : decode cX12_wordAt 36 = .ok (.iload 5, 2) := by decide +kernel
theorem dX12_wordAt_38 : decode cX12_wordAt 38 = .ok (.iadd, 1) := by decide +kernel
theorem dX12_wordAt_39 : decode cX12_wordAt 39 = .ok (.iaload, 1) := by decide +kernel
theorem dX12_wordAt_40 : decode cX12_wordAt 40 = .ok (.aload_n 0, 1) := by decide +kernel
theorem dX12_wordAt_41 : decode cX12_wordAt 41 = .ok (.getfield 37, 3) := by decide +kernel
theorem dX12_wordAt_44 : decode cX12_wordAt 44 = .ok (.iload_n 1, 1) := by decide +kernel
theorem dX12_wordAt_45 : decode cX12_wordAt 45 = .ok (.iload 5, 2) := by decide +kernel
theorem dX12_wordAt_47 : decode cX12_wordAt 47 = .ok (.iadd, 1) := by decide +kernel
theorem dX12_wordAt_48 : decode cX12_wordAt 48 = .ok (.iaload, 1) := by decide +kernel
theorem dX12_wordAt_49 : decode cX12_wordAt 49 = .ok (.if_icmp .ne 12, 3) := by decide +kernel
theorem dX12_wordAt_52 : decode cX12_wordAt 52 = .ok (.iload 5, 2) := by decide +kernel
theorem dX12_wordAt_54 : decode cX12_wordAt 54 = .ok (.iconst 1, 1) := by decide +kernel
theorem dX12_wordAt_55 : decode cX12_wordAt 55 = .ok (.iadd, 1) := by decide +kernel
theorem dX12_wordAt_56 : decode cX12_wordAt 56 = .ok (.istore 5, 2) := by decide +kernel
theorem dX12_wordAt_58 : decode cX12_wordAt 58 = .ok (.goto (-38), 3) := by decide +kernel
theorem dX12_wordAt_61 : decode cX12_wordAt 61 = .ok (.iload_n 1, 1) := by decide +kernel
theorem dX12_wordAt_62 : decode cX12_wordAt 62 = .ok (.iload 5, 2) := by decide +kernel
theorem dX12_wordAt_64 : decode cX12_wordAt 64 = .ok (.iadd, 1) := by decide +kernel
theorem dX12_wordAt_65 : decode cX12_wordAt 65 = .ok (.iload_n 2, 1) := by decide +kernel
theorem dX12_wordAt_66 : decode cX12_wordAt 66 = .ok (.if_icmp .ne 22, 3) := by decide +kernel
theorem dX12_wordAt_69 : decode cX12_wordAt 69 = .ok (.aload_n 0, 1) := by decide +kernel
theorem dX12_wordAt_70 : decode cX12_wordAt 70 = .ok (.getfield 40, 3) := by decide +kernel
theorem dX12_wordAt_73 : decode cX12_wordAt 73 = .ok (.iload 4, 2) := by decide +kernel
theorem dX12_wordAt_75 : decode cX12_wordAt 75 = .ok (.iconst 1, 1) := by decide +kernel
theorem dX12_wordAt_76 : decode cX12_wordAt 76 = .ok (.iadd, 1) := by decide +kernel
theorem dX12_wordAt_77 : decode cX12_wordAt 77 = .ok (.iload 5, 2) := by decide +kernel
theorem dX12_wordAt_79 : decode cX12_wordAt 79 = .ok (.iadd, 1) := by decide +kernel
theorem dX12_wordAt_80 : decode cX12_wordAt 80 = .ok (.iaload, 1) := by decide +kernel
theorem dX12_wordAt_81 : decode cX12_wordAt 81 = .ok (.bipush 32, 2) := by decide +kernel
theorem dX12_wordAt_83 : decode cX12_wordAt 83 = .ok (.if_icmp .ne 5, 3) := by decide +kernel
theorem dX12_wordAt_86 : decode cX12_wordAt 86 = .ok (.iload_n 3, 1) := by decide +kernel
theorem dX12_wordAt_87 : decode cX12_wordAt 87 = .ok (.ireturn, 1) := by decide +kernel
theorem dX12_wordAt_88 : decode cX12_wordAt 88 = .ok (.iload 4, 2) := by decide +kernel
theorem dX12_wordAt_90 : decode cX12_wordAt 90 = .ok (.iconst 1, 1) := by decide +kernel
theorem dX12_wordAt_91 : decode cX12_wordAt 91 = .ok (.iadd, 1) := by decide +kernel
theorem dX12_wordAt_92 : decode cX12_wordAt 92 = .ok (.istore 4, 2) := by decide +kernel
theorem dX12_wordAt_94 : decode cX12_wordAt 94 = .ok (.aload_n 0, 1) := by decide +kernel
theorem dX12_wordAt_95 : decode cX12_wordAt 95 = .ok (.getfield 40, 3) := by decide +kernel
theorem dX12_wordAt_98 : decode cX12_wordAt 98 = .ok (.iload 4, 2) := by decide +kernel
theorem dX12_wordAt_100 : decode cX12_wordAt 100 = .ok (.iaload, 1) := by decide +kernel
theorem dX12_wordAt_101 : decode cX12_wordAt 101 = .ok (.bipush 32, 2) := by decide +kernel
theorem dX12_wordAt_103 : decode cX12_wordAt 103 = .ok (.if_icmp .eq 12, 3) := by decide +kernel
theorem dX12_wordAt_106 : decode cX12_wordAt 106 = .ok (.iload 4, 2) := by decide +kernel
theorem dX12_wordAt_108 : decode cX12_wordAt 108 = .ok (.iconst 1, 1) := by decide +kernel
theorem dX12_wordAt_109 : decode cX12_wordAt 109 = .ok (.iadd, 1) := by decide +kernel
theorem dX12_wordAt_110 : decode cX12_wordAt 110 = .ok (.istore 4, 2) := by decide +kernel
theorem dX12_wordAt_112 : decode cX12_wordAt 112 = .ok (.goto (-18), 3) := by decide +kernel
theorem dX12_wordAt_115 : decode cX12_wordAt 115 = .ok (.goto (-110), 3) := by decide +kernel
theorem dX12_wordAt_118 : decode cX12_wordAt 118 = .ok (.iconst (-1), 1) := by decide +kernel
theorem dX12_wordAt_119 : decode cX12_wordAt 119 = .ok (.ireturn, 1) := by decide +kernel
theorem dX12_reads_0 : decode cX12_reads 0 = .ok (.aload_n 0, 1) := by decide +kernel
theorem dX12_reads_1 : decode cX12_reads 1 = .ok (.aload_n 0, 1) := by decide +kernel
theorem dX12_reads_2 : decode cX12_reads 2 = .ok (.getfield 188, 3) := by decide +kernel
theorem dX12_reads_5 : decode cX12_reads 5 = .ok (.invokevirtual 191, 3) := by decide +kernel
theorem dX12_reads_8 : decode cX12_reads 8 = .ok (.bipush 32, 2) := by decide +kernel
theorem dX12_reads_10 : decode cX12_reads 10 = .ok (.if_icmp .eq 16, 3) := by decide +kernel
theorem dX12_reads_13 : decode cX12_reads 13 = .ok (.aload_n 0, 1) := by decide +kernel
theorem dX12_reads_14 : decode cX12_reads 14 = .ok (.aload_n 0, 1) := by decide +kernel
theorem dX12_reads_15 : decode cX12_reads 15 = .ok (.getfield 188, 3) := by decide +kernel
theorem dX12_reads_18 : decode cX12_reads 18 = .ok (.invokevirtual 191, 3) := by decide +kernel
theorem dX12_reads_21 : decode cX12_reads 21 = .ok (.bipush 10, 2) := by decide +kernel
theorem dX12_reads_23 : decode cX12_reads 23 = .ok (.if_icmp .ne 16, 3) := by decide +kernel
theorem dX12_reads_26 : decode cX12_reads 26 = .ok (.aload_n 0, 1) := by decide +kernel
theorem dX12_reads_27 : decode cX12_reads 27 = .ok (.aload_n 0, 1) := by decide +kernel
theorem dX12_reads_28 : decode cX12_reads 28 = .ok (.getfield 188, 3) := by decide +kernel
theorem dX12_reads_31 : decode cX12_reads 31 = .ok (.iconst 1, 1) := by decide +kernel
theorem dX12_reads_32 : decode cX12_reads 32 = .ok (.iadd, 1) := by decide +kernel
theorem dX12_reads_33 : decode cX12_reads 33 = .ok (.putfield 188, 3) := by decide +kernel
theorem dX12_reads_36 : decode cX12_reads 36 = .ok (.goto (-36), 3) := by decide +kernel
theorem dX12_reads_39 : decode cX12_reads 39 = .ok (.aload_n 0, 1) := by decide +kernel
theorem dX12_reads_40 : decode cX12_reads 40 = .ok (.aload_n 0, 1) := by decide +kernel
theorem dX12_reads_41 : decode cX12_reads 41 = .ok (.getfield 188, 3) := by decide +kernel
theorem dX12_reads_44 : decode cX12_reads 44 = .ok (.putfield 195, 3) := by decide +kernel
theorem dX12_reads_47 : decode cX12_reads 47 = .ok (.aload_n 0, 1) := by decide +kernel
theorem dX12_reads_48 : decode cX12_reads 48 = .ok (.iconst 1, 1) := by decide +kernel
theorem dX12_reads_49 : decode cX12_reads 49 = .ok (.putfield 198, 3) := by decide +kernel
theorem dX12_reads_52 : decode cX12_reads 52 = .ok (.aload_n 0, 1) := by decide +kernel
theorem dX12_reads_53 : decode cX12_reads 53 = .ok (.aload_n 0, 1) := by decide +kernel
theorem dX12_reads_54 : decode cX12_reads 54 = .ok (.getfield 188, 3) := by decide +kernel
theorem dX12_reads_57 : decode cX12_reads 57 = .ok (.invokevirtual 191, 3) := by decide +kernel
theorem dX12_reads_60 : decode cX12_reads 60 = .ok (.istore_n 1, 1) := by decide +kernel
theorem dX12_reads_61 : decode cX12_reads 61 = .ok (.iload_n 1, 1) := by decide +kernel
theorem dX12_reads_62 : decode cX12_reads 62 = .ok (.iconst (-1), 1) := by decide +kernel
theorem dX12_reads_63 : decode cX12_reads 63 = .ok (.if_icmp .ne 9, 3) := by decide +kernel
theorem dX12_reads_66 : decode cX12_reads 66 = .ok (.aload_n 0, 1) := by decide +kernel
theorem dX12_reads_67 : decode cX12_reads 67 = .ok (.iconst 0, 1) := by decide +kernel
theorem dX12_reads_68 : decode cX12_reads 68 = .ok (.putfield 198, 3) := by decide +kernel
theorem dX12_reads_71 : decode cX12_reads 71 = .ok (.return_, 1) := by decide +kernel
theorem dX12_reads_72 : decode cX12_reads 72 = .ok (.aload_n 0, 1) := by decide +kernel
theorem dX12_reads_73 : decode cX12_reads 73 = .ok (.aload_n 0, 1) := by decide +kernel
theorem dX12_reads_74 : decode cX12_reads 74 = .ok (.getfield 188, 3) := by decide +kernel
theorem dX12_reads_77 : decode cX12_reads 77 = .ok (.iconst 1, 1) := by decide +kernel
theorem dX12_reads_78 : decode cX12_reads 78 = .ok (.iadd, 1) := by decide +kernel
theorem dX12_reads_79 : decode cX12_reads 79 = .ok (.putfield 188, 3) := by decide +kernel
theorem dX12_reads_82 : decode cX12_reads 82 = .ok (.aload_n 0, 1) := by decide +kernel
theorem dX12_reads_83 : decode cX12_reads 83 = .ok (.iload_n 1, 1) := by decide +kernel
theorem dX12_reads_84 : decode cX12_reads 84 = .ok (.putfield 201, 3) := by decide +kernel
theorem dX12_reads_87 : decode cX12_reads 87 = .ok (.aload_n 0, 1) := by decide +kernel
theorem dX12_reads_88 : decode cX12_reads 88 = .ok (.iload_n 1, 1) := by decide +kernel
theorem dX12_reads_89 : decode cX12_reads 89 = .ok (.invokevirtual 204, 3) := by decide +kernel
theorem dX12_reads_92 : decode cX12_reads 92 = .ok (.ifCond .eq 63, 3) := by decide +kernel
theorem dX12_reads_95 : decode cX12_reads 95 = .ok (.aload_n 0, 1) := by decide +kernel
theorem dX12_reads_96 : decode cX12_reads 96 = .ok (.aload_n 0, 1) := by decide +kernel
theorem dX12_reads_97 : decode cX12_reads 97 = .ok (.aload_n 0, 1) := by decide +kernel
theorem dX12_reads_98 : decode cX12_reads 98 = .ok (.getfield 188, 3) := by decide +kernel
theorem dX12_reads_101 : decode cX12_reads 101 = .ok (.invokevirtual 191, 3) := by decide +kernel
theorem dX12_reads_104 : decode cX12_reads 104 = .ok (.invokevirtual 204, 3) := by decide +kernel
theorem dX12_reads_107 : decode cX12_reads 107 = .ok (.ifCond .eq 16, 3) := by decide +kernel
theorem dX12_reads_110 : decode cX12_reads 110 = .ok (.aload_n 0, 1) := by decide +kernel
theorem dX12_reads_111 : decode cX12_reads 111 = .ok (.aload_n 0, 1) := by decide +kernel
theorem dX12_reads_112 : decode cX12_reads 112 = .ok (.getfield 188, 3) := by decide +kernel
theorem dX12_reads_115 : decode cX12_reads 115 = .ok (.iconst 1, 1) := by decide +kernel
theorem dX12_reads_116 : decode cX12_reads 116 = .ok (.iadd, 1) := by decide +kernel
theorem dX12_reads_117 : decode cX12_reads 117 = .ok (.putfield 188, 3) := by decide +kernel
theorem dX12_reads_120 : decode cX12_reads 120 = .ok (.goto (-25), 3) := by decide +kernel
theorem dX12_reads_123 : decode cX12_reads 123 = .ok (.aload_n 0, 1) := by decide +kernel
theorem dX12_reads_124 : decode cX12_reads 124 = .ok (.aload_n 0, 1) := by decide +kernel
theorem dX12_reads_125 : decode cX12_reads 125 = .ok (.aload_n 0, 1) := by decide +kernel
theorem dX12_reads_126 : decode cX12_reads 126 = .ok (.getfield 195, 3) := by decide +kernel
theorem dX12_reads_129 : decode cX12_reads 129 = .ok (.aload_n 0, 1) := by decide +kernel
theorem dX12_reads_130 : decode cX12_reads 130 = .ok (.getfield 188, 3) := by decide +kernel
theorem dX12_reads_133 : decode cX12_reads 133 = .ok (.invokevirtual 207, 3) := by decide +kernel
theorem dX12_reads_136 : decode cX12_reads 136 = .ok (.putfield 201, 3) := by decide +kernel
theorem dX12_reads_139 : decode cX12_reads 139 = .ok (.aload_n 0, 1) := by decide +kernel
theorem dX12_reads_140 : decode cX12_reads 140 = .ok (.getfield 201, 3) := by decide +kernel
theorem dX12_reads_143 : decode cX12_reads 143 = .ok (.iconst (-1), 1) := by decide +kernel
theorem dX12_reads_144 : decode cX12_reads 144 = .ok (.if_icmp .eq 129, 3) := by decide +kernel
theorem dX12_reads_147 : decode cX12_reads 147 = .ok (.aload_n 0, 1) := by decide +kernel
theorem dX12_reads_148 : decode cX12_reads 148 = .ok (.iconst 2, 1) := by decide +kernel
theorem dX12_reads_149 : decode cX12_reads 149 = .ok (.putfield 198, 3) := by decide +kernel
theorem dX12_reads_152 : decode cX12_reads 152 = .ok (.goto 121, 3) := by decide +kernel
theorem dX12_reads_155 : decode cX12_reads 155 = .ok (.aload_n 0, 1) := by decide +kernel
theorem dX12_reads_156 : decode cX12_reads 156 = .ok (.iload_n 1, 1) := by decide +kernel
theorem dX12_reads_157 : decode cX12_reads 157 = .ok (.invokevirtual 211, 3) := by decide +kernel
theorem dX12_reads_160 : decode cX12_reads 160 = .ok (.ifCond .eq 100, 3) := by decide +kernel
theorem dX12_reads_163 : decode cX12_reads 163 = .ok (.aload_n 0, 1) := by decide +kernel
theorem dX12_reads_164 : decode cX12_reads 164 = .ok (.iload_n 1, 1) := by decide +kernel
theorem dX12_reads_165 : decode cX12_reads 165 = .ok (.bipush 48, 2) := by decide +kernel
theorem dX12_reads_167 : decode cX12_reads 167 = .ok (.isub, 1) := by decide +kernel
theorem dX12_reads_168 : decode cX12_reads 168 = .ok (.putfield 201, 3) := by decide +kernel
theorem dX12_reads_171 : decode cX12_reads 171 = .ok (.aload_n 0, 1) := by decide +kernel
theorem dX12_reads_172 : decode cX12_reads 172 = .ok (.aload_n 0, 1) := by decide +kernel
theorem dX12_reads_173 : decode cX12_reads 173 = .ok (.aload_n 0, 1) := by decide +kernel
theorem dX12_reads_174 : decode cX12_reads 174 = .ok (.getfield 188, 3) := by decide +kernel
theorem dX12_reads_177 : decode cX12_reads 177 = .ok (.invokevirtual 191, 3) := by decide +kernel
theorem dX12_reads_180 : decode cX12_reads 180 = .ok (.invokevirtual 211, 3) := by decide +kernel
theorem dX12_reads_183 : decode cX12_reads 183 = .ok (.ifCond .eq 56, 3) := by decide +kernel
theorem dX12_reads_186 : decode cX12_reads 186 = .ok (.aload_n 0, 1) := by decide +kernel
theorem dX12_reads_187 : decode cX12_reads 187 = .ok (.aload_n 0, 1) := by decide +kernel
theorem dX12_reads_188 : decode cX12_reads 188 = .ok (.getfield 201, 3) := by decide +kernel
theorem dX12_reads_191 : decode cX12_reads 191 = .ok (.sipush 10000, 3) := by decide +kernel
theorem dX12_reads_194 : decode cX12_reads 194 = .ok (.if_icmp .ge 25, 3) := by decide +kernel
theorem dX12_reads_197 : decode cX12_reads 197 = .ok (.bipush 10, 2) := by decide +kernel
theorem dX12_reads_199 : decode cX12_reads 199 = .ok (.aload_n 0, 1) := by decide +kernel
theorem dX12_reads_200 : decode cX12_reads 200 = .ok (.getfield 201, 3) := by decide +kernel
theorem dX12_reads_203 : decode cX12_reads 203 = .ok (.imul, 1) := by decide +kernel
theorem dX12_reads_204 : decode cX12_reads 204 = .ok (.aload_n 0, 1) := by decide +kernel
theorem dX12_reads_205 : decode cX12_reads 205 = .ok (.aload_n 0, 1) := by decide +kernel
theorem dX12_reads_206 : decode cX12_reads 206 = .ok (.getfield 188, 3) := by decide +kernel
theorem dX12_reads_209 : decode cX12_reads 209 = .ok (.invokevirtual 191, 3) := by decide +kernel
theorem dX12_reads_212 : decode cX12_reads 212 = .ok (.iadd, 1) := by decide +kernel
theorem dX12_reads_213 : decode cX12_reads 213 = .ok (.bipush 48, 2) := by decide +kernel
theorem dX12_reads_215 : decode cX12_reads 215 = .ok (.isub, 1) := by decide +kernel
theorem dX12_reads_216 : decode cX12_reads 216 = .ok (.goto 7, 3) := by decide +kernel
theorem dX12_reads_219 : decode cX12_reads 219 = .ok (.aload_n 0, 1) := by decide +kernel
theorem dX12_reads_220 : decode cX12_reads 220 = .ok (.getfield 201, 3) := by decide +kernel
theorem dX12_reads_223 : decode cX12_reads 223 = .ok (.putfield 201, 3) := by decide +kernel
theorem dX12_reads_226 : decode cX12_reads 226 = .ok (.aload_n 0, 1) := by decide +kernel
theorem dX12_reads_227 : decode cX12_reads 227 = .ok (.aload_n 0, 1) := by decide +kernel
theorem dX12_reads_228 : decode cX12_reads 228 = .ok (.getfield 188, 3) := by decide +kernel
theorem dX12_reads_231 : decode cX12_reads 231 = .ok (.iconst 1, 1) := by decide +kernel
theorem dX12_reads_232 : decode cX12_reads 232 = .ok (.iadd, 1) := by decide +kernel
theorem dX12_reads_233 : decode cX12_reads 233 = .ok (.putfield 188, 3) := by decide +kernel
theorem dX12_reads_236 : decode cX12_reads 236 = .ok (.goto (-65), 3) := by decide +kernel
theorem dX12_reads_239 : decode cX12_reads 239 = .ok (.aload_n 0, 1) := by decide +kernel
theorem dX12_reads_240 : decode cX12_reads 240 = .ok (.getfield 188, 3) := by decide +kernel
theorem dX12_reads_243 : decode cX12_reads 243 = .ok (.aload_n 0, 1) := by decide +kernel
theorem dX12_reads_244 : decode cX12_reads 244 = .ok (.getfield 195, 3) := by decide +kernel
theorem dX12_reads_247 : decode cX12_reads 247 = .ok (.isub, 1) := by decide +kernel
theorem dX12_reads_248 : decode cX12_reads 248 = .ok (.iconst 5, 1) := by decide +kernel
theorem dX12_reads_249 : decode cX12_reads 249 = .ok (.if_icmp .ge 24, 3) := by decide +kernel
theorem dX12_reads_252 : decode cX12_reads 252 = .ok (.aload_n 0, 1) := by decide +kernel
theorem dX12_reads_253 : decode cX12_reads 253 = .ok (.iconst 3, 1) := by decide +kernel
theorem dX12_reads_254 : decode cX12_reads 254 = .ok (.putfield 198, 3) := by decide +kernel
theorem dX12_reads_257 : decode cX12_reads 257 = .ok (.goto 16, 3) := by decide +kernel
theorem dX12_reads_260 : decode cX12_reads 260 = .ok (.aload_n 0, 1) := by decide +kernel
theorem dX12_reads_261 : decode cX12_reads 261 = .ok (.iload_n 1, 1) := by decide +kernel
theorem dX12_reads_262 : decode cX12_reads 262 = .ok (.invokevirtual 214, 3) := by decide +kernel
theorem dX12_reads_265 : decode cX12_reads 265 = .ok (.ifCond .eq 8, 3) := by decide +kernel
theorem dX12_reads_268 : decode cX12_reads 268 = .ok (.aload_n 0, 1) := by decide +kernel
theorem dX12_reads_269 : decode cX12_reads 269 = .ok (.iconst 4, 1) := by decide +kernel
theorem dX12_reads_270 : decode cX12_reads 270 = .ok (.putfield 198, 3) := by decide +kernel
theorem dX12_reads_273 : decode cX12_reads 273 = .ok (.return_, 1) := by decide +kernel
theorem dX12_errs_0 : decode cX12_errs 0 = .ok (.aload_n 0, 1) := by decide +kernel
theorem dX12_errs_1 : decode cX12_errs 1 = .ok (.iload_n 1, 1) := by decide +kernel
theorem dX12_errs_2 : decode cX12_errs 2 = .ok (.putfield 217, 3) := by decide +kernel
theorem dX12_errs_5 : decode cX12_errs 5 = .ok (.aload_n 0, 1) := by decide +kernel
theorem dX12_errs_6 : decode cX12_errs 6 = .ok (.aload_n 0, 1) := by decide +kernel
theorem dX12_errs_7 : decode cX12_errs 7 = .ok (.getfield 195, 3) := by decide +kernel
theorem dX12_errs_10 : decode cX12_errs 10 = .ok (.putfield 220, 3) := by decide +kernel
theorem dX12_errs_13 : decode cX12_errs 13 = .ok (.iconst (-1), 1) := by decide +kernel
theorem dX12_errs_14 : decode cX12_errs 14 = .ok (.ireturn, 1) := by decide +kernel
theorem dX12_isWord_0 : decode cX12_isWord 0 = .ok (.aload_n 0, 1) := by decide +kernel
theorem dX12_isWord_1 : decode cX12_isWord 1 = .ok (.getfield 198, 3) := by decide +kernel
theorem dX12_isWord_4 : decode cX12_isWord 4 = .ok (.iconst 2, 1) := by decide +kernel
theorem dX12_isWord_5 : decode cX12_isWord 5 = .ok (.if_icmp .ne 15, 3) := by decide +kernel
theorem dX12_isWord_8 : decode cX12_isWord 8 = .ok (.aload_n 0, 1) := by decide +kernel
theorem dX12_isWord_9 : decode cX12_isWord 9 = .ok (.getfield 201, 3) := by decide +kernel
theorem dX12_isWord_12 : decode cX12_isWord 12 = .ok (.iload_n 1, 1) := by decide +kernel
theorem dX12_isWord_13 : decode cX12_isWord 13 = .ok (.if_icmp .ne 7, 3) := by decide +kernel
theorem dX12_isWord_16 : decode cX12_isWord 16 = .ok (.iconst 1, 1) := by decide +kernel
theorem dX12_isWord_17 : decode cX12_isWord 17 = .ok (.goto 4, 3) := by decide +kernel
theorem dX12_isWord_20 : decode cX12_isWord 20 = .ok (.iconst 0, 1) := by decide +kernel
theorem dX12_isWord_21 : decode cX12_isWord 21 = .ok (.ireturn, 1) := by decide +kernel
theorem dX12_isSign_0 : decode cX12_isSign 0 = .ok (.aload_n 0, 1) := by decide +kernel
theorem dX12_isSign_1 : decode cX12_isSign 1 = .ok (.getfield 198, 3) := by decide +kernel
theorem dX12_isSign_4 : decode cX12_isSign 4 = .ok (.iconst 4, 1) := by decide +kernel
theorem dX12_isSign_5 : decode cX12_isSign 5 = .ok (.if_icmp .ne 15, 3) := by decide +kernel
theorem dX12_isSign_8 : decode cX12_isSign 8 = .ok (.aload_n 0, 1) := by decide +kernel
theorem dX12_isSign_9 : decode cX12_isSign 9 = .ok (.getfield 201, 3) := by decide +kernel
theorem dX12_isSign_12 : decode cX12_isSign 12 = .ok (.iload_n 1, 1) := by decide +kernel
theorem dX12_isSign_13 : decode cX12_isSign 13 = .ok (.if_icmp .ne 7, 3) := by decide +kernel
theorem dX12_isSign_16 : decode cX12_isSign 16 = .ok (.iconst 1, 1) := by decide +kernel
theorem dX12_isSign_17 : decode cX12_isSign 17 = .ok (.goto 4, 3) := by decide +kernel
theorem dX12_isSign_20 : decode cX12_isSign 20 = .ok (.iconst 0, 1) := by decide +kernel
theorem dX12_isSign_21 : decode cX12_isSign 21 = .ok (.ireturn, 1) := by decide +kernel
theorem dX12_emits_0 : decode cX12_emits 0 = .ok (.aload_n 0, 1) := by decide +kernel
theorem dX12_emits_1 : decode cX12_emits 1 = .ok (.getfield 58, 3) := by decide +kernel
theorem dX12_emits_4 : decode cX12_emits 4 = .ok (.sipush 800, 3) := by decide +kernel
theorem dX12_emits_7 : decode cX12_emits 7 = .ok (.aload_n 0, 1) := by decide +kernel
theorem dX12_emits_8 : decode cX12_emits 8 = .ok (.getfield 223, 3) := by decide +kernel
theorem dX12_emits_11 : decode cX12_emits 11 = .ok (.iadd, 1) := by decide +kernel
theorem dX12_emits_12 : decode cX12_emits 12 = .ok (.iload_n 1, 1) := by decide +kernel
theorem dX12_emits_13 : decode cX12_emits 13 = .ok (.iastore, 1) := by decide +kernel
theorem dX12_emits_14 : decode cX12_emits 14 = .ok (.aload_n 0, 1) := by decide +kernel
theorem dX12_emits_15 : decode cX12_emits 15 = .ok (.getfield 61, 3) := by decide +kernel
theorem dX12_emits_18 : decode cX12_emits 18 = .ok (.sipush 800, 3) := by decide +kernel
theorem dX12_emits_21 : decode cX12_emits 21 = .ok (.aload_n 0, 1) := by decide +kernel
theorem dX12_emits_22 : decode cX12_emits 22 = .ok (.getfield 223, 3) := by decide +kernel
theorem dX12_emits_25 : decode cX12_emits 25 = .ok (.iadd, 1) := by decide +kernel
theorem dX12_emits_26 : decode cX12_emits 26 = .ok (.iload_n 2, 1) := by decide +kernel
theorem dX12_emits_27 : decode cX12_emits 27 = .ok (.iastore, 1) := by decide +kernel
theorem dX12_emits_28 : decode cX12_emits 28 = .ok (.aload_n 0, 1) := by decide +kernel
theorem dX12_emits_29 : decode cX12_emits 29 = .ok (.aload_n 0, 1) := by decide +kernel
theorem dX12_emits_30 : decode cX12_emits 30 = .ok (.getfield 223, 3) := by decide +kernel
theorem dX12_emits_33 : decode cX12_emits 33 = .ok (.iconst 1, 1) := by decide +kernel
theorem dX12_emits_34 : decode cX12_emits 34 = .ok (.iadd, 1) := by decide +kernel
theorem dX12_emits_35 : decode cX12_emits 35 = .ok (.putfield 223, 3) := by decide +kernel
theorem dX12_emits_38 : decode cX12_emits 38 = .ok (.return_, 1) := by decide +kernel
theorem dX12_canAsk_0 : decode cX12_canAsk 0 = .ok (.aload_n 0, 1) := by decide +kernel
theorem dX12_canAsk_1 : decode cX12_canAsk 1 = .ok (.iload_n 1, 1) := by decide +kernel
theorem dX12_canAsk_2 : decode cX12_canAsk 2 = .ok (.bipush 7, 2) := by decide +kernel
theorem dX12_canAsk_4 : decode cX12_canAsk 4 = .ok (.bipush 17, 2) := by decide +kernel
theorem dX12_canAsk_6 : decode cX12_canAsk 6 = .ok (.invokevirtual 167, 3) := by decide +kernel
theorem dX12_canAsk_9 : decode cX12_canAsk 9 = .ok (.ireturn, 1) := by decide +kernel
theorem dX12_readUnit_0 : decode cX12_readUnit 0 = .ok (.aload_n 0, 1) := by decide +kernel
theorem dX12_readUnit_1 : decode cX12_readUnit 1 = .ok (.getfield 198, 3) := by decide +kernel
theorem dX12_readUnit_4 : decode cX12_readUnit 4 = .ok (.iconst 2, 1) := by decide +kernel
theorem dX12_readUnit_5 : decode cX12_readUnit 5 = .ok (.if_icmp .ne 18, 3) := by decide +kernel
theorem dX12_readUnit_8 : decode cX12_readUnit 8 = .ok (.aload_n 0, 1) := by decide +kernel
theorem dX12_readUnit_9 : decode cX12_readUnit 9 = .ok (.aload_n 0, 1) := by decide +kernel
theorem dX12_readUnit_10 : decode cX12_readUnit 10 = .ok (.getfield 201, 3) := by decide +kernel
theorem dX12_readUnit_13 : decode cX12_readUnit 13 = .ok (.invokevirtual 226, 3) := by decide +kernel
theorem dX12_readUnit_16 : decode cX12_readUnit 16 = .ok (.ifCond .eq 7, 3) := by decide +kernel
theorem dX12_readUnit_19 : decode cX12_readUnit 19 = .ok (.iconst 1, 1) := by decide +kernel
theorem dX12_readUnit_20 : decode cX12_readUnit 20 = .ok (.goto 4, 3) := by decide +kernel
theorem dX12_readUnit_23 : decode cX12_readUnit 23 = .ok (.iconst 0, 1) := by decide +kernel
theorem dX12_readUnit_24 : decode cX12_readUnit 24 = .ok (.istore_n 1, 1) := by decide +kernel
theorem dX12_readUnit_25 : decode cX12_readUnit 25 = .ok (.iload_n 1, 1) := by decide +kernel
theorem dX12_readUnit_26 : decode cX12_readUnit 26 = .ok (.ifCond .ne 17, 3) := by decide +kernel
theorem dX12_readUnit_29 : decode cX12_readUnit 29 = .ok (.aload_n 0, 1) := by decide +kernel
theorem dX12_readUnit_30 : decode cX12_readUnit 30 = .ok (.getfield 198, 3) := by decide +kernel
theorem dX12_readUnit_33 : decode cX12_readUnit 33 = .ok (.iconst 3, 1) := by decide +kernel
theorem dX12_readUnit_34 : decode cX12_readUnit 34 = .ok (.if_icmp .eq 9, 3) := by decide +kernel
theorem dX12_readUnit_37 : decode cX12_readUnit 37 = .ok (.aload_n 0, 1) := by decide +kernel
theorem dX12_readUnit_38 : decode cX12_readUnit 38 = .ok (.iconst 1, 1) := by decide +kernel
theorem dX12_readUnit_39 : decode cX12_readUnit 39 = .ok (.invokevirtual 229, 3) := by decide +kernel
theorem dX12_readUnit_42 : decode cX12_readUnit 42 = .ok (.ireturn, 1) := by decide +kernel
theorem dX12_readUnit_43 : decode cX12_readUnit 43 = .ok (.aload_n 0, 1) := by decide +kernel
theorem dX12_readUnit_44 : decode cX12_readUnit 44 = .ok (.iload_n 1, 1) := by decide +kernel
theorem dX12_readUnit_45 : decode cX12_readUnit 45 = .ok (.ifCond .eq 7, 3) := by decide +kernel
theorem dX12_readUnit_48 : decode cX12_readUnit 48 = .ok (.iconst 1, 1) := by decide +kernel
theorem dX12_readUnit_49 : decode cX12_readUnit 49 = .ok (.goto 4, 3) := by decide +kernel
theorem dX12_readUnit_52 : decode cX12_readUnit 52 = .ok (.iconst 0, 1) := by decide +kernel
theorem dX12_readUnit_53 : decode cX12_readUnit 53 = .ok (.iload_n 1, 1) := by decide +kernel
theorem dX12_readUnit_54 : decode cX12_readUnit 54 = .ok (.ifCond .eq 13, 3) := by decide +kernel
theorem dX12_readUnit_57 : decode cX12_readUnit 57 = .ok (.aload_n 0, 1) := by decide +kernel
theorem dX12_readUnit_58 : decode cX12_readUnit 58 = .ok (.getfield 201, 3) := by decide +kernel
theorem dX12_readUnit_61 : decode cX12_readUnit 61 = .ok (.bipush 7, 2) := by decide +kernel
theorem dX12_readUnit_63 : decode cX12_readUnit 63 = .ok (.isub, 1) := by decide +kernel
theorem dX12_readUnit_64 : decode cX12_readUnit 64 = .ok (.goto 7, 3) := by decide +kernel
theorem dX12_readUnit_67 : decode cX12_readUnit 67 = .ok (.aload_n 0, 1) := by decide +kernel
theorem dX12_readUnit_68 : decode cX12_readUnit 68 = .ok (.getfield 201, 3) := by decide +kernel
theorem dX12_readUnit_71 : decode cX12_readUnit 71 = .ok (.invokevirtual 232, 3) := by decide +kernel
theorem dX12_readUnit_74 : decode cX12_readUnit 74 = .ok (.aload_n 0, 1) := by decide +kernel
theorem dX12_readUnit_75 : decode cX12_readUnit 75 = .ok (.invokevirtual 236, 3) := by decide +kernel
theorem dX12_readUnit_78 : decode cX12_readUnit 78 = .ok (.iconst 0, 1) := by decide +kernel
theorem dX12_readUnit_79 : decode cX12_readUnit 79 = .ok (.ireturn, 1) := by decide +kernel
theorem dX12_readProduct_0 : decode cX12_readProduct 0 = .ok (.aload_n 0, 1) := by decide +kernel
theorem dX12_readProduct_1 : decode cX12_readProduct 1 = .ok (.invokevirtual 239, 3) := by decide +kernel
theorem dX12_readProduct_4 : decode cX12_readProduct 4 = .ok (.iconst (-1), 1) := by decide +kernel
theorem dX12_readProduct_5 : decode cX12_readProduct 5 = .ok (.if_icmp .ne 5, 3) := by decide +kernel
theorem dX12_readProduct_8 : decode cX12_readProduct 8 = .ok (.iconst (-1), 1) := by decide +kernel
theorem dX12_readProduct_9 : decode cX12_readProduct 9 = .ok (.ireturn, 1) := by decide +kernel
theorem dX12_readProduct_10 : decode cX12_readProduct 10 = .ok (.aload_n 0, 1) := by decide +kernel
theorem dX12_readProduct_11 : decode cX12_readProduct 11 = .ok (.bipush 42, 2) := by decide +kernel
theorem dX12_readProduct_13 : decode cX12_readProduct 13 = .ok (.invokevirtual 243, 3) := by decide +kernel
theorem dX12_readProduct_16 : decode cX12_readProduct 16 = .ok (.ifCond .ne 12, 3) := by decide +kernel
theorem dX12_readProduct_19 : decode cX12_readProduct 19 = .ok (.aload_n 0, 1) := by decide +kernel
theorem dX12_readProduct_20 : decode cX12_readProduct 20 = .ok (.bipush 47, 2) := by decide +kernel
theorem dX12_readProduct_22 : decode cX12_readProduct 22 = .ok (.invokevirtual 243, 3) := by decide +kernel
theorem dX12_readProduct_25 : decode cX12_readProduct 25 = .ok (.ifCond .eq 76, 3) := by decide +kernel
theorem dX12_readProduct_28 : decode cX12_readProduct 28 = .ok (.aload_n 0, 1) := by decide +kernel
theorem dX12_readProduct_29 : decode cX12_readProduct 29 = .ok (.bipush 42, 2) := by decide +kernel
theorem dX12_readProduct_31 : decode cX12_readProduct 31 = .ok (.invokevirtual 243, 3) := by decide +kernel
theorem dX12_readProduct_34 : decode cX12_readProduct 34 = .ok (.istore_n 1, 1) := by decide +kernel
theorem dX12_readProduct_35 : decode cX12_readProduct 35 = .ok (.aload_n 0, 1) := by decide +kernel
theorem dX12_readProduct_36 : decode cX12_readProduct 36 = .ok (.invokevirtual 236, 3) := by decide +kernel
theorem dX12_readProduct_39 : decode cX12_readProduct 39 = .ok (.iload_n 1, 1) := by decide +kernel
theorem dX12_readProduct_40 : decode cX12_readProduct 40 = .ok (.ifCond .ne 17, 3) := by decide +kernel
theorem dX12_readProduct_43 : decode cX12_readProduct 43 = .ok (.aload_n 0, 1) := by decide +kernel
theorem dX12_readProduct_44 : decode cX12_readProduct 44 = .ok (.getfield 198, 3) := by decide +kernel
theorem dX12_readProduct_47 : decode cX12_readProduct 47 = .ok (.iconst 3, 1) := by decide +kernel
theorem dX12_readProduct_48 : decode cX12_readProduct 48 = .ok (.if_icmp .eq 9, 3) := by decide +kernel
theorem dX12_readProduct_51 : decode cX12_readProduct 51 = .ok (.aload_n 0, 1) := by decide +kernel
theorem dX12_readProduct_52 : decode cX12_readProduct 52 = .ok (.iconst 1, 1) := by decide +kernel
theorem dX12_readProduct_53 : decode cX12_readProduct 53 = .ok (.invokevirtual 229, 3) := by decide +kernel
theorem dX12_readProduct_56 : decode cX12_readProduct 56 = .ok (.ireturn, 1) := by decide +kernel
theorem dX12_readProduct_57 : decode cX12_readProduct 57 = .ok (.iload_n 1, 1) := by decide +kernel
theorem dX12_readProduct_58 : decode cX12_readProduct 58 = .ok (.ifCond .ne 16, 3) := by decide +kernel
theorem dX12_readProduct_61 : decode cX12_readProduct 61 = .ok (.aload_n 0, 1) := by decide +kernel
theorem dX12_readProduct_62 : decode cX12_readProduct 62 = .ok (.getfield 201, 3) := by decide +kernel
theorem dX12_readProduct_65 : decode cX12_readProduct 65 = .ok (.ifCond .ne 9, 3) := by decide +kernel
theorem dX12_readProduct_68 : decode cX12_readProduct 68 = .ok (.aload_n 0, 1) := by decide +kernel
theorem dX12_readProduct_69 : decode cX12_readProduct 69 = .ok (.iconst 2, 1) := by decide +kernel
theorem dX12_readProduct_70 : decode cX12_readProduct 70 = .ok (.invokevirtual 229, 3) := by decide +kernel
theorem dX12_readProduct_73 : decode cX12_readProduct 73 = .ok (.ireturn, 1) := by decide +kernel
theorem dX12_readProduct_74 : decode cX12_readProduct 74 = .ok (.aload_n 0, 1) := by decide +kernel
theorem dX12_readProduct_75 : decode cX12_readProduct 75 = .ok (.invokevirtual 239, 3) := by decide +kernel
theorem dX12_readProduct_78 : decode cX12_readProduct 78 = .ok (.iconst (-1), 1) := by decide +kernel
theorem dX12_readProduct_79 : decode cX12_readProduct 79 = .ok (.if_icmp .ne 5, 3) := by decide +kernel
theorem dX12_readProduct_82 : decode cX12_readProduct 82 = .ok (.iconst (-1), 1) := by decide +kernel
theorem dX12_readProduct_83 : decode cX12_readProduct 83 = .ok (.ireturn, 1) := by decide +kernel
theorem dX12_readProduct_84 : decode cX12_readProduct 84 = .ok (.aload_n 0, 1) := by decide +kernel
theorem dX12_readProduct_85 : decode cX12_readProduct 85 = .ok (.iload_n 1, 1) := by decide +kernel
theorem dX12_readProduct_86 : decode cX12_readProduct 86 = .ok (.ifCond .eq 7, 3) := by decide +kernel
theorem dX12_readProduct_89 : decode cX12_readProduct 89 = .ok (.iconst 4, 1) := by decide +kernel
theorem dX12_readProduct_90 : decode cX12_readProduct 90 = .ok (.goto 4, 3) := by decide +kernel
theorem dX12_readProduct_93 : decode cX12_readProduct 93 = .ok (.iconst 5, 1) := by decide +kernel
theorem dX12_readProduct_94 : decode cX12_readProduct 94 = .ok (.iconst 0, 1) := by decide +kernel
theorem dX12_readProduct_95 : decode cX12_readProduct 95 = .ok (.invokevirtual 232, 3) := by decide +kernel
theorem dX12_readProduct_98 : decode cX12_readProduct 98 = .ok (.goto (-88), 3) := by decide +kernel
theorem dX12_readProduct_101 : decode cX12_readProduct 101 = .ok (.iconst 0, 1) := by decide +kernel
theorem dX12_readProduct_102 : decode cX12_readProduct 102 = .ok (.ireturn, 1) := by decide +kernel
theorem dX12_readSum_0 : decode cX12_readSum 0 = .ok (.aload_n 0, 1) := by decide +kernel
theorem dX12_readSum_1 : decode cX12_readSum 1 = .ok (.invokevirtual 246, 3) := by decide +kernel
theorem dX12_readSum_4 : decode cX12_readSum 4 = .ok (.iconst (-1), 1) := by decide +kernel
theorem dX12_readSum_5 : decode cX12_readSum 5 = .ok (.if_icmp .ne 5, 3) := by decide +kernel
theorem dX12_readSum_8 : decode cX12_readSum 8 = .ok (.iconst (-1), 1) := by decide +kernel
theorem dX12_readSum_9 : decode cX12_readSum 9 = .ok (.ireturn, 1) := by decide +kernel
theorem dX12_readSum_10 : decode cX12_readSum 10 = .ok (.aload_n 0, 1) := by decide +kernel
theorem dX12_readSum_11 : decode cX12_readSum 11 = .ok (.bipush 43, 2) := by decide +kernel
theorem dX12_readSum_13 : decode cX12_readSum 13 = .ok (.invokevirtual 243, 3) := by decide +kernel
theorem dX12_readSum_16 : decode cX12_readSum 16 = .ok (.ifCond .ne 12, 3) := by decide +kernel
theorem dX12_readSum_19 : decode cX12_readSum 19 = .ok (.aload_n 0, 1) := by decide +kernel
theorem dX12_readSum_20 : decode cX12_readSum 20 = .ok (.bipush 45, 2) := by decide +kernel
theorem dX12_readSum_22 : decode cX12_readSum 22 = .ok (.invokevirtual 243, 3) := by decide +kernel
theorem dX12_readSum_25 : decode cX12_readSum 25 = .ok (.ifCond .eq 41, 3) := by decide +kernel
theorem dX12_readSum_28 : decode cX12_readSum 28 = .ok (.aload_n 0, 1) := by decide +kernel
theorem dX12_readSum_29 : decode cX12_readSum 29 = .ok (.getfield 201, 3) := by decide +kernel
theorem dX12_readSum_32 : decode cX12_readSum 32 = .ok (.bipush 43, 2) := by decide +kernel
theorem dX12_readSum_34 : decode cX12_readSum 34 = .ok (.if_icmp .ne 7, 3) := by decide +kernel
theorem dX12_readSum_37 : decode cX12_readSum 37 = .ok (.iconst 2, 1) := by decide +kernel
theorem dX12_readSum_38 : decode cX12_readSum 38 = .ok (.goto 4, 3) := by decide +kernel
theorem dX12_readSum_41 : decode cX12_readSum 41 = .ok (.iconst 3, 1) := by decide +kernel
theorem dX12_readSum_42 : decode cX12_readSum 42 = .ok (.istore_n 1, 1) := by decide +kernel
theorem dX12_readSum_43 : decode cX12_readSum 43 = .ok (.aload_n 0, 1) := by decide +kernel
theorem dX12_readSum_44 : decode cX12_readSum 44 = .ok (.invokevirtual 236, 3) := by decide +kernel
theorem dX12_readSum_47 : decode cX12_readSum 47 = .ok (.aload_n 0, 1) := by decide +kernel
theorem dX12_readSum_48 : decode cX12_readSum 48 = .ok (.invokevirtual 246, 3) := by decide +kernel
theorem dX12_readSum_51 : decode cX12_readSum 51 = .ok (.iconst (-1), 1) := by decide +kernel
theorem dX12_readSum_52 : decode cX12_readSum 52 = .ok (.if_icmp .ne 5, 3) := by decide +kernel
theorem dX12_readSum_55 : decode cX12_readSum 55 = .ok (.iconst (-1), 1) := by decide +kernel
theorem dX12_readSum_56 : decode cX12_readSum 56 = .ok (.ireturn, 1) := by decide +kernel
theorem dX12_readSum_57 : decode cX12_readSum 57 = .ok (.aload_n 0, 1) := by decide +kernel
theorem dX12_readSum_58 : decode cX12_readSum 58 = .ok (.iload_n 1, 1) := by decide +kernel
theorem dX12_readSum_59 : decode cX12_readSum 59 = .ok (.iconst 0, 1) := by decide +kernel
theorem dX12_readSum_60 : decode cX12_readSum 60 = .ok (.invokevirtual 232, 3) := by decide +kernel
theorem dX12_readSum_63 : decode cX12_readSum 63 = .ok (.goto (-53), 3) := by decide +kernel
theorem dX12_readSum_66 : decode cX12_readSum 66 = .ok (.iconst 0, 1) := by decide +kernel
theorem dX12_readSum_67 : decode cX12_readSum 67 = .ok (.ireturn, 1) := by decide +kernel
theorem dX12_readCompared_0 : decode cX12_readCompared 0 = .ok (.aload_n 0, 1) := by decide +kernel
theorem dX12_readCompared_1 : decode cX12_readCompared 1 = .ok (.invokevirtual 249, 3) := by decide +kernel
theorem dX12_readCompared_4 : decode cX12_readCompared 4 = .ok (.iconst (-1), 1) := by decide +kernel
theorem dX12_readCompared_5 : decode cX12_readCompared 5 = .ok (.if_icmp .ne 5, 3) := by decide +kernel
theorem dX12_readCompared_8 : decode cX12_readCompared 8 = .ok (.iconst (-1), 1) := by decide +kernel
theorem dX12_readCompared_9 : decode cX12_readCompared 9 = .ok (.ireturn, 1) := by decide +kernel
theorem dX12_readCompared_10 : decode cX12_readCompared 10 = .ok (.aload_n 0, 1) := by decide +kernel
theorem dX12_readCompared_11 : decode cX12_readCompared 11 = .ok (.bipush 60, 2) := by decide +kernel
theorem dX12_readCompared_13 : decode cX12_readCompared 13 = .ok (.invokevirtual 243, 3) := by decide +kernel
theorem dX12_readCompared_16 : decode cX12_readCompared 16 = .ok (.ifCond .ne 27, 3) := by decide +kernel
theorem dX12_readCompared_19 : decode cX12_readCompared 19 = .ok (.aload_n 0, 1) := by decide +kernel
theorem dX12_readCompared_20 : decode cX12_readCompared 20 = .ok (.bipush 61, 2) := by decide +kernel
theorem dX12_readCompared_22 : decode cX12_readCompared 22 = .ok (.invokevirtual 243, 3) := by decide +kernel
theorem dX12_readCompared_25 : decode cX12_readCompared 25 = .ok (.ifCond .ne 18, 3) := by decide +kernel
theorem dX12_readCompared_28 : decode cX12_readCompared 28 = .ok (.aload_n 0, 1) := by decide +kernel
theorem dX12_readCompared_29 : decode cX12_readCompared 29 = .ok (.bipush 62, 2) := by decide +kernel
theorem dX12_readCompared_31 : decode cX12_readCompared 31 = .ok (.invokevirtual 243, 3) := by decide +kernel
theorem dX12_readCompared_34 : decode cX12_readCompared 34 = .ok (.ifCond .ne 9, 3) := by decide +kernel
theorem dX12_readCompared_37 : decode cX12_readCompared 37 = .ok (.aload_n 0, 1) := by decide +kernel
theorem dX12_readCompared_38 : decode cX12_readCompared 38 = .ok (.iconst 1, 1) := by decide +kernel
theorem dX12_readCompared_39 : decode cX12_readCompared 39 = .ok (.invokevirtual 229, 3) := by decide +kernel
theorem dX12_readCompared_42 : decode cX12_readCompared 42 = .ok (.ireturn, 1) := by decide +kernel
theorem dX12_readCompared_43 : decode cX12_readCompared 43 = .ok (.aload_n 0, 1) := by decide +kernel
theorem dX12_readCompared_44 : decode cX12_readCompared 44 = .ok (.getfield 201, 3) := by decide +kernel
theorem dX12_readCompared_47 : decode cX12_readCompared 47 = .ok (.bipush 60, 2) := by decide +kernel
theorem dX12_readCompared_49 : decode cX12_readCompared 49 = .ok (.if_icmp .ne 8, 3) := by decide +kernel
theorem dX12_readCompared_52 : decode cX12_readCompared 52 = .ok (.bipush 6, 2) := by decide +kernel
theorem dX12_readCompared_54 : decode cX12_readCompared 54 = .ok (.goto 19, 3) := by decide +kernel
theorem dX12_readCompared_57 : decode cX12_readCompared 57 = .ok (.aload_n 0, 1) := by decide +kernel
theorem dX12_readCompared_58 : decode cX12_readCompared 58 = .ok (.getfield 201, 3) := by decide +kernel
theorem dX12_readCompared_61 : decode cX12_readCompared 61 = .ok (.bipush 61, 2) := by decide +kernel
theorem dX12_readCompared_63 : decode cX12_readCompared 63 = .ok (.if_icmp .ne 8, 3) := by decide +kernel
theorem dX12_readCompared_66 : decode cX12_readCompared 66 = .ok (.bipush 7, 2) := by decide +kernel
theorem dX12_readCompared_68 : decode cX12_readCompared 68 = .ok (.goto 5, 3) := by decide +kernel
theorem dX12_readCompared_71 : decode cX12_readCompared 71 = .ok (.bipush 8, 2) := by decide +kernel
theorem dX12_readCompared_73 : decode cX12_readCompared 73 = .ok (.istore_n 1, 1) := by decide +kernel
theorem dX12_readCompared_74 : decode cX12_readCompared 74 = .ok (.aload_n 0, 1) := by decide +kernel
theorem dX12_readCompared_75 : decode cX12_readCompared 75 = .ok (.invokevirtual 236, 3) := by decide +kernel
theorem dX12_readCompared_78 : decode cX12_readCompared 78 = .ok (.aload_n 0, 1) := by decide +kernel
theorem dX12_readCompared_79 : decode cX12_readCompared 79 = .ok (.invokevirtual 249, 3) := by decide +kernel
theorem dX12_readCompared_82 : decode cX12_readCompared 82 = .ok (.iconst (-1), 1) := by decide +kernel
theorem dX12_readCompared_83 : decode cX12_readCompared 83 = .ok (.if_icmp .ne 5, 3) := by decide +kernel
theorem dX12_readCompared_86 : decode cX12_readCompared 86 = .ok (.iconst (-1), 1) := by decide +kernel
theorem dX12_readCompared_87 : decode cX12_readCompared 87 = .ok (.ireturn, 1) := by decide +kernel
theorem dX12_readCompared_88 : decode cX12_readCompared 88 = .ok (.aload_n 0, 1) := by decide +kernel
theorem dX12_readCompared_89 : decode cX12_readCompared 89 = .ok (.iload_n 1, 1) := by decide +kernel
theorem dX12_readCompared_90 : decode cX12_readCompared 90 = .ok (.iconst 0, 1) := by decide +kernel
theorem dX12_readCompared_91 : decode cX12_readCompared 91 = .ok (.invokevirtual 232, 3) := by decide +kernel
theorem dX12_readCompared_94 : decode cX12_readCompared 94 = .ok (.iconst 0, 1) := by decide +kernel
theorem dX12_readCompared_95 : decode cX12_readCompared 95 = .ok (.ireturn, 1) := by decide +kernel
theorem dX12_waits_0 : decode cX12_waits 0 = .ok (.aload_n 0, 1) := by decide +kernel
theorem dX12_waits_1 : decode cX12_waits 1 = .ok (.getfield 64, 3) := by decide +kernel
theorem dX12_waits_4 : decode cX12_waits 4 = .ok (.aload_n 0, 1) := by decide +kernel
theorem dX12_waits_5 : decode cX12_waits 5 = .ok (.getfield 252, 3) := by decide +kernel
theorem dX12_waits_8 : decode cX12_waits 8 = .ok (.iload_n 1, 1) := by decide +kernel
theorem dX12_waits_9 : decode cX12_waits 9 = .ok (.iastore, 1) := by decide +kernel
theorem dX12_waits_10 : decode cX12_waits 10 = .ok (.aload_n 0, 1) := by decide +kernel
theorem dX12_waits_11 : decode cX12_waits 11 = .ok (.aload_n 0, 1) := by decide +kernel
theorem dX12_waits_12 : decode cX12_waits 12 = .ok (.getfield 252, 3) := by decide +kernel
theorem dX12_waits_15 : decode cX12_waits 15 = .ok (.iconst 1, 1) := by decide +kernel
theorem dX12_waits_16 : decode cX12_waits 16 = .ok (.iadd, 1) := by decide +kernel
theorem dX12_waits_17 : decode cX12_waits 17 = .ok (.putfield 252, 3) := by decide +kernel
theorem dX12_waits_20 : decode cX12_waits 20 = .ok (.return_, 1) := by decide +kernel
theorem dX12_settles_0 : decode cX12_settles 0 = .ok (.aload_n 0, 1) := by decide +kernel
theorem dX12_settles_1 : decode cX12_settles 1 = .ok (.getfield 252, 3) := by decide +kernel
theorem dX12_settles_4 : decode cX12_settles 4 = .ok (.ifCond .le 53, 3) := by decide +kernel
theorem dX12_settles_7 : decode cX12_settles 7 = .ok (.aload_n 0, 1) := by decide +kernel
theorem dX12_settles_8 : decode cX12_settles 8 = .ok (.getfield 64, 3) := by decide +kernel
theorem dX12_settles_11 : decode cX12_settles 11 = .ok (.aload_n 0, 1) := by decide +kernel
theorem dX12_settles_12 : decode cX12_settles 12 = .ok (.getfield 252, 3) := by decide +kernel
theorem dX12_settles_15 : decode cX12_settles 15 = .ok (.iconst 1, 1) := by decide +kernel
theorem dX12_settles_16 : decode cX12_settles 16 = .ok (.isub, 1) := by decide +kernel
theorem dX12_settles_17 : decode cX12_settles 17 = .ok (.iaload, 1) := by decide +kernel
theorem dX12_settles_18 : decode cX12_settles 18 = .ok (.iload_n 1, 1) := by decide +kernel
theorem dX12_settles_19 : decode cX12_settles 19 = .ok (.if_icmp .ne 38, 3) := by decide +kernel
theorem dX12_settles_22 : decode cX12_settles 22 = .ok (.aload_n 0, 1) := by decide +kernel
theorem dX12_settles_23 : decode cX12_settles 23 = .ok (.aload_n 0, 1) := by decide +kernel
theorem dX12_settles_24 : decode cX12_settles 24 = .ok (.getfield 252, 3) := by decide +kernel
theorem dX12_settles_27 : decode cX12_settles 27 = .ok (.iconst 1, 1) := by decide +kernel
theorem dX12_settles_28 : decode cX12_settles 28 = .ok (.isub, 1) := by decide +kernel
theorem dX12_settles_29 : decode cX12_settles 29 = .ok (.putfield 252, 3) := by decide +kernel
theorem dX12_settles_32 : decode cX12_settles 32 = .ok (.aload_n 0, 1) := by decide +kernel
theorem dX12_settles_33 : decode cX12_settles 33 = .ok (.iload_n 1, 1) := by decide +kernel
theorem dX12_settles_34 : decode cX12_settles 34 = .ok (.iconst 0, 1) := by decide +kernel
theorem dX12_settles_35 : decode cX12_settles 35 = .ok (.invokevirtual 232, 3) := by decide +kernel
theorem dX12_settles_38 : decode cX12_settles 38 = .ok (.iload_n 1, 1) := by decide +kernel
theorem dX12_settles_39 : decode cX12_settles 39 = .ok (.bipush 9, 2) := by decide +kernel
theorem dX12_settles_41 : decode cX12_settles 41 = .ok (.if_icmp .ne (-41), 3) := by decide +kernel
theorem dX12_settles_44 : decode cX12_settles 44 = .ok (.aload_n 0, 1) := by decide +kernel
theorem dX12_settles_45 : decode cX12_settles 45 = .ok (.aload_n 0, 1) := by decide +kernel
theorem dX12_settles_46 : decode cX12_settles 46 = .ok (.getfield 255, 3) := by decide +kernel
theorem dX12_settles_49 : decode cX12_settles 49 = .ok (.iconst 1, 1) := by decide +kernel
theorem dX12_settles_50 : decode cX12_settles 50 = .ok (.isub, 1) := by decide +kernel
theorem dX12_settles_51 : decode cX12_settles 51 = .ok (.putfield 255, 3) := by decide +kernel
theorem dX12_settles_54 : decode cX12_settles 54 = .ok (.goto (-54), 3) := by decide +kernel
theorem dX12_settles_57 : decode cX12_settles 57 = .ok (.return_, 1) := by decide +kernel
theorem dX12_readAny_0 : decode cX12_readAny 0 = .ok (.iconst 0, 1) := by decide +kernel
theorem dX12_readAny_1 : decode cX12_readAny 1 = .ok (.istore_n 1, 1) := by decide +kernel
theorem dX12_readAny_2 : decode cX12_readAny 2 = .ok (.aload_n 0, 1) := by decide +kernel
theorem dX12_readAny_3 : decode cX12_readAny 3 = .ok (.iconst 0, 1) := by decide +kernel
theorem dX12_readAny_4 : decode cX12_readAny 4 = .ok (.putfield 252, 3) := by decide +kernel
theorem dX12_readAny_7 : decode cX12_readAny 7 = .ok (.iconst 1, 1) := by decide +kernel
theorem dX12_readAny_8 : decode cX12_readAny 8 = .ok (.istore_n 2, 1) := by decide +kernel
theorem dX12_readAny_9 : decode cX12_readAny 9 = .ok (.iload_n 2, 1) := by decide +kernel
theorem dX12_readAny_10 : decode cX12_readAny 10 = .ok (.ifCond .eq 99, 3) := by decide +kernel
theorem dX12_readAny_13 : decode cX12_readAny 13 = .ok (.aload_n 0, 1) := by decide +kernel
theorem dX12_readAny_14 : decode cX12_readAny 14 = .ok (.bipush 6, 2) := by decide +kernel
theorem dX12_readAny_16 : decode cX12_readAny 16 = .ok (.invokevirtual 258, 3) := by decide +kernel
theorem dX12_readAny_19 : decode cX12_readAny 19 = .ok (.istore_n 3, 1) := by decide +kernel
theorem dX12_readAny_20 : decode cX12_readAny 20 = .ok (.iload_n 3, 1) := by decide +kernel
theorem dX12_readAny_21 : decode cX12_readAny 21 = .ok (.ifCond .ne 12, 3) := by decide +kernel
theorem dX12_readAny_24 : decode cX12_readAny 24 = .ok (.aload_n 0, 1) := by decide +kernel
theorem dX12_readAny_25 : decode cX12_readAny 25 = .ok (.bipush 40, 2) := by decide +kernel
theorem dX12_readAny_27 : decode cX12_readAny 27 = .ok (.invokevirtual 243, 3) := by decide +kernel
theorem dX12_readAny_30 : decode cX12_readAny 30 = .ok (.ifCond .eq 58, 3) := by decide +kernel
theorem dX12_readAny_33 : decode cX12_readAny 33 = .ok (.aload_n 0, 1) := by decide +kernel
theorem dX12_readAny_34 : decode cX12_readAny 34 = .ok (.getfield 255, 3) := by decide +kernel
theorem dX12_readAny_37 : decode cX12_readAny 37 = .ok (.bipush 8, 2) := by decide +kernel
theorem dX12_readAny_39 : decode cX12_readAny 39 = .ok (.if_icmp .ne 9, 3) := by decide +kernel
theorem dX12_readAny_42 : decode cX12_readAny 42 = .ok (.aload_n 0, 1) := by decide +kernel
theorem dX12_readAny_43 : decode cX12_readAny 43 = .ok (.iconst 3, 1) := by decide +kernel
theorem dX12_readAny_44 : decode cX12_readAny 44 = .ok (.invokevirtual 229, 3) := by decide +kernel
theorem dX12_readAny_47 : decode cX12_readAny 47 = .ok (.ireturn, 1) := by decide +kernel
theorem dX12_readAny_48 : decode cX12_readAny 48 = .ok (.aload_n 0, 1) := by decide +kernel
theorem dX12_readAny_49 : decode cX12_readAny 49 = .ok (.aload_n 0, 1) := by decide +kernel
theorem dX12_readAny_50 : decode cX12_readAny 50 = .ok (.getfield 255, 3) := by decide +kernel
theorem dX12_readAny_53 : decode cX12_readAny 53 = .ok (.iconst 1, 1) := by decide +kernel
theorem dX12_readAny_54 : decode cX12_readAny 54 = .ok (.iadd, 1) := by decide +kernel
theorem dX12_readAny_55 : decode cX12_readAny 55 = .ok (.putfield 255, 3) := by decide +kernel
theorem dX12_readAny_58 : decode cX12_readAny 58 = .ok (.iload_n 3, 1) := by decide +kernel
theorem dX12_readAny_59 : decode cX12_readAny 59 = .ok (.ifCond .ne 7, 3) := by decide +kernel
theorem dX12_readAny_62 : decode cX12_readAny 62 = .ok (.iload_n 1, 1) := by decide +kernel
theorem dX12_readAny_63 : decode cX12_readAny 63 = .ok (.iconst 1, 1) := by decide +kernel
theorem dX12_readAny_64 : decode cX12_readAny 64 = .ok (.iadd, 1) := by decide +kernel
theorem dX12_readAny_65 : decode cX12_readAny 65 = .ok (.istore_n 1, 1) := by decide +kernel
theorem dX12_readAny_66 : decode cX12_readAny 66 = .ok (.aload_n 0, 1) := by decide +kernel
theorem dX12_readAny_67 : decode cX12_readAny 67 = .ok (.iload_n 3, 1) := by decide +kernel
theorem dX12_readAny_68 : decode cX12_readAny 68 = .ok (.ifCond .eq 8, 3) := by decide +kernel
theorem dX12_readAny_71 : decode cX12_readAny 71 = .ok (.bipush 9, 2) := by decide +kernel
theorem dX12_readAny_73 : decode cX12_readAny 73 = .ok (.goto 5, 3) := by decide +kernel
theorem dX12_readAny_76 : decode cX12_readAny 76 = .ok (.bipush 12, 2) := by decide +kernel
theorem dX12_readAny_78 : decode cX12_readAny 78 = .ok (.invokevirtual 261, 3) := by decide +kernel
theorem dX12_readAny_81 : decode cX12_readAny 81 = .ok (.aload_n 0, 1) := by decide +kernel
theorem dX12_readAny_82 : decode cX12_readAny 82 = .ok (.invokevirtual 236, 3) := by decide +kernel
theorem dX12_readAny_85 : decode cX12_readAny 85 = .ok (.goto (-76), 3) := by decide +kernel
theorem dX12_readAny_88 : decode cX12_readAny 88 = .ok (.aload_n 0, 1) := by decide +kernel
theorem dX12_readAny_89 : decode cX12_readAny 89 = .ok (.invokevirtual 264, 3) := by decide +kernel
theorem dX12_readAny_92 : decode cX12_readAny 92 = .ok (.iconst (-1), 1) := by decide +kernel
theorem dX12_readAny_93 : decode cX12_readAny 93 = .ok (.if_icmp .ne 5, 3) := by decide +kernel
theorem dX12_readAny_96 : decode cX12_readAny 96 = .ok (.iconst (-1), 1) := by decide +kernel
theorem dX12_readAny_97 : decode cX12_readAny 97 = .ok (.ireturn, 1) := by decide +kernel
theorem dX12_readAny_98 : decode cX12_readAny 98 = .ok (.aload_n 0, 1) := by decide +kernel
theorem dX12_readAny_99 : decode cX12_readAny 99 = .ok (.bipush 9, 2) := by decide +kernel
theorem dX12_readAny_101 : decode cX12_readAny 101 = .ok (.invokevirtual 267, 3) := by decide +kernel
theorem dX12_readAny_104 : decode cX12_readAny 104 = .ok (.iconst 0, 1) := by decide +kernel
theorem dX12_readAny_105 : decode cX12_readAny 105 = .ok (.istore_n 2, 1) := by decide +kernel
theorem dX12_readAny_106 : decode cX12_readAny 106 = .ok (.goto (-97), 3) := by decide +kernel
theorem dX12_readAny_109 : decode cX12_readAny 109 = .ok (.aload_n 0, 1) := by decide +kernel
theorem dX12_readAny_110 : decode cX12_readAny 110 = .ok (.iconst 5, 1) := by decide +kernel
theorem dX12_readAny_111 : decode cX12_readAny 111 = .ok (.invokevirtual 258, 3) := by decide +kernel
theorem dX12_readAny_114 : decode cX12_readAny 114 = .ok (.ifCond .eq 24, 3) := by decide +kernel
theorem dX12_readAny_117 : decode cX12_readAny 117 = .ok (.aload_n 0, 1) := by decide +kernel
theorem dX12_readAny_118 : decode cX12_readAny 118 = .ok (.bipush 10, 2) := by decide +kernel
theorem dX12_readAny_120 : decode cX12_readAny 120 = .ok (.invokevirtual 267, 3) := by decide +kernel
theorem dX12_readAny_123 : decode cX12_readAny 123 = .ok (.aload_n 0, 1) := by decide +kernel
theorem dX12_readAny_124 : decode cX12_readAny 124 = .ok (.bipush 10, 2) := by decide +kernel
theorem dX12_readAny_126 : decode cX12_readAny 126 = .ok (.invokevirtual 261, 3) := by decide +kernel
theorem dX12_readAny_129 : decode cX12_readAny 129 = .ok (.aload_n 0, 1) := by decide +kernel
theorem dX12_readAny_130 : decode cX12_readAny 130 = .ok (.invokevirtual 236, 3) := by decide +kernel
theorem dX12_readAny_133 : decode cX12_readAny 133 = .ok (.iconst 1, 1) := by decide +kernel
theorem dX12_readAny_134 : decode cX12_readAny 134 = .ok (.istore_n 2, 1) := by decide +kernel
theorem dX12_readAny_135 : decode cX12_readAny 135 = .ok (.goto (-126), 3) := by decide +kernel
theorem dX12_readAny_138 : decode cX12_readAny 138 = .ok (.aload_n 0, 1) := by decide +kernel
theorem dX12_readAny_139 : decode cX12_readAny 139 = .ok (.iconst 4, 1) := by decide +kernel
theorem dX12_readAny_140 : decode cX12_readAny 140 = .ok (.invokevirtual 258, 3) := by decide +kernel
theorem dX12_readAny_143 : decode cX12_readAny 143 = .ok (.ifCond .eq 30, 3) := by decide +kernel
theorem dX12_readAny_146 : decode cX12_readAny 146 = .ok (.aload_n 0, 1) := by decide +kernel
theorem dX12_readAny_147 : decode cX12_readAny 147 = .ok (.bipush 10, 2) := by decide +kernel
theorem dX12_readAny_149 : decode cX12_readAny 149 = .ok (.invokevirtual 267, 3) := by decide +kernel
theorem dX12_readAny_152 : decode cX12_readAny 152 = .ok (.aload_n 0, 1) := by decide +kernel
theorem dX12_readAny_153 : decode cX12_readAny 153 = .ok (.bipush 11, 2) := by decide +kernel
theorem dX12_readAny_155 : decode cX12_readAny 155 = .ok (.invokevirtual 267, 3) := by decide +kernel
theorem dX12_readAny_158 : decode cX12_readAny 158 = .ok (.aload_n 0, 1) := by decide +kernel
theorem dX12_readAny_159 : decode cX12_readAny 159 = .ok (.bipush 11, 2) := by decide +kernel
theorem dX12_readAny_161 : decode cX12_readAny 161 = .ok (.invokevirtual 261, 3) := by decide +kernel
theorem dX12_readAny_164 : decode cX12_readAny 164 = .ok (.aload_n 0, 1) := by decide +kernel
theorem dX12_readAny_165 : decode cX12_readAny 165 = .ok (.invokevirtual 236, 3) := by decide +kernel
theorem dX12_readAny_168 : decode cX12_readAny 168 = .ok (.iconst 1, 1) := by decide +kernel
theorem dX12_readAny_169 : decode cX12_readAny 169 = .ok (.istore_n 2, 1) := by decide +kernel
theorem dX12_readAny_170 : decode cX12_readAny 170 = .ok (.goto (-161), 3) := by decide +kernel
theorem dX12_readAny_173 : decode cX12_readAny 173 = .ok (.aload_n 0, 1) := by decide +kernel
theorem dX12_readAny_174 : decode cX12_readAny 174 = .ok (.bipush 10, 2) := by decide +kernel
theorem dX12_readAny_176 : decode cX12_readAny 176 = .ok (.invokevirtual 267, 3) := by decide +kernel
theorem dX12_readAny_179 : decode cX12_readAny 179 = .ok (.aload_n 0, 1) := by decide +kernel
theorem dX12_readAny_180 : decode cX12_readAny 180 = .ok (.bipush 11, 2) := by decide +kernel
theorem dX12_readAny_182 : decode cX12_readAny 182 = .ok (.invokevirtual 267, 3) := by decide +kernel
theorem dX12_readAny_185 : decode cX12_readAny 185 = .ok (.iload_n 1, 1) := by decide +kernel
theorem dX12_readAny_186 : decode cX12_readAny 186 = .ok (.ifCond .ne 5, 3) := by decide +kernel
theorem dX12_readAny_189 : decode cX12_readAny 189 = .ok (.iconst 0, 1) := by decide +kernel
theorem dX12_readAny_190 : decode cX12_readAny 190 = .ok (.ireturn, 1) := by decide +kernel
theorem dX12_readAny_191 : decode cX12_readAny 191 = .ok (.aload_n 0, 1) := by decide +kernel
theorem dX12_readAny_192 : decode cX12_readAny 192 = .ok (.bipush 41, 2) := by decide +kernel
theorem dX12_readAny_194 : decode cX12_readAny 194 = .ok (.invokevirtual 243, 3) := by decide +kernel
theorem dX12_readAny_197 : decode cX12_readAny 197 = .ok (.ifCond .ne 9, 3) := by decide +kernel
theorem dX12_readAny_200 : decode cX12_readAny 200 = .ok (.aload_n 0, 1) := by decide +kernel
theorem dX12_readAny_201 : decode cX12_readAny 201 = .ok (.iconst 1, 1) := by decide +kernel
theorem dX12_readAny_202 : decode cX12_readAny 202 = .ok (.invokevirtual 229, 3) := by decide +kernel
theorem dX12_readAny_205 : decode cX12_readAny 205 = .ok (.ireturn, 1) := by decide +kernel
theorem dX12_readAny_206 : decode cX12_readAny 206 = .ok (.aload_n 0, 1) := by decide +kernel
theorem dX12_readAny_207 : decode cX12_readAny 207 = .ok (.aload_n 0, 1) := by decide +kernel
theorem dX12_readAny_208 : decode cX12_readAny 208 = .ok (.getfield 252, 3) := by decide +kernel
theorem dX12_readAny_211 : decode cX12_readAny 211 = .ok (.iconst 1, 1) := by decide +kernel
theorem dX12_readAny_212 : decode cX12_readAny 212 = .ok (.isub, 1) := by decide +kernel
theorem dX12_readAny_213 : decode cX12_readAny 213 = .ok (.putfield 252, 3) := by decide +kernel
theorem dX12_readAny_216 : decode cX12_readAny 216 = .ok (.iload_n 1, 1) := by decide +kernel
theorem dX12_readAny_217 : decode cX12_readAny 217 = .ok (.iconst 1, 1) := by decide +kernel
theorem dX12_readAny_218 : decode cX12_readAny 218 = .ok (.isub, 1) := by decide +kernel
theorem dX12_readAny_219 : decode cX12_readAny 219 = .ok (.istore_n 1, 1) := by decide +kernel
theorem dX12_readAny_220 : decode cX12_readAny 220 = .ok (.aload_n 0, 1) := by decide +kernel
theorem dX12_readAny_221 : decode cX12_readAny 221 = .ok (.aload_n 0, 1) := by decide +kernel
theorem dX12_readAny_222 : decode cX12_readAny 222 = .ok (.getfield 255, 3) := by decide +kernel
theorem dX12_readAny_225 : decode cX12_readAny 225 = .ok (.iconst 1, 1) := by decide +kernel
theorem dX12_readAny_226 : decode cX12_readAny 226 = .ok (.isub, 1) := by decide +kernel
theorem dX12_readAny_227 : decode cX12_readAny 227 = .ok (.putfield 255, 3) := by decide +kernel
theorem dX12_readAny_230 : decode cX12_readAny 230 = .ok (.aload_n 0, 1) := by decide +kernel
theorem dX12_readAny_231 : decode cX12_readAny 231 = .ok (.bipush 9, 2) := by decide +kernel
theorem dX12_readAny_233 : decode cX12_readAny 233 = .ok (.invokevirtual 267, 3) := by decide +kernel
theorem dX12_readAny_236 : decode cX12_readAny 236 = .ok (.aload_n 0, 1) := by decide +kernel
theorem dX12_readAny_237 : decode cX12_readAny 237 = .ok (.invokevirtual 236, 3) := by decide +kernel
theorem dX12_readAny_240 : decode cX12_readAny 240 = .ok (.goto (-231), 3) := by decide +kernel
theorem dX12_isLineWord_0 : decode cX12_isLineWord 0 = .ok (.aload_n 0, 1) := by decide +kernel
theorem dX12_isLineWord_1 : decode cX12_isLineWord 1 = .ok (.getfield 198, 3) := by decide +kernel
theorem dX12_isLineWord_4 : decode cX12_isLineWord 4 = .ok (.iconst 2, 1) := by decide +kernel
theorem dX12_isLineWord_5 : decode cX12_isLineWord 5 = .ok (.if_icmp .ne 20, 3) := by decide +kernel
theorem dX12_isLineWord_8 : decode cX12_isLineWord 8 = .ok (.aload_n 0, 1) := by decide +kernel
theorem dX12_isLineWord_9 : decode cX12_isLineWord 9 = .ok (.aload_n 0, 1) := by decide +kernel
theorem dX12_isLineWord_10 : decode cX12_isLineWord 10 = .ok (.getfield 201, 3) := by decide +kernel
theorem dX12_isLineWord_13 : decode cX12_isLineWord 13 = .ok (.iconst 0, 1) := by decide +kernel
theorem dX12_isLineWord_14 : decode cX12_isLineWord 14 = .ok (.iconst 2, 1) := by decide +kernel
theorem dX12_isLineWord_15 : decode cX12_isLineWord 15 = .ok (.invokevirtual 167, 3) := by decide +kernel
theorem dX12_isLineWord_18 : decode cX12_isLineWord 18 = .ok (.ifCond .eq 7, 3) := by decide +kernel
theorem dX12_isLineWord_21 : decode cX12_isLineWord 21 = .ok (.iconst 1, 1) := by decide +kernel
theorem dX12_isLineWord_22 : decode cX12_isLineWord 22 = .ok (.goto 4, 3) := by decide +kernel
theorem dX12_isLineWord_25 : decode cX12_isLineWord 25 = .ok (.iconst 0, 1) := by decide +kernel
theorem dX12_isLineWord_26 : decode cX12_isLineWord 26 = .ok (.ireturn, 1) := by decide +kernel
theorem dX12_readLaw_0 : decode cX12_readLaw 0 = .ok (.iconst 0, 1) := by decide +kernel
theorem dX12_readLaw_1 : decode cX12_readLaw 1 = .ok (.istore_n 1, 1) := by decide +kernel
theorem dX12_readLaw_2 : decode cX12_readLaw 2 = .ok (.aload_n 0, 1) := by decide +kernel
theorem dX12_readLaw_3 : decode cX12_readLaw 3 = .ok (.invokevirtual 270, 3) := by decide +kernel
theorem dX12_readLaw_6 : decode cX12_readLaw 6 = .ok (.ifCond .eq 122, 3) := by decide +kernel
theorem dX12_readLaw_9 : decode cX12_readLaw 9 = .ok (.iload_n 1, 1) := by decide +kernel
theorem dX12_readLaw_10 : decode cX12_readLaw 10 = .ok (.bipush 16, 2) := by decide +kernel
theorem dX12_readLaw_12 : decode cX12_readLaw 12 = .ok (.if_icmp .ne 9, 3) := by decide +kernel
theorem dX12_readLaw_15 : decode cX12_readLaw 15 = .ok (.aload_n 0, 1) := by decide +kernel
theorem dX12_readLaw_16 : decode cX12_readLaw 16 = .ok (.iconst 3, 1) := by decide +kernel
theorem dX12_readLaw_17 : decode cX12_readLaw 17 = .ok (.invokevirtual 229, 3) := by decide +kernel
theorem dX12_readLaw_20 : decode cX12_readLaw 20 = .ok (.ireturn, 1) := by decide +kernel
theorem dX12_readLaw_21 : decode cX12_readLaw 21 = .ok (.bipush 32, 2) := by decide +kernel
theorem dX12_readLaw_23 : decode cX12_readLaw 23 = .ok (.iload_n 1, 1) := by decide +kernel
theorem dX12_readLaw_24 : decode cX12_readLaw 24 = .ok (.iadd, 1) := by decide +kernel
theorem dX12_readLaw_25 : decode cX12_readLaw 25 = .ok (.istore_n 2, 1) := by decide +kernel
theorem dX12_readLaw_26 : decode cX12_readLaw 26 = .ok (.aload_n 0, 1) := by decide +kernel
theorem dX12_readLaw_27 : decode cX12_readLaw 27 = .ok (.getfield 46, 3) := by decide +kernel
theorem dX12_readLaw_30 : decode cX12_readLaw 30 = .ok (.iload_n 2, 1) := by decide +kernel
theorem dX12_readLaw_31 : decode cX12_readLaw 31 = .ok (.aload_n 0, 1) := by decide +kernel
theorem dX12_readLaw_32 : decode cX12_readLaw 32 = .ok (.getfield 201, 3) := by decide +kernel
theorem dX12_readLaw_35 : decode cX12_readLaw 35 = .ok (.iastore, 1) := by decide +kernel
theorem dX12_readLaw_36 : decode cX12_readLaw 36 = .ok (.aload_n 0, 1) := by decide +kernel
theorem dX12_readLaw_37 : decode cX12_readLaw 37 = .ok (.invokevirtual 236, 3) := by decide +kernel
theorem dX12_readLaw_40 : decode cX12_readLaw 40 = .ok (.aload_n 0, 1) := by decide +kernel
theorem dX12_readLaw_41 : decode cX12_readLaw 41 = .ok (.getfield 49, 3) := by decide +kernel
theorem dX12_readLaw_44 : decode cX12_readLaw 44 = .ok (.iload_n 2, 1) := by decide +kernel
theorem dX12_readLaw_45 : decode cX12_readLaw 45 = .ok (.aload_n 0, 1) := by decide +kernel
theorem dX12_readLaw_46 : decode cX12_readLaw 46 = .ok (.getfield 223, 3) := by decide +kernel
theorem dX12_readLaw_49 : decode cX12_readLaw 49 = .ok (.iastore, 1) := by decide +kernel
theorem dX12_readLaw_50 : decode cX12_readLaw 50 = .ok (.aload_n 0, 1) := by decide +kernel
theorem dX12_readLaw_51 : decode cX12_readLaw 51 = .ok (.invokevirtual 249, 3) := by decide +kernel
theorem dX12_readLaw_54 : decode cX12_readLaw 54 = .ok (.iconst (-1), 1) := by decide +kernel
theorem dX12_readLaw_55 : decode cX12_readLaw 55 = .ok (.if_icmp .ne 5, 3) := by decide +kernel
theorem dX12_readLaw_58 : decode cX12_readLaw 58 = .ok (.iconst (-1), 1) := by decide +kernel
theorem dX12_readLaw_59 : decode cX12_readLaw 59 = .ok (.ireturn, 1) := by decide +kernel
theorem dX12_readLaw_60 : decode cX12_readLaw 60 = .ok (.aload_n 0, 1) := by decide +kernel
theorem dX12_readLaw_61 : decode cX12_readLaw 61 = .ok (.getfield 52, 3) := by decide +kernel
theorem dX12_readLaw_64 : decode cX12_readLaw 64 = .ok (.iload_n 2, 1) := by decide +kernel
theorem dX12_readLaw_65 : decode cX12_readLaw 65 = .ok (.aload_n 0, 1) := by decide +kernel
theorem dX12_readLaw_66 : decode cX12_readLaw 66 = .ok (.getfield 223, 3) := by decide +kernel
theorem dX12_readLaw_69 : decode cX12_readLaw 69 = .ok (.iastore, 1) := by decide +kernel
theorem dX12_readLaw_70 : decode cX12_readLaw 70 = .ok (.aload_n 0, 1) := by decide +kernel
theorem dX12_readLaw_71 : decode cX12_readLaw 71 = .ok (.iconst 3, 1) := by decide +kernel
theorem dX12_readLaw_72 : decode cX12_readLaw 72 = .ok (.invokevirtual 258, 3) := by decide +kernel
theorem dX12_readLaw_75 : decode cX12_readLaw 75 = .ok (.ifCond .eq 17, 3) := by decide +kernel
theorem dX12_readLaw_78 : decode cX12_readLaw 78 = .ok (.aload_n 0, 1) := by decide +kernel
theorem dX12_readLaw_79 : decode cX12_readLaw 79 = .ok (.invokevirtual 236, 3) := by decide +kernel
theorem dX12_readLaw_82 : decode cX12_readLaw 82 = .ok (.aload_n 0, 1) := by decide +kernel
theorem dX12_readLaw_83 : decode cX12_readLaw 83 = .ok (.invokevirtual 274, 3) := by decide +kernel
theorem dX12_readLaw_86 : decode cX12_readLaw 86 = .ok (.iconst (-1), 1) := by decide +kernel
theorem dX12_readLaw_87 : decode cX12_readLaw 87 = .ok (.if_icmp .ne 5, 3) := by decide +kernel
theorem dX12_readLaw_90 : decode cX12_readLaw 90 = .ok (.iconst (-1), 1) := by decide +kernel
theorem dX12_readLaw_91 : decode cX12_readLaw 91 = .ok (.ireturn, 1) := by decide +kernel
theorem dX12_readLaw_92 : decode cX12_readLaw 92 = .ok (.aload_n 0, 1) := by decide +kernel
theorem dX12_readLaw_93 : decode cX12_readLaw 93 = .ok (.getfield 55, 3) := by decide +kernel
theorem dX12_readLaw_96 : decode cX12_readLaw 96 = .ok (.iload_n 2, 1) := by decide +kernel
theorem dX12_readLaw_97 : decode cX12_readLaw 97 = .ok (.aload_n 0, 1) := by decide +kernel
theorem dX12_readLaw_98 : decode cX12_readLaw 98 = .ok (.getfield 223, 3) := by decide +kernel
theorem dX12_readLaw_101 : decode cX12_readLaw 101 = .ok (.iastore, 1) := by decide +kernel
theorem dX12_readLaw_102 : decode cX12_readLaw 102 = .ok (.aload_n 0, 1) := by decide +kernel
theorem dX12_readLaw_103 : decode cX12_readLaw 103 = .ok (.bipush 59, 2) := by decide +kernel
theorem dX12_readLaw_105 : decode cX12_readLaw 105 = .ok (.invokevirtual 243, 3) := by decide +kernel
theorem dX12_readLaw_108 : decode cX12_readLaw 108 = .ok (.ifCond .ne 9, 3) := by decide +kernel
theorem dX12_readLaw_111 : decode cX12_readLaw 111 = .ok (.aload_n 0, 1) := by decide +kernel
theorem dX12_readLaw_112 : decode cX12_readLaw 112 = .ok (.iconst 1, 1) := by decide +kernel
theorem dX12_readLaw_113 : decode cX12_readLaw 113 = .ok (.invokevirtual 229, 3) := by decide +kernel
theorem dX12_readLaw_116 : decode cX12_readLaw 116 = .ok (.ireturn, 1) := by decide +kernel
theorem dX12_readLaw_117 : decode cX12_readLaw 117 = .ok (.aload_n 0, 1) := by decide +kernel
theorem dX12_readLaw_118 : decode cX12_readLaw 118 = .ok (.invokevirtual 236, 3) := by decide +kernel
theorem dX12_readLaw_121 : decode cX12_readLaw 121 = .ok (.iload_n 1, 1) := by decide +kernel
theorem dX12_readLaw_122 : decode cX12_readLaw 122 = .ok (.iconst 1, 1) := by decide +kernel
theorem dX12_readLaw_123 : decode cX12_readLaw 123 = .ok (.iadd, 1) := by decide +kernel
theorem dX12_readLaw_124 : decode cX12_readLaw 124 = .ok (.istore_n 1, 1) := by decide +kernel
theorem dX12_readLaw_125 : decode cX12_readLaw 125 = .ok (.goto (-123), 3) := by decide +kernel
theorem dX12_readLaw_128 : decode cX12_readLaw 128 = .ok (.aload_n 0, 1) := by decide +kernel
theorem dX12_readLaw_129 : decode cX12_readLaw 129 = .ok (.getfield 198, 3) := by decide +kernel
theorem dX12_readLaw_132 : decode cX12_readLaw 132 = .ok (.ifCond .ne 7, 3) := by decide +kernel
theorem dX12_readLaw_135 : decode cX12_readLaw 135 = .ok (.iload_n 1, 1) := by decide +kernel
theorem dX12_readLaw_136 : decode cX12_readLaw 136 = .ok (.goto 8, 3) := by decide +kernel
theorem dX12_readLaw_139 : decode cX12_readLaw 139 = .ok (.aload_n 0, 1) := by decide +kernel
theorem dX12_readLaw_140 : decode cX12_readLaw 140 = .ok (.iconst 1, 1) := by decide +kernel
theorem dX12_readLaw_141 : decode cX12_readLaw 141 = .ok (.invokevirtual 229, 3) := by decide +kernel
theorem dX12_readLaw_144 : decode cX12_readLaw 144 = .ok (.ireturn, 1) := by decide +kernel
theorem dX12_takesLaw_0 : decode cX12_takesLaw 0 = .ok (.iconst 0, 1) := by decide +kernel
theorem dX12_takesLaw_1 : decode cX12_takesLaw 1 = .ok (.istore_n 2, 1) := by decide +kernel
theorem dX12_takesLaw_2 : decode cX12_takesLaw 2 = .ok (.iload_n 2, 1) := by decide +kernel
theorem dX12_takesLaw_3 : decode cX12_takesLaw 3 = .ok (.iload_n 1, 1) := by decide +kernel
theorem dX12_takesLaw_4 : decode cX12_takesLaw 4 = .ok (.if_icmp .ge 101, 3) := by decide +kernel
theorem dX12_takesLaw_7 : decode cX12_takesLaw 7 = .ok (.aload_n 0, 1) := by decide +kernel
theorem dX12_takesLaw_8 : decode cX12_takesLaw 8 = .ok (.getfield 46, 3) := by decide +kernel
theorem dX12_takesLaw_11 : decode cX12_takesLaw 11 = .ok (.bipush 16, 2) := by decide +kernel
theorem dX12_takesLaw_13 : decode cX12_takesLaw 13 = .ok (.aload_n 0, 1) := by decide +kernel
theorem dX12_takesLaw_14 : decode cX12_takesLaw 14 = .ok (.getfield 277, 3) := by decide +kernel
theorem dX12_takesLaw_17 : decode cX12_takesLaw 17 = .ok (.imul, 1) := by decide +kernel
theorem dX12_takesLaw_18 : decode cX12_takesLaw 18 = .ok (.iload_n 2, 1) := by decide +kernel
theorem dX12_takesLaw_19 : decode cX12_takesLaw 19 = .ok (.iadd, 1) := by decide +kernel
theorem dX12_takesLaw_20 : decode cX12_takesLaw 20 = .ok (.aload_n 0, 1) := by decide +kernel
theorem dX12_takesLaw_21 : decode cX12_takesLaw 21 = .ok (.getfield 46, 3) := by decide +kernel
theorem dX12_takesLaw_24 : decode cX12_takesLaw 24 = .ok (.bipush 32, 2) := by decide +kernel
theorem dX12_takesLaw_26 : decode cX12_takesLaw 26 = .ok (.iload_n 2, 1) := by decide +kernel
theorem dX12_takesLaw_27 : decode cX12_takesLaw 27 = .ok (.iadd, 1) := by decide +kernel
theorem dX12_takesLaw_28 : decode cX12_takesLaw 28 = .ok (.iaload, 1) := by decide +kernel
theorem dX12_takesLaw_29 : decode cX12_takesLaw 29 = .ok (.iastore, 1) := by decide +kernel
theorem dX12_takesLaw_30 : decode cX12_takesLaw 30 = .ok (.aload_n 0, 1) := by decide +kernel
theorem dX12_takesLaw_31 : decode cX12_takesLaw 31 = .ok (.getfield 49, 3) := by decide +kernel
theorem dX12_takesLaw_34 : decode cX12_takesLaw 34 = .ok (.bipush 16, 2) := by decide +kernel
theorem dX12_takesLaw_36 : decode cX12_takesLaw 36 = .ok (.aload_n 0, 1) := by decide +kernel
theorem dX12_takesLaw_37 : decode cX12_takesLaw 37 = .ok (.getfield 277, 3) := by decide +kernel
theorem dX12_takesLaw_40 : decode cX12_takesLaw 40 = .ok (.imul, 1) := by decide +kernel
theorem dX12_takesLaw_41 : decode cX12_takesLaw 41 = .ok (.iload_n 2, 1) := by decide +kernel
theorem dX12_takesLaw_42 : decode cX12_takesLaw 42 = .ok (.iadd, 1) := by decide +kernel
theorem dX12_takesLaw_43 : decode cX12_takesLaw 43 = .ok (.aload_n 0, 1) := by decide +kernel
theorem dX12_takesLaw_44 : decode cX12_takesLaw 44 = .ok (.getfield 49, 3) := by decide +kernel
theorem dX12_takesLaw_47 : decode cX12_takesLaw 47 = .ok (.bipush 32, 2) := by decide +kernel
theorem dX12_takesLaw_49 : decode cX12_takesLaw 49 = .ok (.iload_n 2, 1) := by decide +kernel
theorem dX12_takesLaw_50 : decode cX12_takesLaw 50 = .ok (.iadd, 1) := by decide +kernel
theorem dX12_takesLaw_51 : decode cX12_takesLaw 51 = .ok (.iaload, 1) := by decide +kernel
theorem dX12_takesLaw_52 : decode cX12_takesLaw 52 = .ok (.iastore, 1) := by decide +kernel
theorem dX12_takesLaw_53 : decode cX12_takesLaw 53 = .ok (.aload_n 0, 1) := by decide +kernel
theorem dX12_takesLaw_54 : decode cX12_takesLaw 54 = .ok (.getfield 52, 3) := by decide +kernel
theorem dX12_takesLaw_57 : decode cX12_takesLaw 57 = .ok (.bipush 16, 2) := by decide +kernel
theorem dX12_takesLaw_59 : decode cX12_takesLaw 59 = .ok (.aload_n 0, 1) := by decide +kernel
theorem dX12_takesLaw_60 : decode cX12_takesLaw 60 = .ok (.getfield 277, 3) := by decide +kernel
theorem dX12_takesLaw_63 : decode cX12_takesLaw 63 = .ok (.imul, 1) := by decide +kernel
theorem dX12_takesLaw_64 : decode cX12_takesLaw 64 = .ok (.iload_n 2, 1) := by decide +kernel
theorem dX12_takesLaw_65 : decode cX12_takesLaw 65 = .ok (.iadd, 1) := by decide +kernel
theorem dX12_takesLaw_66 : decode cX12_takesLaw 66 = .ok (.aload_n 0, 1) := by decide +kernel
theorem dX12_takesLaw_67 : decode cX12_takesLaw 67 = .ok (.getfield 52, 3) := by decide +kernel
theorem dX12_takesLaw_70 : decode cX12_takesLaw 70 = .ok (.bipush 32, 2) := by decide +kernel
theorem dX12_takesLaw_72 : decode cX12_takesLaw 72 = .ok (.iload_n 2, 1) := by decide +kernel
theorem dX12_takesLaw_73 : decode cX12_takesLaw 73 = .ok (.iadd, 1) := by decide +kernel
theorem dX12_takesLaw_74 : decode cX12_takesLaw 74 = .ok (.iaload, 1) := by decide +kernel
theorem dX12_takesLaw_75 : decode cX12_takesLaw 75 = .ok (.iastore, 1) := by decide +kernel
theorem dX12_takesLaw_76 : decode cX12_takesLaw 76 = .ok (.aload_n 0, 1) := by decide +kernel
theorem dX12_takesLaw_77 : decode cX12_takesLaw 77 = .ok (.getfield 55, 3) := by decide +kernel
theorem dX12_takesLaw_80 : decode cX12_takesLaw 80 = .ok (.bipush 16, 2) := by decide +kernel
theorem dX12_takesLaw_82 : decode cX12_takesLaw 82 = .ok (.aload_n 0, 1) := by decide +kernel
theorem dX12_takesLaw_83 : decode cX12_takesLaw 83 = .ok (.getfield 277, 3) := by decide +kernel
theorem dX12_takesLaw_86 : decode cX12_takesLaw 86 = .ok (.imul, 1) := by decide +kernel
theorem dX12_takesLaw_87 : decode cX12_takesLaw 87 = .ok (.iload_n 2, 1) := by decide +kernel
theorem dX12_takesLaw_88 : decode cX12_takesLaw 88 = .ok (.iadd, 1) := by decide +kernel
theorem dX12_takesLaw_89 : decode cX12_takesLaw 89 = .ok (.aload_n 0, 1) := by decide +kernel
theorem dX12_takesLaw_90 : decode cX12_takesLaw 90 = .ok (.getfield 55, 3) := by decide +kernel
theorem dX12_takesLaw_93 : decode cX12_takesLaw 93 = .ok (.bipush 32, 2) := by decide +kernel
theorem dX12_takesLaw_95 : decode cX12_takesLaw 95 = .ok (.iload_n 2, 1) := by decide +kernel
theorem dX12_takesLaw_96 : decode cX12_takesLaw 96 = .ok (.iadd, 1) := by decide +kernel
theorem dX12_takesLaw_97 : decode cX12_takesLaw 97 = .ok (.iaload, 1) := by decide +kernel
theorem dX12_takesLaw_98 : decode cX12_takesLaw 98 = .ok (.iastore, 1) := by decide +kernel
theorem dX12_takesLaw_99 : decode cX12_takesLaw 99 = .ok (.iinc 2 1, 3) := by decide +kernel
theorem dX12_takesLaw_102 : decode cX12_takesLaw 102 = .ok (.goto (-100), 3) := by decide +kernel
theorem dX12_takesLaw_105 : decode cX12_takesLaw 105 = .ok (.iconst 0, 1) := by decide +kernel
theorem dX12_takesLaw_106 : decode cX12_takesLaw 106 = .ok (.istore_n 2, 1) := by decide +kernel
theorem dX12_takesLaw_107 : decode cX12_takesLaw 107 = .ok (.iload_n 2, 1) := by decide +kernel
theorem dX12_takesLaw_108 : decode cX12_takesLaw 108 = .ok (.aload_n 0, 1) := by decide +kernel
theorem dX12_takesLaw_109 : decode cX12_takesLaw 109 = .ok (.getfield 223, 3) := by decide +kernel
theorem dX12_takesLaw_112 : decode cX12_takesLaw 112 = .ok (.if_icmp .ge 59, 3) := by decide +kernel
theorem dX12_takesLaw_115 : decode cX12_takesLaw 115 = .ok (.aload_n 0, 1) := by decide +kernel
theorem dX12_takesLaw_116 : decode cX12_takesLaw 116 = .ok (.getfield 58, 3) := by decide +kernel
theorem dX12_takesLaw_119 : decode cX12_takesLaw 119 = .ok (.sipush 400, 3) := by decide +kernel
theorem dX12_takesLaw_122 : decode cX12_takesLaw 122 = .ok (.aload_n 0, 1) := by decide +kernel
theorem dX12_takesLaw_123 : decode cX12_takesLaw 123 = .ok (.getfield 277, 3) := by decide +kernel
theorem dX12_takesLaw_126 : decode cX12_takesLaw 126 = .ok (.imul, 1) := by decide +kernel
theorem dX12_takesLaw_127 : decode cX12_takesLaw 127 = .ok (.iload_n 2, 1) := by decide +kernel
theorem dX12_takesLaw_128 : decode cX12_takesLaw 128 = .ok (.iadd, 1) := by decide +kernel
theorem dX12_takesLaw_129 : decode cX12_takesLaw 129 = .ok (.aload_n 0, 1) := by decide +kernel
theorem dX12_takesLaw_130 : decode cX12_takesLaw 130 = .ok (.getfield 58, 3) := by decide +kernel
theorem dX12_takesLaw_133 : decode cX12_takesLaw 133 = .ok (.sipush 800, 3) := by decide +kernel
theorem dX12_takesLaw_136 : decode cX12_takesLaw 136 = .ok (.iload_n 2, 1) := by decide +kernel
theorem dX12_takesLaw_137 : decode cX12_takesLaw 137 = .ok (.iadd, 1) := by decide +kernel
theorem dX12_takesLaw_138 : decode cX12_takesLaw 138 = .ok (.iaload, 1) := by decide +kernel
theorem dX12_takesLaw_139 : decode cX12_takesLaw 139 = .ok (.iastore, 1) := by decide +kernel
theorem dX12_takesLaw_140 : decode cX12_takesLaw 140 = .ok (.aload_n 0, 1) := by decide +kernel
theorem dX12_takesLaw_141 : decode cX12_takesLaw 141 = .ok (.getfield 61, 3) := by decide +kernel
theorem dX12_takesLaw_144 : decode cX12_takesLaw 144 = .ok (.sipush 400, 3) := by decide +kernel
theorem dX12_takesLaw_147 : decode cX12_takesLaw 147 = .ok (.aload_n 0, 1) := by decide +kernel
theorem dX12_takesLaw_148 : decode cX12_takesLaw 148 = .ok (.getfield 277, 3) := by decide +kernel
theorem dX12_takesLaw_151 : decode cX12_takesLaw 151 = .ok (.imul, 1) := by decide +kernel
theorem dX12_takesLaw_152 : decode cX12_takesLaw 152 = .ok (.iload_n 2, 1) := by decide +kernel
theorem dX12_takesLaw_153 : decode cX12_takesLaw 153 = .ok (.iadd, 1) := by decide +kernel
theorem dX12_takesLaw_154 : decode cX12_takesLaw 154 = .ok (.aload_n 0, 1) := by decide +kernel
theorem dX12_takesLaw_155 : decode cX12_takesLaw 155 = .ok (.getfield 61, 3) := by decide +kernel
theorem dX12_takesLaw_158 : decode cX12_takesLaw 158 = .ok (.sipush 800, 3) := by decide +kernel
theorem dX12_takesLaw_161 : decode cX12_takesLaw 161 = .ok (.iload_n 2, 1) := by decide +kernel
theorem dX12_takesLaw_162 : decode cX12_takesLaw 162 = .ok (.iadd, 1) := by decide +kernel
theorem dX12_takesLaw_163 : decode cX12_takesLaw 163 = .ok (.iaload, 1) := by decide +kernel
theorem dX12_takesLaw_164 : decode cX12_takesLaw 164 = .ok (.iastore, 1) := by decide +kernel
theorem dX12_takesLaw_165 : decode cX12_takesLaw 165 = .ok (.iinc 2 1, 3) := by decide +kernel
theorem dX12_takesLaw_168 : decode cX12_takesLaw 168 = .ok (.goto (-61), 3) := by decide +kernel
theorem dX12_takesLaw_171 : decode cX12_takesLaw 171 = .ok (.aload_n 0, 1) := by decide +kernel
theorem dX12_takesLaw_172 : decode cX12_takesLaw 172 = .ok (.getfield 43, 3) := by decide +kernel
theorem dX12_takesLaw_175 : decode cX12_takesLaw 175 = .ok (.aload_n 0, 1) := by decide +kernel
theorem dX12_takesLaw_176 : decode cX12_takesLaw 176 = .ok (.getfield 277, 3) := by decide +kernel
theorem dX12_takesLaw_179 : decode cX12_takesLaw 179 = .ok (.iload_n 1, 1) := by decide +kernel
theorem dX12_takesLaw_180 : decode cX12_takesLaw 180 = .ok (.iastore, 1) := by decide +kernel
theorem dX12_takesLaw_181 : decode cX12_takesLaw 181 = .ok (.return_, 1) := by decide +kernel
theorem dX12_readNumber_0 : decode cX12_readNumber 0 = .ok (.aload_n 0, 1) := by decide +kernel
theorem dX12_readNumber_1 : decode cX12_readNumber 1 = .ok (.getfield 198, 3) := by decide +kernel
theorem dX12_readNumber_4 : decode cX12_readNumber 4 = .ok (.iconst 3, 1) := by decide +kernel
theorem dX12_readNumber_5 : decode cX12_readNumber 5 = .ok (.if_icmp .eq 9, 3) := by decide +kernel
theorem dX12_readNumber_8 : decode cX12_readNumber 8 = .ok (.aload_n 0, 1) := by decide +kernel
theorem dX12_readNumber_9 : decode cX12_readNumber 9 = .ok (.iconst 1, 1) := by decide +kernel
theorem dX12_readNumber_10 : decode cX12_readNumber 10 = .ok (.invokevirtual 229, 3) := by decide +kernel
theorem dX12_readNumber_13 : decode cX12_readNumber 13 = .ok (.ireturn, 1) := by decide +kernel
theorem dX12_readNumber_14 : decode cX12_readNumber 14 = .ok (.aload_n 0, 1) := by decide +kernel
theorem dX12_readNumber_15 : decode cX12_readNumber 15 = .ok (.aload_n 0, 1) := by decide +kernel
theorem dX12_readNumber_16 : decode cX12_readNumber 16 = .ok (.getfield 201, 3) := by decide +kernel
theorem dX12_readNumber_19 : decode cX12_readNumber 19 = .ok (.iload_n 1, 1) := by decide +kernel
theorem dX12_readNumber_20 : decode cX12_readNumber 20 = .ok (.iload_n 2, 1) := by decide +kernel
theorem dX12_readNumber_21 : decode cX12_readNumber 21 = .ok (.invokevirtual 167, 3) := by decide +kernel
theorem dX12_readNumber_24 : decode cX12_readNumber 24 = .ok (.ifCond .ne 9, 3) := by decide +kernel
theorem dX12_readNumber_27 : decode cX12_readNumber 27 = .ok (.aload_n 0, 1) := by decide +kernel
theorem dX12_readNumber_28 : decode cX12_readNumber 28 = .ok (.iconst 2, 1) := by decide +kernel
theorem dX12_readNumber_29 : decode cX12_readNumber 29 = .ok (.invokevirtual 229, 3) := by decide +kernel
theorem dX12_readNumber_32 : decode cX12_readNumber 32 = .ok (.ireturn, 1) := by decide +kernel
theorem dX12_readNumber_33 : decode cX12_readNumber 33 = .ok (.aload_n 0, 1) := by decide +kernel
theorem dX12_readNumber_34 : decode cX12_readNumber 34 = .ok (.getfield 201, 3) := by decide +kernel
theorem dX12_readNumber_37 : decode cX12_readNumber 37 = .ok (.istore_n 3, 1) := by decide +kernel
theorem dX12_readNumber_38 : decode cX12_readNumber 38 = .ok (.aload_n 0, 1) := by decide +kernel
theorem dX12_readNumber_39 : decode cX12_readNumber 39 = .ok (.invokevirtual 236, 3) := by decide +kernel
theorem dX12_readNumber_42 : decode cX12_readNumber 42 = .ok (.iload_n 3, 1) := by decide +kernel
theorem dX12_readNumber_43 : decode cX12_readNumber 43 = .ok (.ireturn, 1) := by decide +kernel
theorem dX12_readMark_0 : decode cX12_readMark 0 = .ok (.aload_n 0, 1) := by decide +kernel
theorem dX12_readMark_1 : decode cX12_readMark 1 = .ok (.iload_n 1, 1) := by decide +kernel
theorem dX12_readMark_2 : decode cX12_readMark 2 = .ok (.invokevirtual 243, 3) := by decide +kernel
theorem dX12_readMark_5 : decode cX12_readMark 5 = .ok (.ifCond .ne 9, 3) := by decide +kernel
theorem dX12_readMark_8 : decode cX12_readMark 8 = .ok (.aload_n 0, 1) := by decide +kernel
theorem dX12_readMark_9 : decode cX12_readMark 9 = .ok (.iconst 1, 1) := by decide +kernel
theorem dX12_readMark_10 : decode cX12_readMark 10 = .ok (.invokevirtual 229, 3) := by decide +kernel
theorem dX12_readMark_13 : decode cX12_readMark 13 = .ok (.ireturn, 1) := by decide +kernel
theorem dX12_readMark_14 : decode cX12_readMark 14 = .ok (.aload_n 0, 1) := by decide +kernel
theorem dX12_readMark_15 : decode cX12_readMark 15 = .ok (.invokevirtual 236, 3) := by decide +kernel
theorem dX12_readMark_18 : decode cX12_readMark 18 = .ok (.iconst 0, 1) := by decide +kernel
theorem dX12_readMark_19 : decode cX12_readMark 19 = .ok (.ireturn, 1) := by decide +kernel
theorem dX12_readTold_0 : decode cX12_readTold 0 = .ok (.aload_n 0, 1) := by decide +kernel
theorem dX12_readTold_1 : decode cX12_readTold 1 = .ok (.iload_n 1, 1) := by decide +kernel
theorem dX12_readTold_2 : decode cX12_readTold 2 = .ok (.invokevirtual 258, 3) := by decide +kernel
theorem dX12_readTold_5 : decode cX12_readTold 5 = .ok (.ifCond .ne 9, 3) := by decide +kernel
theorem dX12_readTold_8 : decode cX12_readTold 8 = .ok (.aload_n 0, 1) := by decide +kernel
theorem dX12_readTold_9 : decode cX12_readTold 9 = .ok (.iconst 1, 1) := by decide +kernel
theorem dX12_readTold_10 : decode cX12_readTold 10 = .ok (.invokevirtual 229, 3) := by decide +kernel
theorem dX12_readTold_13 : decode cX12_readTold 13 = .ok (.ireturn, 1) := by decide +kernel
theorem dX12_readTold_14 : decode cX12_readTold 14 = .ok (.aload_n 0, 1) := by decide +kernel
theorem dX12_readTold_15 : decode cX12_readTold 15 = .ok (.invokevirtual 236, 3) := by decide +kernel
theorem dX12_readTold_18 : decode cX12_readTold 18 = .ok (.aload_n 0, 1) := by decide +kernel
theorem dX12_readTold_19 : decode cX12_readTold 19 = .ok (.iload_n 2, 1) := by decide +kernel
theorem dX12_readTold_20 : decode cX12_readTold 20 = .ok (.iload_n 3, 1) := by decide +kernel
theorem dX12_readTold_21 : decode cX12_readTold 21 = .ok (.invokevirtual 280, 3) := by decide +kernel
theorem dX12_readTold_24 : decode cX12_readTold 24 = .ok (.ireturn, 1) := by decide +kernel
theorem dX12_readQuestions_0 : decode cX12_readQuestions 0 = .ok (.iconst 0, 1) := by decide +kernel
theorem dX12_readQuestions_1 : decode cX12_readQuestions 1 = .ok (.istore_n 1, 1) := by decide +kernel
theorem dX12_readQuestions_2 : decode cX12_readQuestions 2 = .ok (.aload_n 0, 1) := by decide +kernel
theorem dX12_readQuestions_3 : decode cX12_readQuestions 3 = .ok (.bipush 18, 2) := by decide +kernel
theorem dX12_readQuestions_5 : decode cX12_readQuestions 5 = .ok (.invokevirtual 258, 3) := by decide +kernel
theorem dX12_readQuestions_8 : decode cX12_readQuestions 8 = .ok (.ifCond .eq 65, 3) := by decide +kernel
theorem dX12_readQuestions_11 : decode cX12_readQuestions 11 = .ok (.iload_n 1, 1) := by decide +kernel
theorem dX12_readQuestions_12 : decode cX12_readQuestions 12 = .ok (.bipush 16, 2) := by decide +kernel
theorem dX12_readQuestions_14 : decode cX12_readQuestions 14 = .ok (.if_icmp .ne 9, 3) := by decide +kernel
theorem dX12_readQuestions_17 : decode cX12_readQuestions 17 = .ok (.aload_n 0, 1) := by decide +kernel
theorem dX12_readQuestions_18 : decode cX12_readQuestions 18 = .ok (.iconst 3, 1) := by decide +kernel
theorem dX12_readQuestions_19 : decode cX12_readQuestions 19 = .ok (.invokevirtual 229, 3) := by decide +kernel
theorem dX12_readQuestions_22 : decode cX12_readQuestions 22 = .ok (.ireturn, 1) := by decide +kernel
theorem dX12_readQuestions_23 : decode cX12_readQuestions 23 = .ok (.aload_n 0, 1) := by decide +kernel
theorem dX12_readQuestions_24 : decode cX12_readQuestions 24 = .ok (.getfield 71, 3) := by decide +kernel
theorem dX12_readQuestions_27 : decode cX12_readQuestions 27 = .ok (.bipush 16, 2) := by decide +kernel
theorem dX12_readQuestions_29 : decode cX12_readQuestions 29 = .ok (.iload_n 1, 1) := by decide +kernel
theorem dX12_readQuestions_30 : decode cX12_readQuestions 30 = .ok (.iadd, 1) := by decide +kernel
theorem dX12_readQuestions_31 : decode cX12_readQuestions 31 = .ok (.aload_n 0, 1) := by decide +kernel
theorem dX12_readQuestions_32 : decode cX12_readQuestions 32 = .ok (.bipush 18, 2) := by decide +kernel
theorem dX12_readQuestions_34 : decode cX12_readQuestions 34 = .ok (.iconst 0, 1) := by decide +kernel
theorem dX12_readQuestions_35 : decode cX12_readQuestions 35 = .ok (.bipush 99, 2) := by decide +kernel
theorem dX12_readQuestions_37 : decode cX12_readQuestions 37 = .ok (.invokevirtual 283, 3) := by decide +kernel
theorem dX12_readQuestions_40 : decode cX12_readQuestions 40 = .ok (.iastore, 1) := by decide +kernel
theorem dX12_readQuestions_41 : decode cX12_readQuestions 41 = .ok (.aload_n 0, 1) := by decide +kernel
theorem dX12_readQuestions_42 : decode cX12_readQuestions 42 = .ok (.getfield 71, 3) := by decide +kernel
theorem dX12_readQuestions_45 : decode cX12_readQuestions 45 = .ok (.bipush 16, 2) := by decide +kernel
theorem dX12_readQuestions_47 : decode cX12_readQuestions 47 = .ok (.iload_n 1, 1) := by decide +kernel
theorem dX12_readQuestions_48 : decode cX12_readQuestions 48 = .ok (.iadd, 1) := by decide +kernel
theorem dX12_readQuestions_49 : decode cX12_readQuestions 49 = .ok (.iaload, 1) := by decide +kernel
theorem dX12_readQuestions_50 : decode cX12_readQuestions 50 = .ok (.iconst (-1), 1) := by decide +kernel
theorem dX12_readQuestions_51 : decode cX12_readQuestions 51 = .ok (.if_icmp .eq 13, 3) := by decide +kernel
theorem dX12_readQuestions_54 : decode cX12_readQuestions 54 = .ok (.aload_n 0, 1) := by decide +kernel
theorem dX12_readQuestions_55 : decode cX12_readQuestions 55 = .ok (.bipush 59, 2) := by decide +kernel
theorem dX12_readQuestions_57 : decode cX12_readQuestions 57 = .ok (.invokevirtual 287, 3) := by decide +kernel
theorem dX12_readQuestions_60 : decode cX12_readQuestions 60 = .ok (.iconst (-1), 1) := by decide +kernel
theorem dX12_readQuestions_61 : decode cX12_readQuestions 61 = .ok (.if_icmp .ne 5, 3) := by decide +kernel
theorem dX12_readQuestions_64 : decode cX12_readQuestions 64 = .ok (.iconst (-1), 1) := by decide +kernel
theorem dX12_readQuestions_65 : decode cX12_readQuestions 65 = .ok (.ireturn, 1) := by decide +kernel
theorem dX12_readQuestions_66 : decode cX12_readQuestions 66 = .ok (.iload_n 1, 1) := by decide +kernel
theorem dX12_readQuestions_67 : decode cX12_readQuestions 67 = .ok (.iconst 1, 1) := by decide +kernel
theorem dX12_readQuestions_68 : decode cX12_readQuestions 68 = .ok (.iadd, 1) := by decide +kernel
theorem dX12_readQuestions_69 : decode cX12_readQuestions 69 = .ok (.istore_n 1, 1) := by decide +kernel
theorem dX12_readQuestions_70 : decode cX12_readQuestions 70 = .ok (.goto (-68), 3) := by decide +kernel
theorem dX12_readQuestions_73 : decode cX12_readQuestions 73 = .ok (.aload_n 0, 1) := by decide +kernel
theorem dX12_readQuestions_74 : decode cX12_readQuestions 74 = .ok (.getfield 198, 3) := by decide +kernel
theorem dX12_readQuestions_77 : decode cX12_readQuestions 77 = .ok (.ifCond .ne 7, 3) := by decide +kernel
theorem dX12_readQuestions_80 : decode cX12_readQuestions 80 = .ok (.iload_n 1, 1) := by decide +kernel
theorem dX12_readQuestions_81 : decode cX12_readQuestions 81 = .ok (.goto 8, 3) := by decide +kernel
theorem dX12_readQuestions_84 : decode cX12_readQuestions 84 = .ok (.aload_n 0, 1) := by decide +kernel
theorem dX12_readQuestions_85 : decode cX12_readQuestions 85 = .ok (.iconst 1, 1) := by decide +kernel
theorem dX12_readQuestions_86 : decode cX12_readQuestions 86 = .ok (.invokevirtual 229, 3) := by decide +kernel
theorem dX12_readQuestions_89 : decode cX12_readQuestions 89 = .ok (.ireturn, 1) := by decide +kernel
theorem dX12_readWoman_0 : decode cX12_readWoman 0 = .ok (.aload_n 0, 1) := by decide +kernel
theorem dX12_readWoman_1 : decode cX12_readWoman 1 = .ok (.getfield 198, 3) := by decide +kernel
theorem dX12_readWoman_4 : decode cX12_readWoman 4 = .ok (.iconst 3, 1) := by decide +kernel
theorem dX12_readWoman_5 : decode cX12_readWoman 5 = .ok (.if_icmp .ne 36, 3) := by decide +kernel
theorem dX12_readWoman_8 : decode cX12_readWoman 8 = .ok (.aload_n 0, 1) := by decide +kernel
theorem dX12_readWoman_9 : decode cX12_readWoman 9 = .ok (.getfield 201, 3) := by decide +kernel
theorem dX12_readWoman_12 : decode cX12_readWoman 12 = .ok (.aload_n 0, 1) := by decide +kernel
theorem dX12_readWoman_13 : decode cX12_readWoman 13 = .ok (.getfield 161, 3) := by decide +kernel
theorem dX12_readWoman_16 : decode cX12_readWoman 16 = .ok (.if_icmp .ge 25, 3) := by decide +kernel
theorem dX12_readWoman_19 : decode cX12_readWoman 19 = .ok (.aload_n 0, 1) := by decide +kernel
theorem dX12_readWoman_20 : decode cX12_readWoman 20 = .ok (.getfield 201, 3) := by decide +kernel
theorem dX12_readWoman_23 : decode cX12_readWoman 23 = .ok (.iload_n 1, 1) := by decide +kernel
theorem dX12_readWoman_24 : decode cX12_readWoman 24 = .ok (.if_icmp .eq 11, 3) := by decide +kernel
theorem dX12_readWoman_27 : decode cX12_readWoman 27 = .ok (.aload_n 0, 1) := by decide +kernel
theorem dX12_readWoman_28 : decode cX12_readWoman 28 = .ok (.getfield 201, 3) := by decide +kernel
theorem dX12_readWoman_31 : decode cX12_readWoman 31 = .ok (.iload_n 2, 1) := by decide +kernel
theorem dX12_readWoman_32 : decode cX12_readWoman 32 = .ok (.if_icmp .ne 9, 3) := by decide +kernel
theorem dX12_readWoman_35 : decode cX12_readWoman 35 = .ok (.aload_n 0, 1) := by decide +kernel
theorem dX12_readWoman_36 : decode cX12_readWoman 36 = .ok (.iconst 2, 1) := by decide +kernel
theorem dX12_readWoman_37 : decode cX12_readWoman 37 = .ok (.invokevirtual 229, 3) := by decide +kernel
theorem dX12_readWoman_40 : decode cX12_readWoman 40 = .ok (.ireturn, 1) := by decide +kernel
theorem dX12_readWoman_41 : decode cX12_readWoman 41 = .ok (.aload_n 0, 1) := by decide +kernel
theorem dX12_readWoman_42 : decode cX12_readWoman 42 = .ok (.iconst 0, 1) := by decide +kernel
theorem dX12_readWoman_43 : decode cX12_readWoman 43 = .ok (.aload_n 0, 1) := by decide +kernel
theorem dX12_readWoman_44 : decode cX12_readWoman 44 = .ok (.getfield 161, 3) := by decide +kernel
theorem dX12_readWoman_47 : decode cX12_readWoman 47 = .ok (.iconst 1, 1) := by decide +kernel
theorem dX12_readWoman_48 : decode cX12_readWoman 48 = .ok (.isub, 1) := by decide +kernel
theorem dX12_readWoman_49 : decode cX12_readWoman 49 = .ok (.invokevirtual 280, 3) := by decide +kernel
theorem dX12_readWoman_52 : decode cX12_readWoman 52 = .ok (.ireturn, 1) := by decide +kernel
theorem dX12_readWedding_0 : decode cX12_readWedding 0 = .ok (.aload_n 0, 1) := by decide +kernel
theorem dX12_readWedding_1 : decode cX12_readWedding 1 = .ok (.getfield 74, 3) := by decide +kernel
theorem dX12_readWedding_4 : decode cX12_readWedding 4 = .ok (.iload_n 1, 1) := by decide +kernel
theorem dX12_readWedding_5 : decode cX12_readWedding 5 = .ok (.iconst 3, 1) := by decide +kernel
theorem dX12_readWedding_6 : decode cX12_readWedding 6 = .ok (.iadd, 1) := by decide +kernel
theorem dX12_readWedding_7 : decode cX12_readWedding 7 = .ok (.aload_n 0, 1) := by decide +kernel
theorem dX12_readWedding_8 : decode cX12_readWedding 8 = .ok (.iconst (-1), 1) := by decide +kernel
theorem dX12_readWedding_9 : decode cX12_readWedding 9 = .ok (.iconst (-1), 1) := by decide +kernel
theorem dX12_readWedding_10 : decode cX12_readWedding 10 = .ok (.invokevirtual 290, 3) := by decide +kernel
theorem dX12_readWedding_13 : decode cX12_readWedding 13 = .ok (.iastore, 1) := by decide +kernel
theorem dX12_readWedding_14 : decode cX12_readWedding 14 = .ok (.aload_n 0, 1) := by decide +kernel
theorem dX12_readWedding_15 : decode cX12_readWedding 15 = .ok (.getfield 74, 3) := by decide +kernel
theorem dX12_readWedding_18 : decode cX12_readWedding 18 = .ok (.iload_n 1, 1) := by decide +kernel
theorem dX12_readWedding_19 : decode cX12_readWedding 19 = .ok (.iconst 3, 1) := by decide +kernel
theorem dX12_readWedding_20 : decode cX12_readWedding 20 = .ok (.iadd, 1) := by decide +kernel
theorem dX12_readWedding_21 : decode cX12_readWedding 21 = .ok (.iaload, 1) := by decide +kernel
theorem dX12_readWedding_22 : decode cX12_readWedding 22 = .ok (.iconst (-1), 1) := by decide +kernel
theorem dX12_readWedding_23 : decode cX12_readWedding 23 = .ok (.if_icmp .ne 5, 3) := by decide +kernel
theorem dX12_readWedding_26 : decode cX12_readWedding 26 = .ok (.iconst (-1), 1) := by decide +kernel
theorem dX12_readWedding_27 : decode cX12_readWedding 27 = .ok (.ireturn, 1) := by decide +kernel
theorem dX12_readWedding_28 : decode cX12_readWedding 28 = .ok (.aload_n 0, 1) := by decide +kernel
theorem dX12_readWedding_29 : decode cX12_readWedding 29 = .ok (.getfield 74, 3) := by decide +kernel
theorem dX12_readWedding_32 : decode cX12_readWedding 32 = .ok (.iload_n 1, 1) := by decide +kernel
theorem dX12_readWedding_33 : decode cX12_readWedding 33 = .ok (.iconst 4, 1) := by decide +kernel
theorem dX12_readWedding_34 : decode cX12_readWedding 34 = .ok (.iadd, 1) := by decide +kernel
theorem dX12_readWedding_35 : decode cX12_readWedding 35 = .ok (.aload_n 0, 1) := by decide +kernel
theorem dX12_readWedding_36 : decode cX12_readWedding 36 = .ok (.aload_n 0, 1) := by decide +kernel
theorem dX12_readWedding_37 : decode cX12_readWedding 37 = .ok (.getfield 74, 3) := by decide +kernel
theorem dX12_readWedding_40 : decode cX12_readWedding 40 = .ok (.iload_n 1, 1) := by decide +kernel
theorem dX12_readWedding_41 : decode cX12_readWedding 41 = .ok (.iconst 3, 1) := by decide +kernel
theorem dX12_readWedding_42 : decode cX12_readWedding 42 = .ok (.iadd, 1) := by decide +kernel
theorem dX12_readWedding_43 : decode cX12_readWedding 43 = .ok (.iaload, 1) := by decide +kernel
theorem dX12_readWedding_44 : decode cX12_readWedding 44 = .ok (.iconst (-1), 1) := by decide +kernel
theorem dX12_readWedding_45 : decode cX12_readWedding 45 = .ok (.invokevirtual 290, 3) := by decide +kernel
theorem dX12_readWedding_48 : decode cX12_readWedding 48 = .ok (.iastore, 1) := by decide +kernel
theorem dX12_readWedding_49 : decode cX12_readWedding 49 = .ok (.aload_n 0, 1) := by decide +kernel
theorem dX12_readWedding_50 : decode cX12_readWedding 50 = .ok (.getfield 74, 3) := by decide +kernel
theorem dX12_readWedding_53 : decode cX12_readWedding 53 = .ok (.iload_n 1, 1) := by decide +kernel
theorem dX12_readWedding_54 : decode cX12_readWedding 54 = .ok (.iconst 4, 1) := by decide +kernel
theorem dX12_readWedding_55 : decode cX12_readWedding 55 = .ok (.iadd, 1) := by decide +kernel
theorem dX12_readWedding_56 : decode cX12_readWedding 56 = .ok (.iaload, 1) := by decide +kernel
theorem dX12_readWedding_57 : decode cX12_readWedding 57 = .ok (.iconst (-1), 1) := by decide +kernel
theorem dX12_readWedding_58 : decode cX12_readWedding 58 = .ok (.if_icmp .ne 5, 3) := by decide +kernel
theorem dX12_readWedding_61 : decode cX12_readWedding 61 = .ok (.iconst (-1), 1) := by decide +kernel
theorem dX12_readWedding_62 : decode cX12_readWedding 62 = .ok (.ireturn, 1) := by decide +kernel
theorem dX12_readWedding_63 : decode cX12_readWedding 63 = .ok (.aload_n 0, 1) := by decide +kernel
theorem dX12_readWedding_64 : decode cX12_readWedding 64 = .ok (.getfield 74, 3) := by decide +kernel
theorem dX12_readWedding_67 : decode cX12_readWedding 67 = .ok (.iload_n 1, 1) := by decide +kernel
theorem dX12_readWedding_68 : decode cX12_readWedding 68 = .ok (.iconst 5, 1) := by decide +kernel
theorem dX12_readWedding_69 : decode cX12_readWedding 69 = .ok (.iadd, 1) := by decide +kernel
theorem dX12_readWedding_70 : decode cX12_readWedding 70 = .ok (.aload_n 0, 1) := by decide +kernel
theorem dX12_readWedding_71 : decode cX12_readWedding 71 = .ok (.aload_n 0, 1) := by decide +kernel
theorem dX12_readWedding_72 : decode cX12_readWedding 72 = .ok (.getfield 74, 3) := by decide +kernel
theorem dX12_readWedding_75 : decode cX12_readWedding 75 = .ok (.iload_n 1, 1) := by decide +kernel
theorem dX12_readWedding_76 : decode cX12_readWedding 76 = .ok (.iconst 3, 1) := by decide +kernel
theorem dX12_readWedding_77 : decode cX12_readWedding 77 = .ok (.iadd, 1) := by decide +kernel
theorem dX12_readWedding_78 : decode cX12_readWedding 78 = .ok (.iaload, 1) := by decide +kernel
theorem dX12_readWedding_79 : decode cX12_readWedding 79 = .ok (.aload_n 0, 1) := by decide +kernel
theorem dX12_readWedding_80 : decode cX12_readWedding 80 = .ok (.getfield 74, 3) := by decide +kernel
theorem dX12_readWedding_83 : decode cX12_readWedding 83 = .ok (.iload_n 1, 1) := by decide +kernel
theorem dX12_readWedding_84 : decode cX12_readWedding 84 = .ok (.iconst 4, 1) := by decide +kernel
theorem dX12_readWedding_85 : decode cX12_readWedding 85 = .ok (.iadd, 1) := by decide +kernel
theorem dX12_readWedding_86 : decode cX12_readWedding 86 = .ok (.iaload, 1) := by decide +kernel
theorem dX12_readWedding_87 : decode cX12_readWedding 87 = .ok (.invokevirtual 290, 3) := by decide +kernel
theorem dX12_readWedding_90 : decode cX12_readWedding 90 = .ok (.iastore, 1) := by decide +kernel
theorem dX12_readWedding_91 : decode cX12_readWedding 91 = .ok (.aload_n 0, 1) := by decide +kernel
theorem dX12_readWedding_92 : decode cX12_readWedding 92 = .ok (.getfield 74, 3) := by decide +kernel
theorem dX12_readWedding_95 : decode cX12_readWedding 95 = .ok (.iload_n 1, 1) := by decide +kernel
theorem dX12_readWedding_96 : decode cX12_readWedding 96 = .ok (.iconst 5, 1) := by decide +kernel
theorem dX12_readWedding_97 : decode cX12_readWedding 97 = .ok (.iadd, 1) := by decide +kernel
theorem dX12_readWedding_98 : decode cX12_readWedding 98 = .ok (.iaload, 1) := by decide +kernel
theorem dX12_readWedding_99 : decode cX12_readWedding 99 = .ok (.ireturn, 1) := by decide +kernel
theorem dX12_readDeed_0 : decode cX12_readDeed 0 = .ok (.aload_n 0, 1) := by decide +kernel
theorem dX12_readDeed_1 : decode cX12_readDeed 1 = .ok (.getfield 74, 3) := by decide +kernel
theorem dX12_readDeed_4 : decode cX12_readDeed 4 = .ok (.iload_n 1, 1) := by decide +kernel
theorem dX12_readDeed_5 : decode cX12_readDeed 5 = .ok (.aload_n 0, 1) := by decide +kernel
theorem dX12_readDeed_6 : decode cX12_readDeed 6 = .ok (.bipush 19, 2) := by decide +kernel
theorem dX12_readDeed_8 : decode cX12_readDeed 8 = .ok (.iconst 0, 1) := by decide +kernel
theorem dX12_readDeed_9 : decode cX12_readDeed 9 = .ok (.sipush 999, 3) := by decide +kernel
theorem dX12_readDeed_12 : decode cX12_readDeed 12 = .ok (.invokevirtual 283, 3) := by decide +kernel
theorem dX12_readDeed_15 : decode cX12_readDeed 15 = .ok (.iastore, 1) := by decide +kernel
theorem dX12_readDeed_16 : decode cX12_readDeed 16 = .ok (.aload_n 0, 1) := by decide +kernel
theorem dX12_readDeed_17 : decode cX12_readDeed 17 = .ok (.getfield 74, 3) := by decide +kernel
theorem dX12_readDeed_20 : decode cX12_readDeed 20 = .ok (.iload_n 1, 1) := by decide +kernel
theorem dX12_readDeed_21 : decode cX12_readDeed 21 = .ok (.iaload, 1) := by decide +kernel
theorem dX12_readDeed_22 : decode cX12_readDeed 22 = .ok (.iconst (-1), 1) := by decide +kernel
theorem dX12_readDeed_23 : decode cX12_readDeed 23 = .ok (.if_icmp .ne 5, 3) := by decide +kernel
theorem dX12_readDeed_26 : decode cX12_readDeed 26 = .ok (.iconst (-1), 1) := by decide +kernel
theorem dX12_readDeed_27 : decode cX12_readDeed 27 = .ok (.ireturn, 1) := by decide +kernel
theorem dX12_readDeed_28 : decode cX12_readDeed 28 = .ok (.aload_n 0, 1) := by decide +kernel
theorem dX12_readDeed_29 : decode cX12_readDeed 29 = .ok (.getfield 198, 3) := by decide +kernel
theorem dX12_readDeed_32 : decode cX12_readDeed 32 = .ok (.iconst 2, 1) := by decide +kernel
theorem dX12_readDeed_33 : decode cX12_readDeed 33 = .ok (.if_icmp .ne 18, 3) := by decide +kernel
theorem dX12_readDeed_36 : decode cX12_readDeed 36 = .ok (.aload_n 0, 1) := by decide +kernel
theorem dX12_readDeed_37 : decode cX12_readDeed 37 = .ok (.aload_n 0, 1) := by decide +kernel
theorem dX12_readDeed_38 : decode cX12_readDeed 38 = .ok (.getfield 201, 3) := by decide +kernel
theorem dX12_readDeed_41 : decode cX12_readDeed 41 = .ok (.bipush 20, 2) := by decide +kernel
theorem dX12_readDeed_43 : decode cX12_readDeed 43 = .ok (.bipush 22, 2) := by decide +kernel
theorem dX12_readDeed_45 : decode cX12_readDeed 45 = .ok (.invokevirtual 167, 3) := by decide +kernel
theorem dX12_readDeed_48 : decode cX12_readDeed 48 = .ok (.ifCond .ne 9, 3) := by decide +kernel
theorem dX12_readDeed_51 : decode cX12_readDeed 51 = .ok (.aload_n 0, 1) := by decide +kernel
theorem dX12_readDeed_52 : decode cX12_readDeed 52 = .ok (.iconst 1, 1) := by decide +kernel
theorem dX12_readDeed_53 : decode cX12_readDeed 53 = .ok (.invokevirtual 229, 3) := by decide +kernel
theorem dX12_readDeed_56 : decode cX12_readDeed 56 = .ok (.ireturn, 1) := by decide +kernel
theorem dX12_readDeed_57 : decode cX12_readDeed 57 = .ok (.aload_n 0, 1) := by decide +kernel
theorem dX12_readDeed_58 : decode cX12_readDeed 58 = .ok (.getfield 201, 3) := by decide +kernel
theorem dX12_readDeed_61 : decode cX12_readDeed 61 = .ok (.bipush 20, 2) := by decide +kernel
theorem dX12_readDeed_63 : decode cX12_readDeed 63 = .ok (.isub, 1) := by decide +kernel
theorem dX12_readDeed_64 : decode cX12_readDeed 64 = .ok (.istore_n 2, 1) := by decide +kernel
theorem dX12_readDeed_65 : decode cX12_readDeed 65 = .ok (.aload_n 0, 1) := by decide +kernel
theorem dX12_readDeed_66 : decode cX12_readDeed 66 = .ok (.invokevirtual 236, 3) := by decide +kernel
theorem dX12_readDeed_69 : decode cX12_readDeed 69 = .ok (.aload_n 0, 1) := by decide +kernel
theorem dX12_readDeed_70 : decode cX12_readDeed 70 = .ok (.getfield 74, 3) := by decide +kernel
theorem dX12_readDeed_73 : decode cX12_readDeed 73 = .ok (.iload_n 1, 1) := by decide +kernel
theorem dX12_readDeed_74 : decode cX12_readDeed 74 = .ok (.iconst 1, 1) := by decide +kernel
theorem dX12_readDeed_75 : decode cX12_readDeed 75 = .ok (.iadd, 1) := by decide +kernel
theorem dX12_readDeed_76 : decode cX12_readDeed 76 = .ok (.iload_n 2, 1) := by decide +kernel
theorem dX12_readDeed_77 : decode cX12_readDeed 77 = .ok (.iastore, 1) := by decide +kernel
theorem dX12_readDeed_78 : decode cX12_readDeed 78 = .ok (.aload_n 0, 1) := by decide +kernel
theorem dX12_readDeed_79 : decode cX12_readDeed 79 = .ok (.getfield 74, 3) := by decide +kernel
theorem dX12_readDeed_82 : decode cX12_readDeed 82 = .ok (.iload_n 1, 1) := by decide +kernel
theorem dX12_readDeed_83 : decode cX12_readDeed 83 = .ok (.iconst 2, 1) := by decide +kernel
theorem dX12_readDeed_84 : decode cX12_readDeed 84 = .ok (.iadd, 1) := by decide +kernel
theorem dX12_readDeed_85 : decode cX12_readDeed 85 = .ok (.aload_n 0, 1) := by decide +kernel
theorem dX12_readDeed_86 : decode cX12_readDeed 86 = .ok (.iconst 0, 1) := by decide +kernel
theorem dX12_readDeed_87 : decode cX12_readDeed 87 = .ok (.iload_n 2, 1) := by decide +kernel
theorem dX12_readDeed_88 : decode cX12_readDeed 88 = .ok (.iconst 1, 1) := by decide +kernel
theorem dX12_readDeed_89 : decode cX12_readDeed 89 = .ok (.if_icmp .ne 12, 3) := by decide +kernel
theorem dX12_readDeed_92 : decode cX12_readDeed 92 = .ok (.aload_n 0, 1) := by decide +kernel
theorem dX12_readDeed_93 : decode cX12_readDeed 93 = .ok (.getfield 161, 3) := by decide +kernel
theorem dX12_readDeed_96 : decode cX12_readDeed 96 = .ok (.iconst 1, 1) := by decide +kernel
theorem dX12_readDeed_97 : decode cX12_readDeed 97 = .ok (.isub, 1) := by decide +kernel
theorem dX12_readDeed_98 : decode cX12_readDeed 98 = .ok (.goto 9, 3) := by decide +kernel
theorem dX12_readDeed_101 : decode cX12_readDeed 101 = .ok (.aload_n 0, 1) := by decide +kernel
theorem dX12_readDeed_102 : decode cX12_readDeed 102 = .ok (.getfield 164, 3) := by decide +kernel
theorem dX12_readDeed_105 : decode cX12_readDeed 105 = .ok (.iconst 1, 1) := by decide +kernel
theorem dX12_readDeed_106 : decode cX12_readDeed 106 = .ok (.isub, 1) := by decide +kernel
theorem dX12_readDeed_107 : decode cX12_readDeed 107 = .ok (.invokevirtual 280, 3) := by decide +kernel
theorem dX12_readDeed_110 : decode cX12_readDeed 110 = .ok (.iastore, 1) := by decide +kernel
theorem dX12_readDeed_111 : decode cX12_readDeed 111 = .ok (.aload_n 0, 1) := by decide +kernel
theorem dX12_readDeed_112 : decode cX12_readDeed 112 = .ok (.getfield 74, 3) := by decide +kernel
theorem dX12_readDeed_115 : decode cX12_readDeed 115 = .ok (.iload_n 1, 1) := by decide +kernel
theorem dX12_readDeed_116 : decode cX12_readDeed 116 = .ok (.iconst 2, 1) := by decide +kernel
theorem dX12_readDeed_117 : decode cX12_readDeed 117 = .ok (.iadd, 1) := by decide +kernel
theorem dX12_readDeed_118 : decode cX12_readDeed 118 = .ok (.iaload, 1) := by decide +kernel
theorem dX12_readDeed_119 : decode cX12_readDeed 119 = .ok (.iconst (-1), 1) := by decide +kernel
theorem dX12_readDeed_120 : decode cX12_readDeed 120 = .ok (.if_icmp .eq 16, 3) := by decide +kernel
theorem dX12_readDeed_123 : decode cX12_readDeed 123 = .ok (.iload_n 2, 1) := by decide +kernel
theorem dX12_readDeed_124 : decode cX12_readDeed 124 = .ok (.ifCond .ne 14, 3) := by decide +kernel
theorem dX12_readDeed_127 : decode cX12_readDeed 127 = .ok (.aload_n 0, 1) := by decide +kernel
theorem dX12_readDeed_128 : decode cX12_readDeed 128 = .ok (.iload_n 1, 1) := by decide +kernel
theorem dX12_readDeed_129 : decode cX12_readDeed 129 = .ok (.invokevirtual 293, 3) := by decide +kernel
theorem dX12_readDeed_132 : decode cX12_readDeed 132 = .ok (.iconst (-1), 1) := by decide +kernel
theorem dX12_readDeed_133 : decode cX12_readDeed 133 = .ok (.if_icmp .ne 5, 3) := by decide +kernel
theorem dX12_readDeed_136 : decode cX12_readDeed 136 = .ok (.iconst (-1), 1) := by decide +kernel
theorem dX12_readDeed_137 : decode cX12_readDeed 137 = .ok (.ireturn, 1) := by decide +kernel
theorem dX12_readDeed_138 : decode cX12_readDeed 138 = .ok (.aload_n 0, 1) := by decide +kernel
theorem dX12_readDeed_139 : decode cX12_readDeed 139 = .ok (.bipush 59, 2) := by decide +kernel
theorem dX12_readDeed_141 : decode cX12_readDeed 141 = .ok (.invokevirtual 287, 3) := by decide +kernel
theorem dX12_readDeed_144 : decode cX12_readDeed 144 = .ok (.ireturn, 1) := by decide +kernel
theorem dX12_readYears_0 : decode cX12_readYears 0 = .ok (.iconst 0, 1) := by decide +kernel
theorem dX12_readYears_1 : decode cX12_readYears 1 = .ok (.istore_n 1, 1) := by decide +kernel
theorem dX12_readYears_2 : decode cX12_readYears 2 = .ok (.aload_n 0, 1) := by decide +kernel
theorem dX12_readYears_3 : decode cX12_readYears 3 = .ok (.bipush 19, 2) := by decide +kernel
theorem dX12_readYears_5 : decode cX12_readYears 5 = .ok (.invokevirtual 258, 3) := by decide +kernel
theorem dX12_readYears_8 : decode cX12_readYears 8 = .ok (.ifCond .eq 39, 3) := by decide +kernel
theorem dX12_readYears_11 : decode cX12_readYears 11 = .ok (.iload_n 1, 1) := by decide +kernel
theorem dX12_readYears_12 : decode cX12_readYears 12 = .ok (.bipush 16, 2) := by decide +kernel
theorem dX12_readYears_14 : decode cX12_readYears 14 = .ok (.if_icmp .ne 9, 3) := by decide +kernel
theorem dX12_readYears_17 : decode cX12_readYears 17 = .ok (.aload_n 0, 1) := by decide +kernel
theorem dX12_readYears_18 : decode cX12_readYears 18 = .ok (.iconst 3, 1) := by decide +kernel
theorem dX12_readYears_19 : decode cX12_readYears 19 = .ok (.invokevirtual 229, 3) := by decide +kernel
theorem dX12_readYears_22 : decode cX12_readYears 22 = .ok (.ireturn, 1) := by decide +kernel
theorem dX12_readYears_23 : decode cX12_readYears 23 = .ok (.aload_n 0, 1) := by decide +kernel
theorem dX12_readYears_24 : decode cX12_readYears 24 = .ok (.bipush 96, 2) := by decide +kernel
theorem dX12_readYears_26 : decode cX12_readYears 26 = .ok (.bipush 6, 2) := by decide +kernel
theorem dX12_readYears_28 : decode cX12_readYears 28 = .ok (.iload_n 1, 1) := by decide +kernel
theorem dX12_readYears_29 : decode cX12_readYears 29 = .ok (.imul, 1) := by decide +kernel
theorem dX12_readYears_30 : decode cX12_readYears 30 = .ok (.iadd, 1) := by decide +kernel
theorem dX12_readYears_31 : decode cX12_readYears 31 = .ok (.invokevirtual 296, 3) := by decide +kernel
theorem dX12_readYears_34 : decode cX12_readYears 34 = .ok (.iconst (-1), 1) := by decide +kernel
theorem dX12_readYears_35 : decode cX12_readYears 35 = .ok (.if_icmp .ne 5, 3) := by decide +kernel
theorem dX12_readYears_38 : decode cX12_readYears 38 = .ok (.iconst (-1), 1) := by decide +kernel
theorem dX12_readYears_39 : decode cX12_readYears 39 = .ok (.ireturn, 1) := by decide +kernel
theorem dX12_readYears_40 : decode cX12_readYears 40 = .ok (.iload_n 1, 1) := by decide +kernel
theorem dX12_readYears_41 : decode cX12_readYears 41 = .ok (.iconst 1, 1) := by decide +kernel
theorem dX12_readYears_42 : decode cX12_readYears 42 = .ok (.iadd, 1) := by decide +kernel
theorem dX12_readYears_43 : decode cX12_readYears 43 = .ok (.istore_n 1, 1) := by decide +kernel
theorem dX12_readYears_44 : decode cX12_readYears 44 = .ok (.goto (-42), 3) := by decide +kernel
theorem dX12_readYears_47 : decode cX12_readYears 47 = .ok (.aload_n 0, 1) := by decide +kernel
theorem dX12_readYears_48 : decode cX12_readYears 48 = .ok (.getfield 198, 3) := by decide +kernel
theorem dX12_readYears_51 : decode cX12_readYears 51 = .ok (.ifCond .ne 7, 3) := by decide +kernel
theorem dX12_readYears_54 : decode cX12_readYears 54 = .ok (.iload_n 1, 1) := by decide +kernel
theorem dX12_readYears_55 : decode cX12_readYears 55 = .ok (.goto 8, 3) := by decide +kernel
theorem dX12_readYears_58 : decode cX12_readYears 58 = .ok (.aload_n 0, 1) := by decide +kernel
theorem dX12_readYears_59 : decode cX12_readYears 59 = .ok (.iconst 1, 1) := by decide +kernel
theorem dX12_readYears_60 : decode cX12_readYears 60 = .ok (.invokevirtual 229, 3) := by decide +kernel
theorem dX12_readYears_63 : decode cX12_readYears 63 = .ok (.ireturn, 1) := by decide +kernel
theorem dX12_readSister_0 : decode cX12_readSister 0 = .ok (.aload_n 0, 1) := by decide +kernel
theorem dX12_readSister_1 : decode cX12_readSister 1 = .ok (.bipush 23, 2) := by decide +kernel
theorem dX12_readSister_3 : decode cX12_readSister 3 = .ok (.iconst 0, 1) := by decide +kernel
theorem dX12_readSister_4 : decode cX12_readSister 4 = .ok (.aload_n 0, 1) := by decide +kernel
theorem dX12_readSister_5 : decode cX12_readSister 5 = .ok (.getfield 161, 3) := by decide +kernel
theorem dX12_readSister_8 : decode cX12_readSister 8 = .ok (.iconst 1, 1) := by decide +kernel
theorem dX12_readSister_9 : decode cX12_readSister 9 = .ok (.isub, 1) := by decide +kernel
theorem dX12_readSister_10 : decode cX12_readSister 10 = .ok (.invokevirtual 283, 3) := by decide +kernel
theorem dX12_readSister_13 : decode cX12_readSister 13 = .ok (.istore_n 1, 1) := by decide +kernel
theorem dX12_readSister_14 : decode cX12_readSister 14 = .ok (.iload_n 1, 1) := by decide +kernel
theorem dX12_readSister_15 : decode cX12_readSister 15 = .ok (.iconst (-1), 1) := by decide +kernel
theorem dX12_readSister_16 : decode cX12_readSister 16 = .ok (.if_icmp .ne 5, 3) := by decide +kernel
theorem dX12_readSister_19 : decode cX12_readSister 19 = .ok (.iconst (-1), 1) := by decide +kernel
theorem dX12_readSister_20 : decode cX12_readSister 20 = .ok (.ireturn, 1) := by decide +kernel
theorem dX12_readSister_21 : decode cX12_readSister 21 = .ok (.aload_n 0, 1) := by decide +kernel
theorem dX12_readSister_22 : decode cX12_readSister 22 = .ok (.bipush 24, 2) := by decide +kernel
theorem dX12_readSister_24 : decode cX12_readSister 24 = .ok (.invokevirtual 258, 3) := by decide +kernel
theorem dX12_readSister_27 : decode cX12_readSister 27 = .ok (.ifCond .ne 9, 3) := by decide +kernel
theorem dX12_readSister_30 : decode cX12_readSister 30 = .ok (.aload_n 0, 1) := by decide +kernel
theorem dX12_readSister_31 : decode cX12_readSister 31 = .ok (.iconst 1, 1) := by decide +kernel
theorem dX12_readSister_32 : decode cX12_readSister 32 = .ok (.invokevirtual 229, 3) := by decide +kernel
theorem dX12_readSister_35 : decode cX12_readSister 35 = .ok (.ireturn, 1) := by decide +kernel
theorem dX12_readSister_36 : decode cX12_readSister 36 = .ok (.aload_n 0, 1) := by decide +kernel
theorem dX12_readSister_37 : decode cX12_readSister 37 = .ok (.invokevirtual 236, 3) := by decide +kernel
theorem dX12_readSister_40 : decode cX12_readSister 40 = .ok (.aload_n 0, 1) := by decide +kernel
theorem dX12_readSister_41 : decode cX12_readSister 41 = .ok (.iload_n 1, 1) := by decide +kernel
theorem dX12_readSister_42 : decode cX12_readSister 42 = .ok (.iconst (-1), 1) := by decide +kernel
theorem dX12_readSister_43 : decode cX12_readSister 43 = .ok (.invokevirtual 290, 3) := by decide +kernel
theorem dX12_readSister_46 : decode cX12_readSister 46 = .ok (.istore_n 2, 1) := by decide +kernel
theorem dX12_readSister_47 : decode cX12_readSister 47 = .ok (.iload_n 2, 1) := by decide +kernel
theorem dX12_readSister_48 : decode cX12_readSister 48 = .ok (.iconst (-1), 1) := by decide +kernel
theorem dX12_readSister_49 : decode cX12_readSister 49 = .ok (.if_icmp .ne 5, 3) := by decide +kernel
theorem dX12_readSister_52 : decode cX12_readSister 52 = .ok (.iconst (-1), 1) := by decide +kernel
theorem dX12_readSister_53 : decode cX12_readSister 53 = .ok (.ireturn, 1) := by decide +kernel
theorem dX12_readSister_54 : decode cX12_readSister 54 = .ok (.aload_n 0, 1) := by decide +kernel
theorem dX12_readSister_55 : decode cX12_readSister 55 = .ok (.getfield 77, 3) := by decide +kernel
theorem dX12_readSister_58 : decode cX12_readSister 58 = .ok (.bipush 12, 2) := by decide +kernel
theorem dX12_readSister_60 : decode cX12_readSister 60 = .ok (.iload_n 1, 1) := by decide +kernel
theorem dX12_readSister_61 : decode cX12_readSister 61 = .ok (.iadd, 1) := by decide +kernel
theorem dX12_readSister_62 : decode cX12_readSister 62 = .ok (.aload_n 0, 1) := by decide +kernel
theorem dX12_readSister_63 : decode cX12_readSister 63 = .ok (.getfield 77, 3) := by decide +kernel
theorem dX12_readSister_66 : decode cX12_readSister 66 = .ok (.bipush 12, 2) := by decide +kernel
theorem dX12_readSister_68 : decode cX12_readSister 68 = .ok (.iload_n 1, 1) := by decide +kernel
theorem dX12_readSister_69 : decode cX12_readSister 69 = .ok (.iadd, 1) := by decide +kernel
theorem dX12_readSister_70 : decode cX12_readSister 70 = .ok (.iaload, 1) := by decide +kernel
theorem dX12_readSister_71 : decode cX12_readSister 71 = .ok (.iconst 1, 1) := by decide +kernel
theorem dX12_readSister_72 : decode cX12_readSister 72 = .ok (.iload_n 2, 1) := by decide +kernel
theorem dX12_readSister_73 : decode cX12_readSister 73 = .ok (.ishl, 1) := by decide +kernel
theorem dX12_readSister_74 : decode cX12_readSister 74 = .ok (.ior, 1) := by decide +kernel
theorem dX12_readSister_75 : decode cX12_readSister 75 = .ok (.iastore, 1) := by decide +kernel
theorem dX12_readSister_76 : decode cX12_readSister 76 = .ok (.aload_n 0, 1) := by decide +kernel
theorem dX12_readSister_77 : decode cX12_readSister 77 = .ok (.getfield 77, 3) := by decide +kernel
theorem dX12_readSister_80 : decode cX12_readSister 80 = .ok (.bipush 12, 2) := by decide +kernel
theorem dX12_readSister_82 : decode cX12_readSister 82 = .ok (.iload_n 2, 1) := by decide +kernel
theorem dX12_readSister_83 : decode cX12_readSister 83 = .ok (.iadd, 1) := by decide +kernel
theorem dX12_readSister_84 : decode cX12_readSister 84 = .ok (.aload_n 0, 1) := by decide +kernel
theorem dX12_readSister_85 : decode cX12_readSister 85 = .ok (.getfield 77, 3) := by decide +kernel
theorem dX12_readSister_88 : decode cX12_readSister 88 = .ok (.bipush 12, 2) := by decide +kernel
theorem dX12_readSister_90 : decode cX12_readSister 90 = .ok (.iload_n 2, 1) := by decide +kernel
theorem dX12_readSister_91 : decode cX12_readSister 91 = .ok (.iadd, 1) := by decide +kernel
theorem dX12_readSister_92 : decode cX12_readSister 92 = .ok (.iaload, 1) := by decide +kernel
theorem dX12_readSister_93 : decode cX12_readSister 93 = .ok (.iconst 1, 1) := by decide +kernel
theorem dX12_readSister_94 : decode cX12_readSister 94 = .ok (.iload_n 1, 1) := by decide +kernel
theorem dX12_readSister_95 : decode cX12_readSister 95 = .ok (.ishl, 1) := by decide +kernel
theorem dX12_readSister_96 : decode cX12_readSister 96 = .ok (.ior, 1) := by decide +kernel
theorem dX12_readSister_97 : decode cX12_readSister 97 = .ok (.iastore, 1) := by decide +kernel
theorem dX12_readSister_98 : decode cX12_readSister 98 = .ok (.aload_n 0, 1) := by decide +kernel
theorem dX12_readSister_99 : decode cX12_readSister 99 = .ok (.bipush 59, 2) := by decide +kernel
theorem dX12_readSister_101 : decode cX12_readSister 101 = .ok (.invokevirtual 287, 3) := by decide +kernel
theorem dX12_readSister_104 : decode cX12_readSister 104 = .ok (.ireturn, 1) := by decide +kernel
theorem dX12_readSisters_0 : decode cX12_readSisters 0 = .ok (.iconst 0, 1) := by decide +kernel
theorem dX12_readSisters_1 : decode cX12_readSisters 1 = .ok (.istore_n 1, 1) := by decide +kernel
theorem dX12_readSisters_2 : decode cX12_readSisters 2 = .ok (.iload_n 1, 1) := by decide +kernel
theorem dX12_readSisters_3 : decode cX12_readSisters 3 = .ok (.bipush 12, 2) := by decide +kernel
theorem dX12_readSisters_5 : decode cX12_readSisters 5 = .ok (.if_icmp .ge 19, 3) := by decide +kernel
theorem dX12_readSisters_8 : decode cX12_readSisters 8 = .ok (.aload_n 0, 1) := by decide +kernel
theorem dX12_readSisters_9 : decode cX12_readSisters 9 = .ok (.getfield 77, 3) := by decide +kernel
theorem dX12_readSisters_12 : decode cX12_readSisters 12 = .ok (.bipush 12, 2) := by decide +kernel
theorem dX12_readSisters_14 : decode cX12_readSisters 14 = .ok (.iload_n 1, 1) := by decide +kernel
theorem dX12_readSisters_15 : decode cX12_readSisters 15 = .ok (.iadd, 1) := by decide +kernel
theorem dX12_readSisters_16 : decode cX12_readSisters 16 = .ok (.iconst 0, 1) := by decide +kernel
theorem dX12_readSisters_17 : decode cX12_readSisters 17 = .ok (.iastore, 1) := by decide +kernel
theorem dX12_readSisters_18 : decode cX12_readSisters 18 = .ok (.iinc 1 1, 3) := by decide +kernel
theorem dX12_readSisters_21 : decode cX12_readSisters 21 = .ok (.goto (-19), 3) := by decide +kernel
theorem dX12_readSisters_24 : decode cX12_readSisters 24 = .ok (.iconst 0, 1) := by decide +kernel
theorem dX12_readSisters_25 : decode cX12_readSisters 25 = .ok (.istore_n 1, 1) := by decide +kernel
theorem dX12_readSisters_26 : decode cX12_readSisters 26 = .ok (.aload_n 0, 1) := by decide +kernel
theorem dX12_readSisters_27 : decode cX12_readSisters 27 = .ok (.bipush 23, 2) := by decide +kernel
theorem dX12_readSisters_29 : decode cX12_readSisters 29 = .ok (.invokevirtual 258, 3) := by decide +kernel
theorem dX12_readSisters_32 : decode cX12_readSisters 32 = .ok (.ifCond .eq 32, 3) := by decide +kernel
theorem dX12_readSisters_35 : decode cX12_readSisters 35 = .ok (.iload_n 1, 1) := by decide +kernel
theorem dX12_readSisters_36 : decode cX12_readSisters 36 = .ok (.bipush 16, 2) := by decide +kernel
theorem dX12_readSisters_38 : decode cX12_readSisters 38 = .ok (.if_icmp .ne 9, 3) := by decide +kernel
theorem dX12_readSisters_41 : decode cX12_readSisters 41 = .ok (.aload_n 0, 1) := by decide +kernel
theorem dX12_readSisters_42 : decode cX12_readSisters 42 = .ok (.iconst 3, 1) := by decide +kernel
theorem dX12_readSisters_43 : decode cX12_readSisters 43 = .ok (.invokevirtual 229, 3) := by decide +kernel
theorem dX12_readSisters_46 : decode cX12_readSisters 46 = .ok (.ireturn, 1) := by decide +kernel
theorem dX12_readSisters_47 : decode cX12_readSisters 47 = .ok (.aload_n 0, 1) := by decide +kernel
theorem dX12_readSisters_48 : decode cX12_readSisters 48 = .ok (.invokevirtual 299, 3) := by decide +kernel
theorem dX12_readSisters_51 : decode cX12_readSisters 51 = .ok (.iconst (-1), 1) := by decide +kernel
theorem dX12_readSisters_52 : decode cX12_readSisters 52 = .ok (.if_icmp .ne 5, 3) := by decide +kernel
theorem dX12_readSisters_55 : decode cX12_readSisters 55 = .ok (.iconst (-1), 1) := by decide +kernel
theorem dX12_readSisters_56 : decode cX12_readSisters 56 = .ok (.ireturn, 1) := by decide +kernel
theorem dX12_readSisters_57 : decode cX12_readSisters 57 = .ok (.iload_n 1, 1) := by decide +kernel
theorem dX12_readSisters_58 : decode cX12_readSisters 58 = .ok (.iconst 1, 1) := by decide +kernel
theorem dX12_readSisters_59 : decode cX12_readSisters 59 = .ok (.iadd, 1) := by decide +kernel
theorem dX12_readSisters_60 : decode cX12_readSisters 60 = .ok (.istore_n 1, 1) := by decide +kernel
theorem dX12_readSisters_61 : decode cX12_readSisters 61 = .ok (.goto (-35), 3) := by decide +kernel
theorem dX12_readSisters_64 : decode cX12_readSisters 64 = .ok (.aload_n 0, 1) := by decide +kernel
theorem dX12_readSisters_65 : decode cX12_readSisters 65 = .ok (.getfield 198, 3) := by decide +kernel
theorem dX12_readSisters_68 : decode cX12_readSisters 68 = .ok (.ifCond .ne 7, 3) := by decide +kernel
theorem dX12_readSisters_71 : decode cX12_readSisters 71 = .ok (.iload_n 1, 1) := by decide +kernel
theorem dX12_readSisters_72 : decode cX12_readSisters 72 = .ok (.goto 8, 3) := by decide +kernel
theorem dX12_readSisters_75 : decode cX12_readSisters 75 = .ok (.aload_n 0, 1) := by decide +kernel
theorem dX12_readSisters_76 : decode cX12_readSisters 76 = .ok (.iconst 1, 1) := by decide +kernel
theorem dX12_readSisters_77 : decode cX12_readSisters 77 = .ok (.invokevirtual 229, 3) := by decide +kernel
theorem dX12_readSisters_80 : decode cX12_readSisters 80 = .ok (.ireturn, 1) := by decide +kernel
theorem dX12_readsText_0 : decode cX12_readsText 0 = .ok (.aload_n 0, 1) := by decide +kernel
theorem dX12_readsText_1 : decode cX12_readsText 1 = .ok (.iconst 0, 1) := by decide +kernel
theorem dX12_readsText_2 : decode cX12_readsText 2 = .ok (.putfield 277, 3) := by decide +kernel
theorem dX12_readsText_5 : decode cX12_readsText 5 = .ok (.aload_n 0, 1) := by decide +kernel
theorem dX12_readsText_6 : decode cX12_readsText 6 = .ok (.invokevirtual 236, 3) := by decide +kernel
theorem dX12_readsText_9 : decode cX12_readsText 9 = .ok (.iload_n 1, 1) := by decide +kernel
theorem dX12_readsText_10 : decode cX12_readsText 10 = .ok (.iconst 1, 1) := by decide +kernel
theorem dX12_readsText_11 : decode cX12_readsText 11 = .ok (.if_icmp .ne 8, 3) := by decide +kernel
theorem dX12_readsText_14 : decode cX12_readsText 14 = .ok (.aload_n 0, 1) := by decide +kernel
theorem dX12_readsText_15 : decode cX12_readsText 15 = .ok (.invokevirtual 302, 3) := by decide +kernel
theorem dX12_readsText_18 : decode cX12_readsText 18 = .ok (.ireturn, 1) := by decide +kernel
theorem dX12_readsText_19 : decode cX12_readsText 19 = .ok (.iload_n 1, 1) := by decide +kernel
theorem dX12_readsText_20 : decode cX12_readsText 20 = .ok (.iconst 2, 1) := by decide +kernel
theorem dX12_readsText_21 : decode cX12_readsText 21 = .ok (.if_icmp .ne 8, 3) := by decide +kernel
theorem dX12_readsText_24 : decode cX12_readsText 24 = .ok (.aload_n 0, 1) := by decide +kernel
theorem dX12_readsText_25 : decode cX12_readsText 25 = .ok (.invokevirtual 305, 3) := by decide +kernel
theorem dX12_readsText_28 : decode cX12_readsText 28 = .ok (.ireturn, 1) := by decide +kernel
theorem dX12_readsText_29 : decode cX12_readsText 29 = .ok (.iload_n 1, 1) := by decide +kernel
theorem dX12_readsText_30 : decode cX12_readsText 30 = .ok (.iconst 3, 1) := by decide +kernel
theorem dX12_readsText_31 : decode cX12_readsText 31 = .ok (.if_icmp .ne 10, 3) := by decide +kernel
theorem dX12_readsText_34 : decode cX12_readsText 34 = .ok (.aload_n 0, 1) := by decide +kernel
theorem dX12_readsText_35 : decode cX12_readsText 35 = .ok (.invokevirtual 308, 3) := by decide +kernel
theorem dX12_readsText_38 : decode cX12_readsText 38 = .ok (.goto 7, 3) := by decide +kernel
theorem dX12_readsText_41 : decode cX12_readsText 41 = .ok (.aload_n 0, 1) := by decide +kernel
theorem dX12_readsText_42 : decode cX12_readsText 42 = .ok (.invokevirtual 311, 3) := by decide +kernel
theorem dX12_readsText_45 : decode cX12_readsText 45 = .ok (.ireturn, 1) := by decide +kernel
theorem dX12_takesOther_0 : decode cX12_takesOther 0 = .ok (.iload_n 1, 1) := by decide +kernel
theorem dX12_takesOther_1 : decode cX12_takesOther 1 = .ok (.iconst 3, 1) := by decide +kernel
theorem dX12_takesOther_2 : decode cX12_takesOther 2 = .ok (.if_icmp .ne 38, 3) := by decide +kernel
theorem dX12_takesOther_5 : decode cX12_takesOther 5 = .ok (.iconst 0, 1) := by decide +kernel
theorem dX12_takesOther_6 : decode cX12_takesOther 6 = .ok (.istore_n 3, 1) := by decide +kernel
theorem dX12_takesOther_7 : decode cX12_takesOther 7 = .ok (.iload_n 3, 1) := by decide +kernel
theorem dX12_takesOther_8 : decode cX12_takesOther 8 = .ok (.bipush 12, 2) := by decide +kernel
theorem dX12_takesOther_10 : decode cX12_takesOther 10 = .ok (.if_icmp .ge 24, 3) := by decide +kernel
theorem dX12_takesOther_13 : decode cX12_takesOther 13 = .ok (.aload_n 0, 1) := by decide +kernel
theorem dX12_takesOther_14 : decode cX12_takesOther 14 = .ok (.getfield 77, 3) := by decide +kernel
theorem dX12_takesOther_17 : decode cX12_takesOther 17 = .ok (.iload_n 3, 1) := by decide +kernel
theorem dX12_takesOther_18 : decode cX12_takesOther 18 = .ok (.aload_n 0, 1) := by decide +kernel
theorem dX12_takesOther_19 : decode cX12_takesOther 19 = .ok (.getfield 77, 3) := by decide +kernel
theorem dX12_takesOther_22 : decode cX12_takesOther 22 = .ok (.bipush 12, 2) := by decide +kernel
theorem dX12_takesOther_24 : decode cX12_takesOther 24 = .ok (.iload_n 3, 1) := by decide +kernel
theorem dX12_takesOther_25 : decode cX12_takesOther 25 = .ok (.iadd, 1) := by decide +kernel
theorem dX12_takesOther_26 : decode cX12_takesOther 26 = .ok (.iaload, 1) := by decide +kernel
theorem dX12_takesOther_27 : decode cX12_takesOther 27 = .ok (.iastore, 1) := by decide +kernel
theorem dX12_takesOther_28 : decode cX12_takesOther 28 = .ok (.iinc 3 1, 3) := by decide +kernel
theorem dX12_takesOther_31 : decode cX12_takesOther 31 = .ok (.goto (-24), 3) := by decide +kernel
theorem dX12_takesOther_34 : decode cX12_takesOther 34 = .ok (.aload_n 0, 1) := by decide +kernel
theorem dX12_takesOther_35 : decode cX12_takesOther 35 = .ok (.iload_n 2, 1) := by decide +kernel
theorem dX12_takesOther_36 : decode cX12_takesOther 36 = .ok (.putfield 314, 3) := by decide +kernel
theorem dX12_takesOther_39 : decode cX12_takesOther 39 = .ok (.return_, 1) := by decide +kernel
theorem dX12_takesOther_40 : decode cX12_takesOther 40 = .ok (.iload_n 1, 1) := by decide +kernel
theorem dX12_takesOther_41 : decode cX12_takesOther 41 = .ok (.iconst 1, 1) := by decide +kernel
theorem dX12_takesOther_42 : decode cX12_takesOther 42 = .ok (.if_icmp .ne 39, 3) := by decide +kernel
theorem dX12_takesOther_45 : decode cX12_takesOther 45 = .ok (.iconst 0, 1) := by decide +kernel
theorem dX12_takesOther_46 : decode cX12_takesOther 46 = .ok (.istore_n 3, 1) := by decide +kernel
theorem dX12_takesOther_47 : decode cX12_takesOther 47 = .ok (.iload_n 3, 1) := by decide +kernel
theorem dX12_takesOther_48 : decode cX12_takesOther 48 = .ok (.iload_n 2, 1) := by decide +kernel
theorem dX12_takesOther_49 : decode cX12_takesOther 49 = .ok (.if_icmp .ge 24, 3) := by decide +kernel
theorem dX12_takesOther_52 : decode cX12_takesOther 52 = .ok (.aload_n 0, 1) := by decide +kernel
theorem dX12_takesOther_53 : decode cX12_takesOther 53 = .ok (.getfield 71, 3) := by decide +kernel
theorem dX12_takesOther_56 : decode cX12_takesOther 56 = .ok (.iload_n 3, 1) := by decide +kernel
theorem dX12_takesOther_57 : decode cX12_takesOther 57 = .ok (.aload_n 0, 1) := by decide +kernel
theorem dX12_takesOther_58 : decode cX12_takesOther 58 = .ok (.getfield 71, 3) := by decide +kernel
theorem dX12_takesOther_61 : decode cX12_takesOther 61 = .ok (.bipush 16, 2) := by decide +kernel
theorem dX12_takesOther_63 : decode cX12_takesOther 63 = .ok (.iload_n 3, 1) := by decide +kernel
theorem dX12_takesOther_64 : decode cX12_takesOther 64 = .ok (.iadd, 1) := by decide +kernel
theorem dX12_takesOther_65 : decode cX12_takesOther 65 = .ok (.iaload, 1) := by decide +kernel
theorem dX12_takesOther_66 : decode cX12_takesOther 66 = .ok (.iastore, 1) := by decide +kernel
theorem dX12_takesOther_67 : decode cX12_takesOther 67 = .ok (.iinc 3 1, 3) := by decide +kernel
theorem dX12_takesOther_70 : decode cX12_takesOther 70 = .ok (.goto (-23), 3) := by decide +kernel
theorem dX12_takesOther_73 : decode cX12_takesOther 73 = .ok (.aload_n 0, 1) := by decide +kernel
theorem dX12_takesOther_74 : decode cX12_takesOther 74 = .ok (.iload_n 2, 1) := by decide +kernel
theorem dX12_takesOther_75 : decode cX12_takesOther 75 = .ok (.putfield 317, 3) := by decide +kernel
theorem dX12_takesOther_78 : decode cX12_takesOther 78 = .ok (.goto 39, 3) := by decide +kernel
theorem dX12_takesOther_81 : decode cX12_takesOther 81 = .ok (.iconst 0, 1) := by decide +kernel
theorem dX12_takesOther_82 : decode cX12_takesOther 82 = .ok (.istore_n 3, 1) := by decide +kernel
theorem dX12_takesOther_83 : decode cX12_takesOther 83 = .ok (.iload_n 3, 1) := by decide +kernel
theorem dX12_takesOther_84 : decode cX12_takesOther 84 = .ok (.bipush 6, 2) := by decide +kernel
theorem dX12_takesOther_86 : decode cX12_takesOther 86 = .ok (.iload_n 2, 1) := by decide +kernel
theorem dX12_takesOther_87 : decode cX12_takesOther 87 = .ok (.imul, 1) := by decide +kernel
theorem dX12_takesOther_88 : decode cX12_takesOther 88 = .ok (.if_icmp .ge 24, 3) := by decide +kernel
theorem dX12_takesOther_91 : decode cX12_takesOther 91 = .ok (.aload_n 0, 1) := by decide +kernel
theorem dX12_takesOther_92 : decode cX12_takesOther 92 = .ok (.getfield 74, 3) := by decide +kernel
theorem dX12_takesOther_95 : decode cX12_takesOther 95 = .ok (.iload_n 3, 1) := by decide +kernel
theorem dX12_takesOther_96 : decode cX12_takesOther 96 = .ok (.aload_n 0, 1) := by decide +kernel
theorem dX12_takesOther_97 : decode cX12_takesOther 97 = .ok (.getfield 74, 3) := by decide +kernel
theorem dX12_takesOther_100 : decode cX12_takesOther 100 = .ok (.bipush 96, 2) := by decide +kernel
theorem dX12_takesOther_102 : decode cX12_takesOther 102 = .ok (.iload_n 3, 1) := by decide +kernel
theorem dX12_takesOther_103 : decode cX12_takesOther 103 = .ok (.iadd, 1) := by decide +kernel
theorem dX12_takesOther_104 : decode cX12_takesOther 104 = .ok (.iaload, 1) := by decide +kernel
theorem dX12_takesOther_105 : decode cX12_takesOther 105 = .ok (.iastore, 1) := by decide +kernel
theorem dX12_takesOther_106 : decode cX12_takesOther 106 = .ok (.iinc 3 1, 3) := by decide +kernel
theorem dX12_takesOther_109 : decode cX12_takesOther 109 = .ok (.goto (-26), 3) := by decide +kernel
theorem dX12_takesOther_112 : decode cX12_takesOther 112 = .ok (.aload_n 0, 1) := by decide +kernel
theorem dX12_takesOther_113 : decode cX12_takesOther 113 = .ok (.iload_n 2, 1) := by decide +kernel
theorem dX12_takesOther_114 : decode cX12_takesOther 114 = .ok (.putfield 320, 3) := by decide +kernel
theorem dX12_takesOther_117 : decode cX12_takesOther 117 = .ok (.aload_n 0, 1) := by decide +kernel
theorem dX12_takesOther_118 : decode cX12_takesOther 118 = .ok (.iconst 0, 1) := by decide +kernel
theorem dX12_takesOther_119 : decode cX12_takesOther 119 = .ok (.putfield 152, 3) := by decide +kernel
theorem dX12_takesOther_122 : decode cX12_takesOther 122 = .ok (.return_, 1) := by decide +kernel
theorem dX12_text_0 : decode cX12_text 0 = .ok (.aload_n 0, 1) := by decide +kernel
theorem dX12_text_1 : decode cX12_text 1 = .ok (.iconst 0, 1) := by decide +kernel
theorem dX12_text_2 : decode cX12_text 2 = .ok (.putfield 149, 3) := by decide +kernel
theorem dX12_text_5 : decode cX12_text 5 = .ok (.aload_n 0, 1) := by decide +kernel
theorem dX12_text_6 : decode cX12_text 6 = .ok (.iconst 0, 1) := by decide +kernel
theorem dX12_text_7 : decode cX12_text 7 = .ok (.putfield 323, 3) := by decide +kernel
theorem dX12_text_10 : decode cX12_text 10 = .ok (.aload_n 0, 1) := by decide +kernel
theorem dX12_text_11 : decode cX12_text 11 = .ok (.iconst (-1), 1) := by decide +kernel
theorem dX12_text_12 : decode cX12_text 12 = .ok (.putfield 67, 3) := by decide +kernel
theorem dX12_text_15 : decode cX12_text 15 = .ok (.aload_n 0, 1) := by decide +kernel
theorem dX12_text_16 : decode cX12_text 16 = .ok (.iconst 0, 1) := by decide +kernel
theorem dX12_text_17 : decode cX12_text 17 = .ok (.putfield 188, 3) := by decide +kernel
theorem dX12_text_20 : decode cX12_text 20 = .ok (.aload_n 0, 1) := by decide +kernel
theorem dX12_text_21 : decode cX12_text 21 = .ok (.iconst 0, 1) := by decide +kernel
theorem dX12_text_22 : decode cX12_text 22 = .ok (.putfield 223, 3) := by decide +kernel
theorem dX12_text_25 : decode cX12_text 25 = .ok (.aload_n 0, 1) := by decide +kernel
theorem dX12_text_26 : decode cX12_text 26 = .ok (.iconst 0, 1) := by decide +kernel
theorem dX12_text_27 : decode cX12_text 27 = .ok (.putfield 255, 3) := by decide +kernel
theorem dX12_text_30 : decode cX12_text 30 = .ok (.iconst (-1), 1) := by decide +kernel
theorem dX12_text_31 : decode cX12_text 31 = .ok (.istore_n 2, 1) := by decide +kernel
theorem dX12_text_32 : decode cX12_text 32 = .ok (.aload_n 0, 1) := by decide +kernel
theorem dX12_text_33 : decode cX12_text 33 = .ok (.iload_n 1, 1) := by decide +kernel
theorem dX12_text_34 : decode cX12_text 34 = .ok (.iconst 0, 1) := by decide +kernel
theorem dX12_text_35 : decode cX12_text 35 = .ok (.iconst 3, 1) := by decide +kernel
theorem dX12_text_36 : decode cX12_text 36 = .ok (.invokevirtual 167, 3) := by decide +kernel
theorem dX12_text_39 : decode cX12_text 39 = .ok (.ifCond .eq 30, 3) := by decide +kernel
theorem dX12_text_42 : decode cX12_text 42 = .ok (.aload_n 0, 1) := by decide +kernel
theorem dX12_text_43 : decode cX12_text 43 = .ok (.iload_n 1, 1) := by decide +kernel
theorem dX12_text_44 : decode cX12_text 44 = .ok (.invokevirtual 326, 3) := by decide +kernel
theorem dX12_text_47 : decode cX12_text 47 = .ok (.istore_n 2, 1) := by decide +kernel
theorem dX12_text_48 : decode cX12_text 48 = .ok (.iload_n 2, 1) := by decide +kernel
theorem dX12_text_49 : decode cX12_text 49 = .ok (.iconst (-1), 1) := by decide +kernel
theorem dX12_text_50 : decode cX12_text 50 = .ok (.if_icmp .ne 19, 3) := by decide +kernel
theorem dX12_text_53 : decode cX12_text 53 = .ok (.aload_n 0, 1) := by decide +kernel
theorem dX12_text_54 : decode cX12_text 54 = .ok (.aload_n 0, 1) := by decide +kernel
theorem dX12_text_55 : decode cX12_text 55 = .ok (.getfield 217, 3) := by decide +kernel
theorem dX12_text_58 : decode cX12_text 58 = .ok (.putfield 323, 3) := by decide +kernel
theorem dX12_text_61 : decode cX12_text 61 = .ok (.aload_n 0, 1) := by decide +kernel
theorem dX12_text_62 : decode cX12_text 62 = .ok (.aload_n 0, 1) := by decide +kernel
theorem dX12_text_63 : decode cX12_text 63 = .ok (.getfield 220, 3) := by decide +kernel
theorem dX12_text_66 : decode cX12_text 66 = .ok (.putfield 67, 3) := by decide +kernel
theorem dX12_text_69 : decode cX12_text 69 = .ok (.aload_n 0, 1) := by decide +kernel
theorem dX12_text_70 : decode cX12_text 70 = .ok (.iconst 0, 1) := by decide +kernel
theorem dX12_text_71 : decode cX12_text 71 = .ok (.putfield 181, 3) := by decide +kernel
theorem dX12_text_74 : decode cX12_text 74 = .ok (.iload_n 2, 1) := by decide +kernel
theorem dX12_text_75 : decode cX12_text 75 = .ok (.iconst (-1), 1) := by decide +kernel
theorem dX12_text_76 : decode cX12_text 76 = .ok (.if_icmp .ne 5, 3) := by decide +kernel
theorem dX12_text_79 : decode cX12_text 79 = .ok (.iconst (-1), 1) := by decide +kernel
theorem dX12_text_80 : decode cX12_text 80 = .ok (.ireturn, 1) := by decide +kernel
theorem dX12_text_81 : decode cX12_text 81 = .ok (.iload_n 1, 1) := by decide +kernel
theorem dX12_text_82 : decode cX12_text 82 = .ok (.ifCond .ne 11, 3) := by decide +kernel
theorem dX12_text_85 : decode cX12_text 85 = .ok (.aload_n 0, 1) := by decide +kernel
theorem dX12_text_86 : decode cX12_text 86 = .ok (.iload_n 2, 1) := by decide +kernel
theorem dX12_text_87 : decode cX12_text 87 = .ok (.invokevirtual 329, 3) := by decide +kernel
theorem dX12_text_90 : decode cX12_text 90 = .ok (.goto 9, 3) := by decide +kernel
theorem dX12_text_93 : decode cX12_text 93 = .ok (.aload_n 0, 1) := by decide +kernel
theorem dX12_text_94 : decode cX12_text 94 = .ok (.iload_n 1, 1) := by decide +kernel
theorem dX12_text_95 : decode cX12_text 95 = .ok (.iload_n 2, 1) := by decide +kernel
theorem dX12_text_96 : decode cX12_text 96 = .ok (.invokevirtual 332, 3) := by decide +kernel
theorem dX12_text_99 : decode cX12_text 99 = .ok (.iload_n 2, 1) := by decide +kernel
theorem dX12_text_100 : decode cX12_text 100 = .ok (.ireturn, 1) := by decide +kernel
theorem dX12_fault_0 : decode cX12_fault 0 = .ok (.aload_n 0, 1) := by decide +kernel
theorem dX12_fault_1 : decode cX12_fault 1 = .ok (.iconst 0, 1) := by decide +kernel
theorem dX12_fault_2 : decode cX12_fault 2 = .ok (.putfield 149, 3) := by decide +kernel
theorem dX12_fault_5 : decode cX12_fault 5 = .ok (.iload_n 1, 1) := by decide +kernel
theorem dX12_fault_6 : decode cX12_fault 6 = .ok (.ifCond .ne 10, 3) := by decide +kernel
theorem dX12_fault_9 : decode cX12_fault 9 = .ok (.aload_n 0, 1) := by decide +kernel
theorem dX12_fault_10 : decode cX12_fault 10 = .ok (.getfield 323, 3) := by decide +kernel
theorem dX12_fault_13 : decode cX12_fault 13 = .ok (.goto 16, 3) := by decide +kernel
theorem dX12_fault_16 : decode cX12_fault 16 = .ok (.iload_n 1, 1) := by decide +kernel
theorem dX12_fault_17 : decode cX12_fault 17 = .ok (.iconst 1, 1) := by decide +kernel
theorem dX12_fault_18 : decode cX12_fault 18 = .ok (.if_icmp .ne 10, 3) := by decide +kernel
theorem dX12_fault_21 : decode cX12_fault 21 = .ok (.aload_n 0, 1) := by decide +kernel
theorem dX12_fault_22 : decode cX12_fault 22 = .ok (.getfield 67, 3) := by decide +kernel
theorem dX12_fault_25 : decode cX12_fault 25 = .ok (.goto 4, 3) := by decide +kernel
theorem dX12_fault_28 : decode cX12_fault 28 = .ok (.iconst (-1), 1) := by decide +kernel
theorem dX12_fault_29 : decode cX12_fault 29 = .ok (.ireturn, 1) := by decide +kernel
theorem dX12_twoOf_0 : decode cX12_twoOf 0 = .ok (.iload_n 1, 1) := by decide +kernel
theorem dX12_twoOf_1 : decode cX12_twoOf 1 = .ok (.iconst 2, 1) := by decide +kernel
theorem dX12_twoOf_2 : decode cX12_twoOf 2 = .ok (.if_icmp .ne 7, 3) := by decide +kernel
theorem dX12_twoOf_5 : decode cX12_twoOf 5 = .ok (.iload_n 2, 1) := by decide +kernel
theorem dX12_twoOf_6 : decode cX12_twoOf 6 = .ok (.iload_n 3, 1) := by decide +kernel
theorem dX12_twoOf_7 : decode cX12_twoOf 7 = .ok (.iadd, 1) := by decide +kernel
theorem dX12_twoOf_8 : decode cX12_twoOf 8 = .ok (.ireturn, 1) := by decide +kernel
theorem dX12_twoOf_9 : decode cX12_twoOf 9 = .ok (.iload_n 1, 1) := by decide +kernel
theorem dX12_twoOf_10 : decode cX12_twoOf 10 = .ok (.iconst 3, 1) := by decide +kernel
theorem dX12_twoOf_11 : decode cX12_twoOf 11 = .ok (.if_icmp .ne 7, 3) := by decide +kernel
theorem dX12_twoOf_14 : decode cX12_twoOf 14 = .ok (.iload_n 2, 1) := by decide +kernel
theorem dX12_twoOf_15 : decode cX12_twoOf 15 = .ok (.iload_n 3, 1) := by decide +kernel
theorem dX12_twoOf_16 : decode cX12_twoOf 16 = .ok (.isub, 1) := by decide +kernel
theorem dX12_twoOf_17 : decode cX12_twoOf 17 = .ok (.ireturn, 1) := by decide +kernel
theorem dX12_twoOf_18 : decode cX12_twoOf 18 = .ok (.iload_n 1, 1) := by decide +kernel
theorem dX12_twoOf_19 : decode cX12_twoOf 19 = .ok (.iconst 4, 1) := by decide +kernel
theorem dX12_twoOf_20 : decode cX12_twoOf 20 = .ok (.if_icmp .ne 7, 3) := by decide +kernel
theorem dX12_twoOf_23 : decode cX12_twoOf 23 = .ok (.iload_n 2, 1) := by decide +kernel
theorem dX12_twoOf_24 : decode cX12_twoOf 24 = .ok (.iload_n 3, 1) := by decide +kernel
theorem dX12_twoOf_25 : decode cX12_twoOf 25 = .ok (.imul, 1) := by decide +kernel
theorem dX12_twoOf_26 : decode cX12_twoOf 26 = .ok (.ireturn, 1) := by decide +kernel
theorem dX12_twoOf_27 : decode cX12_twoOf 27 = .ok (.iload_n 1, 1) := by decide +kernel
theorem dX12_twoOf_28 : decode cX12_twoOf 28 = .ok (.iconst 5, 1) := by decide +kernel
theorem dX12_twoOf_29 : decode cX12_twoOf 29 = .ok (.if_icmp .ne 7, 3) := by decide +kernel
theorem dX12_twoOf_32 : decode cX12_twoOf 32 = .ok (.iload_n 2, 1) := by decide +kernel
theorem dX12_twoOf_33 : decode cX12_twoOf 33 = .ok (.iload_n 3, 1) := by decide +kernel
theorem dX12_twoOf_34 : decode cX12_twoOf 34 = .ok (.idiv, 1) := by decide +kernel
theorem dX12_twoOf_35 : decode cX12_twoOf 35 = .ok (.ireturn, 1) := by decide +kernel
theorem dX12_twoOf_36 : decode cX12_twoOf 36 = .ok (.iload_n 1, 1) := by decide +kernel
theorem dX12_twoOf_37 : decode cX12_twoOf 37 = .ok (.bipush 6, 2) := by decide +kernel
theorem dX12_twoOf_39 : decode cX12_twoOf 39 = .ok (.if_icmp .ne 14, 3) := by decide +kernel
theorem dX12_twoOf_42 : decode cX12_twoOf 42 = .ok (.iload_n 2, 1) := by decide +kernel
theorem dX12_twoOf_43 : decode cX12_twoOf 43 = .ok (.iload_n 3, 1) := by decide +kernel
theorem dX12_twoOf_44 : decode cX12_twoOf 44 = .ok (.if_icmp .ge 7, 3) := by decide +kernel
theorem dX12_twoOf_47 : decode cX12_twoOf 47 = .ok (.iconst 1, 1) := by decide +kernel
theorem dX12_twoOf_48 : decode cX12_twoOf 48 = .ok (.goto 4, 3) := by decide +kernel
theorem dX12_twoOf_51 : decode cX12_twoOf 51 = .ok (.iconst 0, 1) := by decide +kernel
theorem dX12_twoOf_52 : decode cX12_twoOf 52 = .ok (.ireturn, 1) := by decide +kernel
theorem dX12_twoOf_53 : decode cX12_twoOf 53 = .ok (.iload_n 1, 1) := by decide +kernel
theorem dX12_twoOf_54 : decode cX12_twoOf 54 = .ok (.bipush 7, 2) := by decide +kernel
theorem dX12_twoOf_56 : decode cX12_twoOf 56 = .ok (.if_icmp .ne 14, 3) := by decide +kernel
theorem dX12_twoOf_59 : decode cX12_twoOf 59 = .ok (.iload_n 2, 1) := by decide +kernel
theorem dX12_twoOf_60 : decode cX12_twoOf 60 = .ok (.iload_n 3, 1) := by decide +kernel
theorem dX12_twoOf_61 : decode cX12_twoOf 61 = .ok (.if_icmp .ne 7, 3) := by decide +kernel
theorem dX12_twoOf_64 : decode cX12_twoOf 64 = .ok (.iconst 1, 1) := by decide +kernel
theorem dX12_twoOf_65 : decode cX12_twoOf 65 = .ok (.goto 4, 3) := by decide +kernel
theorem dX12_twoOf_68 : decode cX12_twoOf 68 = .ok (.iconst 0, 1) := by decide +kernel
theorem dX12_twoOf_69 : decode cX12_twoOf 69 = .ok (.ireturn, 1) := by decide +kernel
theorem dX12_twoOf_70 : decode cX12_twoOf 70 = .ok (.iload_n 1, 1) := by decide +kernel
theorem dX12_twoOf_71 : decode cX12_twoOf 71 = .ok (.bipush 8, 2) := by decide +kernel
theorem dX12_twoOf_73 : decode cX12_twoOf 73 = .ok (.if_icmp .ne 14, 3) := by decide +kernel
theorem dX12_twoOf_76 : decode cX12_twoOf 76 = .ok (.iload_n 2, 1) := by decide +kernel
theorem dX12_twoOf_77 : decode cX12_twoOf 77 = .ok (.iload_n 3, 1) := by decide +kernel
theorem dX12_twoOf_78 : decode cX12_twoOf 78 = .ok (.if_icmp .le 7, 3) := by decide +kernel
theorem dX12_twoOf_81 : decode cX12_twoOf 81 = .ok (.iconst 1, 1) := by decide +kernel
theorem dX12_twoOf_82 : decode cX12_twoOf 82 = .ok (.goto 4, 3) := by decide +kernel
theorem dX12_twoOf_85 : decode cX12_twoOf 85 = .ok (.iconst 0, 1) := by decide +kernel
theorem dX12_twoOf_86 : decode cX12_twoOf 86 = .ok (.ireturn, 1) := by decide +kernel
theorem dX12_twoOf_87 : decode cX12_twoOf 87 = .ok (.iload_n 1, 1) := by decide +kernel
theorem dX12_twoOf_88 : decode cX12_twoOf 88 = .ok (.bipush 10, 2) := by decide +kernel
theorem dX12_twoOf_90 : decode cX12_twoOf 90 = .ok (.if_icmp .ne 9, 3) := by decide +kernel
theorem dX12_twoOf_93 : decode cX12_twoOf 93 = .ok (.iload_n 2, 1) := by decide +kernel
theorem dX12_twoOf_94 : decode cX12_twoOf 94 = .ok (.iload_n 3, 1) := by decide +kernel
theorem dX12_twoOf_95 : decode cX12_twoOf 95 = .ok (.imul, 1) := by decide +kernel
theorem dX12_twoOf_96 : decode cX12_twoOf 96 = .ok (.goto 14, 3) := by decide +kernel
theorem dX12_twoOf_99 : decode cX12_twoOf 99 = .ok (.iload_n 2, 1) := by decide +kernel
theorem dX12_twoOf_100 : decode cX12_twoOf 100 = .ok (.iload_n 3, 1) := by decide +kernel
theorem dX12_twoOf_101 : decode cX12_twoOf 101 = .ok (.iadd, 1) := by decide +kernel
theorem dX12_twoOf_102 : decode cX12_twoOf 102 = .ok (.ifCond .le 7, 3) := by decide +kernel
theorem dX12_twoOf_105 : decode cX12_twoOf 105 = .ok (.iconst 1, 1) := by decide +kernel
theorem dX12_twoOf_106 : decode cX12_twoOf 106 = .ok (.goto 4, 3) := by decide +kernel
theorem dX12_twoOf_109 : decode cX12_twoOf 109 = .ok (.iconst 0, 1) := by decide +kernel
theorem dX12_twoOf_110 : decode cX12_twoOf 110 = .ok (.ireturn, 1) := by decide +kernel
theorem dX12_runs_0 : decode cX12_runs 0 = .ok (.iconst 0, 1) := by decide +kernel
theorem dX12_runs_1 : decode cX12_runs 1 = .ok (.istore 4, 2) := by decide +kernel
theorem dX12_runs_3 : decode cX12_runs 3 = .ok (.sipush 400, 3) := by decide +kernel
theorem dX12_runs_6 : decode cX12_runs 6 = .ok (.iload_n 1, 1) := by decide +kernel
theorem dX12_runs_7 : decode cX12_runs 7 = .ok (.imul, 1) := by decide +kernel
theorem dX12_runs_8 : decode cX12_runs 8 = .ok (.iload_n 2, 1) := by decide +kernel
theorem dX12_runs_9 : decode cX12_runs 9 = .ok (.iadd, 1) := by decide +kernel
theorem dX12_runs_10 : decode cX12_runs 10 = .ok (.istore 5, 2) := by decide +kernel
theorem dX12_runs_12 : decode cX12_runs 12 = .ok (.iload 5, 2) := by decide +kernel
theorem dX12_runs_14 : decode cX12_runs 14 = .ok (.sipush 400, 3) := by decide +kernel
theorem dX12_runs_17 : decode cX12_runs 17 = .ok (.iload_n 1, 1) := by decide +kernel
theorem dX12_runs_18 : decode cX12_runs 18 = .ok (.imul, 1) := by decide +kernel
theorem dX12_runs_19 : decode cX12_runs 19 = .ok (.iload_n 3, 1) := by decide +kernel
theorem dX12_runs_20 : decode cX12_runs 20 = .ok (.iadd, 1) := by decide +kernel
theorem dX12_runs_21 : decode cX12_runs 21 = .ok (.if_icmp .ge 155, 3) := by decide +kernel
theorem dX12_runs_24 : decode cX12_runs 24 = .ok (.aload_n 0, 1) := by decide +kernel
theorem dX12_runs_25 : decode cX12_runs 25 = .ok (.getfield 58, 3) := by decide +kernel
theorem dX12_runs_28 : decode cX12_runs 28 = .ok (.iload 5, 2) := by decide +kernel
theorem dX12_runs_30 : decode cX12_runs 30 = .ok (.iaload, 1) := by decide +kernel
theorem dX12_runs_31 : decode cX12_runs 31 = .ok (.ifCond .eq 14, 3) := by decide +kernel
theorem dX12_runs_34 : decode cX12_runs 34 = .ok (.aload_n 0, 1) := by decide +kernel
theorem dX12_runs_35 : decode cX12_runs 35 = .ok (.getfield 58, 3) := by decide +kernel
theorem dX12_runs_38 : decode cX12_runs 38 = .ok (.iload 5, 2) := by decide +kernel
end
