section
theorem dX9_apart_51 : decode cX9_apart 51 = .ok (.iload_n 2, 1) := by decide +kernel
theorem dX9_apart_52 : decode cX9_apart 52 = .ok (.invokestatic 35, 3) := by decide +kernel
theorem dX9_apart_55 : decode cX9_apart 55 = .ok (.ifCond .ne 31, 3) := by decide +kernel
theorem dX9_apart_58 : decode cX9_apart 58 = .ok (.iload 5, 2) := by decide +kernel
theorem dX9_apart_60 : decode cX9_apart 60 = .ok (.invokestatic 42, 3) := by decide +kernel
theorem dX9_apart_63 : decode cX9_apart 63 = .ok (.iload 4, 2) := by decide +kernel
theorem dX9_apart_65 : decode cX9_apart 65 = .ok (.if_icmp .ge 21, 3) := by decide +kernel
theorem dX9_apart_68 : decode cX9_apart 68 = .ok (.aload_n 0, 1) := by decide +kernel
theorem dX9_apart_69 : decode cX9_apart 69 = .ok (.iload_n 1, 1) := by decide +kernel
theorem dX9_apart_70 : decode cX9_apart 70 = .ok (.iload_n 2, 1) := by decide +kernel
theorem dX9_apart_71 : decode cX9_apart 71 = .ok (.iload 5, 2) := by decide +kernel
theorem dX9_apart_73 : decode cX9_apart 73 = .ok (.invokevirtual 47, 3) := by decide +kernel
theorem dX9_apart_76 : decode cX9_apart 76 = .ok (.ifCond .eq 10, 3) := by decide +kernel
theorem dX9_apart_79 : decode cX9_apart 79 = .ok (.iload 5, 2) := by decide +kernel
theorem dX9_apart_81 : decode cX9_apart 81 = .ok (.invokestatic 42, 3) := by decide +kernel
theorem dX9_apart_84 : decode cX9_apart 84 = .ok (.istore 4, 2) := by decide +kernel
theorem dX9_apart_86 : decode cX9_apart 86 = .ok (.iinc 5 1, 3) := by decide +kernel
theorem dX9_apart_89 : decode cX9_apart 89 = .ok (.goto (-57), 3) := by decide +kernel
theorem dX9_apart_92 : decode cX9_apart 92 = .ok (.iload 4, 2) := by decide +kernel
theorem dX9_apart_94 : decode cX9_apart 94 = .ok (.iload_n 3, 1) := by decide +kernel
theorem dX9_apart_95 : decode cX9_apart 95 = .ok (.iadd, 1) := by decide +kernel
theorem dX9_apart_96 : decode cX9_apart 96 = .ok (.ireturn, 1) := by decide +kernel
theorem dX9_parts_0 : decode cX9_parts 0 = .ok (.iconst 1, 1) := by decide +kernel
theorem dX9_parts_1 : decode cX9_parts 1 = .ok (.iload_n 1, 1) := by decide +kernel
theorem dX9_parts_2 : decode cX9_parts 2 = .ok (.ishl, 1) := by decide +kernel
theorem dX9_parts_3 : decode cX9_parts 3 = .ok (.istore 4, 2) := by decide +kernel
theorem dX9_parts_5 : decode cX9_parts 5 = .ok (.iload 4, 2) := by decide +kernel
theorem dX9_parts_7 : decode cX9_parts 7 = .ok (.istore 5, 2) := by decide +kernel
theorem dX9_parts_9 : decode cX9_parts 9 = .ok (.iconst 0, 1) := by decide +kernel
theorem dX9_parts_10 : decode cX9_parts 10 = .ok (.istore 6, 2) := by decide +kernel
theorem dX9_parts_12 : decode cX9_parts 12 = .ok (.iload 6, 2) := by decide +kernel
theorem dX9_parts_14 : decode cX9_parts 14 = .ok (.bipush 10, 2) := by decide +kernel
theorem dX9_parts_16 : decode cX9_parts 16 = .ok (.if_icmp .ge 79, 3) := by decide +kernel
theorem dX9_parts_19 : decode cX9_parts 19 = .ok (.iload 5, 2) := by decide +kernel
theorem dX9_parts_21 : decode cX9_parts 21 = .ok (.ifCond .eq 74, 3) := by decide +kernel
theorem dX9_parts_24 : decode cX9_parts 24 = .ok (.iload 5, 2) := by decide +kernel
theorem dX9_parts_26 : decode cX9_parts 26 = .ok (.iconst 1, 1) := by decide +kernel
theorem dX9_parts_27 : decode cX9_parts 27 = .ok (.isub, 1) := by decide +kernel
theorem dX9_parts_28 : decode cX9_parts 28 = .ok (.iload 5, 2) := by decide +kernel
theorem dX9_parts_30 : decode cX9_parts 30 = .ok (.iconst (-1), 1) := by decide +kernel
theorem dX9_parts_31 : decode cX9_parts 31 = .ok (.ixor, 1) := by decide +kernel
theorem dX9_parts_32 : decode cX9_parts 32 = .ok (.iand, 1) := by decide +kernel
theorem dX9_parts_33 : decode cX9_parts 33 = .ok (.invokestatic 42, 3) := by decide +kernel
theorem dX9_parts_36 : decode cX9_parts 36 = .ok (.istore 7, 2) := by decide +kernel
theorem dX9_parts_38 : decode cX9_parts 38 = .ok (.iload 7, 2) := by decide +kernel
theorem dX9_parts_40 : decode cX9_parts 40 = .ok (.bipush 10, 2) := by decide +kernel
theorem dX9_parts_42 : decode cX9_parts 42 = .ok (.invokestatic 31, 3) := by decide +kernel
theorem dX9_parts_45 : decode cX9_parts 45 = .ok (.ifCond .eq 22, 3) := by decide +kernel
theorem dX9_parts_48 : decode cX9_parts 48 = .ok (.aload_n 0, 1) := by decide +kernel
theorem dX9_parts_49 : decode cX9_parts 49 = .ok (.getfield 11, 3) := by decide +kernel
theorem dX9_parts_52 : decode cX9_parts 52 = .ok (.iload 7, 2) := by decide +kernel
theorem dX9_parts_54 : decode cX9_parts 54 = .ok (.iaload, 1) := by decide +kernel
theorem dX9_parts_55 : decode cX9_parts 55 = .ok (.iload_n 3, 1) := by decide +kernel
theorem dX9_parts_56 : decode cX9_parts 56 = .ok (.iconst (-1), 1) := by decide +kernel
theorem dX9_parts_57 : decode cX9_parts 57 = .ok (.ixor, 1) := by decide +kernel
theorem dX9_parts_58 : decode cX9_parts 58 = .ok (.iand, 1) := by decide +kernel
theorem dX9_parts_59 : decode cX9_parts 59 = .ok (.iload 4, 2) := by decide +kernel
theorem dX9_parts_61 : decode cX9_parts 61 = .ok (.iconst (-1), 1) := by decide +kernel
theorem dX9_parts_62 : decode cX9_parts 62 = .ok (.ixor, 1) := by decide +kernel
theorem dX9_parts_63 : decode cX9_parts 63 = .ok (.iand, 1) := by decide +kernel
theorem dX9_parts_64 : decode cX9_parts 64 = .ok (.goto 4, 3) := by decide +kernel
theorem dX9_parts_67 : decode cX9_parts 67 = .ok (.iconst 0, 1) := by decide +kernel
theorem dX9_parts_68 : decode cX9_parts 68 = .ok (.istore 8, 2) := by decide +kernel
theorem dX9_parts_70 : decode cX9_parts 70 = .ok (.iload 4, 2) := by decide +kernel
theorem dX9_parts_72 : decode cX9_parts 72 = .ok (.iload 8, 2) := by decide +kernel
theorem dX9_parts_74 : decode cX9_parts 74 = .ok (.ior, 1) := by decide +kernel
theorem dX9_parts_75 : decode cX9_parts 75 = .ok (.istore 4, 2) := by decide +kernel
theorem dX9_parts_77 : decode cX9_parts 77 = .ok (.iload 5, 2) := by decide +kernel
theorem dX9_parts_79 : decode cX9_parts 79 = .ok (.iload 5, 2) := by decide +kernel
theorem dX9_parts_81 : decode cX9_parts 81 = .ok (.iconst 1, 1) := by decide +kernel
theorem dX9_parts_82 : decode cX9_parts 82 = .ok (.isub, 1) := by decide +kernel
theorem dX9_parts_83 : decode cX9_parts 83 = .ok (.iand, 1) := by decide +kernel
theorem dX9_parts_84 : decode cX9_parts 84 = .ok (.iload 8, 2) := by decide +kernel
theorem dX9_parts_86 : decode cX9_parts 86 = .ok (.ior, 1) := by decide +kernel
theorem dX9_parts_87 : decode cX9_parts 87 = .ok (.istore 5, 2) := by decide +kernel
theorem dX9_parts_89 : decode cX9_parts 89 = .ok (.iinc 6 1, 3) := by decide +kernel
theorem dX9_parts_92 : decode cX9_parts 92 = .ok (.goto (-80), 3) := by decide +kernel
theorem dX9_parts_95 : decode cX9_parts 95 = .ok (.iload 4, 2) := by decide +kernel
theorem dX9_parts_97 : decode cX9_parts 97 = .ok (.iload_n 2, 1) := by decide +kernel
theorem dX9_parts_98 : decode cX9_parts 98 = .ok (.invokestatic 35, 3) := by decide +kernel
theorem dX9_parts_101 : decode cX9_parts 101 = .ok (.ifCond .ne 7, 3) := by decide +kernel
theorem dX9_parts_104 : decode cX9_parts 104 = .ok (.iconst 1, 1) := by decide +kernel
theorem dX9_parts_105 : decode cX9_parts 105 = .ok (.goto 4, 3) := by decide +kernel
theorem dX9_parts_108 : decode cX9_parts 108 = .ok (.iconst 0, 1) := by decide +kernel
theorem dX9_parts_109 : decode cX9_parts 109 = .ok (.ireturn, 1) := by decide +kernel
theorem dX10_isNumber_0 : decode cX10_isNumber 0 = .ok (.iload_n 0, 1) := by decide +kernel
theorem dX10_isNumber_1 : decode cX10_isNumber 1 = .ok (.sipush 10000, 3) := by decide +kernel
theorem dX10_isNumber_4 : decode cX10_isNumber 4 = .ok (.if_icmp .ge 7, 3) := by decide +kernel
theorem dX10_isNumber_7 : decode cX10_isNumber 7 = .ok (.iconst 1, 1) := by decide +kernel
theorem dX10_isNumber_8 : decode cX10_isNumber 8 = .ok (.goto 4, 3) := by decide +kernel
theorem dX10_isNumber_11 : decode cX10_isNumber 11 = .ok (.iconst 0, 1) := by decide +kernel
theorem dX10_isNumber_12 : decode cX10_isNumber 12 = .ok (.ireturn, 1) := by decide +kernel
theorem dX10_isName_0 : decode cX10_isName 0 = .ok (.iload_n 0, 1) := by decide +kernel
theorem dX10_isName_1 : decode cX10_isName 1 = .ok (.sipush 10007, 3) := by decide +kernel
theorem dX10_isName_4 : decode cX10_isName 4 = .ok (.if_icmp .lt 14, 3) := by decide +kernel
theorem dX10_isName_7 : decode cX10_isName 7 = .ok (.iload_n 0, 1) := by decide +kernel
theorem dX10_isName_8 : decode cX10_isName 8 = .ok (.sipush 10018, 3) := by decide +kernel
theorem dX10_isName_11 : decode cX10_isName 11 = .ok (.if_icmp .ge 7, 3) := by decide +kernel
theorem dX10_isName_14 : decode cX10_isName 14 = .ok (.iconst 1, 1) := by decide +kernel
theorem dX10_isName_15 : decode cX10_isName 15 = .ok (.goto 4, 3) := by decide +kernel
theorem dX10_isName_18 : decode cX10_isName 18 = .ok (.iconst 0, 1) := by decide +kernel
theorem dX10_isName_19 : decode cX10_isName 19 = .ok (.ireturn, 1) := by decide +kernel
theorem dX10_compares_0 : decode cX10_compares 0 = .ok (.iload_n 0, 1) := by decide +kernel
theorem dX10_compares_1 : decode cX10_compares 1 = .ok (.sipush 20060, 3) := by decide +kernel
theorem dX10_compares_4 : decode cX10_compares 4 = .ok (.if_icmp .eq 17, 3) := by decide +kernel
theorem dX10_compares_7 : decode cX10_compares 7 = .ok (.iload_n 0, 1) := by decide +kernel
theorem dX10_compares_8 : decode cX10_compares 8 = .ok (.sipush 20061, 3) := by decide +kernel
theorem dX10_compares_11 : decode cX10_compares 11 = .ok (.if_icmp .eq 10, 3) := by decide +kernel
theorem dX10_compares_14 : decode cX10_compares 14 = .ok (.iload_n 0, 1) := by decide +kernel
theorem dX10_compares_15 : decode cX10_compares 15 = .ok (.sipush 20062, 3) := by decide +kernel
theorem dX10_compares_18 : decode cX10_compares 18 = .ok (.if_icmp .ne 7, 3) := by decide +kernel
theorem dX10_compares_21 : decode cX10_compares 21 = .ok (.iconst 1, 1) := by decide +kernel
theorem dX10_compares_22 : decode cX10_compares 22 = .ok (.goto 4, 3) := by decide +kernel
theorem dX10_compares_25 : decode cX10_compares 25 = .ok (.iconst 0, 1) := by decide +kernel
theorem dX10_compares_26 : decode cX10_compares 26 = .ok (.ireturn, 1) := by decide +kernel
theorem dX10_ofSign_0 : decode cX10_ofSign 0 = .ok (.iload_n 0, 1) := by decide +kernel
theorem dX10_ofSign_1 : decode cX10_ofSign 1 = .ok (.tableswitch 113 40 62 #[107, 107, 107, 107, 113, 107, 113, 107, 113, 113, 113, 113, 113, 113, 113, 113, 113, 113, 113, 107, 107, 107, 107], 107) := by decide +kernel
theorem dX10_ofSign_108 : decode cX10_ofSign 108 = .ok (.sipush 20000, 3) := by decide +kernel
theorem dX10_ofSign_111 : decode cX10_ofSign 111 = .ok (.iload_n 0, 1) := by decide +kernel
theorem dX10_ofSign_112 : decode cX10_ofSign 112 = .ok (.iadd, 1) := by decide +kernel
theorem dX10_ofSign_113 : decode cX10_ofSign 113 = .ok (.ireturn, 1) := by decide +kernel
theorem dX10_ofSign_114 : decode cX10_ofSign 114 = .ok (.sipush 30001, 3) := by decide +kernel
theorem dX10_ofSign_117 : decode cX10_ofSign 117 = .ok (.ireturn, 1) := by decide +kernel
theorem dX11_init_0 : decode cX11_init 0 = .ok (.aload_n 0, 1) := by decide +kernel
theorem dX11_init_1 : decode cX11_init 1 = .ok (.invokespecial 3, 3) := by decide +kernel
theorem dX11_init_4 : decode cX11_init 4 = .ok (.aload_n 0, 1) := by decide +kernel
theorem dX11_init_5 : decode cX11_init 5 = .ok (.new 9, 3) := by decide +kernel
theorem dX11_init_8 : decode cX11_init 8 = .ok (.dup, 1) := by decide +kernel
theorem dX11_init_9 : decode cX11_init 9 = .ok (.invokespecial 11, 3) := by decide +kernel
theorem dX11_init_12 : decode cX11_init 12 = .ok (.putfield 12, 3) := by decide +kernel
theorem dX11_init_15 : decode cX11_init 15 = .ok (.aload_n 0, 1) := by decide +kernel
theorem dX11_init_16 : decode cX11_init 16 = .ok (.new 16, 3) := by decide +kernel
theorem dX11_init_19 : decode cX11_init 19 = .ok (.dup, 1) := by decide +kernel
theorem dX11_init_20 : decode cX11_init 20 = .ok (.invokespecial 18, 3) := by decide +kernel
theorem dX11_init_23 : decode cX11_init 23 = .ok (.putfield 19, 3) := by decide +kernel
theorem dX11_init_26 : decode cX11_init 26 = .ok (.aload_n 0, 1) := by decide +kernel
theorem dX11_init_27 : decode cX11_init 27 = .ok (.new 23, 3) := by decide +kernel
theorem dX11_init_30 : decode cX11_init 30 = .ok (.dup, 1) := by decide +kernel
theorem dX11_init_31 : decode cX11_init 31 = .ok (.invokespecial 25, 3) := by decide +kernel
theorem dX11_init_34 : decode cX11_init 34 = .ok (.putfield 26, 3) := by decide +kernel
theorem dX11_init_37 : decode cX11_init 37 = .ok (.aload_n 0, 1) := by decide +kernel
theorem dX11_init_38 : decode cX11_init 38 = .ok (.new 30, 3) := by decide +kernel
theorem dX11_init_41 : decode cX11_init 41 = .ok (.dup, 1) := by decide +kernel
theorem dX11_init_42 : decode cX11_init 42 = .ok (.aload_n 0, 1) := by decide +kernel
theorem dX11_init_43 : decode cX11_init 43 = .ok (.getfield 12, 3) := by decide +kernel
theorem dX11_init_46 : decode cX11_init 46 = .ok (.invokespecial 32, 3) := by decide +kernel
theorem dX11_init_49 : decode cX11_init 49 = .ok (.putfield 35, 3) := by decide +kernel
theorem dX11_init_52 : decode cX11_init 52 = .ok (.aload_n 0, 1) := by decide +kernel
theorem dX11_init_53 : decode cX11_init 53 = .ok (.new 39, 3) := by decide +kernel
theorem dX11_init_56 : decode cX11_init 56 = .ok (.dup, 1) := by decide +kernel
theorem dX11_init_57 : decode cX11_init 57 = .ok (.invokespecial 41, 3) := by decide +kernel
theorem dX11_init_60 : decode cX11_init 60 = .ok (.putfield 42, 3) := by decide +kernel
theorem dX11_init_63 : decode cX11_init 63 = .ok (.aload_n 0, 1) := by decide +kernel
theorem dX11_init_64 : decode cX11_init 64 = .ok (.new 46, 3) := by decide +kernel
theorem dX11_init_67 : decode cX11_init 67 = .ok (.dup, 1) := by decide +kernel
theorem dX11_init_68 : decode cX11_init 68 = .ok (.invokespecial 48, 3) := by decide +kernel
theorem dX11_init_71 : decode cX11_init 71 = .ok (.putfield 49, 3) := by decide +kernel
theorem dX11_init_74 : decode cX11_init 74 = .ok (.aload_n 0, 1) := by decide +kernel
theorem dX11_init_75 : decode cX11_init 75 = .ok (.new 53, 3) := by decide +kernel
theorem dX11_init_78 : decode cX11_init 78 = .ok (.dup, 1) := by decide +kernel
theorem dX11_init_79 : decode cX11_init 79 = .ok (.invokespecial 55, 3) := by decide +kernel
theorem dX11_init_82 : decode cX11_init 82 = .ok (.putfield 56, 3) := by decide +kernel
theorem dX11_init_85 : decode cX11_init 85 = .ok (.aload_n 0, 1) := by decide +kernel
theorem dX11_init_86 : decode cX11_init 86 = .ok (.aconst_null, 1) := by decide +kernel
theorem dX11_init_87 : decode cX11_init 87 = .ok (.putfield 60, 3) := by decide +kernel
theorem dX11_init_90 : decode cX11_init 90 = .ok (.return_, 1) := by decide +kernel
theorem dX11_state_0 : decode cX11_state 0 = .ok (.aload_n 0, 1) := by decide +kernel
theorem dX11_state_1 : decode cX11_state 1 = .ok (.getfield 12, 3) := by decide +kernel
theorem dX11_state_4 : decode cX11_state 4 = .ok (.getfield 63, 3) := by decide +kernel
theorem dX11_state_7 : decode cX11_state 7 = .ok (.getfield 66, 3) := by decide +kernel
theorem dX11_state_10 : decode cX11_state 10 = .ok (.istore_n 2, 1) := by decide +kernel
theorem dX11_state_11 : decode cX11_state 11 = .ok (.aload_n 0, 1) := by decide +kernel
theorem dX11_state_12 : decode cX11_state 12 = .ok (.getfield 12, 3) := by decide +kernel
theorem dX11_state_15 : decode cX11_state 15 = .ok (.getfield 63, 3) := by decide +kernel
theorem dX11_state_18 : decode cX11_state 18 = .ok (.iload_n 1, 1) := by decide +kernel
theorem dX11_state_19 : decode cX11_state 19 = .ok (.putfield 66, 3) := by decide +kernel
theorem dX11_state_22 : decode cX11_state 22 = .ok (.aload_n 0, 1) := by decide +kernel
theorem dX11_state_23 : decode cX11_state 23 = .ok (.getfield 26, 3) := by decide +kernel
theorem dX11_state_26 : decode cX11_state 26 = .ok (.invokevirtual 70, 3) := by decide +kernel
theorem dX11_state_29 : decode cX11_state 29 = .ok (.iload_n 2, 1) := by decide +kernel
theorem dX11_state_30 : decode cX11_state 30 = .ok (.ireturn, 1) := by decide +kernel
theorem dX11_woman_0 : decode cX11_woman 0 = .ok (.iload_n 1, 1) := by decide +kernel
theorem dX11_woman_1 : decode cX11_woman 1 = .ok (.invokestatic 73, 3) := by decide +kernel
theorem dX11_woman_4 : decode cX11_woman 4 = .ok (.ifCond .eq 17, 3) := by decide +kernel
theorem dX11_woman_7 : decode cX11_woman 7 = .ok (.iload_n 2, 1) := by decide +kernel
theorem dX11_woman_8 : decode cX11_woman 8 = .ok (.invokestatic 73, 3) := by decide +kernel
theorem dX11_woman_11 : decode cX11_woman 11 = .ok (.ifCond .eq 10, 3) := by decide +kernel
theorem dX11_woman_14 : decode cX11_woman 14 = .ok (.iload_n 3, 1) := by decide +kernel
theorem dX11_woman_15 : decode cX11_woman 15 = .ok (.invokestatic 73, 3) := by decide +kernel
theorem dX11_woman_18 : decode cX11_woman 18 = .ok (.ifCond .ne 5, 3) := by decide +kernel
theorem dX11_woman_21 : decode cX11_woman 21 = .ok (.iconst (-1), 1) := by decide +kernel
theorem dX11_woman_22 : decode cX11_woman 22 = .ok (.ireturn, 1) := by decide +kernel
theorem dX11_woman_23 : decode cX11_woman 23 = .ok (.aload_n 0, 1) := by decide +kernel
theorem dX11_woman_24 : decode cX11_woman 24 = .ok (.getfield 12, 3) := by decide +kernel
theorem dX11_woman_27 : decode cX11_woman 27 = .ok (.iload_n 1, 1) := by decide +kernel
theorem dX11_woman_28 : decode cX11_woman 28 = .ok (.iload_n 2, 1) := by decide +kernel
theorem dX11_woman_29 : decode cX11_woman 29 = .ok (.iload_n 3, 1) := by decide +kernel
theorem dX11_woman_30 : decode cX11_woman 30 = .ok (.invokevirtual 77, 3) := by decide +kernel
theorem dX11_woman_33 : decode cX11_woman 33 = .ok (.istore 4, 2) := by decide +kernel
theorem dX11_woman_35 : decode cX11_woman 35 = .ok (.iload 4, 2) := by decide +kernel
theorem dX11_woman_37 : decode cX11_woman 37 = .ok (.iconst (-1), 1) := by decide +kernel
theorem dX11_woman_38 : decode cX11_woman 38 = .ok (.if_icmp .eq 10, 3) := by decide +kernel
theorem dX11_woman_41 : decode cX11_woman 41 = .ok (.aload_n 0, 1) := by decide +kernel
theorem dX11_woman_42 : decode cX11_woman 42 = .ok (.getfield 26, 3) := by decide +kernel
theorem dX11_woman_45 : decode cX11_woman 45 = .ok (.invokevirtual 70, 3) := by decide +kernel
theorem dX11_woman_48 : decode cX11_woman 48 = .ok (.iload 4, 2) := by decide +kernel
theorem dX11_woman_50 : decode cX11_woman 50 = .ok (.ireturn, 1) := by decide +kernel
theorem dX11_groom_0 : decode cX11_groom 0 = .ok (.iload_n 1, 1) := by decide +kernel
theorem dX11_groom_1 : decode cX11_groom 1 = .ok (.invokestatic 73, 3) := by decide +kernel
theorem dX11_groom_4 : decode cX11_groom 4 = .ok (.ifCond .eq 14, 3) := by decide +kernel
theorem dX11_groom_7 : decode cX11_groom 7 = .ok (.aload_n 0, 1) := by decide +kernel
theorem dX11_groom_8 : decode cX11_groom 8 = .ok (.getfield 12, 3) := by decide +kernel
theorem dX11_groom_11 : decode cX11_groom 11 = .ok (.iload_n 2, 1) := by decide +kernel
theorem dX11_groom_12 : decode cX11_groom 12 = .ok (.invokevirtual 81, 3) := by decide +kernel
theorem dX11_groom_15 : decode cX11_groom 15 = .ok (.ifCond .ne 5, 3) := by decide +kernel
theorem dX11_groom_18 : decode cX11_groom 18 = .ok (.iconst (-1), 1) := by decide +kernel
theorem dX11_groom_19 : decode cX11_groom 19 = .ok (.ireturn, 1) := by decide +kernel
theorem dX11_groom_20 : decode cX11_groom 20 = .ok (.aload_n 0, 1) := by decide +kernel
theorem dX11_groom_21 : decode cX11_groom 21 = .ok (.getfield 12, 3) := by decide +kernel
theorem dX11_groom_24 : decode cX11_groom 24 = .ok (.iload_n 1, 1) := by decide +kernel
theorem dX11_groom_25 : decode cX11_groom 25 = .ok (.iload_n 2, 1) := by decide +kernel
theorem dX11_groom_26 : decode cX11_groom 26 = .ok (.invokevirtual 84, 3) := by decide +kernel
theorem dX11_groom_29 : decode cX11_groom 29 = .ok (.istore_n 3, 1) := by decide +kernel
theorem dX11_groom_30 : decode cX11_groom 30 = .ok (.iload_n 3, 1) := by decide +kernel
theorem dX11_groom_31 : decode cX11_groom 31 = .ok (.iconst (-1), 1) := by decide +kernel
theorem dX11_groom_32 : decode cX11_groom 32 = .ok (.if_icmp .eq 10, 3) := by decide +kernel
theorem dX11_groom_35 : decode cX11_groom 35 = .ok (.aload_n 0, 1) := by decide +kernel
theorem dX11_groom_36 : decode cX11_groom 36 = .ok (.getfield 26, 3) := by decide +kernel
theorem dX11_groom_39 : decode cX11_groom 39 = .ok (.invokevirtual 70, 3) := by decide +kernel
theorem dX11_groom_42 : decode cX11_groom 42 = .ok (.iload_n 3, 1) := by decide +kernel
theorem dX11_groom_43 : decode cX11_groom 43 = .ok (.ireturn, 1) := by decide +kernel
theorem dX11_set_0 : decode cX11_set 0 = .ok (.aload_n 0, 1) := by decide +kernel
theorem dX11_set_1 : decode cX11_set 1 = .ok (.getfield 12, 3) := by decide +kernel
theorem dX11_set_4 : decode cX11_set 4 = .ok (.iload_n 1, 1) := by decide +kernel
theorem dX11_set_5 : decode cX11_set 5 = .ok (.iload_n 2, 1) := by decide +kernel
theorem dX11_set_6 : decode cX11_set 6 = .ok (.iload_n 3, 1) := by decide +kernel
theorem dX11_set_7 : decode cX11_set 7 = .ok (.invokevirtual 88, 3) := by decide +kernel
theorem dX11_set_10 : decode cX11_set 10 = .ok (.ifCond .ne 5, 3) := by decide +kernel
theorem dX11_set_13 : decode cX11_set 13 = .ok (.iconst 0, 1) := by decide +kernel
theorem dX11_set_14 : decode cX11_set 14 = .ok (.ireturn, 1) := by decide +kernel
theorem dX11_set_15 : decode cX11_set 15 = .ok (.aload_n 0, 1) := by decide +kernel
theorem dX11_set_16 : decode cX11_set 16 = .ok (.getfield 26, 3) := by decide +kernel
theorem dX11_set_19 : decode cX11_set 19 = .ok (.invokevirtual 70, 3) := by decide +kernel
theorem dX11_set_22 : decode cX11_set 22 = .ok (.iconst 1, 1) := by decide +kernel
theorem dX11_set_23 : decode cX11_set 23 = .ok (.ireturn, 1) := by decide +kernel
theorem dX11_wed_0 : decode cX11_wed 0 = .ok (.aload_n 0, 1) := by decide +kernel
theorem dX11_wed_1 : decode cX11_wed 1 = .ok (.getfield 12, 3) := by decide +kernel
theorem dX11_wed_4 : decode cX11_wed 4 = .ok (.iload_n 1, 1) := by decide +kernel
theorem dX11_wed_5 : decode cX11_wed 5 = .ok (.invokevirtual 92, 3) := by decide +kernel
theorem dX11_wed_8 : decode cX11_wed 8 = .ok (.ifCond .eq 39, 3) := by decide +kernel
theorem dX11_wed_11 : decode cX11_wed 11 = .ok (.aload_n 0, 1) := by decide +kernel
theorem dX11_wed_12 : decode cX11_wed 12 = .ok (.getfield 12, 3) := by decide +kernel
theorem dX11_wed_15 : decode cX11_wed 15 = .ok (.iload_n 2, 1) := by decide +kernel
theorem dX11_wed_16 : decode cX11_wed 16 = .ok (.iload_n 3, 1) := by decide +kernel
theorem dX11_wed_17 : decode cX11_wed 17 = .ok (.iload 4, 2) := by decide +kernel
theorem dX11_wed_19 : decode cX11_wed 19 = .ok (.invokevirtual 95, 3) := by decide +kernel
theorem dX11_wed_22 : decode cX11_wed 22 = .ok (.ifCond .eq 25, 3) := by decide +kernel
theorem dX11_wed_25 : decode cX11_wed 25 = .ok (.aload_n 0, 1) := by decide +kernel
theorem dX11_wed_26 : decode cX11_wed 26 = .ok (.getfield 35, 3) := by decide +kernel
theorem dX11_wed_29 : decode cX11_wed 29 = .ok (.aload_n 0, 1) := by decide +kernel
theorem dX11_wed_30 : decode cX11_wed 30 = .ok (.getfield 12, 3) := by decide +kernel
theorem dX11_wed_33 : decode cX11_wed 33 = .ok (.getfield 63, 3) := by decide +kernel
theorem dX11_wed_36 : decode cX11_wed 36 = .ok (.iload_n 1, 1) := by decide +kernel
theorem dX11_wed_37 : decode cX11_wed 37 = .ok (.iload_n 2, 1) := by decide +kernel
theorem dX11_wed_38 : decode cX11_wed 38 = .ok (.iload_n 3, 1) := by decide +kernel
theorem dX11_wed_39 : decode cX11_wed 39 = .ok (.iload 4, 2) := by decide +kernel
theorem dX11_wed_41 : decode cX11_wed 41 = .ok (.invokevirtual 98, 3) := by decide +kernel
theorem dX11_wed_44 : decode cX11_wed 44 = .ok (.ifCond .ne 5, 3) := by decide +kernel
theorem dX11_wed_47 : decode cX11_wed 47 = .ok (.iconst (-1), 1) := by decide +kernel
theorem dX11_wed_48 : decode cX11_wed 48 = .ok (.ireturn, 1) := by decide +kernel
theorem dX11_wed_49 : decode cX11_wed 49 = .ok (.aload_n 0, 1) := by decide +kernel
theorem dX11_wed_50 : decode cX11_wed 50 = .ok (.getfield 26, 3) := by decide +kernel
theorem dX11_wed_53 : decode cX11_wed 53 = .ok (.aload_n 0, 1) := by decide +kernel
theorem dX11_wed_54 : decode cX11_wed 54 = .ok (.getfield 12, 3) := by decide +kernel
theorem dX11_wed_57 : decode cX11_wed 57 = .ok (.invokevirtual 102, 3) := by decide +kernel
theorem dX11_wed_60 : decode cX11_wed 60 = .ok (.aload_n 0, 1) := by decide +kernel
theorem dX11_wed_61 : decode cX11_wed 61 = .ok (.getfield 35, 3) := by decide +kernel
theorem dX11_wed_64 : decode cX11_wed 64 = .ok (.aload_n 0, 1) := by decide +kernel
theorem dX11_wed_65 : decode cX11_wed 65 = .ok (.getfield 12, 3) := by decide +kernel
theorem dX11_wed_68 : decode cX11_wed 68 = .ok (.getfield 63, 3) := by decide +kernel
theorem dX11_wed_71 : decode cX11_wed 71 = .ok (.iload_n 1, 1) := by decide +kernel
theorem dX11_wed_72 : decode cX11_wed 72 = .ok (.iload_n 2, 1) := by decide +kernel
theorem dX11_wed_73 : decode cX11_wed 73 = .ok (.iload_n 3, 1) := by decide +kernel
theorem dX11_wed_74 : decode cX11_wed 74 = .ok (.iload 4, 2) := by decide +kernel
theorem dX11_wed_76 : decode cX11_wed 76 = .ok (.iconst 0, 1) := by decide +kernel
theorem dX11_wed_77 : decode cX11_wed 77 = .ok (.invokevirtual 105, 3) := by decide +kernel
theorem dX11_wed_80 : decode cX11_wed 80 = .ok (.ireturn, 1) := by decide +kernel
theorem dX11_part_0 : decode cX11_part 0 = .ok (.aload_n 0, 1) := by decide +kernel
theorem dX11_part_1 : decode cX11_part 1 = .ok (.getfield 12, 3) := by decide +kernel
theorem dX11_part_4 : decode cX11_part 4 = .ok (.iload_n 1, 1) := by decide +kernel
theorem dX11_part_5 : decode cX11_part 5 = .ok (.invokevirtual 92, 3) := by decide +kernel
theorem dX11_part_8 : decode cX11_part 8 = .ok (.ifCond .eq 19, 3) := by decide +kernel
theorem dX11_part_11 : decode cX11_part 11 = .ok (.aload_n 0, 1) := by decide +kernel
theorem dX11_part_12 : decode cX11_part 12 = .ok (.getfield 12, 3) := by decide +kernel
theorem dX11_part_15 : decode cX11_part 15 = .ok (.getfield 63, 3) := by decide +kernel
theorem dX11_part_18 : decode cX11_part 18 = .ok (.getfield 109, 3) := by decide +kernel
theorem dX11_part_21 : decode cX11_part 21 = .ok (.iload_n 1, 1) := by decide +kernel
theorem dX11_part_22 : decode cX11_part 22 = .ok (.iaload, 1) := by decide +kernel
theorem dX11_part_23 : decode cX11_part 23 = .ok (.iconst (-1), 1) := by decide +kernel
theorem dX11_part_24 : decode cX11_part 24 = .ok (.if_icmp .ne 5, 3) := by decide +kernel
theorem dX11_part_27 : decode cX11_part 27 = .ok (.iconst 0, 1) := by decide +kernel
theorem dX11_part_28 : decode cX11_part 28 = .ok (.ireturn, 1) := by decide +kernel
theorem dX11_part_29 : decode cX11_part 29 = .ok (.aload_n 0, 1) := by decide +kernel
theorem dX11_part_30 : decode cX11_part 30 = .ok (.getfield 26, 3) := by decide +kernel
theorem dX11_part_33 : decode cX11_part 33 = .ok (.aload_n 0, 1) := by decide +kernel
theorem dX11_part_34 : decode cX11_part 34 = .ok (.getfield 12, 3) := by decide +kernel
theorem dX11_part_37 : decode cX11_part 37 = .ok (.invokevirtual 102, 3) := by decide +kernel
theorem dX11_part_40 : decode cX11_part 40 = .ok (.aload_n 0, 1) := by decide +kernel
theorem dX11_part_41 : decode cX11_part 41 = .ok (.getfield 35, 3) := by decide +kernel
theorem dX11_part_44 : decode cX11_part 44 = .ok (.aload_n 0, 1) := by decide +kernel
theorem dX11_part_45 : decode cX11_part 45 = .ok (.getfield 12, 3) := by decide +kernel
theorem dX11_part_48 : decode cX11_part 48 = .ok (.getfield 63, 3) := by decide +kernel
theorem dX11_part_51 : decode cX11_part 51 = .ok (.iload_n 1, 1) := by decide +kernel
theorem dX11_part_52 : decode cX11_part 52 = .ok (.iconst 0, 1) := by decide +kernel
theorem dX11_part_53 : decode cX11_part 53 = .ok (.invokevirtual 113, 3) := by decide +kernel
theorem dX11_part_56 : decode cX11_part 56 = .ok (.iconst 1, 1) := by decide +kernel
theorem dX11_part_57 : decode cX11_part 57 = .ok (.ireturn, 1) := by decide +kernel
theorem dX11_cough_0 : decode cX11_cough 0 = .ok (.aload_n 0, 1) := by decide +kernel
theorem dX11_cough_1 : decode cX11_cough 1 = .ok (.getfield 12, 3) := by decide +kernel
theorem dX11_cough_4 : decode cX11_cough 4 = .ok (.iload_n 1, 1) := by decide +kernel
theorem dX11_cough_5 : decode cX11_cough 5 = .ok (.invokevirtual 81, 3) := by decide +kernel
theorem dX11_cough_8 : decode cX11_cough 8 = .ok (.ifCond .eq 18, 3) := by decide +kernel
theorem dX11_cough_11 : decode cX11_cough 11 = .ok (.aload_n 0, 1) := by decide +kernel
theorem dX11_cough_12 : decode cX11_cough 12 = .ok (.getfield 12, 3) := by decide +kernel
theorem dX11_cough_15 : decode cX11_cough 15 = .ok (.getfield 63, 3) := by decide +kernel
theorem dX11_cough_18 : decode cX11_cough 18 = .ok (.iload_n 1, 1) := by decide +kernel
theorem dX11_cough_19 : decode cX11_cough 19 = .ok (.invokevirtual 117, 3) := by decide +kernel
theorem dX11_cough_22 : decode cX11_cough 22 = .ok (.iload_n 2, 1) := by decide +kernel
theorem dX11_cough_23 : decode cX11_cough 23 = .ok (.if_icmp .ne 5, 3) := by decide +kernel
theorem dX11_cough_26 : decode cX11_cough 26 = .ok (.iconst 0, 1) := by decide +kernel
theorem dX11_cough_27 : decode cX11_cough 27 = .ok (.ireturn, 1) := by decide +kernel
theorem dX11_cough_28 : decode cX11_cough 28 = .ok (.aload_n 0, 1) := by decide +kernel
theorem dX11_cough_29 : decode cX11_cough 29 = .ok (.getfield 26, 3) := by decide +kernel
theorem dX11_cough_32 : decode cX11_cough 32 = .ok (.aload_n 0, 1) := by decide +kernel
theorem dX11_cough_33 : decode cX11_cough 33 = .ok (.getfield 12, 3) := by decide +kernel
theorem dX11_cough_36 : decode cX11_cough 36 = .ok (.invokevirtual 102, 3) := by decide +kernel
theorem dX11_cough_39 : decode cX11_cough 39 = .ok (.aload_n 0, 1) := by decide +kernel
theorem dX11_cough_40 : decode cX11_cough 40 = .ok (.getfield 12, 3) := by decide +kernel
theorem dX11_cough_43 : decode cX11_cough 43 = .ok (.getfield 63, 3) := by decide +kernel
theorem dX11_cough_46 : decode cX11_cough 46 = .ok (.dup, 1) := by decide +kernel
theorem dX11_cough_47 : decode cX11_cough 47 = .ok (.getfield 120, 3) := by decide +kernel
theorem dX11_cough_50 : decode cX11_cough 50 = .ok (.iconst 1, 1) := by decide +kernel
theorem dX11_cough_51 : decode cX11_cough 51 = .ok (.iload_n 1, 1) := by decide +kernel
theorem dX11_cough_52 : decode cX11_cough 52 = .ok (.ishl, 1) := by decide +kernel
theorem dX11_cough_53 : decode cX11_cough 53 = .ok (.ixor, 1) := by decide +kernel
theorem dX11_cough_54 : decode cX11_cough 54 = .ok (.putfield 120, 3) := by decide +kernel
theorem dX11_cough_57 : decode cX11_cough 57 = .ok (.iconst 1, 1) := by decide +kernel
theorem dX11_cough_58 : decode cX11_cough 58 = .ok (.ireturn, 1) := by decide +kernel
theorem dX11_years_0 : decode cX11_years 0 = .ok (.iload_n 1, 1) := by decide +kernel
theorem dX11_years_1 : decode cX11_years 1 = .ok (.iconst 1, 1) := by decide +kernel
theorem dX11_years_2 : decode cX11_years 2 = .ok (.if_icmp .lt 27, 3) := by decide +kernel
theorem dX11_years_5 : decode cX11_years 5 = .ok (.iload_n 1, 1) := by decide +kernel
theorem dX11_years_6 : decode cX11_years 6 = .ok (.bipush 60, 2) := by decide +kernel
theorem dX11_years_8 : decode cX11_years 8 = .ok (.if_icmp .gt 21, 3) := by decide +kernel
theorem dX11_years_11 : decode cX11_years 11 = .ok (.aload_n 0, 1) := by decide +kernel
theorem dX11_years_12 : decode cX11_years 12 = .ok (.getfield 12, 3) := by decide +kernel
theorem dX11_years_15 : decode cX11_years 15 = .ok (.getfield 63, 3) := by decide +kernel
theorem dX11_years_18 : decode cX11_years 18 = .ok (.getfield 123, 3) := by decide +kernel
theorem dX11_years_21 : decode cX11_years 21 = .ok (.iload_n 1, 1) := by decide +kernel
theorem dX11_years_22 : decode cX11_years 22 = .ok (.iadd, 1) := by decide +kernel
theorem dX11_years_23 : decode cX11_years 23 = .ok (.sipush 9999, 3) := by decide +kernel
theorem dX11_years_26 : decode cX11_years 26 = .ok (.if_icmp .le 5, 3) := by decide +kernel
theorem dX11_years_29 : decode cX11_years 29 = .ok (.iconst (-1), 1) := by decide +kernel
theorem dX11_years_30 : decode cX11_years 30 = .ok (.ireturn, 1) := by decide +kernel
theorem dX11_years_31 : decode cX11_years 31 = .ok (.iconst 0, 1) := by decide +kernel
theorem dX11_years_32 : decode cX11_years 32 = .ok (.istore_n 2, 1) := by decide +kernel
theorem dX11_years_33 : decode cX11_years 33 = .ok (.iconst 0, 1) := by decide +kernel
theorem dX11_years_34 : decode cX11_years 34 = .ok (.istore_n 3, 1) := by decide +kernel
theorem dX11_years_35 : decode cX11_years 35 = .ok (.iload_n 3, 1) := by decide +kernel
theorem dX11_years_36 : decode cX11_years 36 = .ok (.iload_n 1, 1) := by decide +kernel
theorem dX11_years_37 : decode cX11_years 37 = .ok (.if_icmp .ge 38, 3) := by decide +kernel
theorem dX11_years_40 : decode cX11_years 40 = .ok (.aload_n 0, 1) := by decide +kernel
theorem dX11_years_41 : decode cX11_years 41 = .ok (.getfield 26, 3) := by decide +kernel
theorem dX11_years_44 : decode cX11_years 44 = .ok (.aload_n 0, 1) := by decide +kernel
theorem dX11_years_45 : decode cX11_years 45 = .ok (.getfield 12, 3) := by decide +kernel
theorem dX11_years_48 : decode cX11_years 48 = .ok (.invokevirtual 102, 3) := by decide +kernel
theorem dX11_years_51 : decode cX11_years 51 = .ok (.iload_n 2, 1) := by decide +kernel
theorem dX11_years_52 : decode cX11_years 52 = .ok (.aload_n 0, 1) := by decide +kernel
theorem dX11_years_53 : decode cX11_years 53 = .ok (.getfield 35, 3) := by decide +kernel
theorem dX11_years_56 : decode cX11_years 56 = .ok (.aload_n 0, 1) := by decide +kernel
theorem dX11_years_57 : decode cX11_years 57 = .ok (.getfield 12, 3) := by decide +kernel
theorem dX11_years_60 : decode cX11_years 60 = .ok (.getfield 63, 3) := by decide +kernel
theorem dX11_years_63 : decode cX11_years 63 = .ok (.iconst 0, 1) := by decide +kernel
theorem dX11_years_64 : decode cX11_years 64 = .ok (.invokevirtual 126, 3) := by decide +kernel
theorem dX11_years_67 : decode cX11_years 67 = .ok (.iadd, 1) := by decide +kernel
theorem dX11_years_68 : decode cX11_years 68 = .ok (.istore_n 2, 1) := by decide +kernel
theorem dX11_years_69 : decode cX11_years 69 = .ok (.iinc 3 1, 3) := by decide +kernel
theorem dX11_years_72 : decode cX11_years 72 = .ok (.goto (-37), 3) := by decide +kernel
theorem dX11_years_75 : decode cX11_years 75 = .ok (.iload_n 2, 1) := by decide +kernel
theorem dX11_years_76 : decode cX11_years 76 = .ok (.ireturn, 1) := by decide +kernel
theorem dX11_feed_0 : decode cX11_feed 0 = .ok (.aload_n 0, 1) := by decide +kernel
theorem dX11_feed_1 : decode cX11_feed 1 = .ok (.getfield 19, 3) := by decide +kernel
theorem dX11_feed_4 : decode cX11_feed 4 = .ok (.bipush 20, 2) := by decide +kernel
theorem dX11_feed_6 : decode cX11_feed 6 = .ok (.invokevirtual 130, 3) := by decide +kernel
theorem dX11_feed_9 : decode cX11_feed 9 = .ok (.ifCond .ne 5, 3) := by decide +kernel
theorem dX11_feed_12 : decode cX11_feed 12 = .ok (.iconst (-1), 1) := by decide +kernel
theorem dX11_feed_13 : decode cX11_feed 13 = .ok (.ireturn, 1) := by decide +kernel
theorem dX11_feed_14 : decode cX11_feed 14 = .ok (.aload_n 0, 1) := by decide +kernel
theorem dX11_feed_15 : decode cX11_feed 15 = .ok (.getfield 19, 3) := by decide +kernel
theorem dX11_feed_18 : decode cX11_feed 18 = .ok (.iload_n 1, 1) := by decide +kernel
theorem dX11_feed_19 : decode cX11_feed 19 = .ok (.invokevirtual 133, 3) := by decide +kernel
theorem dX11_feed_22 : decode cX11_feed 22 = .ok (.aload_n 0, 1) := by decide +kernel
theorem dX11_feed_23 : decode cX11_feed 23 = .ok (.getfield 19, 3) := by decide +kernel
theorem dX11_feed_26 : decode cX11_feed 26 = .ok (.iload_n 2, 1) := by decide +kernel
theorem dX11_feed_27 : decode cX11_feed 27 = .ok (.invokevirtual 133, 3) := by decide +kernel
theorem dX11_feed_30 : decode cX11_feed 30 = .ok (.aload_n 0, 1) := by decide +kernel
theorem dX11_feed_31 : decode cX11_feed 31 = .ok (.getfield 19, 3) := by decide +kernel
theorem dX11_feed_34 : decode cX11_feed 34 = .ok (.iload_n 3, 1) := by decide +kernel
theorem dX11_feed_35 : decode cX11_feed 35 = .ok (.invokevirtual 133, 3) := by decide +kernel
theorem dX11_feed_38 : decode cX11_feed 38 = .ok (.aload_n 0, 1) := by decide +kernel
theorem dX11_feed_39 : decode cX11_feed 39 = .ok (.getfield 19, 3) := by decide +kernel
theorem dX11_feed_42 : decode cX11_feed 42 = .ok (.iload 4, 2) := by decide +kernel
theorem dX11_feed_44 : decode cX11_feed 44 = .ok (.invokevirtual 133, 3) := by decide +kernel
theorem dX11_feed_47 : decode cX11_feed 47 = .ok (.aload_n 0, 1) := by decide +kernel
theorem dX11_feed_48 : decode cX11_feed 48 = .ok (.getfield 19, 3) := by decide +kernel
theorem dX11_feed_51 : decode cX11_feed 51 = .ok (.iload 5, 2) := by decide +kernel
theorem dX11_feed_53 : decode cX11_feed 53 = .ok (.invokevirtual 133, 3) := by decide +kernel
theorem dX11_feed_56 : decode cX11_feed 56 = .ok (.aload_n 0, 1) := by decide +kernel
theorem dX11_feed_57 : decode cX11_feed 57 = .ok (.getfield 19, 3) := by decide +kernel
theorem dX11_feed_60 : decode cX11_feed 60 = .ok (.getfield 137, 3) := by decide +kernel
theorem dX11_feed_63 : decode cX11_feed 63 = .ok (.ireturn, 1) := by decide +kernel
theorem dX11_end_0 : decode cX11_end 0 = .ok (.iload_n 1, 1) := by decide +kernel
theorem dX11_end_1 : decode cX11_end 1 = .ok (.ifCond .lt 14, 3) := by decide +kernel
theorem dX11_end_4 : decode cX11_end 4 = .ok (.iload_n 1, 1) := by decide +kernel
theorem dX11_end_5 : decode cX11_end 5 = .ok (.aload_n 0, 1) := by decide +kernel
theorem dX11_end_6 : decode cX11_end 6 = .ok (.getfield 19, 3) := by decide +kernel
theorem dX11_end_9 : decode cX11_end 9 = .ok (.getfield 137, 3) := by decide +kernel
theorem dX11_end_12 : decode cX11_end 12 = .ok (.if_icmp .le 5, 3) := by decide +kernel
theorem dX11_end_15 : decode cX11_end 15 = .ok (.iconst 0, 1) := by decide +kernel
theorem dX11_end_16 : decode cX11_end 16 = .ok (.ireturn, 1) := by decide +kernel
theorem dX11_end_17 : decode cX11_end 17 = .ok (.aload_n 0, 1) := by decide +kernel
theorem dX11_end_18 : decode cX11_end 18 = .ok (.getfield 19, 3) := by decide +kernel
theorem dX11_end_21 : decode cX11_end 21 = .ok (.iload_n 1, 1) := by decide +kernel
theorem dX11_end_22 : decode cX11_end 22 = .ok (.putfield 137, 3) := by decide +kernel
theorem dX11_end_25 : decode cX11_end 25 = .ok (.iconst 1, 1) := by decide +kernel
theorem dX11_end_26 : decode cX11_end 26 = .ok (.ireturn, 1) := by decide +kernel
theorem dX11_text_0 : decode cX11_text 0 = .ok (.aload_n 0, 1) := by decide +kernel
theorem dX11_text_1 : decode cX11_text 1 = .ok (.getfield 19, 3) := by decide +kernel
theorem dX11_text_4 : decode cX11_text 4 = .ok (.iload_n 1, 1) := by decide +kernel
theorem dX11_text_5 : decode cX11_text 5 = .ok (.aload_n 0, 1) := by decide +kernel
theorem dX11_text_6 : decode cX11_text 6 = .ok (.getfield 12, 3) := by decide +kernel
theorem dX11_text_9 : decode cX11_text 9 = .ok (.getfield 140, 3) := by decide +kernel
theorem dX11_text_12 : decode cX11_text 12 = .ok (.aload_n 0, 1) := by decide +kernel
theorem dX11_text_13 : decode cX11_text 13 = .ok (.getfield 12, 3) := by decide +kernel
theorem dX11_text_16 : decode cX11_text 16 = .ok (.getfield 143, 3) := by decide +kernel
theorem dX11_text_19 : decode cX11_text 19 = .ok (.invokevirtual 146, 3) := by decide +kernel
theorem dX11_text_22 : decode cX11_text 22 = .ok (.istore_n 2, 1) := by decide +kernel
theorem dX11_text_23 : decode cX11_text 23 = .ok (.iload_n 2, 1) := by decide +kernel
theorem dX11_text_24 : decode cX11_text 24 = .ok (.iconst (-1), 1) := by decide +kernel
theorem dX11_text_25 : decode cX11_text 25 = .ok (.if_icmp .ne 5, 3) := by decide +kernel
theorem dX11_text_28 : decode cX11_text 28 = .ok (.iconst (-1), 1) := by decide +kernel
theorem dX11_text_29 : decode cX11_text 29 = .ok (.ireturn, 1) := by decide +kernel
theorem dX11_text_30 : decode cX11_text 30 = .ok (.iload_n 1, 1) := by decide +kernel
theorem dX11_text_31 : decode cX11_text 31 = .ok (.ifCond .ne 23, 3) := by decide +kernel
theorem dX11_text_34 : decode cX11_text 34 = .ok (.aload_n 0, 1) := by decide +kernel
theorem dX11_text_35 : decode cX11_text 35 = .ok (.getfield 12, 3) := by decide +kernel
theorem dX11_text_38 : decode cX11_text 38 = .ok (.getfield 149, 3) := by decide +kernel
theorem dX11_text_41 : decode cX11_text 41 = .ok (.aload_n 0, 1) := by decide +kernel
theorem dX11_text_42 : decode cX11_text 42 = .ok (.getfield 19, 3) := by decide +kernel
theorem dX11_text_45 : decode cX11_text 45 = .ok (.getfield 153, 3) := by decide +kernel
theorem dX11_text_48 : decode cX11_text 48 = .ok (.invokevirtual 154, 3) := by decide +kernel
theorem dX11_text_51 : decode cX11_text 51 = .ok (.goto 84, 3) := by decide +kernel
theorem dX11_text_54 : decode cX11_text 54 = .ok (.iload_n 1, 1) := by decide +kernel
theorem dX11_text_55 : decode cX11_text 55 = .ok (.iconst 1, 1) := by decide +kernel
theorem dX11_text_56 : decode cX11_text 56 = .ok (.if_icmp .ne 30, 3) := by decide +kernel
theorem dX11_text_59 : decode cX11_text 59 = .ok (.aload_n 0, 1) := by decide +kernel
theorem dX11_text_60 : decode cX11_text 60 = .ok (.getfield 12, 3) := by decide +kernel
theorem dX11_text_63 : decode cX11_text 63 = .ok (.getfield 160, 3) := by decide +kernel
theorem dX11_text_66 : decode cX11_text 66 = .ok (.aload_n 0, 1) := by decide +kernel
theorem dX11_text_67 : decode cX11_text 67 = .ok (.getfield 19, 3) := by decide +kernel
theorem dX11_text_70 : decode cX11_text 70 = .ok (.getfield 164, 3) := by decide +kernel
theorem dX11_text_73 : decode cX11_text 73 = .ok (.invokevirtual 167, 3) := by decide +kernel
theorem dX11_text_76 : decode cX11_text 76 = .ok (.aload_n 0, 1) := by decide +kernel
theorem dX11_text_77 : decode cX11_text 77 = .ok (.getfield 26, 3) := by decide +kernel
theorem dX11_text_80 : decode cX11_text 80 = .ok (.invokevirtual 70, 3) := by decide +kernel
theorem dX11_text_83 : decode cX11_text 83 = .ok (.goto 52, 3) := by decide +kernel
theorem dX11_text_86 : decode cX11_text 86 = .ok (.iload_n 1, 1) := by decide +kernel
theorem dX11_text_87 : decode cX11_text 87 = .ok (.iconst 2, 1) := by decide +kernel
theorem dX11_text_88 : decode cX11_text 88 = .ok (.if_icmp .ne 30, 3) := by decide +kernel
theorem dX11_text_91 : decode cX11_text 91 = .ok (.aload_n 0, 1) := by decide +kernel
theorem dX11_text_92 : decode cX11_text 92 = .ok (.getfield 12, 3) := by decide +kernel
theorem dX11_text_95 : decode cX11_text 95 = .ok (.getfield 172, 3) := by decide +kernel
theorem dX11_text_98 : decode cX11_text 98 = .ok (.aload_n 0, 1) := by decide +kernel
theorem dX11_text_99 : decode cX11_text 99 = .ok (.getfield 19, 3) := by decide +kernel
theorem dX11_text_102 : decode cX11_text 102 = .ok (.getfield 164, 3) := by decide +kernel
theorem dX11_text_105 : decode cX11_text 105 = .ok (.invokevirtual 167, 3) := by decide +kernel
theorem dX11_text_108 : decode cX11_text 108 = .ok (.aload_n 0, 1) := by decide +kernel
theorem dX11_text_109 : decode cX11_text 109 = .ok (.getfield 26, 3) := by decide +kernel
theorem dX11_text_112 : decode cX11_text 112 = .ok (.invokevirtual 70, 3) := by decide +kernel
theorem dX11_text_115 : decode cX11_text 115 = .ok (.goto 20, 3) := by decide +kernel
theorem dX11_text_118 : decode cX11_text 118 = .ok (.aload_n 0, 1) := by decide +kernel
theorem dX11_text_119 : decode cX11_text 119 = .ok (.getfield 12, 3) := by decide +kernel
theorem dX11_text_122 : decode cX11_text 122 = .ok (.getfield 175, 3) := by decide +kernel
theorem dX11_text_125 : decode cX11_text 125 = .ok (.aload_n 0, 1) := by decide +kernel
theorem dX11_text_126 : decode cX11_text 126 = .ok (.getfield 19, 3) := by decide +kernel
theorem dX11_text_129 : decode cX11_text 129 = .ok (.getfield 164, 3) := by decide +kernel
theorem dX11_text_132 : decode cX11_text 132 = .ok (.invokevirtual 167, 3) := by decide +kernel
theorem dX11_text_135 : decode cX11_text 135 = .ok (.iload_n 2, 1) := by decide +kernel
theorem dX11_text_136 : decode cX11_text 136 = .ok (.ireturn, 1) := by decide +kernel
theorem dX11_fault_0 : decode cX11_fault 0 = .ok (.iload_n 1, 1) := by decide +kernel
theorem dX11_fault_1 : decode cX11_fault 1 = .ok (.lookupswitch 43 #[(0, 27), (1, 35)], 27) := by decide +kernel
theorem dX11_fault_28 : decode cX11_fault 28 = .ok (.aload_n 0, 1) := by decide +kernel
theorem dX11_fault_29 : decode cX11_fault 29 = .ok (.getfield 19, 3) := by decide +kernel
theorem dX11_fault_32 : decode cX11_fault 32 = .ok (.getfield 178, 3) := by decide +kernel
theorem dX11_fault_35 : decode cX11_fault 35 = .ok (.ireturn, 1) := by decide +kernel
theorem dX11_fault_36 : decode cX11_fault 36 = .ok (.aload_n 0, 1) := by decide +kernel
theorem dX11_fault_37 : decode cX11_fault 37 = .ok (.getfield 19, 3) := by decide +kernel
theorem dX11_fault_40 : decode cX11_fault 40 = .ok (.getfield 181, 3) := by decide +kernel
theorem dX11_fault_43 : decode cX11_fault 43 = .ok (.ireturn, 1) := by decide +kernel
theorem dX11_fault_44 : decode cX11_fault 44 = .ok (.iconst (-1), 1) := by decide +kernel
theorem dX11_fault_45 : decode cX11_fault 45 = .ok (.ireturn, 1) := by decide +kernel
theorem dX11_of_0 : decode cX11_of 0 = .ok (.aload_n 0, 1) := by decide +kernel
theorem dX11_of_1 : decode cX11_of 1 = .ok (.getfield 12, 3) := by decide +kernel
theorem dX11_of_4 : decode cX11_of 4 = .ok (.iload_n 1, 1) := by decide +kernel
theorem dX11_of_5 : decode cX11_of 5 = .ok (.invokevirtual 81, 3) := by decide +kernel
theorem dX11_of_8 : decode cX11_of 8 = .ok (.ifCond .ne 6, 3) := by decide +kernel
theorem dX11_of_11 : decode cX11_of 11 = .ok (.bipush (-2), 2) := by decide +kernel
theorem dX11_of_13 : decode cX11_of 13 = .ok (.ireturn, 1) := by decide +kernel
theorem dX11_of_14 : decode cX11_of 14 = .ok (.iload_n 2, 1) := by decide +kernel
theorem dX11_of_15 : decode cX11_of 15 = .ok (.tableswitch 111 0 5 #[37, 47, 57, 67, 80, 91], 37) := by decide +kernel
theorem dX11_of_52 : decode cX11_of 52 = .ok (.aload_n 0, 1) := by decide +kernel
theorem dX11_of_53 : decode cX11_of 53 = .ok (.getfield 12, 3) := by decide +kernel
theorem dX11_of_56 : decode cX11_of 56 = .ok (.getfield 184, 3) := by decide +kernel
theorem dX11_of_59 : decode cX11_of 59 = .ok (.iload_n 1, 1) := by decide +kernel
theorem dX11_of_60 : decode cX11_of 60 = .ok (.iaload, 1) := by decide +kernel
theorem dX11_of_61 : decode cX11_of 61 = .ok (.ireturn, 1) := by decide +kernel
theorem dX11_of_62 : decode cX11_of 62 = .ok (.aload_n 0, 1) := by decide +kernel
theorem dX11_of_63 : decode cX11_of 63 = .ok (.getfield 12, 3) := by decide +kernel
theorem dX11_of_66 : decode cX11_of 66 = .ok (.getfield 187, 3) := by decide +kernel
theorem dX11_of_69 : decode cX11_of 69 = .ok (.iload_n 1, 1) := by decide +kernel
theorem dX11_of_70 : decode cX11_of 70 = .ok (.iaload, 1) := by decide +kernel
theorem dX11_of_71 : decode cX11_of 71 = .ok (.ireturn, 1) := by decide +kernel
theorem dX11_of_72 : decode cX11_of 72 = .ok (.aload_n 0, 1) := by decide +kernel
theorem dX11_of_73 : decode cX11_of 73 = .ok (.getfield 12, 3) := by decide +kernel
theorem dX11_of_76 : decode cX11_of 76 = .ok (.getfield 190, 3) := by decide +kernel
theorem dX11_of_79 : decode cX11_of 79 = .ok (.iload_n 1, 1) := by decide +kernel
theorem dX11_of_80 : decode cX11_of 80 = .ok (.iaload, 1) := by decide +kernel
theorem dX11_of_81 : decode cX11_of 81 = .ok (.ireturn, 1) := by decide +kernel
theorem dX11_of_82 : decode cX11_of 82 = .ok (.aload_n 0, 1) := by decide +kernel
theorem dX11_of_83 : decode cX11_of 83 = .ok (.getfield 12, 3) := by decide +kernel
theorem dX11_of_86 : decode cX11_of 86 = .ok (.getfield 63, 3) := by decide +kernel
theorem dX11_of_89 : decode cX11_of 89 = .ok (.getfield 193, 3) := by decide +kernel
theorem dX11_of_92 : decode cX11_of 92 = .ok (.iload_n 1, 1) := by decide +kernel
theorem dX11_of_93 : decode cX11_of 93 = .ok (.iaload, 1) := by decide +kernel
theorem dX11_of_94 : decode cX11_of 94 = .ok (.ireturn, 1) := by decide +kernel
theorem dX11_of_95 : decode cX11_of 95 = .ok (.aload_n 0, 1) := by decide +kernel
theorem dX11_of_96 : decode cX11_of 96 = .ok (.getfield 12, 3) := by decide +kernel
theorem dX11_of_99 : decode cX11_of 99 = .ok (.iconst 1, 1) := by decide +kernel
theorem dX11_of_100 : decode cX11_of 100 = .ok (.iload_n 1, 1) := by decide +kernel
theorem dX11_of_101 : decode cX11_of 101 = .ok (.ishl, 1) := by decide +kernel
theorem dX11_of_102 : decode cX11_of 102 = .ok (.invokevirtual 196, 3) := by decide +kernel
theorem dX11_of_105 : decode cX11_of 105 = .ok (.ireturn, 1) := by decide +kernel
theorem dX11_of_106 : decode cX11_of 106 = .ok (.aload_n 0, 1) := by decide +kernel
theorem dX11_of_107 : decode cX11_of 107 = .ok (.getfield 12, 3) := by decide +kernel
theorem dX11_of_110 : decode cX11_of 110 = .ok (.getfield 63, 3) := by decide +kernel
theorem dX11_of_113 : decode cX11_of 113 = .ok (.iload_n 1, 1) := by decide +kernel
theorem dX11_of_114 : decode cX11_of 114 = .ok (.invokevirtual 117, 3) := by decide +kernel
theorem dX11_of_117 : decode cX11_of 117 = .ok (.ifCond .eq 7, 3) := by decide +kernel
theorem dX11_of_120 : decode cX11_of 120 = .ok (.iconst 1, 1) := by decide +kernel
theorem dX11_of_121 : decode cX11_of 121 = .ok (.goto 4, 3) := by decide +kernel
theorem dX11_of_124 : decode cX11_of 124 = .ok (.iconst 0, 1) := by decide +kernel
theorem dX11_of_125 : decode cX11_of 125 = .ok (.ireturn, 1) := by decide +kernel
theorem dX11_of_126 : decode cX11_of 126 = .ok (.bipush (-2), 2) := by decide +kernel
theorem dX11_of_128 : decode cX11_of 128 = .ok (.ireturn, 1) := by decide +kernel
theorem dX11_who_0 : decode cX11_who 0 = .ok (.aload_n 0, 1) := by decide +kernel
theorem dX11_who_1 : decode cX11_who 1 = .ok (.getfield 12, 3) := by decide +kernel
theorem dX11_who_4 : decode cX11_who 4 = .ok (.iload_n 1, 1) := by decide +kernel
theorem dX11_who_5 : decode cX11_who 5 = .ok (.invokevirtual 92, 3) := by decide +kernel
theorem dX11_who_8 : decode cX11_who 8 = .ok (.ifCond .ne 6, 3) := by decide +kernel
theorem dX11_who_11 : decode cX11_who 11 = .ok (.bipush (-100), 2) := by decide +kernel
theorem dX11_who_13 : decode cX11_who 13 = .ok (.ireturn, 1) := by decide +kernel
theorem dX11_who_14 : decode cX11_who 14 = .ok (.iload_n 2, 1) := by decide +kernel
theorem dX11_who_15 : decode cX11_who 15 = .ok (.tableswitch 109 0 5 #[37, 47, 57, 70, 83, 96], 37) := by decide +kernel
theorem dX11_who_52 : decode cX11_who 52 = .ok (.aload_n 0, 1) := by decide +kernel
theorem dX11_who_53 : decode cX11_who 53 = .ok (.getfield 12, 3) := by decide +kernel
theorem dX11_who_56 : decode cX11_who 56 = .ok (.getfield 200, 3) := by decide +kernel
theorem dX11_who_59 : decode cX11_who 59 = .ok (.iload_n 1, 1) := by decide +kernel
theorem dX11_who_60 : decode cX11_who 60 = .ok (.iaload, 1) := by decide +kernel
theorem dX11_who_61 : decode cX11_who 61 = .ok (.ireturn, 1) := by decide +kernel
theorem dX11_who_62 : decode cX11_who 62 = .ok (.aload_n 0, 1) := by decide +kernel
theorem dX11_who_63 : decode cX11_who 63 = .ok (.getfield 12, 3) := by decide +kernel
theorem dX11_who_66 : decode cX11_who 66 = .ok (.getfield 203, 3) := by decide +kernel
theorem dX11_who_69 : decode cX11_who 69 = .ok (.iload_n 1, 1) := by decide +kernel
theorem dX11_who_70 : decode cX11_who 70 = .ok (.iaload, 1) := by decide +kernel
theorem dX11_who_71 : decode cX11_who 71 = .ok (.ireturn, 1) := by decide +kernel
theorem dX11_who_72 : decode cX11_who 72 = .ok (.aload_n 0, 1) := by decide +kernel
theorem dX11_who_73 : decode cX11_who 73 = .ok (.getfield 12, 3) := by decide +kernel
theorem dX11_who_76 : decode cX11_who 76 = .ok (.getfield 63, 3) := by decide +kernel
theorem dX11_who_79 : decode cX11_who 79 = .ok (.getfield 109, 3) := by decide +kernel
theorem dX11_who_82 : decode cX11_who 82 = .ok (.iload_n 1, 1) := by decide +kernel
theorem dX11_who_83 : decode cX11_who 83 = .ok (.iaload, 1) := by decide +kernel
theorem dX11_who_84 : decode cX11_who 84 = .ok (.ireturn, 1) := by decide +kernel
theorem dX11_who_85 : decode cX11_who 85 = .ok (.aload_n 0, 1) := by decide +kernel
theorem dX11_who_86 : decode cX11_who 86 = .ok (.getfield 12, 3) := by decide +kernel
theorem dX11_who_89 : decode cX11_who 89 = .ok (.getfield 63, 3) := by decide +kernel
theorem dX11_who_92 : decode cX11_who 92 = .ok (.getfield 206, 3) := by decide +kernel
theorem dX11_who_95 : decode cX11_who 95 = .ok (.iload_n 1, 1) := by decide +kernel
theorem dX11_who_96 : decode cX11_who 96 = .ok (.iaload, 1) := by decide +kernel
theorem dX11_who_97 : decode cX11_who 97 = .ok (.ireturn, 1) := by decide +kernel
theorem dX11_who_98 : decode cX11_who 98 = .ok (.aload_n 0, 1) := by decide +kernel
theorem dX11_who_99 : decode cX11_who 99 = .ok (.getfield 12, 3) := by decide +kernel
theorem dX11_who_102 : decode cX11_who 102 = .ok (.getfield 63, 3) := by decide +kernel
theorem dX11_who_105 : decode cX11_who 105 = .ok (.getfield 209, 3) := by decide +kernel
theorem dX11_who_108 : decode cX11_who 108 = .ok (.iload_n 1, 1) := by decide +kernel
theorem dX11_who_109 : decode cX11_who 109 = .ok (.iaload, 1) := by decide +kernel
theorem dX11_who_110 : decode cX11_who 110 = .ok (.ireturn, 1) := by decide +kernel
theorem dX11_who_111 : decode cX11_who 111 = .ok (.aload_n 0, 1) := by decide +kernel
theorem dX11_who_112 : decode cX11_who 112 = .ok (.getfield 12, 3) := by decide +kernel
theorem dX11_who_115 : decode cX11_who 115 = .ok (.getfield 63, 3) := by decide +kernel
theorem dX11_who_118 : decode cX11_who 118 = .ok (.getfield 212, 3) := by decide +kernel
theorem dX11_who_121 : decode cX11_who 121 = .ok (.iload_n 1, 1) := by decide +kernel
theorem dX11_who_122 : decode cX11_who 122 = .ok (.iaload, 1) := by decide +kernel
theorem dX11_who_123 : decode cX11_who 123 = .ok (.ireturn, 1) := by decide +kernel
theorem dX11_who_124 : decode cX11_who 124 = .ok (.iload_n 2, 1) := by decide +kernel
theorem dX11_who_125 : decode cX11_who 125 = .ok (.bipush 10, 2) := by decide +kernel
theorem dX11_who_127 : decode cX11_who 127 = .ok (.if_icmp .lt 17, 3) := by decide +kernel
theorem dX11_who_130 : decode cX11_who 130 = .ok (.aload_n 0, 1) := by decide +kernel
theorem dX11_who_131 : decode cX11_who 131 = .ok (.getfield 12, 3) := by decide +kernel
theorem dX11_who_134 : decode cX11_who 134 = .ok (.iload_n 2, 1) := by decide +kernel
theorem dX11_who_135 : decode cX11_who 135 = .ok (.bipush 10, 2) := by decide +kernel
theorem dX11_who_137 : decode cX11_who 137 = .ok (.isub, 1) := by decide +kernel
theorem dX11_who_138 : decode cX11_who 138 = .ok (.invokevirtual 81, 3) := by decide +kernel
theorem dX11_who_141 : decode cX11_who 141 = .ok (.ifCond .ne 6, 3) := by decide +kernel
theorem dX11_who_144 : decode cX11_who 144 = .ok (.bipush (-100), 2) := by decide +kernel
theorem dX11_who_146 : decode cX11_who 146 = .ok (.ireturn, 1) := by decide +kernel
theorem dX11_who_147 : decode cX11_who 147 = .ok (.aload_n 0, 1) := by decide +kernel
theorem dX11_who_148 : decode cX11_who 148 = .ok (.getfield 35, 3) := by decide +kernel
theorem dX11_who_151 : decode cX11_who 151 = .ok (.aload_n 0, 1) := by decide +kernel
theorem dX11_who_152 : decode cX11_who 152 = .ok (.getfield 12, 3) := by decide +kernel
theorem dX11_who_155 : decode cX11_who 155 = .ok (.getfield 63, 3) := by decide +kernel
theorem dX11_who_158 : decode cX11_who 158 = .ok (.iload_n 1, 1) := by decide +kernel
theorem dX11_who_159 : decode cX11_who 159 = .ok (.iload_n 2, 1) := by decide +kernel
theorem dX11_who_160 : decode cX11_who 160 = .ok (.bipush 10, 2) := by decide +kernel
theorem dX11_who_162 : decode cX11_who 162 = .ok (.isub, 1) := by decide +kernel
theorem dX11_who_163 : decode cX11_who 163 = .ok (.invokevirtual 215, 3) := by decide +kernel
theorem dX11_who_166 : decode cX11_who 166 = .ok (.aload_n 0, 1) := by decide +kernel
theorem dX11_who_167 : decode cX11_who 167 = .ok (.getfield 35, 3) := by decide +kernel
theorem dX11_who_170 : decode cX11_who 170 = .ok (.invokevirtual 219, 3) := by decide +kernel
theorem dX11_who_173 : decode cX11_who 173 = .ok (.ireturn, 1) := by decide +kernel
theorem dX11_yes_0 : decode cX11_yes 0 = .ok (.aload_n 0, 1) := by decide +kernel
theorem dX11_yes_1 : decode cX11_yes 1 = .ok (.iload_n 1, 1) := by decide +kernel
theorem dX11_yes_2 : decode cX11_yes 2 = .ok (.iload_n 2, 1) := by decide +kernel
theorem dX11_yes_3 : decode cX11_yes 3 = .ok (.iload_n 3, 1) := by decide +kernel
theorem dX11_yes_4 : decode cX11_yes 4 = .ok (.iload 4, 2) := by decide +kernel
theorem dX11_yes_6 : decode cX11_yes 6 = .ok (.invokevirtual 223, 3) := by decide +kernel
theorem dX11_yes_9 : decode cX11_yes 9 = .ok (.ifCond .ne 5, 3) := by decide +kernel
theorem dX11_yes_12 : decode cX11_yes 12 = .ok (.iconst (-1), 1) := by decide +kernel
theorem dX11_yes_13 : decode cX11_yes 13 = .ok (.ireturn, 1) := by decide +kernel
theorem dX11_yes_14 : decode cX11_yes 14 = .ok (.aload_n 0, 1) := by decide +kernel
theorem dX11_yes_15 : decode cX11_yes 15 = .ok (.getfield 35, 3) := by decide +kernel
theorem dX11_yes_18 : decode cX11_yes 18 = .ok (.aload_n 0, 1) := by decide +kernel
theorem dX11_yes_19 : decode cX11_yes 19 = .ok (.getfield 12, 3) := by decide +kernel
theorem dX11_yes_22 : decode cX11_yes 22 = .ok (.getfield 63, 3) := by decide +kernel
theorem dX11_yes_25 : decode cX11_yes 25 = .ok (.iload_n 1, 1) := by decide +kernel
theorem dX11_yes_26 : decode cX11_yes 26 = .ok (.iload_n 2, 1) := by decide +kernel
theorem dX11_yes_27 : decode cX11_yes 27 = .ok (.invokevirtual 215, 3) := by decide +kernel
theorem dX11_yes_30 : decode cX11_yes 30 = .ok (.aload_n 0, 1) := by decide +kernel
theorem dX11_yes_31 : decode cX11_yes 31 = .ok (.getfield 35, 3) := by decide +kernel
theorem dX11_yes_34 : decode cX11_yes 34 = .ok (.aload_n 0, 1) := by decide +kernel
theorem dX11_yes_35 : decode cX11_yes 35 = .ok (.getfield 12, 3) := by decide +kernel
theorem dX11_yes_38 : decode cX11_yes 38 = .ok (.getfield 160, 3) := by decide +kernel
theorem dX11_yes_41 : decode cX11_yes 41 = .ok (.iload_n 3, 1) := by decide +kernel
theorem dX11_yes_42 : decode cX11_yes 42 = .ok (.iconst 0, 1) := by decide +kernel
theorem dX11_yes_43 : decode cX11_yes 43 = .ok (.invokevirtual 227, 3) := by decide +kernel
theorem dX11_yes_46 : decode cX11_yes 46 = .ok (.iload 4, 2) := by decide +kernel
theorem dX11_yes_48 : decode cX11_yes 48 = .ok (.invokevirtual 230, 3) := by decide +kernel
theorem dX11_yes_51 : decode cX11_yes 51 = .ok (.ireturn, 1) := by decide +kernel
theorem dX11_counts_0 : decode cX11_counts 0 = .ok (.aload_n 0, 1) := by decide +kernel
theorem dX11_counts_1 : decode cX11_counts 1 = .ok (.iload_n 1, 1) := by decide +kernel
theorem dX11_counts_2 : decode cX11_counts 2 = .ok (.iload_n 2, 1) := by decide +kernel
theorem dX11_counts_3 : decode cX11_counts 3 = .ok (.iload_n 3, 1) := by decide +kernel
theorem dX11_counts_4 : decode cX11_counts 4 = .ok (.iload 4, 2) := by decide +kernel
theorem dX11_counts_6 : decode cX11_counts 6 = .ok (.invokevirtual 223, 3) := by decide +kernel
theorem dX11_counts_9 : decode cX11_counts 9 = .ok (.ifCond .ne 6, 3) := by decide +kernel
theorem dX11_counts_12 : decode cX11_counts 12 = .ok (.bipush (-100), 2) := by decide +kernel
theorem dX11_counts_14 : decode cX11_counts 14 = .ok (.ireturn, 1) := by decide +kernel
theorem dX11_counts_15 : decode cX11_counts 15 = .ok (.aload_n 0, 1) := by decide +kernel
theorem dX11_counts_16 : decode cX11_counts 16 = .ok (.getfield 35, 3) := by decide +kernel
theorem dX11_counts_19 : decode cX11_counts 19 = .ok (.aload_n 0, 1) := by decide +kernel
theorem dX11_counts_20 : decode cX11_counts 20 = .ok (.getfield 12, 3) := by decide +kernel
theorem dX11_counts_23 : decode cX11_counts 23 = .ok (.getfield 63, 3) := by decide +kernel
theorem dX11_counts_26 : decode cX11_counts 26 = .ok (.iload_n 1, 1) := by decide +kernel
theorem dX11_counts_27 : decode cX11_counts 27 = .ok (.iload_n 2, 1) := by decide +kernel
theorem dX11_counts_28 : decode cX11_counts 28 = .ok (.invokevirtual 215, 3) := by decide +kernel
theorem dX11_counts_31 : decode cX11_counts 31 = .ok (.aload_n 0, 1) := by decide +kernel
theorem dX11_counts_32 : decode cX11_counts 32 = .ok (.getfield 35, 3) := by decide +kernel
theorem dX11_counts_35 : decode cX11_counts 35 = .ok (.aload_n 0, 1) := by decide +kernel
theorem dX11_counts_36 : decode cX11_counts 36 = .ok (.getfield 12, 3) := by decide +kernel
theorem dX11_counts_39 : decode cX11_counts 39 = .ok (.getfield 160, 3) := by decide +kernel
theorem dX11_counts_42 : decode cX11_counts 42 = .ok (.iload_n 3, 1) := by decide +kernel
theorem dX11_counts_43 : decode cX11_counts 43 = .ok (.iconst 0, 1) := by decide +kernel
theorem dX11_counts_44 : decode cX11_counts 44 = .ok (.invokevirtual 227, 3) := by decide +kernel
theorem dX11_counts_47 : decode cX11_counts 47 = .ok (.iload 4, 2) := by decide +kernel
theorem dX11_counts_49 : decode cX11_counts 49 = .ok (.iload 5, 2) := by decide +kernel
theorem dX11_counts_51 : decode cX11_counts 51 = .ok (.invokevirtual 233, 3) := by decide +kernel
theorem dX11_counts_54 : decode cX11_counts 54 = .ok (.ireturn, 1) := by decide +kernel
theorem dX11_book_0 : decode cX11_book 0 = .ok (.iload_n 1, 1) := by decide +kernel
theorem dX11_book_1 : decode cX11_book 1 = .ok (.ifCond .lt 26, 3) := by decide +kernel
theorem dX11_book_4 : decode cX11_book 4 = .ok (.iload_n 1, 1) := by decide +kernel
theorem dX11_book_5 : decode cX11_book 5 = .ok (.aload_n 0, 1) := by decide +kernel
theorem dX11_book_6 : decode cX11_book 6 = .ok (.getfield 12, 3) := by decide +kernel
theorem dX11_book_9 : decode cX11_book 9 = .ok (.getfield 237, 3) := by decide +kernel
theorem dX11_book_12 : decode cX11_book 12 = .ok (.getfield 240, 3) := by decide +kernel
theorem dX11_book_15 : decode cX11_book 15 = .ok (.if_icmp .ge 12, 3) := by decide +kernel
theorem dX11_book_18 : decode cX11_book 18 = .ok (.iload_n 2, 1) := by decide +kernel
theorem dX11_book_19 : decode cX11_book 19 = .ok (.ifCond .lt 8, 3) := by decide +kernel
theorem dX11_book_22 : decode cX11_book 22 = .ok (.iload_n 2, 1) := by decide +kernel
theorem dX11_book_23 : decode cX11_book 23 = .ok (.iconst 3, 1) := by decide +kernel
theorem dX11_book_24 : decode cX11_book 24 = .ok (.if_icmp .le 7, 3) := by decide +kernel
theorem dX11_book_27 : decode cX11_book 27 = .ok (.sipush (-10000), 3) := by decide +kernel
theorem dX11_book_30 : decode cX11_book 30 = .ok (.ireturn, 1) := by decide +kernel
theorem dX11_book_31 : decode cX11_book 31 = .ok (.aload_n 0, 1) := by decide +kernel
theorem dX11_book_32 : decode cX11_book 32 = .ok (.getfield 12, 3) := by decide +kernel
theorem dX11_book_35 : decode cX11_book 35 = .ok (.getfield 237, 3) := by decide +kernel
theorem dX11_book_38 : decode cX11_book 38 = .ok (.iload_n 1, 1) := by decide +kernel
theorem dX11_book_39 : decode cX11_book 39 = .ok (.iload_n 2, 1) := by decide +kernel
theorem dX11_book_40 : decode cX11_book 40 = .ok (.invokevirtual 227, 3) := by decide +kernel
theorem dX11_book_43 : decode cX11_book 43 = .ok (.ireturn, 1) := by decide +kernel
theorem dX11_would_0 : decode cX11_would 0 = .ok (.aload_n 0, 1) := by decide +kernel
theorem dX11_would_1 : decode cX11_would 1 = .ok (.getfield 12, 3) := by decide +kernel
theorem dX11_would_4 : decode cX11_would 4 = .ok (.iload_n 1, 1) := by decide +kernel
theorem dX11_would_5 : decode cX11_would 5 = .ok (.invokevirtual 92, 3) := by decide +kernel
theorem dX11_would_8 : decode cX11_would 8 = .ok (.ifCond .eq 28, 3) := by decide +kernel
theorem dX11_would_11 : decode cX11_would 11 = .ok (.aload_n 0, 1) := by decide +kernel
theorem dX11_would_12 : decode cX11_would 12 = .ok (.getfield 12, 3) := by decide +kernel
theorem dX11_would_15 : decode cX11_would 15 = .ok (.iload_n 2, 1) := by decide +kernel
theorem dX11_would_16 : decode cX11_would 16 = .ok (.iload_n 3, 1) := by decide +kernel
theorem dX11_would_17 : decode cX11_would 17 = .ok (.iload 4, 2) := by decide +kernel
theorem dX11_would_19 : decode cX11_would 19 = .ok (.invokevirtual 95, 3) := by decide +kernel
theorem dX11_would_22 : decode cX11_would 22 = .ok (.ifCond .eq 14, 3) := by decide +kernel
theorem dX11_would_25 : decode cX11_would 25 = .ok (.iload 5, 2) := by decide +kernel
theorem dX11_would_27 : decode cX11_would 27 = .ok (.ifCond .lt 9, 3) := by decide +kernel
theorem dX11_would_30 : decode cX11_would 30 = .ok (.iload 5, 2) := by decide +kernel
theorem dX11_would_32 : decode cX11_would 32 = .ok (.iconst 1, 1) := by decide +kernel
theorem dX11_would_33 : decode cX11_would 33 = .ok (.if_icmp .le 7, 3) := by decide +kernel
theorem dX11_would_36 : decode cX11_would 36 = .ok (.sipush (-10000), 3) := by decide +kernel
theorem dX11_would_39 : decode cX11_would 39 = .ok (.ireturn, 1) := by decide +kernel
theorem dX11_would_40 : decode cX11_would 40 = .ok (.aload_n 0, 1) := by decide +kernel
theorem dX11_would_41 : decode cX11_would 41 = .ok (.getfield 35, 3) := by decide +kernel
theorem dX11_would_44 : decode cX11_would 44 = .ok (.iload_n 1, 1) := by decide +kernel
theorem dX11_would_45 : decode cX11_would 45 = .ok (.iload_n 2, 1) := by decide +kernel
theorem dX11_would_46 : decode cX11_would 46 = .ok (.iload_n 3, 1) := by decide +kernel
theorem dX11_would_47 : decode cX11_would 47 = .ok (.iload 4, 2) := by decide +kernel
theorem dX11_would_49 : decode cX11_would 49 = .ok (.iload 5, 2) := by decide +kernel
theorem dX11_would_51 : decode cX11_would 51 = .ok (.iconst 1, 1) := by decide +kernel
theorem dX11_would_52 : decode cX11_would 52 = .ok (.if_icmp .ne 7, 3) := by decide +kernel
theorem dX11_would_55 : decode cX11_would 55 = .ok (.iconst 1, 1) := by decide +kernel
theorem dX11_would_56 : decode cX11_would 56 = .ok (.goto 4, 3) := by decide +kernel
theorem dX11_would_59 : decode cX11_would 59 = .ok (.iconst 0, 1) := by decide +kernel
theorem dX11_would_60 : decode cX11_would 60 = .ok (.invokevirtual 243, 3) := by decide +kernel
theorem dX11_would_63 : decode cX11_would 63 = .ok (.ireturn, 1) := by decide +kernel
theorem dX11_goes_0 : decode cX11_goes 0 = .ok (.iload_n 1, 1) := by decide +kernel
theorem dX11_goes_1 : decode cX11_goes 1 = .ok (.iconst 1, 1) := by decide +kernel
theorem dX11_goes_2 : decode cX11_goes 2 = .ok (.if_icmp .lt 18, 3) := by decide +kernel
theorem dX11_goes_5 : decode cX11_goes 5 = .ok (.iload_n 1, 1) := by decide +kernel
theorem dX11_goes_6 : decode cX11_goes 6 = .ok (.bipush 60, 2) := by decide +kernel
theorem dX11_goes_8 : decode cX11_goes 8 = .ok (.if_icmp .gt 12, 3) := by decide +kernel
theorem dX11_goes_11 : decode cX11_goes 11 = .ok (.iload_n 2, 1) := by decide +kernel
theorem dX11_goes_12 : decode cX11_goes 12 = .ok (.ifCond .lt 8, 3) := by decide +kernel
theorem dX11_goes_15 : decode cX11_goes 15 = .ok (.iload_n 2, 1) := by decide +kernel
theorem dX11_goes_16 : decode cX11_goes 16 = .ok (.iconst 3, 1) := by decide +kernel
theorem dX11_goes_17 : decode cX11_goes 17 = .ok (.if_icmp .le 7, 3) := by decide +kernel
theorem dX11_goes_20 : decode cX11_goes 20 = .ok (.sipush (-10000), 3) := by decide +kernel
theorem dX11_goes_23 : decode cX11_goes 23 = .ok (.ireturn, 1) := by decide +kernel
theorem dX11_goes_24 : decode cX11_goes 24 = .ok (.aload_n 0, 1) := by decide +kernel
theorem dX11_goes_25 : decode cX11_goes 25 = .ok (.getfield 42, 3) := by decide +kernel
theorem dX11_goes_28 : decode cX11_goes 28 = .ok (.aload_n 0, 1) := by decide +kernel
theorem dX11_goes_29 : decode cX11_goes 29 = .ok (.getfield 12, 3) := by decide +kernel
theorem dX11_goes_32 : decode cX11_goes 32 = .ok (.getfield 63, 3) := by decide +kernel
theorem dX11_goes_35 : decode cX11_goes 35 = .ok (.invokevirtual 247, 3) := by decide +kernel
theorem dX11_goes_38 : decode cX11_goes 38 = .ok (.iconst 0, 1) := by decide +kernel
theorem dX11_goes_39 : decode cX11_goes 39 = .ok (.istore_n 3, 1) := by decide +kernel
theorem dX11_goes_40 : decode cX11_goes 40 = .ok (.iload_n 3, 1) := by decide +kernel
theorem dX11_goes_41 : decode cX11_goes 41 = .ok (.iload_n 1, 1) := by decide +kernel
theorem dX11_goes_42 : decode cX11_goes 42 = .ok (.if_icmp .ge 22, 3) := by decide +kernel
theorem dX11_goes_45 : decode cX11_goes 45 = .ok (.aload_n 0, 1) := by decide +kernel
theorem dX11_goes_46 : decode cX11_goes 46 = .ok (.getfield 35, 3) := by decide +kernel
theorem dX11_goes_49 : decode cX11_goes 49 = .ok (.aload_n 0, 1) := by decide +kernel
theorem dX11_goes_50 : decode cX11_goes 50 = .ok (.getfield 42, 3) := by decide +kernel
theorem dX11_goes_53 : decode cX11_goes 53 = .ok (.iconst 1, 1) := by decide +kernel
theorem dX11_goes_54 : decode cX11_goes 54 = .ok (.invokevirtual 126, 3) := by decide +kernel
theorem dX11_goes_57 : decode cX11_goes 57 = .ok (.pop, 1) := by decide +kernel
theorem dX11_goes_58 : decode cX11_goes 58 = .ok (.iinc 3 1, 3) := by decide +kernel
theorem dX11_goes_61 : decode cX11_goes 61 = .ok (.goto (-21), 3) := by decide +kernel
theorem dX11_goes_64 : decode cX11_goes 64 = .ok (.iload_n 2, 1) := by decide +kernel
theorem dX11_goes_65 : decode cX11_goes 65 = .ok (.tableswitch 57 0 2 #[27, 35, 46], 27) := by decide +kernel
theorem dX11_goes_92 : decode cX11_goes 92 = .ok (.aload_n 0, 1) := by decide +kernel
theorem dX11_goes_93 : decode cX11_goes 93 = .ok (.getfield 42, 3) := by decide +kernel
theorem dX11_goes_96 : decode cX11_goes 96 = .ok (.getfield 250, 3) := by decide +kernel
theorem dX11_goes_99 : decode cX11_goes 99 = .ok (.ireturn, 1) := by decide +kernel
theorem dX11_goes_100 : decode cX11_goes 100 = .ok (.aload_n 0, 1) := by decide +kernel
theorem dX11_goes_101 : decode cX11_goes 101 = .ok (.getfield 42, 3) := by decide +kernel
theorem dX11_goes_104 : decode cX11_goes 104 = .ok (.getfield 209, 3) := by decide +kernel
theorem dX11_goes_107 : decode cX11_goes 107 = .ok (.invokestatic 253, 3) := by decide +kernel
theorem dX11_goes_110 : decode cX11_goes 110 = .ok (.ireturn, 1) := by decide +kernel
theorem dX11_goes_111 : decode cX11_goes 111 = .ok (.aload_n 0, 1) := by decide +kernel
theorem dX11_goes_112 : decode cX11_goes 112 = .ok (.getfield 42, 3) := by decide +kernel
theorem dX11_goes_115 : decode cX11_goes 115 = .ok (.getfield 206, 3) := by decide +kernel
theorem dX11_goes_118 : decode cX11_goes 118 = .ok (.invokestatic 253, 3) := by decide +kernel
theorem dX11_goes_121 : decode cX11_goes 121 = .ok (.ireturn, 1) := by decide +kernel
theorem dX11_goes_122 : decode cX11_goes 122 = .ok (.aload_n 0, 1) := by decide +kernel
theorem dX11_goes_123 : decode cX11_goes 123 = .ok (.getfield 42, 3) := by decide +kernel
theorem dX11_goes_126 : decode cX11_goes 126 = .ok (.invokevirtual 257, 3) := by decide +kernel
theorem dX11_goes_129 : decode cX11_goes 129 = .ok (.ireturn, 1) := by decide +kernel
theorem dX11_tells_0 : decode cX11_tells 0 = .ok (.aload_n 0, 1) := by decide +kernel
theorem dX11_tells_1 : decode cX11_tells 1 = .ok (.getfield 12, 3) := by decide +kernel
theorem dX11_tells_4 : decode cX11_tells 4 = .ok (.iload_n 1, 1) := by decide +kernel
theorem dX11_tells_5 : decode cX11_tells 5 = .ok (.invokevirtual 92, 3) := by decide +kernel
theorem dX11_tells_8 : decode cX11_tells 8 = .ok (.ifCond .eq 28, 3) := by decide +kernel
theorem dX11_tells_11 : decode cX11_tells 11 = .ok (.aload_n 0, 1) := by decide +kernel
theorem dX11_tells_12 : decode cX11_tells 12 = .ok (.getfield 12, 3) := by decide +kernel
theorem dX11_tells_15 : decode cX11_tells 15 = .ok (.iload_n 2, 1) := by decide +kernel
theorem dX11_tells_16 : decode cX11_tells 16 = .ok (.iload_n 3, 1) := by decide +kernel
theorem dX11_tells_17 : decode cX11_tells 17 = .ok (.iload 4, 2) := by decide +kernel
theorem dX11_tells_19 : decode cX11_tells 19 = .ok (.invokevirtual 95, 3) := by decide +kernel
theorem dX11_tells_22 : decode cX11_tells 22 = .ok (.ifCond .eq 14, 3) := by decide +kernel
theorem dX11_tells_25 : decode cX11_tells 25 = .ok (.iload 5, 2) := by decide +kernel
theorem dX11_tells_27 : decode cX11_tells 27 = .ok (.ifCond .lt 9, 3) := by decide +kernel
theorem dX11_tells_30 : decode cX11_tells 30 = .ok (.iload 5, 2) := by decide +kernel
theorem dX11_tells_32 : decode cX11_tells 32 = .ok (.iconst 1, 1) := by decide +kernel
theorem dX11_tells_33 : decode cX11_tells 33 = .ok (.if_icmp .le 5, 3) := by decide +kernel
theorem dX11_tells_36 : decode cX11_tells 36 = .ok (.iconst (-1), 1) := by decide +kernel
theorem dX11_tells_37 : decode cX11_tells 37 = .ok (.ireturn, 1) := by decide +kernel
theorem dX11_tells_38 : decode cX11_tells 38 = .ok (.aload_n 0, 1) := by decide +kernel
theorem dX11_tells_39 : decode cX11_tells 39 = .ok (.getfield 35, 3) := by decide +kernel
theorem dX11_tells_42 : decode cX11_tells 42 = .ok (.iload_n 1, 1) := by decide +kernel
theorem dX11_tells_43 : decode cX11_tells 43 = .ok (.iload_n 2, 1) := by decide +kernel
theorem dX11_tells_44 : decode cX11_tells 44 = .ok (.iload_n 3, 1) := by decide +kernel
theorem dX11_tells_45 : decode cX11_tells 45 = .ok (.iload 4, 2) := by decide +kernel
theorem dX11_tells_47 : decode cX11_tells 47 = .ok (.iload 5, 2) := by decide +kernel
theorem dX11_tells_49 : decode cX11_tells 49 = .ok (.iconst 1, 1) := by decide +kernel
theorem dX11_tells_50 : decode cX11_tells 50 = .ok (.if_icmp .ne 7, 3) := by decide +kernel
theorem dX11_tells_53 : decode cX11_tells 53 = .ok (.iconst 1, 1) := by decide +kernel
theorem dX11_tells_54 : decode cX11_tells 54 = .ok (.goto 4, 3) := by decide +kernel
theorem dX11_tells_57 : decode cX11_tells 57 = .ok (.iconst 0, 1) := by decide +kernel
theorem dX11_tells_58 : decode cX11_tells 58 = .ok (.invokevirtual 260, 3) := by decide +kernel
theorem dX11_tells_61 : decode cX11_tells 61 = .ok (.ireturn, 1) := by decide +kernel
theorem dX11_sent_0 : decode cX11_sent 0 = .ok (.aload_n 0, 1) := by decide +kernel
theorem dX11_sent_1 : decode cX11_sent 1 = .ok (.getfield 12, 3) := by decide +kernel
theorem dX11_sent_4 : decode cX11_sent 4 = .ok (.iload_n 1, 1) := by decide +kernel
theorem dX11_sent_5 : decode cX11_sent 5 = .ok (.invokevirtual 92, 3) := by decide +kernel
theorem dX11_sent_8 : decode cX11_sent 8 = .ok (.ifCond .eq 12, 3) := by decide +kernel
theorem dX11_sent_11 : decode cX11_sent 11 = .ok (.iload_n 2, 1) := by decide +kernel
theorem dX11_sent_12 : decode cX11_sent 12 = .ok (.ifCond .lt 8, 3) := by decide +kernel
theorem dX11_sent_15 : decode cX11_sent 15 = .ok (.iload_n 2, 1) := by decide +kernel
theorem dX11_sent_16 : decode cX11_sent 16 = .ok (.iconst 1, 1) := by decide +kernel
theorem dX11_sent_17 : decode cX11_sent 17 = .ok (.if_icmp .le 7, 3) := by decide +kernel
theorem dX11_sent_20 : decode cX11_sent 20 = .ok (.sipush (-10000), 3) := by decide +kernel
theorem dX11_sent_23 : decode cX11_sent 23 = .ok (.ireturn, 1) := by decide +kernel
theorem dX11_sent_24 : decode cX11_sent 24 = .ok (.aload_n 0, 1) := by decide +kernel
theorem dX11_sent_25 : decode cX11_sent 25 = .ok (.getfield 35, 3) := by decide +kernel
theorem dX11_sent_28 : decode cX11_sent 28 = .ok (.iload_n 1, 1) := by decide +kernel
theorem dX11_sent_29 : decode cX11_sent 29 = .ok (.iload_n 2, 1) := by decide +kernel
theorem dX11_sent_30 : decode cX11_sent 30 = .ok (.iconst 1, 1) := by decide +kernel
theorem dX11_sent_31 : decode cX11_sent 31 = .ok (.if_icmp .ne 7, 3) := by decide +kernel
theorem dX11_sent_34 : decode cX11_sent 34 = .ok (.iconst 1, 1) := by decide +kernel
theorem dX11_sent_35 : decode cX11_sent 35 = .ok (.goto 4, 3) := by decide +kernel
theorem dX11_sent_38 : decode cX11_sent 38 = .ok (.iconst 0, 1) := by decide +kernel
theorem dX11_sent_39 : decode cX11_sent 39 = .ok (.invokevirtual 263, 3) := by decide +kernel
theorem dX11_sent_42 : decode cX11_sent 42 = .ok (.ireturn, 1) := by decide +kernel
theorem dX11_man_0 : decode cX11_man 0 = .ok (.iload_n 1, 1) := by decide +kernel
theorem dX11_man_1 : decode cX11_man 1 = .ok (.iconst (-1), 1) := by decide +kernel
theorem dX11_man_2 : decode cX11_man 2 = .ok (.if_icmp .ne 14, 3) := by decide +kernel
theorem dX11_man_5 : decode cX11_man 5 = .ok (.aload_n 0, 1) := by decide +kernel
theorem dX11_man_6 : decode cX11_man 6 = .ok (.getfield 12, 3) := by decide +kernel
theorem dX11_man_9 : decode cX11_man 9 = .ok (.getfield 267, 3) := by decide +kernel
theorem dX11_man_12 : decode cX11_man 12 = .ok (.invokevirtual 270, 3) := by decide +kernel
theorem dX11_man_15 : decode cX11_man 15 = .ok (.ireturn, 1) := by decide +kernel
theorem dX11_man_16 : decode cX11_man 16 = .ok (.iload_n 1, 1) := by decide +kernel
theorem dX11_man_17 : decode cX11_man 17 = .ok (.bipush 6, 2) := by decide +kernel
theorem dX11_man_19 : decode cX11_man 19 = .ok (.invokestatic 273, 3) := by decide +kernel
theorem dX11_man_22 : decode cX11_man 22 = .ok (.ifCond .eq 12, 3) := by decide +kernel
theorem dX11_man_25 : decode cX11_man 25 = .ok (.iload_n 2, 1) := by decide +kernel
theorem dX11_man_26 : decode cX11_man 26 = .ok (.bipush 6, 2) := by decide +kernel
theorem dX11_man_28 : decode cX11_man 28 = .ok (.invokestatic 273, 3) := by decide +kernel
theorem dX11_man_31 : decode cX11_man 31 = .ok (.ifCond .ne 5, 3) := by decide +kernel
theorem dX11_man_34 : decode cX11_man 34 = .ok (.iconst (-1), 1) := by decide +kernel
theorem dX11_man_35 : decode cX11_man 35 = .ok (.ireturn, 1) := by decide +kernel
theorem dX11_man_36 : decode cX11_man 36 = .ok (.aload_n 0, 1) := by decide +kernel
theorem dX11_man_37 : decode cX11_man 37 = .ok (.getfield 12, 3) := by decide +kernel
theorem dX11_man_40 : decode cX11_man 40 = .ok (.getfield 267, 3) := by decide +kernel
theorem dX11_man_43 : decode cX11_man 43 = .ok (.iload_n 1, 1) := by decide +kernel
theorem dX11_man_44 : decode cX11_man 44 = .ok (.iload_n 2, 1) := by decide +kernel
theorem dX11_man_45 : decode cX11_man 45 = .ok (.iload_n 3, 1) := by decide +kernel
theorem dX11_man_46 : decode cX11_man 46 = .ok (.ifCond .eq 7, 3) := by decide +kernel
theorem dX11_man_49 : decode cX11_man 49 = .ok (.iconst 1, 1) := by decide +kernel
theorem dX11_man_50 : decode cX11_man 50 = .ok (.goto 4, 3) := by decide +kernel
theorem dX11_man_53 : decode cX11_man 53 = .ok (.iconst 0, 1) := by decide +kernel
theorem dX11_man_54 : decode cX11_man 54 = .ok (.iconst 0, 1) := by decide +kernel
theorem dX11_man_55 : decode cX11_man 55 = .ok (.invokevirtual 277, 3) := by decide +kernel
theorem dX11_man_58 : decode cX11_man 58 = .ok (.ireturn, 1) := by decide +kernel
theorem dX11_liars_0 : decode cX11_liars 0 = .ok (.aload_n 0, 1) := by decide +kernel
theorem dX11_liars_1 : decode cX11_liars 1 = .ok (.getfield 12, 3) := by decide +kernel
theorem dX11_liars_4 : decode cX11_liars 4 = .ok (.getfield 267, 3) := by decide +kernel
theorem dX11_liars_7 : decode cX11_liars 7 = .ok (.iload_n 1, 1) := by decide +kernel
theorem dX11_liars_8 : decode cX11_liars 8 = .ok (.invokestatic 281, 3) := by decide +kernel
theorem dX11_liars_11 : decode cX11_liars 11 = .ok (.ireturn, 1) := by decide +kernel
theorem dX11_guess_0 : decode cX11_guess 0 = .ok (.iload_n 1, 1) := by decide +kernel
theorem dX11_guess_1 : decode cX11_guess 1 = .ok (.iconst (-1), 1) := by decide +kernel
theorem dX11_guess_2 : decode cX11_guess 2 = .ok (.if_icmp .ne 21, 3) := by decide +kernel
theorem dX11_guess_5 : decode cX11_guess 5 = .ok (.aload_n 0, 1) := by decide +kernel
theorem dX11_guess_6 : decode cX11_guess 6 = .ok (.getfield 49, 3) := by decide +kernel
theorem dX11_guess_9 : decode cX11_guess 9 = .ok (.invokevirtual 287, 3) := by decide +kernel
theorem dX11_guess_12 : decode cX11_guess 12 = .ok (.aload_n 0, 1) := by decide +kernel
theorem dX11_guess_13 : decode cX11_guess 13 = .ok (.getfield 12, 3) := by decide +kernel
theorem dX11_guess_16 : decode cX11_guess 16 = .ok (.getfield 288, 3) := by decide +kernel
theorem dX11_guess_19 : decode cX11_guess 19 = .ok (.invokevirtual 270, 3) := by decide +kernel
theorem dX11_guess_22 : decode cX11_guess 22 = .ok (.ireturn, 1) := by decide +kernel
theorem dX11_guess_23 : decode cX11_guess 23 = .ok (.iload_n 1, 1) := by decide +kernel
theorem dX11_guess_24 : decode cX11_guess 24 = .ok (.invokestatic 291, 3) := by decide +kernel
theorem dX11_guess_27 : decode cX11_guess 27 = .ok (.istore 4, 2) := by decide +kernel
theorem dX11_guess_29 : decode cX11_guess 29 = .ok (.iload 4, 2) := by decide +kernel
theorem dX11_guess_31 : decode cX11_guess 31 = .ok (.iconst (-1), 1) := by decide +kernel
theorem dX11_guess_32 : decode cX11_guess 32 = .ok (.if_icmp .eq 26, 3) := by decide +kernel
theorem dX11_guess_35 : decode cX11_guess 35 = .ok (.iload_n 2, 1) := by decide +kernel
theorem dX11_guess_36 : decode cX11_guess 36 = .ok (.iconst 4, 1) := by decide +kernel
theorem dX11_guess_37 : decode cX11_guess 37 = .ok (.invokestatic 273, 3) := by decide +kernel
theorem dX11_guess_40 : decode cX11_guess 40 = .ok (.ifCond .eq 18, 3) := by decide +kernel
theorem dX11_guess_43 : decode cX11_guess 43 = .ok (.iload_n 3, 1) := by decide +kernel
theorem dX11_guess_44 : decode cX11_guess 44 = .ok (.iconst 4, 1) := by decide +kernel
theorem dX11_guess_45 : decode cX11_guess 45 = .ok (.invokestatic 273, 3) := by decide +kernel
theorem dX11_guess_48 : decode cX11_guess 48 = .ok (.ifCond .eq 10, 3) := by decide +kernel
theorem dX11_guess_51 : decode cX11_guess 51 = .ok (.iload_n 2, 1) := by decide +kernel
theorem dX11_guess_52 : decode cX11_guess 52 = .ok (.iload_n 3, 1) := by decide +kernel
theorem dX11_guess_53 : decode cX11_guess 53 = .ok (.iadd, 1) := by decide +kernel
theorem dX11_guess_54 : decode cX11_guess 54 = .ok (.iconst 3, 1) := by decide +kernel
theorem dX11_guess_55 : decode cX11_guess 55 = .ok (.if_icmp .le 5, 3) := by decide +kernel
theorem dX11_guess_58 : decode cX11_guess 58 = .ok (.iconst (-1), 1) := by decide +kernel
theorem dX11_guess_59 : decode cX11_guess 59 = .ok (.ireturn, 1) := by decide +kernel
theorem dX11_guess_60 : decode cX11_guess 60 = .ok (.aload_n 0, 1) := by decide +kernel
theorem dX11_guess_61 : decode cX11_guess 61 = .ok (.getfield 49, 3) := by decide +kernel
theorem dX11_guess_64 : decode cX11_guess 64 = .ok (.invokevirtual 287, 3) := by decide +kernel
theorem dX11_guess_67 : decode cX11_guess 67 = .ok (.aload_n 0, 1) := by decide +kernel
theorem dX11_guess_68 : decode cX11_guess 68 = .ok (.getfield 12, 3) := by decide +kernel
theorem dX11_guess_71 : decode cX11_guess 71 = .ok (.getfield 288, 3) := by decide +kernel
theorem dX11_guess_74 : decode cX11_guess 74 = .ok (.iload 4, 2) := by decide +kernel
theorem dX11_guess_76 : decode cX11_guess 76 = .ok (.iload_n 2, 1) := by decide +kernel
theorem dX11_guess_77 : decode cX11_guess 77 = .ok (.iload_n 3, 1) := by decide +kernel
theorem dX11_guess_78 : decode cX11_guess 78 = .ok (.iconst 0, 1) := by decide +kernel
theorem dX11_guess_79 : decode cX11_guess 79 = .ok (.invokevirtual 277, 3) := by decide +kernel
theorem dX11_guess_82 : decode cX11_guess 82 = .ok (.ireturn, 1) := by decide +kernel
theorem dX11_plumes_0 : decode cX11_plumes 0 = .ok (.aload_n 0, 1) := by decide +kernel
theorem dX11_plumes_1 : decode cX11_plumes 1 = .ok (.getfield 49, 3) := by decide +kernel
theorem dX11_plumes_4 : decode cX11_plumes 4 = .ok (.aload_n 0, 1) := by decide +kernel
theorem dX11_plumes_5 : decode cX11_plumes 5 = .ok (.getfield 12, 3) := by decide +kernel
theorem dX11_plumes_8 : decode cX11_plumes 8 = .ok (.getfield 288, 3) := by decide +kernel
theorem dX11_plumes_11 : decode cX11_plumes 11 = .ok (.invokevirtual 294, 3) := by decide +kernel
theorem dX11_plumes_14 : decode cX11_plumes 14 = .ok (.iload_n 1, 1) := by decide +kernel
theorem dX11_plumes_15 : decode cX11_plumes 15 = .ok (.tableswitch 49 0 2 #[25, 33, 41], 25) := by decide +kernel
theorem dX11_plumes_40 : decode cX11_plumes 40 = .ok (.aload_n 0, 1) := by decide +kernel
theorem dX11_plumes_41 : decode cX11_plumes 41 = .ok (.getfield 49, 3) := by decide +kernel
theorem dX11_plumes_44 : decode cX11_plumes 44 = .ok (.getfield 297, 3) := by decide +kernel
theorem dX11_plumes_47 : decode cX11_plumes 47 = .ok (.ireturn, 1) := by decide +kernel
theorem dX11_plumes_48 : decode cX11_plumes 48 = .ok (.aload_n 0, 1) := by decide +kernel
theorem dX11_plumes_49 : decode cX11_plumes 49 = .ok (.getfield 49, 3) := by decide +kernel
theorem dX11_plumes_52 : decode cX11_plumes 52 = .ok (.invokevirtual 300, 3) := by decide +kernel
theorem dX11_plumes_55 : decode cX11_plumes 55 = .ok (.ireturn, 1) := by decide +kernel
theorem dX11_plumes_56 : decode cX11_plumes 56 = .ok (.aload_n 0, 1) := by decide +kernel
theorem dX11_plumes_57 : decode cX11_plumes 57 = .ok (.getfield 49, 3) := by decide +kernel
theorem dX11_plumes_60 : decode cX11_plumes 60 = .ok (.invokevirtual 303, 3) := by decide +kernel
theorem dX11_plumes_63 : decode cX11_plumes 63 = .ok (.ireturn, 1) := by decide +kernel
theorem dX11_plumes_64 : decode cX11_plumes 64 = .ok (.iconst (-1), 1) := by decide +kernel
theorem dX11_plumes_65 : decode cX11_plumes 65 = .ok (.ireturn, 1) := by decide +kernel
theorem dX11_bet_0 : decode cX11_bet 0 = .ok (.iload_n 1, 1) := by decide +kernel
theorem dX11_bet_1 : decode cX11_bet 1 = .ok (.iconst (-1), 1) := by decide +kernel
theorem dX11_bet_2 : decode cX11_bet 2 = .ok (.if_icmp .ne 14, 3) := by decide +kernel
theorem dX11_bet_5 : decode cX11_bet 5 = .ok (.aload_n 0, 1) := by decide +kernel
theorem dX11_bet_6 : decode cX11_bet 6 = .ok (.getfield 12, 3) := by decide +kernel
theorem dX11_bet_9 : decode cX11_bet 9 = .ok (.getfield 306, 3) := by decide +kernel
theorem dX11_bet_12 : decode cX11_bet 12 = .ok (.invokevirtual 270, 3) := by decide +kernel
theorem dX11_bet_15 : decode cX11_bet 15 = .ok (.ireturn, 1) := by decide +kernel
theorem dX11_bet_16 : decode cX11_bet 16 = .ok (.iload_n 1, 1) := by decide +kernel
theorem dX11_bet_17 : decode cX11_bet 17 = .ok (.iconst 3, 1) := by decide +kernel
theorem dX11_bet_18 : decode cX11_bet 18 = .ok (.invokestatic 273, 3) := by decide +kernel
theorem dX11_bet_21 : decode cX11_bet 21 = .ok (.ifCond .eq 16, 3) := by decide +kernel
theorem dX11_bet_24 : decode cX11_bet 24 = .ok (.iload_n 2, 1) := by decide +kernel
theorem dX11_bet_25 : decode cX11_bet 25 = .ok (.bipush 101, 2) := by decide +kernel
theorem dX11_bet_27 : decode cX11_bet 27 = .ok (.if_icmp .lt 10, 3) := by decide +kernel
theorem dX11_bet_30 : decode cX11_bet 30 = .ok (.iload_n 2, 1) := by decide +kernel
theorem dX11_bet_31 : decode cX11_bet 31 = .ok (.sipush 9999, 3) := by decide +kernel
theorem dX11_bet_34 : decode cX11_bet 34 = .ok (.if_icmp .le 5, 3) := by decide +kernel
theorem dX11_bet_37 : decode cX11_bet 37 = .ok (.iconst (-1), 1) := by decide +kernel
theorem dX11_bet_38 : decode cX11_bet 38 = .ok (.ireturn, 1) := by decide +kernel
theorem dX11_bet_39 : decode cX11_bet 39 = .ok (.aload_n 0, 1) := by decide +kernel
theorem dX11_bet_40 : decode cX11_bet 40 = .ok (.getfield 12, 3) := by decide +kernel
theorem dX11_bet_43 : decode cX11_bet 43 = .ok (.getfield 306, 3) := by decide +kernel
theorem dX11_bet_46 : decode cX11_bet 46 = .ok (.iload_n 1, 1) := by decide +kernel
theorem dX11_bet_47 : decode cX11_bet 47 = .ok (.iload_n 2, 1) := by decide +kernel
theorem dX11_bet_48 : decode cX11_bet 48 = .ok (.iconst 0, 1) := by decide +kernel
theorem dX11_bet_49 : decode cX11_bet 49 = .ok (.iconst 0, 1) := by decide +kernel
theorem dX11_bet_50 : decode cX11_bet 50 = .ok (.invokevirtual 277, 3) := by decide +kernel
theorem dX11_bet_53 : decode cX11_bet 53 = .ok (.ireturn, 1) := by decide +kernel
theorem dX11_safe_0 : decode cX11_safe 0 = .ok (.iload_n 1, 1) := by decide +kernel
theorem dX11_safe_1 : decode cX11_safe 1 = .ok (.iconst 3, 1) := by decide +kernel
theorem dX11_safe_2 : decode cX11_safe 2 = .ok (.if_icmp .lt 10, 3) := by decide +kernel
theorem dX11_safe_5 : decode cX11_safe 5 = .ok (.iload_n 1, 1) := by decide +kernel
theorem dX11_safe_6 : decode cX11_safe 6 = .ok (.sipush 300, 3) := by decide +kernel
theorem dX11_safe_9 : decode cX11_safe 9 = .ok (.if_icmp .le 5, 3) := by decide +kernel
theorem dX11_safe_12 : decode cX11_safe 12 = .ok (.iconst (-1), 1) := by decide +kernel
theorem dX11_safe_13 : decode cX11_safe 13 = .ok (.ireturn, 1) := by decide +kernel
theorem dX11_safe_14 : decode cX11_safe 14 = .ok (.aload_n 0, 1) := by decide +kernel
theorem dX11_safe_15 : decode cX11_safe 15 = .ok (.getfield 12, 3) := by decide +kernel
theorem dX11_safe_18 : decode cX11_safe 18 = .ok (.getfield 306, 3) := by decide +kernel
theorem dX11_safe_21 : decode cX11_safe 21 = .ok (.iload_n 1, 1) := by decide +kernel
theorem dX11_safe_22 : decode cX11_safe 22 = .ok (.iload_n 2, 1) := by decide +kernel
theorem dX11_safe_23 : decode cX11_safe 23 = .ok (.invokestatic 309, 3) := by decide +kernel
theorem dX11_safe_26 : decode cX11_safe 26 = .ok (.ireturn, 1) := by decide +kernel
theorem dX11_street_0 : decode cX11_street 0 = .ok (.iload_n 1, 1) := by decide +kernel
theorem dX11_street_1 : decode cX11_street 1 = .ok (.iconst (-1), 1) := by decide +kernel
theorem dX11_street_2 : decode cX11_street 2 = .ok (.if_icmp .ne 14, 3) := by decide +kernel
theorem dX11_street_5 : decode cX11_street 5 = .ok (.aload_n 0, 1) := by decide +kernel
theorem dX11_street_6 : decode cX11_street 6 = .ok (.getfield 12, 3) := by decide +kernel
theorem dX11_street_9 : decode cX11_street 9 = .ok (.getfield 313, 3) := by decide +kernel
theorem dX11_street_12 : decode cX11_street 12 = .ok (.invokevirtual 270, 3) := by decide +kernel
theorem dX11_street_15 : decode cX11_street 15 = .ok (.ireturn, 1) := by decide +kernel
theorem dX11_street_16 : decode cX11_street 16 = .ok (.iload_n 1, 1) := by decide +kernel
theorem dX11_street_17 : decode cX11_street 17 = .ok (.bipush 10, 2) := by decide +kernel
theorem dX11_street_19 : decode cX11_street 19 = .ok (.invokestatic 273, 3) := by decide +kernel
theorem dX11_street_22 : decode cX11_street 22 = .ok (.ifCond .eq 17, 3) := by decide +kernel
theorem dX11_street_25 : decode cX11_street 25 = .ok (.iload_n 2, 1) := by decide +kernel
theorem dX11_street_26 : decode cX11_street 26 = .ok (.bipush 10, 2) := by decide +kernel
theorem dX11_street_28 : decode cX11_street 28 = .ok (.invokestatic 273, 3) := by decide +kernel
theorem dX11_street_31 : decode cX11_street 31 = .ok (.ifCond .eq 8, 3) := by decide +kernel
theorem dX11_street_34 : decode cX11_street 34 = .ok (.iload_n 1, 1) := by decide +kernel
theorem dX11_street_35 : decode cX11_street 35 = .ok (.iload_n 2, 1) := by decide +kernel
theorem dX11_street_36 : decode cX11_street 36 = .ok (.if_icmp .ne 5, 3) := by decide +kernel
theorem dX11_street_39 : decode cX11_street 39 = .ok (.iconst (-1), 1) := by decide +kernel
theorem dX11_street_40 : decode cX11_street 40 = .ok (.ireturn, 1) := by decide +kernel
theorem dX11_street_41 : decode cX11_street 41 = .ok (.aload_n 0, 1) := by decide +kernel
theorem dX11_street_42 : decode cX11_street 42 = .ok (.getfield 12, 3) := by decide +kernel
theorem dX11_street_45 : decode cX11_street 45 = .ok (.getfield 313, 3) := by decide +kernel
theorem dX11_street_48 : decode cX11_street 48 = .ok (.iload_n 1, 1) := by decide +kernel
theorem dX11_street_49 : decode cX11_street 49 = .ok (.iload_n 2, 1) := by decide +kernel
theorem dX11_street_50 : decode cX11_street 50 = .ok (.iconst 0, 1) := by decide +kernel
theorem dX11_street_51 : decode cX11_street 51 = .ok (.iconst 0, 1) := by decide +kernel
theorem dX11_street_52 : decode cX11_street 52 = .ok (.invokevirtual 277, 3) := by decide +kernel
theorem dX11_street_55 : decode cX11_street 55 = .ok (.ireturn, 1) := by decide +kernel
theorem dX11_ways_0 : decode cX11_ways 0 = .ok (.iload_n 1, 1) := by decide +kernel
theorem dX11_ways_1 : decode cX11_ways 1 = .ok (.bipush 10, 2) := by decide +kernel
theorem dX11_ways_3 : decode cX11_ways 3 = .ok (.invokestatic 273, 3) := by decide +kernel
theorem dX11_ways_6 : decode cX11_ways 6 = .ok (.ifCond .eq 17, 3) := by decide +kernel
theorem dX11_ways_9 : decode cX11_ways 9 = .ok (.iload_n 2, 1) := by decide +kernel
theorem dX11_ways_10 : decode cX11_ways 10 = .ok (.bipush 10, 2) := by decide +kernel
theorem dX11_ways_12 : decode cX11_ways 12 = .ok (.invokestatic 273, 3) := by decide +kernel
theorem dX11_ways_15 : decode cX11_ways 15 = .ok (.ifCond .eq 8, 3) := by decide +kernel
theorem dX11_ways_18 : decode cX11_ways 18 = .ok (.iload_n 1, 1) := by decide +kernel
theorem dX11_ways_19 : decode cX11_ways 19 = .ok (.iload_n 2, 1) := by decide +kernel
theorem dX11_ways_20 : decode cX11_ways 20 = .ok (.if_icmp .ne 5, 3) := by decide +kernel
theorem dX11_ways_23 : decode cX11_ways 23 = .ok (.iconst (-1), 1) := by decide +kernel
theorem dX11_ways_24 : decode cX11_ways 24 = .ok (.ireturn, 1) := by decide +kernel
theorem dX11_ways_25 : decode cX11_ways 25 = .ok (.aload_n 0, 1) := by decide +kernel
theorem dX11_ways_26 : decode cX11_ways 26 = .ok (.getfield 56, 3) := by decide +kernel
theorem dX11_ways_29 : decode cX11_ways 29 = .ok (.aload_n 0, 1) := by decide +kernel
theorem dX11_ways_30 : decode cX11_ways 30 = .ok (.getfield 12, 3) := by decide +kernel
theorem dX11_ways_33 : decode cX11_ways 33 = .ok (.getfield 313, 3) := by decide +kernel
theorem dX11_ways_36 : decode cX11_ways 36 = .ok (.invokevirtual 316, 3) := by decide +kernel
theorem dX11_ways_39 : decode cX11_ways 39 = .ok (.iload_n 3, 1) := by decide +kernel
theorem dX11_ways_40 : decode cX11_ways 40 = .ok (.lookupswitch 48 #[(0, 28), (1, 38)], 28) := by decide +kernel
theorem dX11_ways_68 : decode cX11_ways 68 = .ok (.aload_n 0, 1) := by decide +kernel
theorem dX11_ways_69 : decode cX11_ways 69 = .ok (.getfield 56, 3) := by decide +kernel
theorem dX11_ways_72 : decode cX11_ways 72 = .ok (.iload_n 1, 1) := by decide +kernel
theorem dX11_ways_73 : decode cX11_ways 73 = .ok (.iload_n 2, 1) := by decide +kernel
theorem dX11_ways_74 : decode cX11_ways 74 = .ok (.invokevirtual 319, 3) := by decide +kernel
theorem dX11_ways_77 : decode cX11_ways 77 = .ok (.ireturn, 1) := by decide +kernel
theorem dX11_ways_78 : decode cX11_ways 78 = .ok (.aload_n 0, 1) := by decide +kernel
theorem dX11_ways_79 : decode cX11_ways 79 = .ok (.getfield 56, 3) := by decide +kernel
theorem dX11_ways_82 : decode cX11_ways 82 = .ok (.iload_n 1, 1) := by decide +kernel
theorem dX11_ways_83 : decode cX11_ways 83 = .ok (.iload_n 2, 1) := by decide +kernel
theorem dX11_ways_84 : decode cX11_ways 84 = .ok (.invokevirtual 322, 3) := by decide +kernel
theorem dX11_ways_87 : decode cX11_ways 87 = .ok (.ireturn, 1) := by decide +kernel
theorem dX11_ways_88 : decode cX11_ways 88 = .ok (.iconst (-1), 1) := by decide +kernel
theorem dX11_ways_89 : decode cX11_ways 89 = .ok (.ireturn, 1) := by decide +kernel
theorem dX11_kin_0 : decode cX11_kin 0 = .ok (.aload_n 0, 1) := by decide +kernel
theorem dX11_kin_1 : decode cX11_kin 1 = .ok (.getfield 12, 3) := by decide +kernel
theorem dX11_kin_4 : decode cX11_kin 4 = .ok (.iload_n 1, 1) := by decide +kernel
theorem dX11_kin_5 : decode cX11_kin 5 = .ok (.invokevirtual 81, 3) := by decide +kernel
theorem dX11_kin_8 : decode cX11_kin 8 = .ok (.ifCond .eq 14, 3) := by decide +kernel
theorem dX11_kin_11 : decode cX11_kin 11 = .ok (.aload_n 0, 1) := by decide +kernel
theorem dX11_kin_12 : decode cX11_kin 12 = .ok (.getfield 12, 3) := by decide +kernel
theorem dX11_kin_15 : decode cX11_kin 15 = .ok (.iload_n 2, 1) := by decide +kernel
theorem dX11_kin_16 : decode cX11_kin 16 = .ok (.invokevirtual 81, 3) := by decide +kernel
theorem dX11_kin_19 : decode cX11_kin 19 = .ok (.ifCond .ne 5, 3) := by decide +kernel
theorem dX11_kin_22 : decode cX11_kin 22 = .ok (.iconst (-1), 1) := by decide +kernel
theorem dX11_kin_23 : decode cX11_kin 23 = .ok (.ireturn, 1) := by decide +kernel
theorem dX11_kin_24 : decode cX11_kin 24 = .ok (.iconst 1, 1) := by decide +kernel
theorem dX11_kin_25 : decode cX11_kin 25 = .ok (.iload_n 1, 1) := by decide +kernel
theorem dX11_kin_26 : decode cX11_kin 26 = .ok (.ishl, 1) := by decide +kernel
theorem dX11_kin_27 : decode cX11_kin 27 = .ok (.istore_n 3, 1) := by decide +kernel
theorem dX11_kin_28 : decode cX11_kin 28 = .ok (.iconst 0, 1) := by decide +kernel
theorem dX11_kin_29 : decode cX11_kin 29 = .ok (.istore 4, 2) := by decide +kernel
theorem dX11_kin_31 : decode cX11_kin 31 = .ok (.iload 4, 2) := by decide +kernel
theorem dX11_kin_33 : decode cX11_kin 33 = .ok (.bipush 12, 2) := by decide +kernel
theorem dX11_kin_35 : decode cX11_kin 35 = .ok (.if_icmp .ge 31, 3) := by decide +kernel
theorem dX11_kin_38 : decode cX11_kin 38 = .ok (.iload_n 3, 1) := by decide +kernel
theorem dX11_kin_39 : decode cX11_kin 39 = .ok (.iload_n 2, 1) := by decide +kernel
theorem dX11_kin_40 : decode cX11_kin 40 = .ok (.invokestatic 325, 3) := by decide +kernel
theorem dX11_kin_43 : decode cX11_kin 43 = .ok (.ifCond .eq 6, 3) := by decide +kernel
theorem dX11_kin_46 : decode cX11_kin 46 = .ok (.iload 4, 2) := by decide +kernel
theorem dX11_kin_48 : decode cX11_kin 48 = .ok (.ireturn, 1) := by decide +kernel
theorem dX11_kin_49 : decode cX11_kin 49 = .ok (.iload_n 3, 1) := by decide +kernel
theorem dX11_kin_50 : decode cX11_kin 50 = .ok (.aload_n 0, 1) := by decide +kernel
theorem dX11_kin_51 : decode cX11_kin 51 = .ok (.getfield 12, 3) := by decide +kernel
theorem dX11_kin_54 : decode cX11_kin 54 = .ok (.iload_n 3, 1) := by decide +kernel
theorem dX11_kin_55 : decode cX11_kin 55 = .ok (.invokevirtual 196, 3) := by decide +kernel
theorem dX11_kin_58 : decode cX11_kin 58 = .ok (.ior, 1) := by decide +kernel
theorem dX11_kin_59 : decode cX11_kin 59 = .ok (.istore_n 3, 1) := by decide +kernel
theorem dX11_kin_60 : decode cX11_kin 60 = .ok (.iinc 4 1, 3) := by decide +kernel
theorem dX11_kin_63 : decode cX11_kin 63 = .ok (.goto (-32), 3) := by decide +kernel
theorem dX11_kin_66 : decode cX11_kin 66 = .ok (.iconst (-1), 1) := by decide +kernel
theorem dX11_kin_67 : decode cX11_kin 67 = .ok (.ireturn, 1) := by decide +kernel
theorem dX11_groups_0 : decode cX11_groups 0 = .ok (.aload_n 0, 1) := by decide +kernel
theorem dX11_groups_1 : decode cX11_groups 1 = .ok (.getfield 12, 3) := by decide +kernel
theorem dX11_groups_4 : decode cX11_groups 4 = .ok (.invokevirtual 328, 3) := by decide +kernel
theorem dX11_groups_7 : decode cX11_groups 7 = .ok (.istore_n 2, 1) := by decide +kernel
theorem dX11_groups_8 : decode cX11_groups 8 = .ok (.iconst 0, 1) := by decide +kernel
theorem dX11_groups_9 : decode cX11_groups 9 = .ok (.istore_n 3, 1) := by decide +kernel
theorem dX11_groups_10 : decode cX11_groups 10 = .ok (.iconst 0, 1) := by decide +kernel
theorem dX11_groups_11 : decode cX11_groups 11 = .ok (.istore 4, 2) := by decide +kernel
theorem dX11_groups_13 : decode cX11_groups 13 = .ok (.iconst 0, 1) := by decide +kernel
theorem dX11_groups_14 : decode cX11_groups 14 = .ok (.istore 5, 2) := by decide +kernel
theorem dX11_groups_16 : decode cX11_groups 16 = .ok (.iload 5, 2) := by decide +kernel
theorem dX11_groups_18 : decode cX11_groups 18 = .ok (.bipush 12, 2) := by decide +kernel
theorem dX11_groups_20 : decode cX11_groups 20 = .ok (.if_icmp .ge 56, 3) := by decide +kernel
theorem dX11_groups_23 : decode cX11_groups 23 = .ok (.iload_n 2, 1) := by decide +kernel
theorem dX11_groups_24 : decode cX11_groups 24 = .ok (.iload 5, 2) := by decide +kernel
theorem dX11_groups_26 : decode cX11_groups 26 = .ok (.invokestatic 325, 3) := by decide +kernel
theorem dX11_groups_29 : decode cX11_groups 29 = .ok (.ifCond .eq 41, 3) := by decide +kernel
theorem dX11_groups_32 : decode cX11_groups 32 = .ok (.aload_n 0, 1) := by decide +kernel
theorem dX11_groups_33 : decode cX11_groups 33 = .ok (.getfield 12, 3) := by decide +kernel
theorem dX11_groups_36 : decode cX11_groups 36 = .ok (.iload 5, 2) := by decide +kernel
theorem dX11_groups_38 : decode cX11_groups 38 = .ok (.invokevirtual 331, 3) := by decide +kernel
theorem dX11_groups_41 : decode cX11_groups 41 = .ok (.istore 6, 2) := by decide +kernel
theorem dX11_groups_43 : decode cX11_groups 43 = .ok (.iload_n 2, 1) := by decide +kernel
theorem dX11_groups_44 : decode cX11_groups 44 = .ok (.iload 6, 2) := by decide +kernel
theorem dX11_groups_46 : decode cX11_groups 46 = .ok (.iconst (-1), 1) := by decide +kernel
theorem dX11_groups_47 : decode cX11_groups 47 = .ok (.ixor, 1) := by decide +kernel
theorem dX11_groups_48 : decode cX11_groups 48 = .ok (.iand, 1) := by decide +kernel
theorem dX11_groups_49 : decode cX11_groups 49 = .ok (.istore_n 2, 1) := by decide +kernel
theorem dX11_groups_50 : decode cX11_groups 50 = .ok (.iinc 3 1, 3) := by decide +kernel
theorem dX11_groups_53 : decode cX11_groups 53 = .ok (.iload 6, 2) := by decide +kernel
theorem dX11_groups_55 : decode cX11_groups 55 = .ok (.invokestatic 334, 3) := by decide +kernel
theorem dX11_groups_58 : decode cX11_groups 58 = .ok (.iload 4, 2) := by decide +kernel
theorem dX11_groups_60 : decode cX11_groups 60 = .ok (.invokestatic 334, 3) := by decide +kernel
theorem dX11_groups_63 : decode cX11_groups 63 = .ok (.if_icmp .le 7, 3) := by decide +kernel
theorem dX11_groups_66 : decode cX11_groups 66 = .ok (.iload 6, 2) := by decide +kernel
theorem dX11_groups_68 : decode cX11_groups 68 = .ok (.istore 4, 2) := by decide +kernel
theorem dX11_groups_70 : decode cX11_groups 70 = .ok (.iinc 5 1, 3) := by decide +kernel
theorem dX11_groups_73 : decode cX11_groups 73 = .ok (.goto (-57), 3) := by decide +kernel
theorem dX11_groups_76 : decode cX11_groups 76 = .ok (.iload_n 1, 1) := by decide +kernel
theorem dX11_groups_77 : decode cX11_groups 77 = .ok (.lookupswitch 32 #[(0, 27), (1, 29)], 27) := by decide +kernel
theorem dX11_groups_104 : decode cX11_groups 104 = .ok (.iload_n 3, 1) := by decide +kernel
theorem dX11_groups_105 : decode cX11_groups 105 = .ok (.ireturn, 1) := by decide +kernel
theorem dX11_groups_106 : decode cX11_groups 106 = .ok (.iload 4, 2) := by decide +kernel
theorem dX11_groups_108 : decode cX11_groups 108 = .ok (.ireturn, 1) := by decide +kernel
theorem dX11_groups_109 : decode cX11_groups 109 = .ok (.iconst (-1), 1) := by decide +kernel
theorem dX11_groups_110 : decode cX11_groups 110 = .ok (.ireturn, 1) := by decide +kernel
theorem dX11_step_0 : decode cX11_step 0 = .ok (.iload_n 1, 1) := by decide +kernel
theorem dX11_step_1 : decode cX11_step 1 = .ok (.iconst (-1), 1) := by decide +kernel
theorem dX11_step_2 : decode cX11_step 2 = .ok (.if_icmp .ne 14, 3) := by decide +kernel
theorem dX11_step_5 : decode cX11_step 5 = .ok (.aload_n 0, 1) := by decide +kernel
theorem dX11_step_6 : decode cX11_step 6 = .ok (.getfield 12, 3) := by decide +kernel
theorem dX11_step_9 : decode cX11_step 9 = .ok (.getfield 339, 3) := by decide +kernel
theorem dX11_step_12 : decode cX11_step 12 = .ok (.invokevirtual 270, 3) := by decide +kernel
theorem dX11_step_15 : decode cX11_step 15 = .ok (.ireturn, 1) := by decide +kernel
theorem dX11_step_16 : decode cX11_step 16 = .ok (.iload_n 1, 1) := by decide +kernel
theorem dX11_step_17 : decode cX11_step 17 = .ok (.bipush 100, 2) := by decide +kernel
theorem dX11_step_19 : decode cX11_step 19 = .ok (.invokestatic 273, 3) := by decide +kernel
theorem dX11_step_22 : decode cX11_step 22 = .ok (.ifCond .ne 5, 3) := by decide +kernel
theorem dX11_step_25 : decode cX11_step 25 = .ok (.iconst (-1), 1) := by decide +kernel
theorem dX11_step_26 : decode cX11_step 26 = .ok (.ireturn, 1) := by decide +kernel
theorem dX11_step_27 : decode cX11_step 27 = .ok (.aload_n 0, 1) := by decide +kernel
theorem dX11_step_28 : decode cX11_step 28 = .ok (.getfield 12, 3) := by decide +kernel
theorem dX11_step_31 : decode cX11_step 31 = .ok (.getfield 339, 3) := by decide +kernel
theorem dX11_step_34 : decode cX11_step 34 = .ok (.iload_n 1, 1) := by decide +kernel
theorem dX11_step_35 : decode cX11_step 35 = .ok (.iconst 0, 1) := by decide +kernel
theorem dX11_step_36 : decode cX11_step 36 = .ok (.iconst 0, 1) := by decide +kernel
theorem dX11_step_37 : decode cX11_step 37 = .ok (.iconst 0, 1) := by decide +kernel
theorem dX11_step_38 : decode cX11_step 38 = .ok (.invokevirtual 277, 3) := by decide +kernel
theorem dX11_step_41 : decode cX11_step 41 = .ok (.ireturn, 1) := by decide +kernel
theorem dX11_alike_0 : decode cX11_alike 0 = .ok (.iload_n 1, 1) := by decide +kernel
theorem dX11_alike_1 : decode cX11_alike 1 = .ok (.bipush 100, 2) := by decide +kernel
theorem dX11_alike_3 : decode cX11_alike 3 = .ok (.invokestatic 273, 3) := by decide +kernel
theorem dX11_alike_6 : decode cX11_alike 6 = .ok (.ifCond .ne 5, 3) := by decide +kernel
theorem dX11_alike_9 : decode cX11_alike 9 = .ok (.iconst (-1), 1) := by decide +kernel
theorem dX11_alike_10 : decode cX11_alike 10 = .ok (.ireturn, 1) := by decide +kernel
theorem dX11_alike_11 : decode cX11_alike 11 = .ok (.iload_n 2, 1) := by decide +kernel
theorem dX11_alike_12 : decode cX11_alike 12 = .ok (.lookupswitch 52 #[(0, 28), (1, 40)], 28) := by decide +kernel
theorem dX11_alike_40 : decode cX11_alike 40 = .ok (.aload_n 0, 1) := by decide +kernel
theorem dX11_alike_41 : decode cX11_alike 41 = .ok (.getfield 12, 3) := by decide +kernel
theorem dX11_alike_44 : decode cX11_alike 44 = .ok (.getfield 339, 3) := by decide +kernel
theorem dX11_alike_47 : decode cX11_alike 47 = .ok (.iload_n 1, 1) := by decide +kernel
theorem dX11_alike_48 : decode cX11_alike 48 = .ok (.invokestatic 342, 3) := by decide +kernel
theorem dX11_alike_51 : decode cX11_alike 51 = .ok (.ireturn, 1) := by decide +kernel
theorem dX11_alike_52 : decode cX11_alike 52 = .ok (.aload_n 0, 1) := by decide +kernel
theorem dX11_alike_53 : decode cX11_alike 53 = .ok (.getfield 12, 3) := by decide +kernel
theorem dX11_alike_56 : decode cX11_alike 56 = .ok (.getfield 339, 3) := by decide +kernel
theorem dX11_alike_59 : decode cX11_alike 59 = .ok (.iload_n 1, 1) := by decide +kernel
theorem dX11_alike_60 : decode cX11_alike 60 = .ok (.invokestatic 345, 3) := by decide +kernel
theorem dX11_alike_63 : decode cX11_alike 63 = .ok (.ireturn, 1) := by decide +kernel
theorem dX11_alike_64 : decode cX11_alike 64 = .ok (.iconst (-1), 1) := by decide +kernel
theorem dX11_alike_65 : decode cX11_alike 65 = .ok (.ireturn, 1) := by decide +kernel
theorem dX11_carriage_0 : decode cX11_carriage 0 = .ok (.iload_n 1, 1) := by decide +kernel
theorem dX11_carriage_1 : decode cX11_carriage 1 = .ok (.iconst 3, 1) := by decide +kernel
theorem dX11_carriage_2 : decode cX11_carriage 2 = .ok (.invokestatic 273, 3) := by decide +kernel
theorem dX11_carriage_5 : decode cX11_carriage 5 = .ok (.ifCond .eq 24, 3) := by decide +kernel
theorem dX11_carriage_8 : decode cX11_carriage 8 = .ok (.iload_n 2, 1) := by decide +kernel
theorem dX11_carriage_9 : decode cX11_carriage 9 = .ok (.iconst 1, 1) := by decide +kernel
theorem dX11_carriage_10 : decode cX11_carriage 10 = .ok (.if_icmp .lt 19, 3) := by decide +kernel
theorem dX11_carriage_13 : decode cX11_carriage 13 = .ok (.iload_n 2, 1) := by decide +kernel
theorem dX11_carriage_14 : decode cX11_carriage 14 = .ok (.bipush 30, 2) := by decide +kernel
theorem dX11_carriage_16 : decode cX11_carriage 16 = .ok (.if_icmp .gt 13, 3) := by decide +kernel
theorem dX11_carriage_19 : decode cX11_carriage 19 = .ok (.iload_n 3, 1) := by decide +kernel
theorem dX11_carriage_20 : decode cX11_carriage 20 = .ok (.ifCond .lt 9, 3) := by decide +kernel
theorem dX11_carriage_23 : decode cX11_carriage 23 = .ok (.iload_n 3, 1) := by decide +kernel
theorem dX11_carriage_24 : decode cX11_carriage 24 = .ok (.bipush 30, 2) := by decide +kernel
theorem dX11_carriage_26 : decode cX11_carriage 26 = .ok (.if_icmp .le 5, 3) := by decide +kernel
theorem dX11_carriage_29 : decode cX11_carriage 29 = .ok (.iconst 0, 1) := by decide +kernel
theorem dX11_carriage_30 : decode cX11_carriage 30 = .ok (.ireturn, 1) := by decide +kernel
theorem dX11_carriage_31 : decode cX11_carriage 31 = .ok (.aload_n 0, 1) := by decide +kernel
theorem dX11_carriage_32 : decode cX11_carriage 32 = .ok (.getfield 12, 3) := by decide +kernel
theorem dX11_carriage_35 : decode cX11_carriage 35 = .ok (.getfield 348, 3) := by decide +kernel
theorem dX11_carriage_38 : decode cX11_carriage 38 = .ok (.iconst 2, 1) := by decide +kernel
theorem dX11_carriage_39 : decode cX11_carriage 39 = .ok (.iload_n 1, 1) := by decide +kernel
theorem dX11_carriage_40 : decode cX11_carriage 40 = .ok (.imul, 1) := by decide +kernel
theorem dX11_carriage_41 : decode cX11_carriage 41 = .ok (.iload_n 2, 1) := by decide +kernel
theorem dX11_carriage_42 : decode cX11_carriage 42 = .ok (.iastore, 1) := by decide +kernel
theorem dX11_carriage_43 : decode cX11_carriage 43 = .ok (.aload_n 0, 1) := by decide +kernel
theorem dX11_carriage_44 : decode cX11_carriage 44 = .ok (.getfield 12, 3) := by decide +kernel
theorem dX11_carriage_47 : decode cX11_carriage 47 = .ok (.getfield 348, 3) := by decide +kernel
theorem dX11_carriage_50 : decode cX11_carriage 50 = .ok (.iconst 2, 1) := by decide +kernel
theorem dX11_carriage_51 : decode cX11_carriage 51 = .ok (.iload_n 1, 1) := by decide +kernel
theorem dX11_carriage_52 : decode cX11_carriage 52 = .ok (.imul, 1) := by decide +kernel
theorem dX11_carriage_53 : decode cX11_carriage 53 = .ok (.iconst 1, 1) := by decide +kernel
theorem dX11_carriage_54 : decode cX11_carriage 54 = .ok (.iadd, 1) := by decide +kernel
theorem dX11_carriage_55 : decode cX11_carriage 55 = .ok (.iload_n 3, 1) := by decide +kernel
theorem dX11_carriage_56 : decode cX11_carriage 56 = .ok (.iastore, 1) := by decide +kernel
theorem dX11_carriage_57 : decode cX11_carriage 57 = .ok (.iconst 1, 1) := by decide +kernel
theorem dX11_carriage_58 : decode cX11_carriage 58 = .ok (.ireturn, 1) := by decide +kernel
theorem dX11_down_0 : decode cX11_down 0 = .ok (.iload_n 1, 1) := by decide +kernel
theorem dX11_down_1 : decode cX11_down 1 = .ok (.lookupswitch 51 #[(0, 27), (1, 39)], 27) := by decide +kernel
theorem dX11_down_28 : decode cX11_down 28 = .ok (.aload_n 0, 1) := by decide +kernel
theorem dX11_down_29 : decode cX11_down 29 = .ok (.getfield 12, 3) := by decide +kernel
theorem dX11_down_32 : decode cX11_down 32 = .ok (.getfield 348, 3) := by decide +kernel
theorem dX11_down_35 : decode cX11_down 35 = .ok (.iconst 0, 1) := by decide +kernel
theorem dX11_down_36 : decode cX11_down 36 = .ok (.invokestatic 351, 3) := by decide +kernel
theorem dX11_down_39 : decode cX11_down 39 = .ok (.ireturn, 1) := by decide +kernel
theorem dX11_down_40 : decode cX11_down 40 = .ok (.aload_n 0, 1) := by decide +kernel
theorem dX11_down_41 : decode cX11_down 41 = .ok (.getfield 12, 3) := by decide +kernel
theorem dX11_down_44 : decode cX11_down 44 = .ok (.getfield 348, 3) := by decide +kernel
theorem dX11_down_47 : decode cX11_down 47 = .ok (.iconst 1, 1) := by decide +kernel
theorem dX11_down_48 : decode cX11_down 48 = .ok (.invokestatic 351, 3) := by decide +kernel
theorem dX11_down_51 : decode cX11_down 51 = .ok (.ireturn, 1) := by decide +kernel
theorem dX11_down_52 : decode cX11_down 52 = .ok (.iconst (-1), 1) := by decide +kernel
theorem dX11_down_53 : decode cX11_down 53 = .ok (.ireturn, 1) := by decide +kernel
theorem dX11_offer_0 : decode cX11_offer 0 = .ok (.iload_n 1, 1) := by decide +kernel
theorem dX11_offer_1 : decode cX11_offer 1 = .ok (.iconst (-1), 1) := by decide +kernel
theorem dX11_offer_2 : decode cX11_offer 2 = .ok (.if_icmp .ne 14, 3) := by decide +kernel
theorem dX11_offer_5 : decode cX11_offer 5 = .ok (.aload_n 0, 1) := by decide +kernel
theorem dX11_offer_6 : decode cX11_offer 6 = .ok (.getfield 12, 3) := by decide +kernel
theorem dX11_offer_9 : decode cX11_offer 9 = .ok (.getfield 355, 3) := by decide +kernel
theorem dX11_offer_12 : decode cX11_offer 12 = .ok (.invokevirtual 270, 3) := by decide +kernel
theorem dX11_offer_15 : decode cX11_offer 15 = .ok (.ireturn, 1) := by decide +kernel
theorem dX11_offer_16 : decode cX11_offer 16 = .ok (.iload_n 1, 1) := by decide +kernel
theorem dX11_offer_17 : decode cX11_offer 17 = .ok (.bipush 100, 2) := by decide +kernel
theorem dX11_offer_19 : decode cX11_offer 19 = .ok (.invokestatic 273, 3) := by decide +kernel
theorem dX11_offer_22 : decode cX11_offer 22 = .ok (.ifCond .ne 5, 3) := by decide +kernel
theorem dX11_offer_25 : decode cX11_offer 25 = .ok (.iconst (-1), 1) := by decide +kernel
theorem dX11_offer_26 : decode cX11_offer 26 = .ok (.ireturn, 1) := by decide +kernel
theorem dX11_offer_27 : decode cX11_offer 27 = .ok (.aload_n 0, 1) := by decide +kernel
theorem dX11_offer_28 : decode cX11_offer 28 = .ok (.getfield 12, 3) := by decide +kernel
theorem dX11_offer_31 : decode cX11_offer 31 = .ok (.getfield 355, 3) := by decide +kernel
theorem dX11_offer_34 : decode cX11_offer 34 = .ok (.iload_n 1, 1) := by decide +kernel
theorem dX11_offer_35 : decode cX11_offer 35 = .ok (.iconst 0, 1) := by decide +kernel
theorem dX11_offer_36 : decode cX11_offer 36 = .ok (.iconst 0, 1) := by decide +kernel
theorem dX11_offer_37 : decode cX11_offer 37 = .ok (.iconst 0, 1) := by decide +kernel
theorem dX11_offer_38 : decode cX11_offer 38 = .ok (.invokevirtual 277, 3) := by decide +kernel
theorem dX11_offer_41 : decode cX11_offer 41 = .ok (.ireturn, 1) := by decide +kernel
theorem dX11_stop_0 : decode cX11_stop 0 = .ok (.aload_n 0, 1) := by decide +kernel
theorem dX11_stop_1 : decode cX11_stop 1 = .ok (.getfield 12, 3) := by decide +kernel
theorem dX11_stop_4 : decode cX11_stop 4 = .ok (.getfield 355, 3) := by decide +kernel
theorem dX11_stop_7 : decode cX11_stop 7 = .ok (.getfield 240, 3) := by decide +kernel
theorem dX11_stop_10 : decode cX11_stop 10 = .ok (.ifCond .eq 12, 3) := by decide +kernel
theorem dX11_stop_13 : decode cX11_stop 13 = .ok (.iload_n 1, 1) := by decide +kernel
theorem dX11_stop_14 : decode cX11_stop 14 = .ok (.ifCond .lt 8, 3) := by decide +kernel
theorem dX11_stop_17 : decode cX11_stop 17 = .ok (.iload_n 1, 1) := by decide +kernel
theorem dX11_stop_18 : decode cX11_stop 18 = .ok (.iconst 1, 1) := by decide +kernel
theorem dX11_stop_19 : decode cX11_stop 19 = .ok (.if_icmp .le 5, 3) := by decide +kernel
theorem dX11_stop_22 : decode cX11_stop 22 = .ok (.iconst (-1), 1) := by decide +kernel
theorem dX11_stop_23 : decode cX11_stop 23 = .ok (.ireturn, 1) := by decide +kernel
theorem dX11_stop_24 : decode cX11_stop 24 = .ok (.aload_n 0, 1) := by decide +kernel
theorem dX11_stop_25 : decode cX11_stop 25 = .ok (.getfield 12, 3) := by decide +kernel
theorem dX11_stop_28 : decode cX11_stop 28 = .ok (.getfield 355, 3) := by decide +kernel
theorem dX11_stop_31 : decode cX11_stop 31 = .ok (.iload_n 1, 1) := by decide +kernel
theorem dX11_stop_32 : decode cX11_stop 32 = .ok (.iconst 1, 1) := by decide +kernel
theorem dX11_stop_33 : decode cX11_stop 33 = .ok (.if_icmp .ne 7, 3) := by decide +kernel
theorem dX11_stop_36 : decode cX11_stop 36 = .ok (.iconst 1, 1) := by decide +kernel
theorem dX11_stop_37 : decode cX11_stop 37 = .ok (.goto 4, 3) := by decide +kernel
theorem dX11_stop_40 : decode cX11_stop 40 = .ok (.iconst 0, 1) := by decide +kernel
theorem dX11_stop_41 : decode cX11_stop 41 = .ok (.invokestatic 358, 3) := by decide +kernel
theorem dX11_stop_44 : decode cX11_stop 44 = .ok (.ireturn, 1) := by decide +kernel
theorem dX11_game_0 : decode cX11_game 0 = .ok (.iload_n 1, 1) := by decide +kernel
theorem dX11_game_1 : decode cX11_game 1 = .ok (.ifCond .lt 8, 3) := by decide +kernel
theorem dX11_game_4 : decode cX11_game 4 = .ok (.iload_n 1, 1) := by decide +kernel
theorem dX11_game_5 : decode cX11_game 5 = .ok (.iconst 1, 1) := by decide +kernel
theorem dX11_game_6 : decode cX11_game 6 = .ok (.if_icmp .le 5, 3) := by decide +kernel
theorem dX11_game_9 : decode cX11_game 9 = .ok (.iconst (-1), 1) := by decide +kernel
theorem dX11_game_10 : decode cX11_game 10 = .ok (.ireturn, 1) := by decide +kernel
theorem dX11_game_11 : decode cX11_game 11 = .ok (.aload_n 0, 1) := by decide +kernel
theorem dX11_game_12 : decode cX11_game 12 = .ok (.getfield 12, 3) := by decide +kernel
theorem dX11_game_15 : decode cX11_game 15 = .ok (.getfield 63, 3) := by decide +kernel
theorem dX11_game_18 : decode cX11_game 18 = .ok (.getfield 209, 3) := by decide +kernel
theorem dX11_game_21 : decode cX11_game 21 = .ok (.iload_n 1, 1) := by decide +kernel
theorem dX11_game_22 : decode cX11_game 22 = .ok (.iconst 1, 1) := by decide +kernel
theorem dX11_game_23 : decode cX11_game 23 = .ok (.if_icmp .ne 7, 3) := by decide +kernel
theorem dX11_game_26 : decode cX11_game 26 = .ok (.iconst 1, 1) := by decide +kernel
theorem dX11_game_27 : decode cX11_game 27 = .ok (.goto 4, 3) := by decide +kernel
theorem dX11_game_30 : decode cX11_game 30 = .ok (.iconst 0, 1) := by decide +kernel
theorem dX11_game_31 : decode cX11_game 31 = .ok (.invokestatic 362, 3) := by decide +kernel
theorem dX11_game_34 : decode cX11_game 34 = .ok (.ireturn, 1) := by decide +kernel
theorem dX11_undo_0 : decode cX11_undo 0 = .ok (.aload_n 0, 1) := by decide +kernel
theorem dX11_undo_1 : decode cX11_undo 1 = .ok (.getfield 26, 3) := by decide +kernel
theorem dX11_undo_4 : decode cX11_undo 4 = .ok (.aload_n 0, 1) := by decide +kernel
theorem dX11_undo_5 : decode cX11_undo 5 = .ok (.getfield 12, 3) := by decide +kernel
theorem dX11_undo_8 : decode cX11_undo 8 = .ok (.invokevirtual 365, 3) := by decide +kernel
theorem dX11_undo_11 : decode cX11_undo 11 = .ok (.ireturn, 1) := by decide +kernel
theorem dX11_image_0 : decode cX11_image 0 = .ok (.iload_n 1, 1) := by decide +kernel
theorem dX11_image_1 : decode cX11_image 1 = .ok (.ifCond .eq 34, 3) := by decide +kernel
theorem dX11_image_4 : decode cX11_image 4 = .ok (.aload_n 0, 1) := by decide +kernel
theorem dX11_image_5 : decode cX11_image 5 = .ok (.getfield 60, 3) := by decide +kernel
theorem dX11_image_8 : decode cX11_image 8 = .ok (.ifnonnull 14, 3) := by decide +kernel
theorem dX11_image_11 : decode cX11_image 11 = .ok (.aload_n 0, 1) := by decide +kernel
theorem dX11_image_12 : decode cX11_image 12 = .ok (.new 9, 3) := by decide +kernel
theorem dX11_image_15 : decode cX11_image 15 = .ok (.dup, 1) := by decide +kernel
theorem dX11_image_16 : decode cX11_image 16 = .ok (.invokespecial 11, 3) := by decide +kernel
theorem dX11_image_19 : decode cX11_image 19 = .ok (.putfield 60, 3) := by decide +kernel
theorem dX11_image_22 : decode cX11_image 22 = .ok (.aload_n 0, 1) := by decide +kernel
theorem dX11_image_23 : decode cX11_image 23 = .ok (.getfield 60, 3) := by decide +kernel
theorem dX11_image_26 : decode cX11_image 26 = .ok (.aload_n 0, 1) := by decide +kernel
theorem dX11_image_27 : decode cX11_image 27 = .ok (.getfield 12, 3) := by decide +kernel
theorem dX11_image_30 : decode cX11_image 30 = .ok (.invokevirtual 369, 3) := by decide +kernel
theorem dX11_image_33 : decode cX11_image 33 = .ok (.iconst 1, 1) := by decide +kernel
theorem dX11_image_34 : decode cX11_image 34 = .ok (.ireturn, 1) := by decide +kernel
theorem dX11_image_35 : decode cX11_image 35 = .ok (.aload_n 0, 1) := by decide +kernel
theorem dX11_image_36 : decode cX11_image 36 = .ok (.getfield 60, 3) := by decide +kernel
theorem dX11_image_39 : decode cX11_image 39 = .ok (.ifnonnull 5, 3) := by decide +kernel
theorem dX11_image_42 : decode cX11_image 42 = .ok (.iconst 0, 1) := by decide +kernel
theorem dX11_image_43 : decode cX11_image 43 = .ok (.ireturn, 1) := by decide +kernel
theorem dX11_image_44 : decode cX11_image 44 = .ok (.aload_n 0, 1) := by decide +kernel
theorem dX11_image_45 : decode cX11_image 45 = .ok (.getfield 12, 3) := by decide +kernel
theorem dX11_image_48 : decode cX11_image 48 = .ok (.aload_n 0, 1) := by decide +kernel
theorem dX11_image_49 : decode cX11_image 49 = .ok (.getfield 60, 3) := by decide +kernel
theorem dX11_image_52 : decode cX11_image 52 = .ok (.invokevirtual 369, 3) := by decide +kernel
theorem dX11_image_55 : decode cX11_image 55 = .ok (.aload_n 0, 1) := by decide +kernel
theorem dX11_image_56 : decode cX11_image 56 = .ok (.getfield 26, 3) := by decide +kernel
theorem dX11_image_59 : decode cX11_image 59 = .ok (.invokevirtual 70, 3) := by decide +kernel
theorem dX11_image_62 : decode cX11_image 62 = .ok (.aload_n 0, 1) := by decide +kernel
theorem dX11_image_63 : decode cX11_image 63 = .ok (.getfield 49, 3) := by decide +kernel
theorem dX11_image_66 : decode cX11_image 66 = .ok (.invokevirtual 287, 3) := by decide +kernel
theorem dX11_image_69 : decode cX11_image 69 = .ok (.iconst 1, 1) := by decide +kernel
theorem dX11_image_70 : decode cX11_image 70 = .ok (.ireturn, 1) := by decide +kernel
theorem dX11_look_0 : decode cX11_look 0 = .ok (.iload_n 1, 1) := by decide +kernel
theorem dX11_look_1 : decode cX11_look 1 = .ok (.tableswitch 198 0 12 #[67, 75, 83, 94, 105, 116, 124, 135, 146, 157, 168, 179, 190], 67) := by decide +kernel
theorem dX11_look_68 : decode cX11_look 68 = .ok (.aload_n 0, 1) := by decide +kernel
theorem dX11_look_69 : decode cX11_look 69 = .ok (.getfield 12, 3) := by decide +kernel
theorem dX11_look_72 : decode cX11_look 72 = .ok (.getfield 140, 3) := by decide +kernel
theorem dX11_look_75 : decode cX11_look 75 = .ok (.ireturn, 1) := by decide +kernel
theorem dX11_look_76 : decode cX11_look 76 = .ok (.aload_n 0, 1) := by decide +kernel
theorem dX11_look_77 : decode cX11_look 77 = .ok (.getfield 12, 3) := by decide +kernel
theorem dX11_look_80 : decode cX11_look 80 = .ok (.getfield 143, 3) := by decide +kernel
theorem dX11_look_83 : decode cX11_look 83 = .ok (.ireturn, 1) := by decide +kernel
theorem dX11_look_84 : decode cX11_look 84 = .ok (.aload_n 0, 1) := by decide +kernel
theorem dX11_look_85 : decode cX11_look 85 = .ok (.getfield 12, 3) := by decide +kernel
theorem dX11_look_88 : decode cX11_look 88 = .ok (.getfield 63, 3) := by decide +kernel
theorem dX11_look_91 : decode cX11_look 91 = .ok (.getfield 123, 3) := by decide +kernel
theorem dX11_look_94 : decode cX11_look 94 = .ok (.ireturn, 1) := by decide +kernel
theorem dX11_look_95 : decode cX11_look 95 = .ok (.aload_n 0, 1) := by decide +kernel
theorem dX11_look_96 : decode cX11_look 96 = .ok (.getfield 12, 3) := by decide +kernel
theorem dX11_look_99 : decode cX11_look 99 = .ok (.getfield 63, 3) := by decide +kernel
theorem dX11_look_102 : decode cX11_look 102 = .ok (.getfield 250, 3) := by decide +kernel
theorem dX11_look_105 : decode cX11_look 105 = .ok (.ireturn, 1) := by decide +kernel
theorem dX11_look_106 : decode cX11_look 106 = .ok (.aload_n 0, 1) := by decide +kernel
theorem dX11_look_107 : decode cX11_look 107 = .ok (.getfield 12, 3) := by decide +kernel
theorem dX11_look_110 : decode cX11_look 110 = .ok (.getfield 63, 3) := by decide +kernel
theorem dX11_look_113 : decode cX11_look 113 = .ok (.getfield 120, 3) := by decide +kernel
theorem dX11_look_116 : decode cX11_look 116 = .ok (.ireturn, 1) := by decide +kernel
theorem dX11_look_117 : decode cX11_look 117 = .ok (.aload_n 0, 1) := by decide +kernel
theorem dX11_look_118 : decode cX11_look 118 = .ok (.getfield 12, 3) := by decide +kernel
theorem dX11_look_121 : decode cX11_look 121 = .ok (.invokevirtual 371, 3) := by decide +kernel
theorem dX11_look_124 : decode cX11_look 124 = .ok (.ireturn, 1) := by decide +kernel
theorem dX11_look_125 : decode cX11_look 125 = .ok (.aload_n 0, 1) := by decide +kernel
theorem dX11_look_126 : decode cX11_look 126 = .ok (.getfield 12, 3) := by decide +kernel
theorem dX11_look_129 : decode cX11_look 129 = .ok (.getfield 237, 3) := by decide +kernel
theorem dX11_look_132 : decode cX11_look 132 = .ok (.getfield 240, 3) := by decide +kernel
theorem dX11_look_135 : decode cX11_look 135 = .ok (.ireturn, 1) := by decide +kernel
theorem dX11_look_136 : decode cX11_look 136 = .ok (.aload_n 0, 1) := by decide +kernel
theorem dX11_look_137 : decode cX11_look 137 = .ok (.getfield 12, 3) := by decide +kernel
theorem dX11_look_140 : decode cX11_look 140 = .ok (.getfield 63, 3) := by decide +kernel
theorem dX11_look_143 : decode cX11_look 143 = .ok (.getfield 66, 3) := by decide +kernel
theorem dX11_look_146 : decode cX11_look 146 = .ok (.ireturn, 1) := by decide +kernel
theorem dX11_look_147 : decode cX11_look 147 = .ok (.aload_n 0, 1) := by decide +kernel
theorem dX11_look_148 : decode cX11_look 148 = .ok (.getfield 12, 3) := by decide +kernel
theorem dX11_look_151 : decode cX11_look 151 = .ok (.getfield 149, 3) := by decide +kernel
theorem dX11_look_154 : decode cX11_look 154 = .ok (.getfield 374, 3) := by decide +kernel
theorem dX11_look_157 : decode cX11_look 157 = .ok (.ireturn, 1) := by decide +kernel
theorem dX11_look_158 : decode cX11_look 158 = .ok (.aload_n 0, 1) := by decide +kernel
theorem dX11_look_159 : decode cX11_look 159 = .ok (.getfield 12, 3) := by decide +kernel
theorem dX11_look_162 : decode cX11_look 162 = .ok (.getfield 160, 3) := by decide +kernel
theorem dX11_look_165 : decode cX11_look 165 = .ok (.getfield 240, 3) := by decide +kernel
theorem dX11_look_168 : decode cX11_look 168 = .ok (.ireturn, 1) := by decide +kernel
theorem dX11_look_169 : decode cX11_look 169 = .ok (.aload_n 0, 1) := by decide +kernel
theorem dX11_look_170 : decode cX11_look 170 = .ok (.getfield 12, 3) := by decide +kernel
theorem dX11_look_173 : decode cX11_look 173 = .ok (.getfield 172, 3) := by decide +kernel
theorem dX11_look_176 : decode cX11_look 176 = .ok (.getfield 240, 3) := by decide +kernel
theorem dX11_look_179 : decode cX11_look 179 = .ok (.ireturn, 1) := by decide +kernel
theorem dX11_look_180 : decode cX11_look 180 = .ok (.aload_n 0, 1) := by decide +kernel
theorem dX11_look_181 : decode cX11_look 181 = .ok (.getfield 12, 3) := by decide +kernel
theorem dX11_look_184 : decode cX11_look 184 = .ok (.getfield 175, 3) := by decide +kernel
theorem dX11_look_187 : decode cX11_look 187 = .ok (.getfield 240, 3) := by decide +kernel
theorem dX11_look_190 : decode cX11_look 190 = .ok (.ireturn, 1) := by decide +kernel
theorem dX11_look_191 : decode cX11_look 191 = .ok (.aload_n 0, 1) := by decide +kernel
theorem dX11_look_192 : decode cX11_look 192 = .ok (.getfield 26, 3) := by decide +kernel
theorem dX11_look_195 : decode cX11_look 195 = .ok (.getfield 377, 3) := by decide +kernel
theorem dX11_look_198 : decode cX11_look 198 = .ok (.ireturn, 1) := by decide +kernel
theorem dX11_look_199 : decode cX11_look 199 = .ok (.sipush (-10000), 3) := by decide +kernel
theorem dX11_look_202 : decode cX11_look 202 = .ok (.ireturn, 1) := by decide +kernel
theorem dX11_canAnswer_0 : decode cX11_canAnswer 0 = .ok (.aload_n 0, 1) := by decide +kernel
theorem dX11_canAnswer_1 : decode cX11_canAnswer 1 = .ok (.getfield 12, 3) := by decide +kernel
theorem dX11_canAnswer_4 : decode cX11_canAnswer 4 = .ok (.iload_n 1, 1) := by decide +kernel
theorem dX11_canAnswer_5 : decode cX11_canAnswer 5 = .ok (.invokevirtual 92, 3) := by decide +kernel
theorem dX11_canAnswer_8 : decode cX11_canAnswer 8 = .ok (.ifCond .eq 44, 3) := by decide +kernel
theorem dX11_canAnswer_11 : decode cX11_canAnswer 11 = .ok (.aload_n 0, 1) := by decide +kernel
theorem dX11_canAnswer_12 : decode cX11_canAnswer 12 = .ok (.getfield 12, 3) := by decide +kernel
theorem dX11_canAnswer_15 : decode cX11_canAnswer 15 = .ok (.iload_n 2, 1) := by decide +kernel
theorem dX11_canAnswer_16 : decode cX11_canAnswer 16 = .ok (.invokevirtual 81, 3) := by decide +kernel
theorem dX11_canAnswer_19 : decode cX11_canAnswer 19 = .ok (.ifCond .eq 33, 3) := by decide +kernel
theorem dX11_canAnswer_22 : decode cX11_canAnswer 22 = .ok (.iload_n 3, 1) := by decide +kernel
theorem dX11_canAnswer_23 : decode cX11_canAnswer 23 = .ok (.aload_n 0, 1) := by decide +kernel
theorem dX11_canAnswer_24 : decode cX11_canAnswer 24 = .ok (.getfield 12, 3) := by decide +kernel
theorem dX11_canAnswer_27 : decode cX11_canAnswer 27 = .ok (.getfield 160, 3) := by decide +kernel
theorem dX11_canAnswer_30 : decode cX11_canAnswer 30 = .ok (.getfield 240, 3) := by decide +kernel
theorem dX11_canAnswer_33 : decode cX11_canAnswer 33 = .ok (.invokestatic 273, 3) := by decide +kernel
theorem dX11_canAnswer_36 : decode cX11_canAnswer 36 = .ok (.ifCond .eq 16, 3) := by decide +kernel
theorem dX11_canAnswer_39 : decode cX11_canAnswer 39 = .ok (.iload 4, 2) := by decide +kernel
theorem dX11_canAnswer_41 : decode cX11_canAnswer 41 = .ok (.iconst 3, 1) := by decide +kernel
theorem dX11_canAnswer_42 : decode cX11_canAnswer 42 = .ok (.invokestatic 273, 3) := by decide +kernel
theorem dX11_canAnswer_45 : decode cX11_canAnswer 45 = .ok (.ifCond .eq 7, 3) := by decide +kernel
theorem dX11_canAnswer_48 : decode cX11_canAnswer 48 = .ok (.iconst 1, 1) := by decide +kernel
theorem dX11_canAnswer_49 : decode cX11_canAnswer 49 = .ok (.goto 4, 3) := by decide +kernel
theorem dX11_canAnswer_52 : decode cX11_canAnswer 52 = .ok (.iconst 0, 1) := by decide +kernel
theorem dX11_canAnswer_53 : decode cX11_canAnswer 53 = .ok (.ireturn, 1) := by decide +kernel
theorem dX11_isDigit_0 : decode cX11_isDigit 0 = .ok (.iload_n 0, 1) := by decide +kernel
theorem dX11_isDigit_1 : decode cX11_isDigit 1 = .ok (.ifCond .lt 13, 3) := by decide +kernel
theorem dX11_isDigit_4 : decode cX11_isDigit 4 = .ok (.iload_n 0, 1) := by decide +kernel
theorem dX11_isDigit_5 : decode cX11_isDigit 5 = .ok (.bipush 9, 2) := by decide +kernel
theorem dX11_isDigit_7 : decode cX11_isDigit 7 = .ok (.if_icmp .gt 7, 3) := by decide +kernel
theorem dX11_isDigit_10 : decode cX11_isDigit 10 = .ok (.iconst 1, 1) := by decide +kernel
theorem dX11_isDigit_11 : decode cX11_isDigit 11 = .ok (.goto 4, 3) := by decide +kernel
theorem dX11_isDigit_14 : decode cX11_isDigit 14 = .ok (.iconst 0, 1) := by decide +kernel
theorem dX11_isDigit_15 : decode cX11_isDigit 15 = .ok (.ireturn, 1) := by decide +kernel
theorem dX11_isBelow_0 : decode cX11_isBelow 0 = .ok (.iload_n 0, 1) := by decide +kernel
theorem dX11_isBelow_1 : decode cX11_isBelow 1 = .ok (.ifCond .lt 12, 3) := by decide +kernel
theorem dX11_isBelow_4 : decode cX11_isBelow 4 = .ok (.iload_n 0, 1) := by decide +kernel
theorem dX11_isBelow_5 : decode cX11_isBelow 5 = .ok (.iload_n 1, 1) := by decide +kernel
theorem dX11_isBelow_6 : decode cX11_isBelow 6 = .ok (.if_icmp .ge 7, 3) := by decide +kernel
theorem dX11_isBelow_9 : decode cX11_isBelow 9 = .ok (.iconst 1, 1) := by decide +kernel
theorem dX11_isBelow_10 : decode cX11_isBelow 10 = .ok (.goto 4, 3) := by decide +kernel
theorem dX11_isBelow_13 : decode cX11_isBelow 13 = .ok (.iconst 0, 1) := by decide +kernel
theorem dX11_isBelow_14 : decode cX11_isBelow 14 = .ok (.ireturn, 1) := by decide +kernel
theorem dX11_has_0 : decode cX11_has 0 = .ok (.iload_n 0, 1) := by decide +kernel
theorem dX11_has_1 : decode cX11_has 1 = .ok (.iload_n 1, 1) := by decide +kernel
theorem dX11_has_2 : decode cX11_has 2 = .ok (.ishr, 1) := by decide +kernel
theorem dX11_has_3 : decode cX11_has 3 = .ok (.iconst 1, 1) := by decide +kernel
theorem dX11_has_4 : decode cX11_has 4 = .ok (.iand, 1) := by decide +kernel
theorem dX11_has_5 : decode cX11_has 5 = .ok (.ifCond .eq 7, 3) := by decide +kernel
theorem dX11_has_8 : decode cX11_has 8 = .ok (.iconst 1, 1) := by decide +kernel
theorem dX11_has_9 : decode cX11_has 9 = .ok (.goto 4, 3) := by decide +kernel
theorem dX11_has_12 : decode cX11_has 12 = .ok (.iconst 0, 1) := by decide +kernel
theorem dX11_has_13 : decode cX11_has 13 = .ok (.ireturn, 1) := by decide +kernel
theorem dX11_held_0 : decode cX11_held 0 = .ok (.iload_n 1, 1) := by decide +kernel
theorem dX11_held_1 : decode cX11_held 1 = .ok (.iload_n 2, 1) := by decide +kernel
theorem dX11_held_2 : decode cX11_held 2 = .ok (.iload_n 0, 1) := by decide +kernel
theorem dX11_held_3 : decode cX11_held 3 = .ok (.invokestatic 378, 3) := by decide +kernel
theorem dX11_held_6 : decode cX11_held 6 = .ok (.invokestatic 383, 3) := by decide +kernel
theorem dX11_held_9 : decode cX11_held 9 = .ok (.ireturn, 1) := by decide +kernel
theorem dX11_sumOf_0 : decode cX11_sumOf 0 = .ok (.iconst 0, 1) := by decide +kernel
theorem dX11_sumOf_1 : decode cX11_sumOf 1 = .ok (.istore_n 1, 1) := by decide +kernel
theorem dX11_sumOf_2 : decode cX11_sumOf 2 = .ok (.aload_n 0, 1) := by decide +kernel
theorem dX11_sumOf_3 : decode cX11_sumOf 3 = .ok (.astore_n 2, 1) := by decide +kernel
theorem dX11_sumOf_4 : decode cX11_sumOf 4 = .ok (.aload_n 2, 1) := by decide +kernel
theorem dX11_sumOf_5 : decode cX11_sumOf 5 = .ok (.arraylength, 1) := by decide +kernel
theorem dX11_sumOf_6 : decode cX11_sumOf 6 = .ok (.istore_n 3, 1) := by decide +kernel
theorem dX11_sumOf_7 : decode cX11_sumOf 7 = .ok (.iconst 0, 1) := by decide +kernel
theorem dX11_sumOf_8 : decode cX11_sumOf 8 = .ok (.istore 4, 2) := by decide +kernel
theorem dX11_sumOf_10 : decode cX11_sumOf 10 = .ok (.iload 4, 2) := by decide +kernel
theorem dX11_sumOf_12 : decode cX11_sumOf 12 = .ok (.iload_n 3, 1) := by decide +kernel
theorem dX11_sumOf_13 : decode cX11_sumOf 13 = .ok (.if_icmp .ge 20, 3) := by decide +kernel
theorem dX11_sumOf_16 : decode cX11_sumOf 16 = .ok (.aload_n 2, 1) := by decide +kernel
theorem dX11_sumOf_17 : decode cX11_sumOf 17 = .ok (.iload 4, 2) := by decide +kernel
theorem dX11_sumOf_19 : decode cX11_sumOf 19 = .ok (.iaload, 1) := by decide +kernel
theorem dX11_sumOf_20 : decode cX11_sumOf 20 = .ok (.istore 5, 2) := by decide +kernel
theorem dX11_sumOf_22 : decode cX11_sumOf 22 = .ok (.iload_n 1, 1) := by decide +kernel
theorem dX11_sumOf_23 : decode cX11_sumOf 23 = .ok (.iload 5, 2) := by decide +kernel
theorem dX11_sumOf_25 : decode cX11_sumOf 25 = .ok (.iadd, 1) := by decide +kernel
theorem dX11_sumOf_26 : decode cX11_sumOf 26 = .ok (.istore_n 1, 1) := by decide +kernel
theorem dX11_sumOf_27 : decode cX11_sumOf 27 = .ok (.iinc 4 1, 3) := by decide +kernel
theorem dX11_sumOf_30 : decode cX11_sumOf 30 = .ok (.goto (-20), 3) := by decide +kernel
theorem dX11_sumOf_33 : decode cX11_sumOf 33 = .ok (.iload_n 1, 1) := by decide +kernel
theorem dX11_sumOf_34 : decode cX11_sumOf 34 = .ok (.ireturn, 1) := by decide +kernel
theorem dX12_init_0 : decode cX12_init 0 = .ok (.aload_n 0, 1) := by decide +kernel
theorem dX12_init_1 : decode cX12_init 1 = .ok (.invokespecial 1, 3) := by decide +kernel
theorem dX12_init_4 : decode cX12_init 4 = .ok (.aload_n 0, 1) := by decide +kernel
theorem dX12_init_5 : decode cX12_init 5 = .ok (.bipush 49, 2) := by decide +kernel
theorem dX12_init_7 : decode cX12_init 7 = .ok (.newarray .int, 2) := by decide +kernel
theorem dX12_init_9 : decode cX12_init 9 = .ok (.putfield 7, 3) := by decide +kernel
theorem dX12_init_12 : decode cX12_init 12 = .ok (.aload_n 0, 1) := by decide +kernel
theorem dX12_init_13 : decode cX12_init 13 = .ok (.sipush 294, 3) := by decide +kernel
theorem dX12_init_16 : decode cX12_init 16 = .ok (.newarray .int, 2) := by decide +kernel
theorem dX12_init_18 : decode cX12_init 18 = .ok (.putfield 13, 3) := by decide +kernel
theorem dX12_init_21 : decode cX12_init 21 = .ok (.aload_n 0, 1) := by decide +kernel
theorem dX12_init_22 : decode cX12_init 22 = .ok (.bipush 49, 2) := by decide +kernel
theorem dX12_init_24 : decode cX12_init 24 = .ok (.newarray .int, 2) := by decide +kernel
theorem dX12_init_26 : decode cX12_init 26 = .ok (.putfield 16, 3) := by decide +kernel
theorem dX12_init_29 : decode cX12_init 29 = .ok (.aload_n 0, 1) := by decide +kernel
theorem dX12_init_30 : decode cX12_init 30 = .ok (.bipush 12, 2) := by decide +kernel
theorem dX12_init_32 : decode cX12_init 32 = .ok (.newarray .int, 2) := by decide +kernel
theorem dX12_init_34 : decode cX12_init 34 = .ok (.putfield 19, 3) := by decide +kernel
theorem dX12_init_37 : decode cX12_init 37 = .ok (.aload_n 0, 1) := by decide +kernel
theorem dX12_init_38 : decode cX12_init 38 = .ok (.bipush 12, 2) := by decide +kernel
theorem dX12_init_40 : decode cX12_init 40 = .ok (.newarray .int, 2) := by decide +kernel
theorem dX12_init_42 : decode cX12_init 42 = .ok (.putfield 22, 3) := by decide +kernel
theorem dX12_init_45 : decode cX12_init 45 = .ok (.aload_n 0, 1) := by decide +kernel
theorem dX12_init_46 : decode cX12_init 46 = .ok (.bipush 12, 2) := by decide +kernel
theorem dX12_init_48 : decode cX12_init 48 = .ok (.newarray .int, 2) := by decide +kernel
theorem dX12_init_50 : decode cX12_init 50 = .ok (.putfield 25, 3) := by decide +kernel
theorem dX12_init_53 : decode cX12_init 53 = .ok (.aload_n 0, 1) := by decide +kernel
theorem dX12_init_54 : decode cX12_init 54 = .ok (.bipush 8, 2) := by decide +kernel
theorem dX12_init_56 : decode cX12_init 56 = .ok (.newarray .int, 2) := by decide +kernel
theorem dX12_init_58 : decode cX12_init 58 = .ok (.putfield 28, 3) := by decide +kernel
theorem dX12_init_61 : decode cX12_init 61 = .ok (.aload_n 0, 1) := by decide +kernel
theorem dX12_init_62 : decode cX12_init 62 = .ok (.bipush 8, 2) := by decide +kernel
theorem dX12_init_64 : decode cX12_init 64 = .ok (.newarray .int, 2) := by decide +kernel
theorem dX12_init_66 : decode cX12_init 66 = .ok (.putfield 31, 3) := by decide +kernel
theorem dX12_init_69 : decode cX12_init 69 = .ok (.aload_n 0, 1) := by decide +kernel
theorem dX12_init_70 : decode cX12_init 70 = .ok (.sipush 600, 3) := by decide +kernel
theorem dX12_init_73 : decode cX12_init 73 = .ok (.newarray .int, 2) := by decide +kernel
theorem dX12_init_75 : decode cX12_init 75 = .ok (.putfield 34, 3) := by decide +kernel
theorem dX12_init_78 : decode cX12_init 78 = .ok (.aload_n 0, 1) := by decide +kernel
theorem dX12_init_79 : decode cX12_init 79 = .ok (.sipush 400, 3) := by decide +kernel
theorem dX12_init_82 : decode cX12_init 82 = .ok (.newarray .int, 2) := by decide +kernel
theorem dX12_init_84 : decode cX12_init 84 = .ok (.putfield 37, 3) := by decide +kernel
theorem dX12_init_87 : decode cX12_init 87 = .ok (.aload_n 0, 1) := by decide +kernel
theorem dX12_init_88 : decode cX12_init 88 = .ok (.sipush 132, 3) := by decide +kernel
theorem dX12_init_91 : decode cX12_init 91 = .ok (.newarray .int, 2) := by decide +kernel
theorem dX12_init_93 : decode cX12_init 93 = .ok (.dup, 1) := by decide +kernel
theorem dX12_init_94 : decode cX12_init 94 = .ok (.iconst 0, 1) := by decide +kernel
theorem dX12_init_95 : decode cX12_init 95 = .ok (.bipush 32, 2) := by decide +kernel
theorem dX12_init_97 : decode cX12_init 97 = .ok (.iastore, 1) := by decide +kernel
theorem dX12_init_98 : decode cX12_init 98 = .ok (.dup, 1) := by decide +kernel
theorem dX12_init_99 : decode cX12_init 99 = .ok (.iconst 1, 1) := by decide +kernel
theorem dX12_init_100 : decode cX12_init 100 = .ok (.bipush 121, 2) := by decide +kernel
theorem dX12_init_102 : decode cX12_init 102 = .ok (.iastore, 1) := by decide +kernel
theorem dX12_init_103 : decode cX12_init 103 = .ok (.dup, 1) := by decide +kernel
theorem dX12_init_104 : decode cX12_init 104 = .ok (.iconst 2, 1) := by decide +kernel
theorem dX12_init_105 : decode cX12_init 105 = .ok (.bipush 101, 2) := by decide +kernel
theorem dX12_init_107 : decode cX12_init 107 = .ok (.iastore, 1) := by decide +kernel
theorem dX12_init_108 : decode cX12_init 108 = .ok (.dup, 1) := by decide +kernel
theorem dX12_init_109 : decode cX12_init 109 = .ok (.iconst 3, 1) := by decide +kernel
theorem dX12_init_110 : decode cX12_init 110 = .ok (.bipush 115, 2) := by decide +kernel
theorem dX12_init_112 : decode cX12_init 112 = .ok (.iastore, 1) := by decide +kernel
theorem dX12_init_113 : decode cX12_init 113 = .ok (.dup, 1) := by decide +kernel
theorem dX12_init_114 : decode cX12_init 114 = .ok (.iconst 4, 1) := by decide +kernel
theorem dX12_init_115 : decode cX12_init 115 = .ok (.bipush 32, 2) := by decide +kernel
theorem dX12_init_117 : decode cX12_init 117 = .ok (.iastore, 1) := by decide +kernel
theorem dX12_init_118 : decode cX12_init 118 = .ok (.dup, 1) := by decide +kernel
theorem dX12_init_119 : decode cX12_init 119 = .ok (.iconst 5, 1) := by decide +kernel
theorem dX12_init_120 : decode cX12_init 120 = .ok (.bipush 99, 2) := by decide +kernel
theorem dX12_init_122 : decode cX12_init 122 = .ok (.iastore, 1) := by decide +kernel
theorem dX12_init_123 : decode cX12_init 123 = .ok (.dup, 1) := by decide +kernel
theorem dX12_init_124 : decode cX12_init 124 = .ok (.bipush 6, 2) := by decide +kernel
theorem dX12_init_126 : decode cX12_init 126 = .ok (.bipush 111, 2) := by decide +kernel
theorem dX12_init_128 : decode cX12_init 128 = .ok (.iastore, 1) := by decide +kernel
theorem dX12_init_129 : decode cX12_init 129 = .ok (.dup, 1) := by decide +kernel
theorem dX12_init_130 : decode cX12_init 130 = .ok (.bipush 7, 2) := by decide +kernel
theorem dX12_init_132 : decode cX12_init 132 = .ok (.bipush 117, 2) := by decide +kernel
theorem dX12_init_134 : decode cX12_init 134 = .ok (.iastore, 1) := by decide +kernel
theorem dX12_init_135 : decode cX12_init 135 = .ok (.dup, 1) := by decide +kernel
theorem dX12_init_136 : decode cX12_init 136 = .ok (.bipush 8, 2) := by decide +kernel
theorem dX12_init_138 : decode cX12_init 138 = .ok (.bipush 110, 2) := by decide +kernel
theorem dX12_init_140 : decode cX12_init 140 = .ok (.iastore, 1) := by decide +kernel
theorem dX12_init_141 : decode cX12_init 141 = .ok (.dup, 1) := by decide +kernel
theorem dX12_init_142 : decode cX12_init 142 = .ok (.bipush 9, 2) := by decide +kernel
theorem dX12_init_144 : decode cX12_init 144 = .ok (.bipush 116, 2) := by decide +kernel
theorem dX12_init_146 : decode cX12_init 146 = .ok (.iastore, 1) := by decide +kernel
theorem dX12_init_147 : decode cX12_init 147 = .ok (.dup, 1) := by decide +kernel
theorem dX12_init_148 : decode cX12_init 148 = .ok (.bipush 10, 2) := by decide +kernel
theorem dX12_init_150 : decode cX12_init 150 = .ok (.bipush 115, 2) := by decide +kernel
theorem dX12_init_152 : decode cX12_init 152 = .ok (.iastore, 1) := by decide +kernel
theorem dX12_init_153 : decode cX12_init 153 = .ok (.dup, 1) := by decide +kernel
theorem dX12_init_154 : decode cX12_init 154 = .ok (.bipush 11, 2) := by decide +kernel
theorem dX12_init_156 : decode cX12_init 156 = .ok (.bipush 32, 2) := by decide +kernel
theorem dX12_init_158 : decode cX12_init 158 = .ok (.iastore, 1) := by decide +kernel
theorem dX12_init_159 : decode cX12_init 159 = .ok (.dup, 1) := by decide +kernel
theorem dX12_init_160 : decode cX12_init 160 = .ok (.bipush 12, 2) := by decide +kernel
theorem dX12_init_162 : decode cX12_init 162 = .ok (.bipush 106, 2) := by decide +kernel
theorem dX12_init_164 : decode cX12_init 164 = .ok (.iastore, 1) := by decide +kernel
theorem dX12_init_165 : decode cX12_init 165 = .ok (.dup, 1) := by decide +kernel
theorem dX12_init_166 : decode cX12_init 166 = .ok (.bipush 13, 2) := by decide +kernel
theorem dX12_init_168 : decode cX12_init 168 = .ok (.bipush 111, 2) := by decide +kernel
theorem dX12_init_170 : decode cX12_init 170 = .ok (.iastore, 1) := by decide +kernel
theorem dX12_init_171 : decode cX12_init 171 = .ok (.dup, 1) := by decide +kernel
theorem dX12_init_172 : decode cX12_init 172 = .ok (.bipush 14, 2) := by decide +kernel
theorem dX12_init_174 : decode cX12_init 174 = .ok (.bipush 121, 2) := by decide +kernel
theorem dX12_init_176 : decode cX12_init 176 = .ok (.iastore, 1) := by decide +kernel
theorem dX12_init_177 : decode cX12_init 177 = .ok (.dup, 1) := by decide +kernel
theorem dX12_init_178 : decode cX12_init 178 = .ok (.bipush 15, 2) := by decide +kernel
theorem dX12_init_180 : decode cX12_init 180 = .ok (.bipush 32, 2) := by decide +kernel
theorem dX12_init_182 : decode cX12_init 182 = .ok (.iastore, 1) := by decide +kernel
theorem dX12_init_183 : decode cX12_init 183 = .ok (.dup, 1) := by decide +kernel
theorem dX12_init_184 : decode cX12_init 184 = .ok (.bipush 16, 2) := by decide +kernel
theorem dX12_init_186 : decode cX12_init 186 = .ok (.bipush 119, 2) := by decide +kernel
theorem dX12_init_188 : decode cX12_init 188 = .ok (.iastore, 1) := by decide +kernel
theorem dX12_init_189 : decode cX12_init 189 = .ok (.dup, 1) := by decide +kernel
theorem dX12_init_190 : decode cX12_init 190 = .ok (.bipush 17, 2) := by decide +kernel
theorem dX12_init_192 : decode cX12_init 192 = .ok (.bipush 104, 2) := by decide +kernel
theorem dX12_init_194 : decode cX12_init 194 = .ok (.iastore, 1) := by decide +kernel
theorem dX12_init_195 : decode cX12_init 195 = .ok (.dup, 1) := by decide +kernel
theorem dX12_init_196 : decode cX12_init 196 = .ok (.bipush 18, 2) := by decide +kernel
theorem dX12_init_198 : decode cX12_init 198 = .ok (.bipush 101, 2) := by decide +kernel
theorem dX12_init_200 : decode cX12_init 200 = .ok (.iastore, 1) := by decide +kernel
theorem dX12_init_201 : decode cX12_init 201 = .ok (.dup, 1) := by decide +kernel
theorem dX12_init_202 : decode cX12_init 202 = .ok (.bipush 19, 2) := by decide +kernel
theorem dX12_init_204 : decode cX12_init 204 = .ok (.bipush 110, 2) := by decide +kernel
theorem dX12_init_206 : decode cX12_init 206 = .ok (.iastore, 1) := by decide +kernel
theorem dX12_init_207 : decode cX12_init 207 = .ok (.dup, 1) := by decide +kernel
theorem dX12_init_208 : decode cX12_init 208 = .ok (.bipush 20, 2) := by decide +kernel
theorem dX12_init_210 : decode cX12_init 210 = .ok (.bipush 32, 2) := by decide +kernel
theorem dX12_init_212 : decode cX12_init 212 = .ok (.iastore, 1) := by decide +kernel
theorem dX12_init_213 : decode cX12_init 213 = .ok (.dup, 1) := by decide +kernel
theorem dX12_init_214 : decode cX12_init 214 = .ok (.bipush 21, 2) := by decide +kernel
theorem dX12_init_216 : decode cX12_init 216 = .ok (.bipush 111, 2) := by decide +kernel
theorem dX12_init_218 : decode cX12_init 218 = .ok (.iastore, 1) := by decide +kernel
theorem dX12_init_219 : decode cX12_init 219 = .ok (.dup, 1) := by decide +kernel
theorem dX12_init_220 : decode cX12_init 220 = .ok (.bipush 22, 2) := by decide +kernel
theorem dX12_init_222 : decode cX12_init 222 = .ok (.bipush 114, 2) := by decide +kernel
theorem dX12_init_224 : decode cX12_init 224 = .ok (.iastore, 1) := by decide +kernel
theorem dX12_init_225 : decode cX12_init 225 = .ok (.dup, 1) := by decide +kernel
theorem dX12_init_226 : decode cX12_init 226 = .ok (.bipush 23, 2) := by decide +kernel
theorem dX12_init_228 : decode cX12_init 228 = .ok (.bipush 32, 2) := by decide +kernel
theorem dX12_init_230 : decode cX12_init 230 = .ok (.iastore, 1) := by decide +kernel
theorem dX12_init_231 : decode cX12_init 231 = .ok (.dup, 1) := by decide +kernel
theorem dX12_init_232 : decode cX12_init 232 = .ok (.bipush 24, 2) := by decide +kernel
theorem dX12_init_234 : decode cX12_init 234 = .ok (.bipush 97, 2) := by decide +kernel
theorem dX12_init_236 : decode cX12_init 236 = .ok (.iastore, 1) := by decide +kernel
theorem dX12_init_237 : decode cX12_init 237 = .ok (.dup, 1) := by decide +kernel
theorem dX12_init_238 : decode cX12_init 238 = .ok (.bipush 25, 2) := by decide +kernel
theorem dX12_init_240 : decode cX12_init 240 = .ok (.bipush 110, 2) := by decide +kernel
theorem dX12_init_242 : decode cX12_init 242 = .ok (.iastore, 1) := by decide +kernel
theorem dX12_init_243 : decode cX12_init 243 = .ok (.dup, 1) := by decide +kernel
theorem dX12_init_244 : decode cX12_init 244 = .ok (.bipush 26, 2) := by decide +kernel
theorem dX12_init_246 : decode cX12_init 246 = .ok (.bipush 100, 2) := by decide +kernel
theorem dX12_init_248 : decode cX12_init 248 = .ok (.iastore, 1) := by decide +kernel
theorem dX12_init_249 : decode cX12_init 249 = .ok (.dup, 1) := by decide +kernel
theorem dX12_init_250 : decode cX12_init 250 = .ok (.bipush 27, 2) := by decide +kernel
theorem dX12_init_252 : decode cX12_init 252 = .ok (.bipush 32, 2) := by decide +kernel
theorem dX12_init_254 : decode cX12_init 254 = .ok (.iastore, 1) := by decide +kernel
theorem dX12_init_255 : decode cX12_init 255 = .ok (.dup, 1) := by decide +kernel
theorem dX12_init_256 : decode cX12_init 256 = .ok (.bipush 28, 2) := by decide +kernel
theorem dX12_init_258 : decode cX12_init 258 = .ok (.bipush 110, 2) := by decide +kernel
theorem dX12_init_260 : decode cX12_init 260 = .ok (.iastore, 1) := by decide +kernel
theorem dX12_init_261 : decode cX12_init 261 = .ok (.dup, 1) := by decide +kernel
theorem dX12_init_262 : decode cX12_init 262 = .ok (.bipush 29, 2) := by decide +kernel
theorem dX12_init_264 : decode cX12_init 264 = .ok (.bipush 111, 2) := by decide +kernel
theorem dX12_init_266 : decode cX12_init 266 = .ok (.iastore, 1) := by decide +kernel
theorem dX12_init_267 : decode cX12_init 267 = .ok (.dup, 1) := by decide +kernel
theorem dX12_init_268 : decode cX12_init 268 = .ok (.bipush 30, 2) := by decide +kernel
theorem dX12_init_270 : decode cX12_init 270 = .ok (.bipush 116, 2) := by decide +kernel
theorem dX12_init_272 : decode cX12_init 272 = .ok (.iastore, 1) := by decide +kernel
theorem dX12_init_273 : decode cX12_init 273 = .ok (.dup, 1) := by decide +kernel
theorem dX12_init_274 : decode cX12_init 274 = .ok (.bipush 31, 2) := by decide +kernel
theorem dX12_init_276 : decode cX12_init 276 = .ok (.bipush 32, 2) := by decide +kernel
theorem dX12_init_278 : decode cX12_init 278 = .ok (.iastore, 1) := by decide +kernel
theorem dX12_init_279 : decode cX12_init 279 = .ok (.dup, 1) := by decide +kernel
theorem dX12_init_280 : decode cX12_init 280 = .ok (.bipush 32, 2) := by decide +kernel
theorem dX12_init_282 : decode cX12_init 282 = .ok (.bipush 115, 2) := by decide +kernel
theorem dX12_init_284 : decode cX12_init 284 = .ok (.iastore, 1) := by decide +kernel
theorem dX12_init_285 : decode cX12_init 285 = .ok (.dup, 1) := by decide +kernel
theorem dX12_init_286 : decode cX12_init 286 = .ok (.bipush 33, 2) := by decide +kernel
theorem dX12_init_288 : decode cX12_init 288 = .ok (.bipush 116, 2) := by decide +kernel
theorem dX12_init_290 : decode cX12_init 290 = .ok (.iastore, 1) := by decide +kernel
theorem dX12_init_291 : decode cX12_init 291 = .ok (.dup, 1) := by decide +kernel
theorem dX12_init_292 : decode cX12_init 292 = .ok (.bipush 34, 2) := by decide +kernel
theorem dX12_init_294 : decode cX12_init 294 = .ok (.bipush 101, 2) := by decide +kernel
theorem dX12_init_296 : decode cX12_init 296 = .ok (.iastore, 1) := by decide +kernel
theorem dX12_init_297 : decode cX12_init 297 = .ok (.dup, 1) := by decide +kernel
theorem dX12_init_298 : decode cX12_init 298 = .ok (.bipush 35, 2) := by decide +kernel
theorem dX12_init_300 : decode cX12_init 300 = .ok (.bipush 112, 2) := by decide +kernel
theorem dX12_init_302 : decode cX12_init 302 = .ok (.iastore, 1) := by decide +kernel
theorem dX12_init_303 : decode cX12_init 303 = .ok (.dup, 1) := by decide +kernel
theorem dX12_init_304 : decode cX12_init 304 = .ok (.bipush 36, 2) := by decide +kernel
theorem dX12_init_306 : decode cX12_init 306 = .ok (.bipush 32, 2) := by decide +kernel
theorem dX12_init_308 : decode cX12_init 308 = .ok (.iastore, 1) := by decide +kernel
theorem dX12_init_309 : decode cX12_init 309 = .ok (.dup, 1) := by decide +kernel
theorem dX12_init_310 : decode cX12_init 310 = .ok (.bipush 37, 2) := by decide +kernel
theorem dX12_init_312 : decode cX12_init 312 = .ok (.bipush 104, 2) := by decide +kernel
theorem dX12_init_314 : decode cX12_init 314 = .ok (.iastore, 1) := by decide +kernel
theorem dX12_init_315 : decode cX12_init 315 = .ok (.dup, 1) := by decide +kernel
theorem dX12_init_316 : decode cX12_init 316 = .ok (.bipush 38, 2) := by decide +kernel
theorem dX12_init_318 : decode cX12_init 318 = .ok (.bipush 101, 2) := by decide +kernel
theorem dX12_init_320 : decode cX12_init 320 = .ok (.iastore, 1) := by decide +kernel
theorem dX12_init_321 : decode cX12_init 321 = .ok (.dup, 1) := by decide +kernel
theorem dX12_init_322 : decode cX12_init 322 = .ok (.bipush 39, 2) := by decide +kernel
theorem dX12_init_324 : decode cX12_init 324 = .ok (.bipush 97, 2) := by decide +kernel
theorem dX12_init_326 : decode cX12_init 326 = .ok (.iastore, 1) := by decide +kernel
theorem dX12_init_327 : decode cX12_init 327 = .ok (.dup, 1) := by decide +kernel
theorem dX12_init_328 : decode cX12_init 328 = .ok (.bipush 40, 2) := by decide +kernel
theorem dX12_init_330 : decode cX12_init 330 = .ok (.bipush 114, 2) := by decide +kernel
theorem dX12_init_332 : decode cX12_init 332 = .ok (.iastore, 1) := by decide +kernel
theorem dX12_init_333 : decode cX12_init 333 = .ok (.dup, 1) := by decide +kernel
theorem dX12_init_334 : decode cX12_init 334 = .ok (.bipush 41, 2) := by decide +kernel
theorem dX12_init_336 : decode cX12_init 336 = .ok (.bipush 116, 2) := by decide +kernel
theorem dX12_init_338 : decode cX12_init 338 = .ok (.iastore, 1) := by decide +kernel
theorem dX12_init_339 : decode cX12_init 339 = .ok (.dup, 1) := by decide +kernel
theorem dX12_init_340 : decode cX12_init 340 = .ok (.bipush 42, 2) := by decide +kernel
theorem dX12_init_342 : decode cX12_init 342 = .ok (.bipush 32, 2) := by decide +kernel
theorem dX12_init_344 : decode cX12_init 344 = .ok (.iastore, 1) := by decide +kernel
theorem dX12_init_345 : decode cX12_init 345 = .ok (.dup, 1) := by decide +kernel
theorem dX12_init_346 : decode cX12_init 346 = .ok (.bipush 43, 2) := by decide +kernel
theorem dX12_init_348 : decode cX12_init 348 = .ok (.bipush 114, 2) := by decide +kernel
theorem dX12_init_350 : decode cX12_init 350 = .ok (.iastore, 1) := by decide +kernel
theorem dX12_init_351 : decode cX12_init 351 = .ok (.dup, 1) := by decide +kernel
theorem dX12_init_352 : decode cX12_init 352 = .ok (.bipush 44, 2) := by decide +kernel
theorem dX12_init_354 : decode cX12_init 354 = .ok (.bipush 111, 2) := by decide +kernel
theorem dX12_init_356 : decode cX12_init 356 = .ok (.iastore, 1) := by decide +kernel
theorem dX12_init_357 : decode cX12_init 357 = .ok (.dup, 1) := by decide +kernel
theorem dX12_init_358 : decode cX12_init 358 = .ok (.bipush 45, 2) := by decide +kernel
theorem dX12_init_360 : decode cX12_init 360 = .ok (.bipush 116, 2) := by decide +kernel
theorem dX12_init_362 : decode cX12_init 362 = .ok (.iastore, 1) := by decide +kernel
theorem dX12_init_363 : decode cX12_init 363 = .ok (.dup, 1) := by decide +kernel
theorem dX12_init_364 : decode cX12_init 364 = .ok (.bipush 46, 2) := by decide +kernel
theorem dX12_init_366 : decode cX12_init 366 = .ok (.bipush 101, 2) := by decide +kernel
theorem dX12_init_368 : decode cX12_init 368 = .ok (.iastore, 1) := by decide +kernel
theorem dX12_init_369 : decode cX12_init 369 = .ok (.dup, 1) := by decide +kernel
theorem dX12_init_370 : decode cX12_init 370 = .ok (.bipush 47, 2) := by decide +kernel
theorem dX12_init_372 : decode cX12_init 372 = .ok (.bipush 32, 2) := by decide +kernel
theorem dX12_init_374 : decode cX12_init 374 = .ok (.iastore, 1) := by decide +kernel
theorem dX12_init_375 : decode cX12_init 375 = .ok (.dup, 1) := by decide +kernel
theorem dX12_init_376 : decode cX12_init 376 = .ok (.bipush 48, 2) := by decide +kernel
theorem dX12_init_378 : decode cX12_init 378 = .ok (.bipush 115, 2) := by decide +kernel
theorem dX12_init_380 : decode cX12_init 380 = .ok (.iastore, 1) := by decide +kernel
theorem dX12_init_381 : decode cX12_init 381 = .ok (.dup, 1) := by decide +kernel
theorem dX12_init_382 : decode cX12_init 382 = .ok (.bipush 49, 2) := by decide +kernel
theorem dX12_init_384 : decode cX12_init 384 = .ok (.bipush 104, 2) := by decide +kernel
theorem dX12_init_386 : decode cX12_init 386 = .ok (.iastore, 1) := by decide +kernel
theorem dX12_init_387 : decode cX12_init 387 = .ok (.dup, 1) := by decide +kernel
theorem dX12_init_388 : decode cX12_init 388 = .ok (.bipush 50, 2) := by decide +kernel
theorem dX12_init_390 : decode cX12_init 390 = .ok (.bipush 101, 2) := by decide +kernel
theorem dX12_init_392 : decode cX12_init 392 = .ok (.iastore, 1) := by decide +kernel
theorem dX12_init_393 : decode cX12_init 393 = .ok (.dup, 1) := by decide +kernel
theorem dX12_init_394 : decode cX12_init 394 = .ok (.bipush 51, 2) := by decide +kernel
theorem dX12_init_396 : decode cX12_init 396 = .ok (.bipush 32, 2) := by decide +kernel
theorem dX12_init_398 : decode cX12_init 398 = .ok (.iastore, 1) := by decide +kernel
theorem dX12_init_399 : decode cX12_init 399 = .ok (.dup, 1) := by decide +kernel
theorem dX12_init_400 : decode cX12_init 400 = .ok (.bipush 52, 2) := by decide +kernel
theorem dX12_init_402 : decode cX12_init 402 = .ok (.bipush 115, 2) := by decide +kernel
theorem dX12_init_404 : decode cX12_init 404 = .ok (.iastore, 1) := by decide +kernel
theorem dX12_init_405 : decode cX12_init 405 = .ok (.dup, 1) := by decide +kernel
theorem dX12_init_406 : decode cX12_init 406 = .ok (.bipush 53, 2) := by decide +kernel
theorem dX12_init_408 : decode cX12_init 408 = .ok (.bipush 97, 2) := by decide +kernel
theorem dX12_init_410 : decode cX12_init 410 = .ok (.iastore, 1) := by decide +kernel
theorem dX12_init_411 : decode cX12_init 411 = .ok (.dup, 1) := by decide +kernel
theorem dX12_init_412 : decode cX12_init 412 = .ok (.bipush 54, 2) := by decide +kernel
theorem dX12_init_414 : decode cX12_init 414 = .ok (.bipush 105, 2) := by decide +kernel
theorem dX12_init_416 : decode cX12_init 416 = .ok (.iastore, 1) := by decide +kernel
theorem dX12_init_417 : decode cX12_init 417 = .ok (.dup, 1) := by decide +kernel
theorem dX12_init_418 : decode cX12_init 418 = .ok (.bipush 55, 2) := by decide +kernel
theorem dX12_init_420 : decode cX12_init 420 = .ok (.bipush 100, 2) := by decide +kernel
theorem dX12_init_422 : decode cX12_init 422 = .ok (.iastore, 1) := by decide +kernel
theorem dX12_init_423 : decode cX12_init 423 = .ok (.dup, 1) := by decide +kernel
theorem dX12_init_424 : decode cX12_init 424 = .ok (.bipush 56, 2) := by decide +kernel
theorem dX12_init_426 : decode cX12_init 426 = .ok (.bipush 32, 2) := by decide +kernel
theorem dX12_init_428 : decode cX12_init 428 = .ok (.iastore, 1) := by decide +kernel
theorem dX12_init_429 : decode cX12_init 429 = .ok (.dup, 1) := by decide +kernel
theorem dX12_init_430 : decode cX12_init 430 = .ok (.bipush 57, 2) := by decide +kernel
theorem dX12_init_432 : decode cX12_init 432 = .ok (.bipush 113, 2) := by decide +kernel
theorem dX12_init_434 : decode cX12_init 434 = .ok (.iastore, 1) := by decide +kernel
theorem dX12_init_435 : decode cX12_init 435 = .ok (.dup, 1) := by decide +kernel
theorem dX12_init_436 : decode cX12_init 436 = .ok (.bipush 58, 2) := by decide +kernel
theorem dX12_init_438 : decode cX12_init 438 = .ok (.bipush 117, 2) := by decide +kernel
theorem dX12_init_440 : decode cX12_init 440 = .ok (.iastore, 1) := by decide +kernel
theorem dX12_init_441 : decode cX12_init 441 = .ok (.dup, 1) := by decide +kernel
theorem dX12_init_442 : decode cX12_init 442 = .ok (.bipush 59, 2) := by decide +kernel
theorem dX12_init_444 : decode cX12_init 444 = .ok (.bipush 101, 2) := by decide +kernel
theorem dX12_init_446 : decode cX12_init 446 = .ok (.iastore, 1) := by decide +kernel
theorem dX12_init_447 : decode cX12_init 447 = .ok (.dup, 1) := by decide +kernel
theorem dX12_init_448 : decode cX12_init 448 = .ok (.bipush 60, 2) := by decide +kernel
theorem dX12_init_450 : decode cX12_init 450 = .ok (.bipush 115, 2) := by decide +kernel
theorem dX12_init_452 : decode cX12_init 452 = .ok (.iastore, 1) := by decide +kernel
theorem dX12_init_453 : decode cX12_init 453 = .ok (.dup, 1) := by decide +kernel
theorem dX12_init_454 : decode cX12_init 454 = .ok (.bipush 61, 2) := by decide +kernel
theorem dX12_init_456 : decode cX12_init 456 = .ok (.bipush 116, 2) := by decide +kernel
theorem dX12_init_458 : decode cX12_init 458 = .ok (.iastore, 1) := by decide +kernel
theorem dX12_init_459 : decode cX12_init 459 = .ok (.dup, 1) := by decide +kernel
theorem dX12_init_460 : decode cX12_init 460 = .ok (.bipush 62, 2) := by decide +kernel
theorem dX12_init_462 : decode cX12_init 462 = .ok (.bipush 105, 2) := by decide +kernel
theorem dX12_init_464 : decode cX12_init 464 = .ok (.iastore, 1) := by decide +kernel
theorem dX12_init_465 : decode cX12_init 465 = .ok (.dup, 1) := by decide +kernel
theorem dX12_init_466 : decode cX12_init 466 = .ok (.bipush 63, 2) := by decide +kernel
theorem dX12_init_468 : decode cX12_init 468 = .ok (.bipush 111, 2) := by decide +kernel
theorem dX12_init_470 : decode cX12_init 470 = .ok (.iastore, 1) := by decide +kernel
theorem dX12_init_471 : decode cX12_init 471 = .ok (.dup, 1) := by decide +kernel
theorem dX12_init_472 : decode cX12_init 472 = .ok (.bipush 64, 2) := by decide +kernel
theorem dX12_init_474 : decode cX12_init 474 = .ok (.bipush 110, 2) := by decide +kernel
theorem dX12_init_476 : decode cX12_init 476 = .ok (.iastore, 1) := by decide +kernel
theorem dX12_init_477 : decode cX12_init 477 = .ok (.dup, 1) := by decide +kernel
theorem dX12_init_478 : decode cX12_init 478 = .ok (.bipush 65, 2) := by decide +kernel
theorem dX12_init_480 : decode cX12_init 480 = .ok (.bipush 32, 2) := by decide +kernel
theorem dX12_init_482 : decode cX12_init 482 = .ok (.iastore, 1) := by decide +kernel
theorem dX12_init_483 : decode cX12_init 483 = .ok (.dup, 1) := by decide +kernel
theorem dX12_init_484 : decode cX12_init 484 = .ok (.bipush 66, 2) := by decide +kernel
theorem dX12_init_486 : decode cX12_init 486 = .ok (.bipush 112, 2) := by decide +kernel
theorem dX12_init_488 : decode cX12_init 488 = .ok (.iastore, 1) := by decide +kernel
theorem dX12_init_489 : decode cX12_init 489 = .ok (.dup, 1) := by decide +kernel
theorem dX12_init_490 : decode cX12_init 490 = .ok (.bipush 67, 2) := by decide +kernel
theorem dX12_init_492 : decode cX12_init 492 = .ok (.bipush 108, 2) := by decide +kernel
theorem dX12_init_494 : decode cX12_init 494 = .ok (.iastore, 1) := by decide +kernel
theorem dX12_init_495 : decode cX12_init 495 = .ok (.dup, 1) := by decide +kernel
theorem dX12_init_496 : decode cX12_init 496 = .ok (.bipush 68, 2) := by decide +kernel
theorem dX12_init_498 : decode cX12_init 498 = .ok (.bipush 97, 2) := by decide +kernel
theorem dX12_init_500 : decode cX12_init 500 = .ok (.iastore, 1) := by decide +kernel
theorem dX12_init_501 : decode cX12_init 501 = .ok (.dup, 1) := by decide +kernel
theorem dX12_init_502 : decode cX12_init 502 = .ok (.bipush 69, 2) := by decide +kernel
theorem dX12_init_504 : decode cX12_init 504 = .ok (.bipush 99, 2) := by decide +kernel
theorem dX12_init_506 : decode cX12_init 506 = .ok (.iastore, 1) := by decide +kernel
theorem dX12_init_507 : decode cX12_init 507 = .ok (.dup, 1) := by decide +kernel
theorem dX12_init_508 : decode cX12_init 508 = .ok (.bipush 70, 2) := by decide +kernel
theorem dX12_init_510 : decode cX12_init 510 = .ok (.bipush 101, 2) := by decide +kernel
theorem dX12_init_512 : decode cX12_init 512 = .ok (.iastore, 1) := by decide +kernel
theorem dX12_init_513 : decode cX12_init 513 = .ok (.dup, 1) := by decide +kernel
theorem dX12_init_514 : decode cX12_init 514 = .ok (.bipush 71, 2) := by decide +kernel
theorem dX12_init_516 : decode cX12_init 516 = .ok (.bipush 32, 2) := by decide +kernel
theorem dX12_init_518 : decode cX12_init 518 = .ok (.iastore, 1) := by decide +kernel
theorem dX12_init_519 : decode cX12_init 519 = .ok (.dup, 1) := by decide +kernel
theorem dX12_init_520 : decode cX12_init 520 = .ok (.bipush 72, 2) := by decide +kernel
theorem dX12_init_522 : decode cX12_init 522 = .ok (.bipush 110, 2) := by decide +kernel
theorem dX12_init_524 : decode cX12_init 524 = .ok (.iastore, 1) := by decide +kernel
theorem dX12_init_525 : decode cX12_init 525 = .ok (.dup, 1) := by decide +kernel
theorem dX12_init_526 : decode cX12_init 526 = .ok (.bipush 73, 2) := by decide +kernel
theorem dX12_init_528 : decode cX12_init 528 = .ok (.bipush 101, 2) := by decide +kernel
theorem dX12_init_530 : decode cX12_init 530 = .ok (.iastore, 1) := by decide +kernel
theorem dX12_init_531 : decode cX12_init 531 = .ok (.dup, 1) := by decide +kernel
theorem dX12_init_532 : decode cX12_init 532 = .ok (.bipush 74, 2) := by decide +kernel
theorem dX12_init_534 : decode cX12_init 534 = .ok (.bipush 114, 2) := by decide +kernel
theorem dX12_init_536 : decode cX12_init 536 = .ok (.iastore, 1) := by decide +kernel
theorem dX12_init_537 : decode cX12_init 537 = .ok (.dup, 1) := by decide +kernel
theorem dX12_init_538 : decode cX12_init 538 = .ok (.bipush 75, 2) := by decide +kernel
theorem dX12_init_540 : decode cX12_init 540 = .ok (.bipush 118, 2) := by decide +kernel
theorem dX12_init_542 : decode cX12_init 542 = .ok (.iastore, 1) := by decide +kernel
theorem dX12_init_543 : decode cX12_init 543 = .ok (.dup, 1) := by decide +kernel
theorem dX12_init_544 : decode cX12_init 544 = .ok (.bipush 76, 2) := by decide +kernel
theorem dX12_init_546 : decode cX12_init 546 = .ok (.bipush 101, 2) := by decide +kernel
theorem dX12_init_548 : decode cX12_init 548 = .ok (.iastore, 1) := by decide +kernel
theorem dX12_init_549 : decode cX12_init 549 = .ok (.dup, 1) := by decide +kernel
theorem dX12_init_550 : decode cX12_init 550 = .ok (.bipush 77, 2) := by decide +kernel
theorem dX12_init_552 : decode cX12_init 552 = .ok (.bipush 32, 2) := by decide +kernel
theorem dX12_init_554 : decode cX12_init 554 = .ok (.iastore, 1) := by decide +kernel
theorem dX12_init_555 : decode cX12_init 555 = .ok (.dup, 1) := by decide +kernel
theorem dX12_init_556 : decode cX12_init 556 = .ok (.bipush 78, 2) := by decide +kernel
theorem dX12_init_558 : decode cX12_init 558 = .ok (.bipush 121, 2) := by decide +kernel
theorem dX12_init_560 : decode cX12_init 560 = .ok (.iastore, 1) := by decide +kernel
theorem dX12_init_561 : decode cX12_init 561 = .ok (.dup, 1) := by decide +kernel
theorem dX12_init_562 : decode cX12_init 562 = .ok (.bipush 79, 2) := by decide +kernel
theorem dX12_init_564 : decode cX12_init 564 = .ok (.bipush 101, 2) := by decide +kernel
theorem dX12_init_566 : decode cX12_init 566 = .ok (.iastore, 1) := by decide +kernel
theorem dX12_init_567 : decode cX12_init 567 = .ok (.dup, 1) := by decide +kernel
theorem dX12_init_568 : decode cX12_init 568 = .ok (.bipush 80, 2) := by decide +kernel
theorem dX12_init_570 : decode cX12_init 570 = .ok (.bipush 97, 2) := by decide +kernel
theorem dX12_init_572 : decode cX12_init 572 = .ok (.iastore, 1) := by decide +kernel
theorem dX12_init_573 : decode cX12_init 573 = .ok (.dup, 1) := by decide +kernel
theorem dX12_init_574 : decode cX12_init 574 = .ok (.bipush 81, 2) := by decide +kernel
theorem dX12_init_576 : decode cX12_init 576 = .ok (.bipush 114, 2) := by decide +kernel
theorem dX12_init_578 : decode cX12_init 578 = .ok (.iastore, 1) := by decide +kernel
theorem dX12_init_579 : decode cX12_init 579 = .ok (.dup, 1) := by decide +kernel
theorem dX12_init_580 : decode cX12_init 580 = .ok (.bipush 82, 2) := by decide +kernel
theorem dX12_init_582 : decode cX12_init 582 = .ok (.bipush 32, 2) := by decide +kernel
theorem dX12_init_584 : decode cX12_init 584 = .ok (.iastore, 1) := by decide +kernel
theorem dX12_init_585 : decode cX12_init 585 = .ok (.dup, 1) := by decide +kernel
theorem dX12_init_586 : decode cX12_init 586 = .ok (.bipush 83, 2) := by decide +kernel
theorem dX12_init_588 : decode cX12_init 588 = .ok (.bipush 99, 2) := by decide +kernel
theorem dX12_init_590 : decode cX12_init 590 = .ok (.iastore, 1) := by decide +kernel
theorem dX12_init_591 : decode cX12_init 591 = .ok (.dup, 1) := by decide +kernel
theorem dX12_init_592 : decode cX12_init 592 = .ok (.bipush 84, 2) := by decide +kernel
theorem dX12_init_594 : decode cX12_init 594 = .ok (.bipush 104, 2) := by decide +kernel
theorem dX12_init_596 : decode cX12_init 596 = .ok (.iastore, 1) := by decide +kernel
theorem dX12_init_597 : decode cX12_init 597 = .ok (.dup, 1) := by decide +kernel
theorem dX12_init_598 : decode cX12_init 598 = .ok (.bipush 85, 2) := by decide +kernel
theorem dX12_init_600 : decode cX12_init 600 = .ok (.bipush 105, 2) := by decide +kernel
theorem dX12_init_602 : decode cX12_init 602 = .ok (.iastore, 1) := by decide +kernel
theorem dX12_init_603 : decode cX12_init 603 = .ok (.dup, 1) := by decide +kernel
theorem dX12_init_604 : decode cX12_init 604 = .ok (.bipush 86, 2) := by decide +kernel
theorem dX12_init_606 : decode cX12_init 606 = .ok (.bipush 108, 2) := by decide +kernel
theorem dX12_init_608 : decode cX12_init 608 = .ok (.iastore, 1) := by decide +kernel
theorem dX12_init_609 : decode cX12_init 609 = .ok (.dup, 1) := by decide +kernel
theorem dX12_init_610 : decode cX12_init 610 = .ok (.bipush 87, 2) := by decide +kernel
theorem dX12_init_612 : decode cX12_init 612 = .ok (.bipush 100, 2) := by decide +kernel
theorem dX12_init_614 : decode cX12_init 614 = .ok (.iastore, 1) := by decide +kernel
theorem dX12_init_615 : decode cX12_init 615 = .ok (.dup, 1) := by decide +kernel
theorem dX12_init_616 : decode cX12_init 616 = .ok (.bipush 88, 2) := by decide +kernel
theorem dX12_init_618 : decode cX12_init 618 = .ok (.bipush 114, 2) := by decide +kernel
theorem dX12_init_620 : decode cX12_init 620 = .ok (.iastore, 1) := by decide +kernel
theorem dX12_init_621 : decode cX12_init 621 = .ok (.dup, 1) := by decide +kernel
theorem dX12_init_622 : decode cX12_init 622 = .ok (.bipush 89, 2) := by decide +kernel
theorem dX12_init_624 : decode cX12_init 624 = .ok (.bipush 101, 2) := by decide +kernel
theorem dX12_init_626 : decode cX12_init 626 = .ok (.iastore, 1) := by decide +kernel
theorem dX12_init_627 : decode cX12_init 627 = .ok (.dup, 1) := by decide +kernel
theorem dX12_init_628 : decode cX12_init 628 = .ok (.bipush 90, 2) := by decide +kernel
theorem dX12_init_630 : decode cX12_init 630 = .ok (.bipush 110, 2) := by decide +kernel
theorem dX12_init_632 : decode cX12_init 632 = .ok (.iastore, 1) := by decide +kernel
theorem dX12_init_633 : decode cX12_init 633 = .ok (.dup, 1) := by decide +kernel
theorem dX12_init_634 : decode cX12_init 634 = .ok (.bipush 91, 2) := by decide +kernel
theorem dX12_init_636 : decode cX12_init 636 = .ok (.bipush 32, 2) := by decide +kernel
theorem dX12_init_638 : decode cX12_init 638 = .ok (.iastore, 1) := by decide +kernel
theorem dX12_init_639 : decode cX12_init 639 = .ok (.dup, 1) := by decide +kernel
theorem dX12_init_640 : decode cX12_init 640 = .ok (.bipush 92, 2) := by decide +kernel
theorem dX12_init_642 : decode cX12_init 642 = .ok (.bipush 103, 2) := by decide +kernel
theorem dX12_init_644 : decode cX12_init 644 = .ok (.iastore, 1) := by decide +kernel
theorem dX12_init_645 : decode cX12_init 645 = .ok (.dup, 1) := by decide +kernel
theorem dX12_init_646 : decode cX12_init 646 = .ok (.bipush 93, 2) := by decide +kernel
theorem dX12_init_648 : decode cX12_init 648 = .ok (.bipush 108, 2) := by decide +kernel
theorem dX12_init_650 : decode cX12_init 650 = .ok (.iastore, 1) := by decide +kernel
theorem dX12_init_651 : decode cX12_init 651 = .ok (.dup, 1) := by decide +kernel
theorem dX12_init_652 : decode cX12_init 652 = .ok (.bipush 94, 2) := by decide +kernel
theorem dX12_init_654 : decode cX12_init 654 = .ok (.bipush 97, 2) := by decide +kernel
theorem dX12_init_656 : decode cX12_init 656 = .ok (.iastore, 1) := by decide +kernel
theorem dX12_init_657 : decode cX12_init 657 = .ok (.dup, 1) := by decide +kernel
theorem dX12_init_658 : decode cX12_init 658 = .ok (.bipush 95, 2) := by decide +kernel
theorem dX12_init_660 : decode cX12_init 660 = .ok (.bipush 100, 2) := by decide +kernel
theorem dX12_init_662 : decode cX12_init 662 = .ok (.iastore, 1) := by decide +kernel
theorem dX12_init_663 : decode cX12_init 663 = .ok (.dup, 1) := by decide +kernel
theorem dX12_init_664 : decode cX12_init 664 = .ok (.bipush 96, 2) := by decide +kernel
theorem dX12_init_666 : decode cX12_init 666 = .ok (.bipush 32, 2) := by decide +kernel
theorem dX12_init_668 : decode cX12_init 668 = .ok (.iastore, 1) := by decide +kernel
theorem dX12_init_669 : decode cX12_init 669 = .ok (.dup, 1) := by decide +kernel
theorem dX12_init_670 : decode cX12_init 670 = .ok (.bipush 97, 2) := by decide +kernel
theorem dX12_init_672 : decode cX12_init 672 = .ok (.bipush 97, 2) := by decide +kernel
theorem dX12_init_674 : decode cX12_init 674 = .ok (.iastore, 1) := by decide +kernel
theorem dX12_init_675 : decode cX12_init 675 = .ok (.dup, 1) := by decide +kernel
theorem dX12_init_676 : decode cX12_init 676 = .ok (.bipush 98, 2) := by decide +kernel
theorem dX12_init_678 : decode cX12_init 678 = .ok (.bipush 115, 2) := by decide +kernel
theorem dX12_init_680 : decode cX12_init 680 = .ok (.iastore, 1) := by decide +kernel
theorem dX12_init_681 : decode cX12_init 681 = .ok (.dup, 1) := by decide +kernel
theorem dX12_init_682 : decode cX12_init 682 = .ok (.bipush 99, 2) := by decide +kernel
theorem dX12_init_684 : decode cX12_init 684 = .ok (.bipush 107, 2) := by decide +kernel
theorem dX12_init_686 : decode cX12_init 686 = .ok (.iastore, 1) := by decide +kernel
theorem dX12_init_687 : decode cX12_init 687 = .ok (.dup, 1) := by decide +kernel
theorem dX12_init_688 : decode cX12_init 688 = .ok (.bipush 100, 2) := by decide +kernel
theorem dX12_init_690 : decode cX12_init 690 = .ok (.bipush 32, 2) := by decide +kernel
theorem dX12_init_692 : decode cX12_init 692 = .ok (.iastore, 1) := by decide +kernel
theorem dX12_init_693 : decode cX12_init 693 = .ok (.dup, 1) := by decide +kernel
theorem dX12_init_694 : decode cX12_init 694 = .ok (.bipush 101, 2) := by decide +kernel
theorem dX12_init_696 : decode cX12_init 696 = .ok (.bipush 105, 2) := by decide +kernel
theorem dX12_init_698 : decode cX12_init 698 = .ok (.iastore, 1) := by decide +kernel
theorem dX12_init_699 : decode cX12_init 699 = .ok (.dup, 1) := by decide +kernel
theorem dX12_init_700 : decode cX12_init 700 = .ok (.bipush 102, 2) := by decide +kernel
theorem dX12_init_702 : decode cX12_init 702 = .ok (.bipush 110, 2) := by decide +kernel
theorem dX12_init_704 : decode cX12_init 704 = .ok (.iastore, 1) := by decide +kernel
theorem dX12_init_705 : decode cX12_init 705 = .ok (.dup, 1) := by decide +kernel
theorem dX12_init_706 : decode cX12_init 706 = .ok (.bipush 103, 2) := by decide +kernel
theorem dX12_init_708 : decode cX12_init 708 = .ok (.bipush 32, 2) := by decide +kernel
theorem dX12_init_710 : decode cX12_init 710 = .ok (.iastore, 1) := by decide +kernel
theorem dX12_init_711 : decode cX12_init 711 = .ok (.dup, 1) := by decide +kernel
theorem dX12_init_712 : decode cX12_init 712 = .ok (.bipush 104, 2) := by decide +kernel
theorem dX12_init_714 : decode cX12_init 714 = .ok (.bipush 119, 2) := by decide +kernel
theorem dX12_init_716 : decode cX12_init 716 = .ok (.iastore, 1) := by decide +kernel
theorem dX12_init_717 : decode cX12_init 717 = .ok (.dup, 1) := by decide +kernel
theorem dX12_init_718 : decode cX12_init 718 = .ok (.bipush 105, 2) := by decide +kernel
theorem dX12_init_720 : decode cX12_init 720 = .ok (.bipush 101, 2) := by decide +kernel
theorem dX12_init_722 : decode cX12_init 722 = .ok (.iastore, 1) := by decide +kernel
theorem dX12_init_723 : decode cX12_init 723 = .ok (.dup, 1) := by decide +kernel
theorem dX12_init_724 : decode cX12_init 724 = .ok (.bipush 106, 2) := by decide +kernel
theorem dX12_init_726 : decode cX12_init 726 = .ok (.bipush 100, 2) := by decide +kernel
theorem dX12_init_728 : decode cX12_init 728 = .ok (.iastore, 1) := by decide +kernel
theorem dX12_init_729 : decode cX12_init 729 = .ok (.dup, 1) := by decide +kernel
theorem dX12_init_730 : decode cX12_init 730 = .ok (.bipush 107, 2) := by decide +kernel
theorem dX12_init_732 : decode cX12_init 732 = .ok (.bipush 32, 2) := by decide +kernel
theorem dX12_init_734 : decode cX12_init 734 = .ok (.iastore, 1) := by decide +kernel
theorem dX12_init_735 : decode cX12_init 735 = .ok (.dup, 1) := by decide +kernel
theorem dX12_init_736 : decode cX12_init 736 = .ok (.bipush 108, 2) := by decide +kernel
theorem dX12_init_738 : decode cX12_init 738 = .ok (.bipush 99, 2) := by decide +kernel
theorem dX12_init_740 : decode cX12_init 740 = .ok (.iastore, 1) := by decide +kernel
theorem dX12_init_741 : decode cX12_init 741 = .ok (.dup, 1) := by decide +kernel
theorem dX12_init_742 : decode cX12_init 742 = .ok (.bipush 109, 2) := by decide +kernel
theorem dX12_init_744 : decode cX12_init 744 = .ok (.bipush 111, 2) := by decide +kernel
theorem dX12_init_746 : decode cX12_init 746 = .ok (.iastore, 1) := by decide +kernel
theorem dX12_init_747 : decode cX12_init 747 = .ok (.dup, 1) := by decide +kernel
theorem dX12_init_748 : decode cX12_init 748 = .ok (.bipush 110, 2) := by decide +kernel
theorem dX12_init_750 : decode cX12_init 750 = .ok (.bipush 117, 2) := by decide +kernel
theorem dX12_init_752 : decode cX12_init 752 = .ok (.iastore, 1) := by decide +kernel
theorem dX12_init_753 : decode cX12_init 753 = .ok (.dup, 1) := by decide +kernel
theorem dX12_init_754 : decode cX12_init 754 = .ok (.bipush 111, 2) := by decide +kernel
theorem dX12_init_756 : decode cX12_init 756 = .ok (.bipush 103, 2) := by decide +kernel
theorem dX12_init_758 : decode cX12_init 758 = .ok (.iastore, 1) := by decide +kernel
theorem dX12_init_759 : decode cX12_init 759 = .ok (.dup, 1) := by decide +kernel
theorem dX12_init_760 : decode cX12_init 760 = .ok (.bipush 112, 2) := by decide +kernel
theorem dX12_init_762 : decode cX12_init 762 = .ok (.bipush 104, 2) := by decide +kernel
theorem dX12_init_764 : decode cX12_init 764 = .ok (.iastore, 1) := by decide +kernel
theorem dX12_init_765 : decode cX12_init 765 = .ok (.dup, 1) := by decide +kernel
theorem dX12_init_766 : decode cX12_init 766 = .ok (.bipush 113, 2) := by decide +kernel
theorem dX12_init_768 : decode cX12_init 768 = .ok (.bipush 32, 2) := by decide +kernel
theorem dX12_init_770 : decode cX12_init 770 = .ok (.iastore, 1) := by decide +kernel
theorem dX12_init_771 : decode cX12_init 771 = .ok (.dup, 1) := by decide +kernel
theorem dX12_init_772 : decode cX12_init 772 = .ok (.bipush 114, 2) := by decide +kernel
theorem dX12_init_774 : decode cX12_init 774 = .ok (.bipush 112, 2) := by decide +kernel
theorem dX12_init_776 : decode cX12_init 776 = .ok (.iastore, 1) := by decide +kernel
theorem dX12_init_777 : decode cX12_init 777 = .ok (.dup, 1) := by decide +kernel
theorem dX12_init_778 : decode cX12_init 778 = .ok (.bipush 115, 2) := by decide +kernel
theorem dX12_init_780 : decode cX12_init 780 = .ok (.bipush 97, 2) := by decide +kernel
theorem dX12_init_782 : decode cX12_init 782 = .ok (.iastore, 1) := by decide +kernel
theorem dX12_init_783 : decode cX12_init 783 = .ok (.dup, 1) := by decide +kernel
theorem dX12_init_784 : decode cX12_init 784 = .ok (.bipush 116, 2) := by decide +kernel
theorem dX12_init_786 : decode cX12_init 786 = .ok (.bipush 114, 2) := by decide +kernel
theorem dX12_init_788 : decode cX12_init 788 = .ok (.iastore, 1) := by decide +kernel
theorem dX12_init_789 : decode cX12_init 789 = .ok (.dup, 1) := by decide +kernel
theorem dX12_init_790 : decode cX12_init 790 = .ok (.bipush 117, 2) := by decide +kernel
theorem dX12_init_792 : decode cX12_init 792 = .ok (.bipush 116, 2) := by decide +kernel
theorem dX12_init_794 : decode cX12_init 794 = .ok (.iastore, 1) := by decide +kernel
theorem dX12_init_795 : decode cX12_init 795 = .ok (.dup, 1) := by decide +kernel
theorem dX12_init_796 : decode cX12_init 796 = .ok (.bipush 118, 2) := by decide +kernel
theorem dX12_init_798 : decode cX12_init 798 = .ok (.bipush 32, 2) := by decide +kernel
theorem dX12_init_800 : decode cX12_init 800 = .ok (.iastore, 1) := by decide +kernel
theorem dX12_init_801 : decode cX12_init 801 = .ok (.dup, 1) := by decide +kernel
theorem dX12_init_802 : decode cX12_init 802 = .ok (.bipush 119, 2) := by decide +kernel
theorem dX12_init_804 : decode cX12_init 804 = .ok (.bipush 119, 2) := by decide +kernel
theorem dX12_init_806 : decode cX12_init 806 = .ok (.iastore, 1) := by decide +kernel
theorem dX12_init_807 : decode cX12_init 807 = .ok (.dup, 1) := by decide +kernel
theorem dX12_init_808 : decode cX12_init 808 = .ok (.bipush 120, 2) := by decide +kernel
theorem dX12_init_810 : decode cX12_init 810 = .ok (.bipush 111, 2) := by decide +kernel
theorem dX12_init_812 : decode cX12_init 812 = .ok (.iastore, 1) := by decide +kernel
theorem dX12_init_813 : decode cX12_init 813 = .ok (.dup, 1) := by decide +kernel
theorem dX12_init_814 : decode cX12_init 814 = .ok (.bipush 121, 2) := by decide +kernel
theorem dX12_init_816 : decode cX12_init 816 = .ok (.bipush 109, 2) := by decide +kernel
theorem dX12_init_818 : decode cX12_init 818 = .ok (.iastore, 1) := by decide +kernel
theorem dX12_init_819 : decode cX12_init 819 = .ok (.dup, 1) := by decide +kernel
theorem dX12_init_820 : decode cX12_init 820 = .ok (.bipush 122, 2) := by decide +kernel
theorem dX12_init_822 : decode cX12_init 822 = .ok (.bipush 97, 2) := by decide +kernel
theorem dX12_init_824 : decode cX12_init 824 = .ok (.iastore, 1) := by decide +kernel
theorem dX12_init_825 : decode cX12_init 825 = .ok (.dup, 1) := by decide +kernel
theorem dX12_init_826 : decode cX12_init 826 = .ok (.bipush 123, 2) := by decide +kernel
theorem dX12_init_828 : decode cX12_init 828 = .ok (.bipush 110, 2) := by decide +kernel
theorem dX12_init_830 : decode cX12_init 830 = .ok (.iastore, 1) := by decide +kernel
theorem dX12_init_831 : decode cX12_init 831 = .ok (.dup, 1) := by decide +kernel
theorem dX12_init_832 : decode cX12_init 832 = .ok (.bipush 124, 2) := by decide +kernel
theorem dX12_init_834 : decode cX12_init 834 = .ok (.bipush 32, 2) := by decide +kernel
theorem dX12_init_836 : decode cX12_init 836 = .ok (.iastore, 1) := by decide +kernel
theorem dX12_init_837 : decode cX12_init 837 = .ok (.dup, 1) := by decide +kernel
theorem dX12_init_838 : decode cX12_init 838 = .ok (.bipush 125, 2) := by decide +kernel
theorem dX12_init_840 : decode cX12_init 840 = .ok (.bipush 115, 2) := by decide +kernel
theorem dX12_init_842 : decode cX12_init 842 = .ok (.iastore, 1) := by decide +kernel
theorem dX12_init_843 : decode cX12_init 843 = .ok (.dup, 1) := by decide +kernel
theorem dX12_init_844 : decode cX12_init 844 = .ok (.bipush 126, 2) := by decide +kernel
theorem dX12_init_846 : decode cX12_init 846 = .ok (.bipush 105, 2) := by decide +kernel
theorem dX12_init_848 : decode cX12_init 848 = .ok (.iastore, 1) := by decide +kernel
theorem dX12_init_849 : decode cX12_init 849 = .ok (.dup, 1) := by decide +kernel
theorem dX12_init_850 : decode cX12_init 850 = .ok (.bipush 127, 2) := by decide +kernel
theorem dX12_init_852 : decode cX12_init 852 = .ok (.bipush 115, 2) := by decide +kernel
theorem dX12_init_854 : decode cX12_init 854 = .ok (.iastore, 1) := by decide +kernel
theorem dX12_init_855 : decode cX12_init 855 = .ok (.dup, 1) := by decide +kernel
theorem dX12_init_856 : decode cX12_init 856 = .ok (.sipush 128, 3) := by decide +kernel
theorem dX12_init_859 : decode cX12_init 859 = .ok (.bipush 116, 2) := by decide +kernel
theorem dX12_init_861 : decode cX12_init 861 = .ok (.iastore, 1) := by decide +kernel
theorem dX12_init_862 : decode cX12_init 862 = .ok (.dup, 1) := by decide +kernel
theorem dX12_init_863 : decode cX12_init 863 = .ok (.sipush 129, 3) := by decide +kernel
theorem dX12_init_866 : decode cX12_init 866 = .ok (.bipush 101, 2) := by decide +kernel
theorem dX12_init_868 : decode cX12_init 868 = .ok (.iastore, 1) := by decide +kernel
theorem dX12_init_869 : decode cX12_init 869 = .ok (.dup, 1) := by decide +kernel
theorem dX12_init_870 : decode cX12_init 870 = .ok (.sipush 130, 3) := by decide +kernel
theorem dX12_init_873 : decode cX12_init 873 = .ok (.bipush 114, 2) := by decide +kernel
theorem dX12_init_875 : decode cX12_init 875 = .ok (.iastore, 1) := by decide +kernel
theorem dX12_init_876 : decode cX12_init 876 = .ok (.dup, 1) := by decide +kernel
theorem dX12_init_877 : decode cX12_init 877 = .ok (.sipush 131, 3) := by decide +kernel
theorem dX12_init_880 : decode cX12_init 880 = .ok (.bipush 32, 2) := by decide +kernel
theorem dX12_init_882 : decode cX12_init 882 = .ok (.iastore, 1) := by decide +kernel
theorem dX12_init_883 : decode cX12_init 883 = .ok (.putfield 40, 3) := by decide +kernel
theorem dX12_init_886 : decode cX12_init 886 = .ok (.aload_n 0, 1) := by decide +kernel
theorem dX12_init_887 : decode cX12_init 887 = .ok (.iconst 2, 1) := by decide +kernel
theorem dX12_init_888 : decode cX12_init 888 = .ok (.newarray .int, 2) := by decide +kernel
theorem dX12_init_890 : decode cX12_init 890 = .ok (.putfield 43, 3) := by decide +kernel
theorem dX12_init_893 : decode cX12_init 893 = .ok (.aload_n 0, 1) := by decide +kernel
theorem dX12_init_894 : decode cX12_init 894 = .ok (.bipush 48, 2) := by decide +kernel
theorem dX12_init_896 : decode cX12_init 896 = .ok (.newarray .int, 2) := by decide +kernel
theorem dX12_init_898 : decode cX12_init 898 = .ok (.putfield 46, 3) := by decide +kernel
theorem dX12_init_901 : decode cX12_init 901 = .ok (.aload_n 0, 1) := by decide +kernel
theorem dX12_init_902 : decode cX12_init 902 = .ok (.bipush 48, 2) := by decide +kernel
theorem dX12_init_904 : decode cX12_init 904 = .ok (.newarray .int, 2) := by decide +kernel
theorem dX12_init_906 : decode cX12_init 906 = .ok (.putfield 49, 3) := by decide +kernel
theorem dX12_init_909 : decode cX12_init 909 = .ok (.aload_n 0, 1) := by decide +kernel
theorem dX12_init_910 : decode cX12_init 910 = .ok (.bipush 48, 2) := by decide +kernel
theorem dX12_init_912 : decode cX12_init 912 = .ok (.newarray .int, 2) := by decide +kernel
theorem dX12_init_914 : decode cX12_init 914 = .ok (.putfield 52, 3) := by decide +kernel
theorem dX12_init_917 : decode cX12_init 917 = .ok (.aload_n 0, 1) := by decide +kernel
theorem dX12_init_918 : decode cX12_init 918 = .ok (.bipush 48, 2) := by decide +kernel
theorem dX12_init_920 : decode cX12_init 920 = .ok (.newarray .int, 2) := by decide +kernel
theorem dX12_init_922 : decode cX12_init 922 = .ok (.putfield 55, 3) := by decide +kernel
theorem dX12_init_925 : decode cX12_init 925 = .ok (.aload_n 0, 1) := by decide +kernel
theorem dX12_init_926 : decode cX12_init 926 = .ok (.sipush 1200, 3) := by decide +kernel
theorem dX12_init_929 : decode cX12_init 929 = .ok (.newarray .int, 2) := by decide +kernel
theorem dX12_init_931 : decode cX12_init 931 = .ok (.putfield 58, 3) := by decide +kernel
theorem dX12_init_934 : decode cX12_init 934 = .ok (.aload_n 0, 1) := by decide +kernel
theorem dX12_init_935 : decode cX12_init 935 = .ok (.sipush 1200, 3) := by decide +kernel
theorem dX12_init_938 : decode cX12_init 938 = .ok (.newarray .int, 2) := by decide +kernel
theorem dX12_init_940 : decode cX12_init 940 = .ok (.putfield 61, 3) := by decide +kernel
theorem dX12_init_943 : decode cX12_init 943 = .ok (.aload_n 0, 1) := by decide +kernel
theorem dX12_init_944 : decode cX12_init 944 = .ok (.bipush 40, 2) := by decide +kernel
theorem dX12_init_946 : decode cX12_init 946 = .ok (.newarray .int, 2) := by decide +kernel
theorem dX12_init_948 : decode cX12_init 948 = .ok (.putfield 64, 3) := by decide +kernel
theorem dX12_init_951 : decode cX12_init 951 = .ok (.aload_n 0, 1) := by decide +kernel
theorem dX12_init_952 : decode cX12_init 952 = .ok (.iconst (-1), 1) := by decide +kernel
theorem dX12_init_953 : decode cX12_init 953 = .ok (.putfield 67, 3) := by decide +kernel
theorem dX12_init_956 : decode cX12_init 956 = .ok (.aload_n 0, 1) := by decide +kernel
theorem dX12_init_957 : decode cX12_init 957 = .ok (.bipush 32, 2) := by decide +kernel
theorem dX12_init_959 : decode cX12_init 959 = .ok (.newarray .int, 2) := by decide +kernel
theorem dX12_init_961 : decode cX12_init 961 = .ok (.putfield 71, 3) := by decide +kernel
theorem dX12_init_964 : decode cX12_init 964 = .ok (.aload_n 0, 1) := by decide +kernel
theorem dX12_init_965 : decode cX12_init 965 = .ok (.sipush 192, 3) := by decide +kernel
theorem dX12_init_968 : decode cX12_init 968 = .ok (.newarray .int, 2) := by decide +kernel
theorem dX12_init_970 : decode cX12_init 970 = .ok (.putfield 74, 3) := by decide +kernel
theorem dX12_init_973 : decode cX12_init 973 = .ok (.aload_n 0, 1) := by decide +kernel
theorem dX12_init_974 : decode cX12_init 974 = .ok (.bipush 24, 2) := by decide +kernel
theorem dX12_init_976 : decode cX12_init 976 = .ok (.newarray .int, 2) := by decide +kernel
theorem dX12_init_978 : decode cX12_init 978 = .ok (.putfield 77, 3) := by decide +kernel
theorem dX12_init_981 : decode cX12_init 981 = .ok (.aload_n 0, 1) := by decide +kernel
theorem dX12_init_982 : decode cX12_init 982 = .ok (.bipush 11, 2) := by decide +kernel
theorem dX12_init_984 : decode cX12_init 984 = .ok (.newarray .int, 2) := by decide +kernel
theorem dX12_init_986 : decode cX12_init 986 = .ok (.putfield 80, 3) := by decide +kernel
theorem dX12_init_989 : decode cX12_init 989 = .ok (.aload_n 0, 1) := by decide +kernel
theorem dX12_init_990 : decode cX12_init 990 = .ok (.sipush 420, 3) := by decide +kernel
theorem dX12_init_993 : decode cX12_init 993 = .ok (.newarray .int, 2) := by decide +kernel
theorem dX12_init_995 : decode cX12_init 995 = .ok (.putfield 83, 3) := by decide +kernel
theorem dX12_init_998 : decode cX12_init 998 = .ok (.aload_n 0, 1) := by decide +kernel
theorem dX12_init_999 : decode cX12_init 999 = .ok (.iconst 3, 1) := by decide +kernel
theorem dX12_init_1000 : decode cX12_init 1000 = .ok (.newarray .int, 2) := by decide +kernel
theorem dX12_init_1002 : decode cX12_init 1002 = .ok (.putfield 86, 3) := by decide +kernel
theorem dX12_init_1005 : decode cX12_init 1005 = .ok (.aload_n 0, 1) := by decide +kernel
theorem dX12_init_1006 : decode cX12_init 1006 = .ok (.iconst 3, 1) := by decide +kernel
theorem dX12_init_1007 : decode cX12_init 1007 = .ok (.newarray .int, 2) := by decide +kernel
theorem dX12_init_1009 : decode cX12_init 1009 = .ok (.putfield 89, 3) := by decide +kernel
theorem dX12_init_1012 : decode cX12_init 1012 = .ok (.aload_n 0, 1) := by decide +kernel
theorem dX12_init_1013 : decode cX12_init 1013 = .ok (.bipush 10, 2) := by decide +kernel
theorem dX12_init_1015 : decode cX12_init 1015 = .ok (.newarray .int, 2) := by decide +kernel
theorem dX12_init_1017 : decode cX12_init 1017 = .ok (.putfield 92, 3) := by decide +kernel
theorem dX12_init_1020 : decode cX12_init 1020 = .ok (.aload_n 0, 1) := by decide +kernel
theorem dX12_init_1021 : decode cX12_init 1021 = .ok (.bipush 10, 2) := by decide +kernel
theorem dX12_init_1023 : decode cX12_init 1023 = .ok (.newarray .int, 2) := by decide +kernel
theorem dX12_init_1025 : decode cX12_init 1025 = .ok (.putfield 95, 3) := by decide +kernel
theorem dX12_init_1028 : decode cX12_init 1028 = .ok (.aload_n 0, 1) := by decide +kernel
theorem dX12_init_1029 : decode cX12_init 1029 = .ok (.bipush 10, 2) := by decide +kernel
theorem dX12_init_1031 : decode cX12_init 1031 = .ok (.newarray .int, 2) := by decide +kernel
theorem dX12_init_1033 : decode cX12_init 1033 = .ok (.putfield 98, 3) := by decide +kernel
theorem dX12_init_1036 : decode cX12_init 1036 = .ok (.aload_n 0, 1) := by decide +kernel
theorem dX12_init_1037 : decode cX12_init 1037 = .ok (.bipush 8, 2) := by decide +kernel
theorem dX12_init_1039 : decode cX12_init 1039 = .ok (.newarray .int, 2) := by decide +kernel
theorem dX12_init_1041 : decode cX12_init 1041 = .ok (.putfield 101, 3) := by decide +kernel
theorem dX12_init_1044 : decode cX12_init 1044 = .ok (.aload_n 0, 1) := by decide +kernel
theorem dX12_init_1045 : decode cX12_init 1045 = .ok (.bipush 8, 2) := by decide +kernel
theorem dX12_init_1047 : decode cX12_init 1047 = .ok (.newarray .int, 2) := by decide +kernel
theorem dX12_init_1049 : decode cX12_init 1049 = .ok (.putfield 104, 3) := by decide +kernel
theorem dX12_init_1052 : decode cX12_init 1052 = .ok (.aload_n 0, 1) := by decide +kernel
theorem dX12_init_1053 : decode cX12_init 1053 = .ok (.bipush 16, 2) := by decide +kernel
theorem dX12_init_1055 : decode cX12_init 1055 = .ok (.newarray .int, 2) := by decide +kernel
theorem dX12_init_1057 : decode cX12_init 1057 = .ok (.putfield 107, 3) := by decide +kernel
theorem dX12_init_1060 : decode cX12_init 1060 = .ok (.aload_n 0, 1) := by decide +kernel
theorem dX12_init_1061 : decode cX12_init 1061 = .ok (.sipush 216, 3) := by decide +kernel
theorem dX12_init_1064 : decode cX12_init 1064 = .ok (.newarray .int, 2) := by decide +kernel
theorem dX12_init_1066 : decode cX12_init 1066 = .ok (.putfield 110, 3) := by decide +kernel
theorem dX12_init_1069 : decode cX12_init 1069 = .ok (.aload_n 0, 1) := by decide +kernel
theorem dX12_init_1070 : decode cX12_init 1070 = .ok (.bipush 6, 2) := by decide +kernel
theorem dX12_init_1072 : decode cX12_init 1072 = .ok (.newarray .int, 2) := by decide +kernel
theorem dX12_init_1074 : decode cX12_init 1074 = .ok (.putfield 113, 3) := by decide +kernel
theorem dX12_init_1077 : decode cX12_init 1077 = .ok (.aload_n 0, 1) := by decide +kernel
theorem dX12_init_1078 : decode cX12_init 1078 = .ok (.bipush 6, 2) := by decide +kernel
theorem dX12_init_1080 : decode cX12_init 1080 = .ok (.newarray .int, 2) := by decide +kernel
theorem dX12_init_1082 : decode cX12_init 1082 = .ok (.putfield 116, 3) := by decide +kernel
theorem dX12_init_1085 : decode cX12_init 1085 = .ok (.aload_n 0, 1) := by decide +kernel
theorem dX12_init_1086 : decode cX12_init 1086 = .ok (.bipush 10, 2) := by decide +kernel
theorem dX12_init_1088 : decode cX12_init 1088 = .ok (.newarray .int, 2) := by decide +kernel
theorem dX12_init_1090 : decode cX12_init 1090 = .ok (.putfield 119, 3) := by decide +kernel
theorem dX12_init_1093 : decode cX12_init 1093 = .ok (.aload_n 0, 1) := by decide +kernel
theorem dX12_init_1094 : decode cX12_init 1094 = .ok (.sipush 400, 3) := by decide +kernel
theorem dX12_init_1097 : decode cX12_init 1097 = .ok (.newarray .int, 2) := by decide +kernel
theorem dX12_init_1099 : decode cX12_init 1099 = .ok (.putfield 122, 3) := by decide +kernel
theorem dX12_init_1102 : decode cX12_init 1102 = .ok (.aload_n 0, 1) := by decide +kernel
theorem dX12_init_1103 : decode cX12_init 1103 = .ok (.bipush 20, 2) := by decide +kernel
theorem dX12_init_1105 : decode cX12_init 1105 = .ok (.newarray .int, 2) := by decide +kernel
theorem dX12_init_1107 : decode cX12_init 1107 = .ok (.putfield 125, 3) := by decide +kernel
theorem dX12_init_1110 : decode cX12_init 1110 = .ok (.aload_n 0, 1) := by decide +kernel
theorem dX12_init_1111 : decode cX12_init 1111 = .ok (.bipush 12, 2) := by decide +kernel
theorem dX12_init_1113 : decode cX12_init 1113 = .ok (.newarray .int, 2) := by decide +kernel
theorem dX12_init_1115 : decode cX12_init 1115 = .ok (.putfield 128, 3) := by decide +kernel
theorem dX12_init_1118 : decode cX12_init 1118 = .ok (.aload_n 0, 1) := by decide +kernel
theorem dX12_init_1119 : decode cX12_init 1119 = .ok (.iconst 3, 1) := by decide +kernel
theorem dX12_init_1120 : decode cX12_init 1120 = .ok (.newarray .int, 2) := by decide +kernel
theorem dX12_init_1122 : decode cX12_init 1122 = .ok (.putfield 131, 3) := by decide +kernel
theorem dX12_init_1125 : decode cX12_init 1125 = .ok (.aload_n 0, 1) := by decide +kernel
theorem dX12_init_1126 : decode cX12_init 1126 = .ok (.iconst 3, 1) := by decide +kernel
theorem dX12_init_1127 : decode cX12_init 1127 = .ok (.newarray .int, 2) := by decide +kernel
theorem dX12_init_1129 : decode cX12_init 1129 = .ok (.putfield 134, 3) := by decide +kernel
theorem dX12_init_1132 : decode cX12_init 1132 = .ok (.aload_n 0, 1) := by decide +kernel
theorem dX12_init_1133 : decode cX12_init 1133 = .ok (.bipush 7, 2) := by decide +kernel
theorem dX12_init_1135 : decode cX12_init 1135 = .ok (.newarray .int, 2) := by decide +kernel
theorem dX12_init_1137 : decode cX12_init 1137 = .ok (.putfield 137, 3) := by decide +kernel
theorem dX12_init_1140 : decode cX12_init 1140 = .ok (.aload_n 0, 1) := by decide +kernel
theorem dX12_init_1141 : decode cX12_init 1141 = .ok (.bipush 7, 2) := by decide +kernel
theorem dX12_init_1143 : decode cX12_init 1143 = .ok (.newarray .int, 2) := by decide +kernel
theorem dX12_init_1145 : decode cX12_init 1145 = .ok (.putfield 140, 3) := by decide +kernel
theorem dX12_init_1148 : decode cX12_init 1148 = .ok (.aload_n 0, 1) := by decide +kernel
theorem dX12_init_1149 : decode cX12_init 1149 = .ok (.bipush 7, 2) := by decide +kernel
theorem dX12_init_1151 : decode cX12_init 1151 = .ok (.newarray .int, 2) := by decide +kernel
theorem dX12_init_1153 : decode cX12_init 1153 = .ok (.putfield 143, 3) := by decide +kernel
theorem dX12_init_1156 : decode cX12_init 1156 = .ok (.aload_n 0, 1) := by decide +kernel
theorem dX12_init_1157 : decode cX12_init 1157 = .ok (.sipush 2300, 3) := by decide +kernel
theorem dX12_init_1160 : decode cX12_init 1160 = .ok (.newarray .int, 2) := by decide +kernel
theorem dX12_init_1162 : decode cX12_init 1162 = .ok (.putfield 146, 3) := by decide +kernel
theorem dX12_init_1165 : decode cX12_init 1165 = .ok (.return_, 1) := by decide +kernel
theorem dX12_isIn_0 : decode cX12_isIn 0 = .ok (.iload_n 1, 1) := by decide +kernel
theorem dX12_isIn_1 : decode cX12_isIn 1 = .ok (.iload_n 2, 1) := by decide +kernel
theorem dX12_isIn_2 : decode cX12_isIn 2 = .ok (.if_icmp .lt 12, 3) := by decide +kernel
theorem dX12_isIn_5 : decode cX12_isIn 5 = .ok (.iload_n 1, 1) := by decide +kernel
theorem dX12_isIn_6 : decode cX12_isIn 6 = .ok (.iload_n 3, 1) := by decide +kernel
theorem dX12_isIn_7 : decode cX12_isIn 7 = .ok (.if_icmp .gt 7, 3) := by decide +kernel
theorem dX12_isIn_10 : decode cX12_isIn 10 = .ok (.iconst 1, 1) := by decide +kernel
theorem dX12_isIn_11 : decode cX12_isIn 11 = .ok (.goto 4, 3) := by decide +kernel
theorem dX12_isIn_14 : decode cX12_isIn 14 = .ok (.iconst 0, 1) := by decide +kernel
theorem dX12_isIn_15 : decode cX12_isIn 15 = .ok (.ireturn, 1) := by decide +kernel
theorem dX12_held_0 : decode cX12_held 0 = .ok (.iload_n 1, 1) := by decide +kernel
theorem dX12_held_1 : decode cX12_held 1 = .ok (.iload_n 2, 1) := by decide +kernel
theorem dX12_held_2 : decode cX12_held 2 = .ok (.if_icmp .ge 7, 3) := by decide +kernel
theorem dX12_held_5 : decode cX12_held 5 = .ok (.iload_n 2, 1) := by decide +kernel
theorem dX12_held_6 : decode cX12_held 6 = .ok (.goto 13, 3) := by decide +kernel
theorem dX12_held_9 : decode cX12_held 9 = .ok (.iload_n 1, 1) := by decide +kernel
theorem dX12_held_10 : decode cX12_held 10 = .ok (.iload_n 3, 1) := by decide +kernel
theorem dX12_held_11 : decode cX12_held 11 = .ok (.if_icmp .le 7, 3) := by decide +kernel
theorem dX12_held_14 : decode cX12_held 14 = .ok (.iload_n 3, 1) := by decide +kernel
theorem dX12_held_15 : decode cX12_held 15 = .ok (.goto 4, 3) := by decide +kernel
theorem dX12_held_18 : decode cX12_held 18 = .ok (.iload_n 1, 1) := by decide +kernel
theorem dX12_held_19 : decode cX12_held 19 = .ok (.ireturn, 1) := by decide +kernel
theorem dX12_greater_0 : decode cX12_greater 0 = .ok (.iload_n 1, 1) := by decide +kernel
theorem dX12_greater_1 : decode cX12_greater 1 = .ok (.iload_n 2, 1) := by decide +kernel
theorem dX12_greater_2 : decode cX12_greater 2 = .ok (.if_icmp .le 7, 3) := by decide +kernel
theorem dX12_greater_5 : decode cX12_greater 5 = .ok (.iload_n 1, 1) := by decide +kernel
theorem dX12_greater_6 : decode cX12_greater 6 = .ok (.goto 4, 3) := by decide +kernel
theorem dX12_greater_9 : decode cX12_greater 9 = .ok (.iload_n 2, 1) := by decide +kernel
end
