theorem dX8_fromMiddle_59 : decode cX8_fromMiddle 59 = .ok (.iload 7, 2) := by decide +kernel
theorem dX8_fromMiddle_61 : decode cX8_fromMiddle 61 = .ok (.aload 4, 2) := by decide +kernel
theorem dX8_fromMiddle_63 : decode cX8_fromMiddle 63 = .ok (.getfield 95, 3) := by decide +kernel
theorem dX8_fromMiddle_66 : decode cX8_fromMiddle 66 = .ok (.isub, 1) := by decide +kernel
theorem dX8_fromMiddle_67 : decode cX8_fromMiddle 67 = .ok (.invokestatic 188, 3) := by decide +kernel
theorem dX8_fromMiddle_70 : decode cX8_fromMiddle 70 = .ok (.aload_n 3, 1) := by decide +kernel
theorem dX8_fromMiddle_71 : decode cX8_fromMiddle 71 = .ok (.iload 5, 2) := by decide +kernel
theorem dX8_fromMiddle_73 : decode cX8_fromMiddle 73 = .ok (.invokevirtual 116, 3) := by decide +kernel
theorem dX8_fromMiddle_76 : decode cX8_fromMiddle 76 = .ok (.aload 4, 2) := by decide +kernel
theorem dX8_fromMiddle_78 : decode cX8_fromMiddle 78 = .ok (.getfield 98, 3) := by decide +kernel
theorem dX8_fromMiddle_81 : decode cX8_fromMiddle 81 = .ok (.isub, 1) := by decide +kernel
theorem dX8_fromMiddle_82 : decode cX8_fromMiddle 82 = .ok (.invokestatic 188, 3) := by decide +kernel
theorem dX8_fromMiddle_85 : decode cX8_fromMiddle 85 = .ok (.iadd, 1) := by decide +kernel
theorem dX8_fromMiddle_86 : decode cX8_fromMiddle 86 = .ok (.ireturn, 1) := by decide +kernel
theorem dX8_covering_0 : decode cX8_covering 0 = .ok (.iconst 0, 1) := by decide +kernel
theorem dX8_covering_1 : decode cX8_covering 1 = .ok (.istore_n 3, 1) := by decide +kernel
theorem dX8_covering_2 : decode cX8_covering 2 = .ok (.iconst 0, 1) := by decide +kernel
theorem dX8_covering_3 : decode cX8_covering 3 = .ok (.istore 4, 2) := by decide +kernel
theorem dX8_covering_5 : decode cX8_covering 5 = .ok (.iload 4, 2) := by decide +kernel
theorem dX8_covering_7 : decode cX8_covering 7 = .ok (.aload_n 0, 1) := by decide +kernel
theorem dX8_covering_8 : decode cX8_covering 8 = .ok (.invokevirtual 88, 3) := by decide +kernel
theorem dX8_covering_11 : decode cX8_covering 11 = .ok (.if_icmp .ge 66, 3) := by decide +kernel
theorem dX8_covering_14 : decode cX8_covering 14 = .ok (.aload_n 0, 1) := by decide +kernel
theorem dX8_covering_15 : decode cX8_covering 15 = .ok (.iload 4, 2) := by decide +kernel
theorem dX8_covering_17 : decode cX8_covering 17 = .ok (.invokevirtual 91, 3) := by decide +kernel
theorem dX8_covering_20 : decode cX8_covering 20 = .ok (.astore 5, 2) := by decide +kernel
theorem dX8_covering_22 : decode cX8_covering 22 = .ok (.aload 5, 2) := by decide +kernel
theorem dX8_covering_24 : decode cX8_covering 24 = .ok (.ifnull 47, 3) := by decide +kernel
theorem dX8_covering_27 : decode cX8_covering 27 = .ok (.aload_n 0, 1) := by decide +kernel
theorem dX8_covering_28 : decode cX8_covering 28 = .ok (.getfield 30, 3) := by decide +kernel
theorem dX8_covering_31 : decode cX8_covering 31 = .ok (.iload 4, 2) := by decide +kernel
theorem dX8_covering_33 : decode cX8_covering 33 = .ok (.invokevirtual 101, 3) := by decide +kernel
theorem dX8_covering_36 : decode cX8_covering 36 = .ok (.iconst 4, 1) := by decide +kernel
theorem dX8_covering_37 : decode cX8_covering 37 = .ok (.if_icmp .eq 34, 3) := by decide +kernel
theorem dX8_covering_40 : decode cX8_covering 40 = .ok (.aload 5, 2) := by decide +kernel
theorem dX8_covering_42 : decode cX8_covering 42 = .ok (.aload_n 0, 1) := by decide +kernel
theorem dX8_covering_43 : decode cX8_covering 43 = .ok (.getfield 30, 3) := by decide +kernel
theorem dX8_covering_46 : decode cX8_covering 46 = .ok (.iload 4, 2) := by decide +kernel
theorem dX8_covering_48 : decode cX8_covering 48 = .ok (.invokevirtual 101, 3) := by decide +kernel
theorem dX8_covering_51 : decode cX8_covering 51 = .ok (.aload 5, 2) := by decide +kernel
theorem dX8_covering_53 : decode cX8_covering 53 = .ok (.getfield 119, 3) := by decide +kernel
theorem dX8_covering_56 : decode cX8_covering 56 = .ok (.iload_n 1, 1) := by decide +kernel
theorem dX8_covering_57 : decode cX8_covering 57 = .ok (.iload_n 2, 1) := by decide +kernel
theorem dX8_covering_58 : decode cX8_covering 58 = .ok (.invokevirtual 128, 3) := by decide +kernel
theorem dX8_covering_61 : decode cX8_covering 61 = .ok (.ifCond .eq 10, 3) := by decide +kernel
theorem dX8_covering_64 : decode cX8_covering 64 = .ok (.iload_n 3, 1) := by decide +kernel
theorem dX8_covering_65 : decode cX8_covering 65 = .ok (.iconst 1, 1) := by decide +kernel
theorem dX8_covering_66 : decode cX8_covering 66 = .ok (.iload 4, 2) := by decide +kernel
theorem dX8_covering_68 : decode cX8_covering 68 = .ok (.ishl, 1) := by decide +kernel
theorem dX8_covering_69 : decode cX8_covering 69 = .ok (.ior, 1) := by decide +kernel
theorem dX8_covering_70 : decode cX8_covering 70 = .ok (.istore_n 3, 1) := by decide +kernel
theorem dX8_covering_71 : decode cX8_covering 71 = .ok (.iinc 4 1, 3) := by decide +kernel
theorem dX8_covering_74 : decode cX8_covering 74 = .ok (.goto (-69), 3) := by decide +kernel
theorem dX8_covering_77 : decode cX8_covering 77 = .ok (.iload_n 3, 1) := by decide +kernel
theorem dX8_covering_78 : decode cX8_covering 78 = .ok (.ireturn, 1) := by decide +kernel
theorem dX8_isAllSeen_0 : decode cX8_isAllSeen 0 = .ok (.aload_n 0, 1) := by decide +kernel
theorem dX8_isAllSeen_1 : decode cX8_isAllSeen 1 = .ok (.iload_n 1, 1) := by decide +kernel
theorem dX8_isAllSeen_2 : decode cX8_isAllSeen 2 = .ok (.invokevirtual 91, 3) := by decide +kernel
theorem dX8_isAllSeen_5 : decode cX8_isAllSeen 5 = .ok (.astore 4, 2) := by decide +kernel
theorem dX8_isAllSeen_7 : decode cX8_isAllSeen 7 = .ok (.aload 4, 2) := by decide +kernel
theorem dX8_isAllSeen_9 : decode cX8_isAllSeen 9 = .ok (.ifnonnull 5, 3) := by decide +kernel
theorem dX8_isAllSeen_12 : decode cX8_isAllSeen 12 = .ok (.iconst 0, 1) := by decide +kernel
theorem dX8_isAllSeen_13 : decode cX8_isAllSeen 13 = .ok (.ireturn, 1) := by decide +kernel
theorem dX8_isAllSeen_14 : decode cX8_isAllSeen 14 = .ok (.iconst 0, 1) := by decide +kernel
theorem dX8_isAllSeen_15 : decode cX8_isAllSeen 15 = .ok (.istore 5, 2) := by decide +kernel
theorem dX8_isAllSeen_17 : decode cX8_isAllSeen 17 = .ok (.iload 5, 2) := by decide +kernel
theorem dX8_isAllSeen_19 : decode cX8_isAllSeen 19 = .ok (.aload_n 0, 1) := by decide +kernel
theorem dX8_isAllSeen_20 : decode cX8_isAllSeen 20 = .ok (.getfield 36, 3) := by decide +kernel
theorem dX8_isAllSeen_23 : decode cX8_isAllSeen 23 = .ok (.invokevirtual 161, 3) := by decide +kernel
theorem dX8_isAllSeen_26 : decode cX8_isAllSeen 26 = .ok (.iconst 3, 1) := by decide +kernel
theorem dX8_isAllSeen_27 : decode cX8_isAllSeen 27 = .ok (.idiv, 1) := by decide +kernel
theorem dX8_isAllSeen_28 : decode cX8_isAllSeen 28 = .ok (.if_icmp .ge 108, 3) := by decide +kernel
theorem dX8_isAllSeen_31 : decode cX8_isAllSeen 31 = .ok (.aload_n 0, 1) := by decide +kernel
theorem dX8_isAllSeen_32 : decode cX8_isAllSeen 32 = .ok (.getfield 36, 3) := by decide +kernel
theorem dX8_isAllSeen_35 : decode cX8_isAllSeen 35 = .ok (.iconst 3, 1) := by decide +kernel
theorem dX8_isAllSeen_36 : decode cX8_isAllSeen 36 = .ok (.iload 5, 2) := by decide +kernel
theorem dX8_isAllSeen_38 : decode cX8_isAllSeen 38 = .ok (.imul, 1) := by decide +kernel
theorem dX8_isAllSeen_39 : decode cX8_isAllSeen 39 = .ok (.invokevirtual 101, 3) := by decide +kernel
theorem dX8_isAllSeen_42 : decode cX8_isAllSeen 42 = .ok (.istore 6, 2) := by decide +kernel
theorem dX8_isAllSeen_44 : decode cX8_isAllSeen 44 = .ok (.aload_n 0, 1) := by decide +kernel
theorem dX8_isAllSeen_45 : decode cX8_isAllSeen 45 = .ok (.getfield 36, 3) := by decide +kernel
theorem dX8_isAllSeen_48 : decode cX8_isAllSeen 48 = .ok (.iconst 3, 1) := by decide +kernel
theorem dX8_isAllSeen_49 : decode cX8_isAllSeen 49 = .ok (.iload 5, 2) := by decide +kernel
theorem dX8_isAllSeen_51 : decode cX8_isAllSeen 51 = .ok (.imul, 1) := by decide +kernel
theorem dX8_isAllSeen_52 : decode cX8_isAllSeen 52 = .ok (.iconst 1, 1) := by decide +kernel
theorem dX8_isAllSeen_53 : decode cX8_isAllSeen 53 = .ok (.iadd, 1) := by decide +kernel
theorem dX8_isAllSeen_54 : decode cX8_isAllSeen 54 = .ok (.invokevirtual 101, 3) := by decide +kernel
theorem dX8_isAllSeen_57 : decode cX8_isAllSeen 57 = .ok (.istore 7, 2) := by decide +kernel
theorem dX8_isAllSeen_59 : decode cX8_isAllSeen 59 = .ok (.aload_n 0, 1) := by decide +kernel
theorem dX8_isAllSeen_60 : decode cX8_isAllSeen 60 = .ok (.iload 6, 2) := by decide +kernel
theorem dX8_isAllSeen_62 : decode cX8_isAllSeen 62 = .ok (.iload 7, 2) := by decide +kernel
theorem dX8_isAllSeen_64 : decode cX8_isAllSeen 64 = .ok (.invokevirtual 193, 3) := by decide +kernel
theorem dX8_isAllSeen_67 : decode cX8_isAllSeen 67 = .ok (.iconst 1, 1) := by decide +kernel
theorem dX8_isAllSeen_68 : decode cX8_isAllSeen 68 = .ok (.iload_n 1, 1) := by decide +kernel
theorem dX8_isAllSeen_69 : decode cX8_isAllSeen 69 = .ok (.ishl, 1) := by decide +kernel
theorem dX8_isAllSeen_70 : decode cX8_isAllSeen 70 = .ok (.iconst (-1), 1) := by decide +kernel
theorem dX8_isAllSeen_71 : decode cX8_isAllSeen 71 = .ok (.ixor, 1) := by decide +kernel
theorem dX8_isAllSeen_72 : decode cX8_isAllSeen 72 = .ok (.iand, 1) := by decide +kernel
theorem dX8_isAllSeen_73 : decode cX8_isAllSeen 73 = .ok (.ifCond .ne 22, 3) := by decide +kernel
theorem dX8_isAllSeen_76 : decode cX8_isAllSeen 76 = .ok (.iload_n 2, 1) := by decide +kernel
theorem dX8_isAllSeen_77 : decode cX8_isAllSeen 77 = .ok (.iconst 4, 1) := by decide +kernel
theorem dX8_isAllSeen_78 : decode cX8_isAllSeen 78 = .ok (.if_icmp .eq 21, 3) := by decide +kernel
theorem dX8_isAllSeen_81 : decode cX8_isAllSeen 81 = .ok (.aload 4, 2) := by decide +kernel
theorem dX8_isAllSeen_83 : decode cX8_isAllSeen 83 = .ok (.iload_n 2, 1) := by decide +kernel
theorem dX8_isAllSeen_84 : decode cX8_isAllSeen 84 = .ok (.iload_n 3, 1) := by decide +kernel
theorem dX8_isAllSeen_85 : decode cX8_isAllSeen 85 = .ok (.iload 6, 2) := by decide +kernel
theorem dX8_isAllSeen_87 : decode cX8_isAllSeen 87 = .ok (.iload 7, 2) := by decide +kernel
theorem dX8_isAllSeen_89 : decode cX8_isAllSeen 89 = .ok (.invokevirtual 128, 3) := by decide +kernel
theorem dX8_isAllSeen_92 : decode cX8_isAllSeen 92 = .ok (.ifCond .eq 7, 3) := by decide +kernel
theorem dX8_isAllSeen_95 : decode cX8_isAllSeen 95 = .ok (.iconst 1, 1) := by decide +kernel
theorem dX8_isAllSeen_96 : decode cX8_isAllSeen 96 = .ok (.goto 4, 3) := by decide +kernel
theorem dX8_isAllSeen_99 : decode cX8_isAllSeen 99 = .ok (.iconst 0, 1) := by decide +kernel
theorem dX8_isAllSeen_100 : decode cX8_isAllSeen 100 = .ok (.istore 8, 2) := by decide +kernel
theorem dX8_isAllSeen_102 : decode cX8_isAllSeen 102 = .ok (.iload 8, 2) := by decide +kernel
theorem dX8_isAllSeen_104 : decode cX8_isAllSeen 104 = .ok (.aload_n 0, 1) := by decide +kernel
theorem dX8_isAllSeen_105 : decode cX8_isAllSeen 105 = .ok (.getfield 36, 3) := by decide +kernel
theorem dX8_isAllSeen_108 : decode cX8_isAllSeen 108 = .ok (.iconst 3, 1) := by decide +kernel
theorem dX8_isAllSeen_109 : decode cX8_isAllSeen 109 = .ok (.iload 5, 2) := by decide +kernel
theorem dX8_isAllSeen_111 : decode cX8_isAllSeen 111 = .ok (.imul, 1) := by decide +kernel
theorem dX8_isAllSeen_112 : decode cX8_isAllSeen 112 = .ok (.iconst 2, 1) := by decide +kernel
theorem dX8_isAllSeen_113 : decode cX8_isAllSeen 113 = .ok (.iadd, 1) := by decide +kernel
theorem dX8_isAllSeen_114 : decode cX8_isAllSeen 114 = .ok (.invokevirtual 101, 3) := by decide +kernel
theorem dX8_isAllSeen_117 : decode cX8_isAllSeen 117 = .ok (.ifCond .eq 7, 3) := by decide +kernel
theorem dX8_isAllSeen_120 : decode cX8_isAllSeen 120 = .ok (.iconst 1, 1) := by decide +kernel
theorem dX8_isAllSeen_121 : decode cX8_isAllSeen 121 = .ok (.goto 4, 3) := by decide +kernel
theorem dX8_isAllSeen_124 : decode cX8_isAllSeen 124 = .ok (.iconst 0, 1) := by decide +kernel
theorem dX8_isAllSeen_125 : decode cX8_isAllSeen 125 = .ok (.if_icmp .eq 5, 3) := by decide +kernel
theorem dX8_isAllSeen_128 : decode cX8_isAllSeen 128 = .ok (.iconst 0, 1) := by decide +kernel
theorem dX8_isAllSeen_129 : decode cX8_isAllSeen 129 = .ok (.ireturn, 1) := by decide +kernel
theorem dX8_isAllSeen_130 : decode cX8_isAllSeen 130 = .ok (.iinc 5 1, 3) := by decide +kernel
theorem dX8_isAllSeen_133 : decode cX8_isAllSeen 133 = .ok (.goto (-116), 3) := by decide +kernel
theorem dX8_isAllSeen_136 : decode cX8_isAllSeen 136 = .ok (.iconst 1, 1) := by decide +kernel
theorem dX8_isAllSeen_137 : decode cX8_isAllSeen 137 = .ok (.ireturn, 1) := by decide +kernel
theorem dX8_planned_0 : decode cX8_planned 0 = .ok (.aload_n 0, 1) := by decide +kernel
theorem dX8_planned_1 : decode cX8_planned 1 = .ok (.getfield 45, 3) := by decide +kernel
theorem dX8_planned_4 : decode cX8_planned 4 = .ok (.aload_n 0, 1) := by decide +kernel
theorem dX8_planned_5 : decode cX8_planned 5 = .ok (.getfield 30, 3) := by decide +kernel
theorem dX8_planned_8 : decode cX8_planned 8 = .ok (.invokevirtual 55, 3) := by decide +kernel
theorem dX8_planned_11 : decode cX8_planned 11 = .ok (.iconst 0, 1) := by decide +kernel
theorem dX8_planned_12 : decode cX8_planned 12 = .ok (.istore_n 1, 1) := by decide +kernel
theorem dX8_planned_13 : decode cX8_planned 13 = .ok (.iload_n 1, 1) := by decide +kernel
theorem dX8_planned_14 : decode cX8_planned 14 = .ok (.aload_n 0, 1) := by decide +kernel
theorem dX8_planned_15 : decode cX8_planned 15 = .ok (.getfield 39, 3) := by decide +kernel
theorem dX8_planned_18 : decode cX8_planned 18 = .ok (.invokevirtual 161, 3) := by decide +kernel
theorem dX8_planned_21 : decode cX8_planned 21 = .ok (.iconst 2, 1) := by decide +kernel
theorem dX8_planned_22 : decode cX8_planned 22 = .ok (.idiv, 1) := by decide +kernel
theorem dX8_planned_23 : decode cX8_planned 23 = .ok (.if_icmp .ge 63, 3) := by decide +kernel
theorem dX8_planned_26 : decode cX8_planned 26 = .ok (.aload_n 0, 1) := by decide +kernel
theorem dX8_planned_27 : decode cX8_planned 27 = .ok (.getfield 39, 3) := by decide +kernel
theorem dX8_planned_30 : decode cX8_planned 30 = .ok (.iconst 2, 1) := by decide +kernel
theorem dX8_planned_31 : decode cX8_planned 31 = .ok (.iload_n 1, 1) := by decide +kernel
theorem dX8_planned_32 : decode cX8_planned 32 = .ok (.imul, 1) := by decide +kernel
theorem dX8_planned_33 : decode cX8_planned 33 = .ok (.invokevirtual 101, 3) := by decide +kernel
theorem dX8_planned_36 : decode cX8_planned 36 = .ok (.istore_n 2, 1) := by decide +kernel
theorem dX8_planned_37 : decode cX8_planned 37 = .ok (.aload_n 0, 1) := by decide +kernel
theorem dX8_planned_38 : decode cX8_planned 38 = .ok (.getfield 39, 3) := by decide +kernel
theorem dX8_planned_41 : decode cX8_planned 41 = .ok (.iconst 2, 1) := by decide +kernel
theorem dX8_planned_42 : decode cX8_planned 42 = .ok (.iload_n 1, 1) := by decide +kernel
theorem dX8_planned_43 : decode cX8_planned 43 = .ok (.imul, 1) := by decide +kernel
theorem dX8_planned_44 : decode cX8_planned 44 = .ok (.iconst 1, 1) := by decide +kernel
theorem dX8_planned_45 : decode cX8_planned 45 = .ok (.iadd, 1) := by decide +kernel
theorem dX8_planned_46 : decode cX8_planned 46 = .ok (.invokevirtual 101, 3) := by decide +kernel
theorem dX8_planned_49 : decode cX8_planned 49 = .ok (.istore_n 3, 1) := by decide +kernel
theorem dX8_planned_50 : decode cX8_planned 50 = .ok (.iload_n 3, 1) := by decide +kernel
theorem dX8_planned_51 : decode cX8_planned 51 = .ok (.iconst 4, 1) := by decide +kernel
theorem dX8_planned_52 : decode cX8_planned 52 = .ok (.if_icmp .eq 19, 3) := by decide +kernel
theorem dX8_planned_55 : decode cX8_planned 55 = .ok (.aload_n 0, 1) := by decide +kernel
theorem dX8_planned_56 : decode cX8_planned 56 = .ok (.iload_n 2, 1) := by decide +kernel
theorem dX8_planned_57 : decode cX8_planned 57 = .ok (.aload_n 0, 1) := by decide +kernel
theorem dX8_planned_58 : decode cX8_planned 58 = .ok (.getfield 45, 3) := by decide +kernel
theorem dX8_planned_61 : decode cX8_planned 61 = .ok (.invokevirtual 196, 3) := by decide +kernel
theorem dX8_planned_64 : decode cX8_planned 64 = .ok (.iload_n 3, 1) := by decide +kernel
theorem dX8_planned_65 : decode cX8_planned 65 = .ok (.invokestatic 136, 3) := by decide +kernel
theorem dX8_planned_68 : decode cX8_planned 68 = .ok (.ifCond .eq 12, 3) := by decide +kernel
theorem dX8_planned_71 : decode cX8_planned 71 = .ok (.aload_n 0, 1) := by decide +kernel
theorem dX8_planned_72 : decode cX8_planned 72 = .ok (.getfield 45, 3) := by decide +kernel
theorem dX8_planned_75 : decode cX8_planned 75 = .ok (.iload_n 2, 1) := by decide +kernel
theorem dX8_planned_76 : decode cX8_planned 76 = .ok (.iload_n 3, 1) := by decide +kernel
theorem dX8_planned_77 : decode cX8_planned 77 = .ok (.invokevirtual 200, 3) := by decide +kernel
theorem dX8_planned_80 : decode cX8_planned 80 = .ok (.iinc 1 1, 3) := by decide +kernel
theorem dX8_planned_83 : decode cX8_planned 83 = .ok (.goto (-70), 3) := by decide +kernel
theorem dX8_planned_86 : decode cX8_planned 86 = .ok (.aload_n 0, 1) := by decide +kernel
theorem dX8_planned_87 : decode cX8_planned 87 = .ok (.getfield 45, 3) := by decide +kernel
theorem dX8_planned_90 : decode cX8_planned 90 = .ok (.areturn, 1) := by decide +kernel
theorem dX9_init_0 : decode cX9_init 0 = .ok (.aload_n 0, 1) := by decide +kernel
theorem dX9_init_1 : decode cX9_init 1 = .ok (.aload_n 1, 1) := by decide +kernel
theorem dX9_init_2 : decode cX9_init 2 = .ok (.iload_n 2, 1) := by decide +kernel
theorem dX9_init_3 : decode cX9_init 3 = .ok (.iload_n 3, 1) := by decide +kernel
theorem dX9_init_4 : decode cX9_init 4 = .ok (.iload 4, 2) := by decide +kernel
theorem dX9_init_6 : decode cX9_init 6 = .ok (.iload 5, 2) := by decide +kernel
theorem dX9_init_8 : decode cX9_init 8 = .ok (.iload 6, 2) := by decide +kernel
theorem dX9_init_10 : decode cX9_init 10 = .ok (.invokespecial 3, 3) := by decide +kernel
theorem dX9_init_13 : decode cX9_init 13 = .ok (.return_, 1) := by decide +kernel
theorem dX9_kind_0 : decode cX9_kind 0 = .ok (.iconst 3, 1) := by decide +kernel
theorem dX9_kind_1 : decode cX9_kind 1 = .ok (.ireturn, 1) := by decide +kernel
theorem dX9_length_0 : decode cX9_length 0 = .ok (.aload_n 0, 1) := by decide +kernel
theorem dX9_length_1 : decode cX9_length 1 = .ok (.getfield 9, 3) := by decide +kernel
theorem dX9_length_4 : decode cX9_length 4 = .ok (.iload_n 1, 1) := by decide +kernel
theorem dX9_length_5 : decode cX9_length 5 = .ok (.iconst 3, 1) := by decide +kernel
theorem dX9_length_6 : decode cX9_length 6 = .ok (.idiv, 1) := by decide +kernel
theorem dX9_length_7 : decode cX9_length 7 = .ok (.isub, 1) := by decide +kernel
theorem dX9_length_8 : decode cX9_length 8 = .ok (.istore_n 2, 1) := by decide +kernel
theorem dX9_length_9 : decode cX9_length 9 = .ok (.iload_n 2, 1) := by decide +kernel
theorem dX9_length_10 : decode cX9_length 10 = .ok (.iconst 1, 1) := by decide +kernel
theorem dX9_length_11 : decode cX9_length 11 = .ok (.if_icmp .ge 7, 3) := by decide +kernel
theorem dX9_length_14 : decode cX9_length 14 = .ok (.iconst 1, 1) := by decide +kernel
theorem dX9_length_15 : decode cX9_length 15 = .ok (.goto 4, 3) := by decide +kernel
theorem dX9_length_18 : decode cX9_length 18 = .ok (.iload_n 2, 1) := by decide +kernel
theorem dX9_length_19 : decode cX9_length 19 = .ok (.ireturn, 1) := by decide +kernel
theorem dX9_mayBe_0 : decode cX9_mayBe 0 = .ok (.bipush 12, 2) := by decide +kernel
theorem dX9_mayBe_2 : decode cX9_mayBe 2 = .ok (.ireturn, 1) := by decide +kernel
theorem dX9_tells_0 : decode cX9_tells 0 = .ok (.aload_n 0, 1) := by decide +kernel
theorem dX9_tells_1 : decode cX9_tells 1 = .ok (.getfield 15, 3) := by decide +kernel
theorem dX9_tells_4 : decode cX9_tells 4 = .ok (.bipush 31, 2) := by decide +kernel
theorem dX9_tells_6 : decode cX9_tells 6 = .ok (.invokevirtual 19, 3) := by decide +kernel
theorem dX9_tells_9 : decode cX9_tells 9 = .ok (.aload_n 0, 1) := by decide +kernel
theorem dX9_tells_10 : decode cX9_tells 10 = .ok (.iload_n 1, 1) := by decide +kernel
theorem dX9_tells_11 : decode cX9_tells 11 = .ok (.invokespecial 25, 3) := by decide +kernel
theorem dX9_tells_14 : decode cX9_tells 14 = .ok (.bipush 7, 2) := by decide +kernel
theorem dX9_tells_16 : decode cX9_tells 16 = .ok (.ixor, 1) := by decide +kernel
theorem dX9_tells_17 : decode cX9_tells 17 = .ok (.ireturn, 1) := by decide +kernel
theorem dX10_init_0 : decode cX10_init 0 = .ok (.aload_n 0, 1) := by decide +kernel
theorem dX10_init_1 : decode cX10_init 1 = .ok (.aload_n 1, 1) := by decide +kernel
theorem dX10_init_2 : decode cX10_init 2 = .ok (.iload_n 2, 1) := by decide +kernel
theorem dX10_init_3 : decode cX10_init 3 = .ok (.iload_n 3, 1) := by decide +kernel
theorem dX10_init_4 : decode cX10_init 4 = .ok (.iload 4, 2) := by decide +kernel
theorem dX10_init_6 : decode cX10_init 6 = .ok (.iload 5, 2) := by decide +kernel
theorem dX10_init_8 : decode cX10_init 8 = .ok (.iload 6, 2) := by decide +kernel
theorem dX10_init_10 : decode cX10_init 10 = .ok (.invokespecial 1, 3) := by decide +kernel
theorem dX10_init_13 : decode cX10_init 13 = .ok (.return_, 1) := by decide +kernel
theorem dX10_kind_0 : decode cX10_kind 0 = .ok (.bipush 6, 2) := by decide +kernel
theorem dX10_kind_2 : decode cX10_kind 2 = .ok (.ireturn, 1) := by decide +kernel
theorem dX10_mayBe_0 : decode cX10_mayBe 0 = .ok (.iload_n 1, 1) := by decide +kernel
theorem dX10_mayBe_1 : decode cX10_mayBe 1 = .ok (.ireturn, 1) := by decide +kernel
theorem dX10_reads_0 : decode cX10_reads 0 = .ok (.aload_n 0, 1) := by decide +kernel
theorem dX10_reads_1 : decode cX10_reads 1 = .ok (.getfield 7, 3) := by decide +kernel
theorem dX10_reads_4 : decode cX10_reads 4 = .ok (.bipush 61, 2) := by decide +kernel
theorem dX10_reads_6 : decode cX10_reads 6 = .ok (.invokevirtual 13, 3) := by decide +kernel
theorem dX10_reads_9 : decode cX10_reads 9 = .ok (.aload_n 0, 1) := by decide +kernel
theorem dX10_reads_10 : decode cX10_reads 10 = .ok (.iload_n 1, 1) := by decide +kernel
theorem dX10_reads_11 : decode cX10_reads 11 = .ok (.invokespecial 19, 3) := by decide +kernel
theorem dX10_reads_14 : decode cX10_reads 14 = .ok (.aload_n 0, 1) := by decide +kernel
theorem dX10_reads_15 : decode cX10_reads 15 = .ok (.getfield 23, 3) := by decide +kernel
theorem dX10_reads_18 : decode cX10_reads 18 = .ok (.iadd, 1) := by decide +kernel
theorem dX10_reads_19 : decode cX10_reads 19 = .ok (.ireturn, 1) := by decide +kernel
theorem dX11_init_0 : decode cX11_init 0 = .ok (.aload_n 0, 1) := by decide +kernel
theorem dX11_init_1 : decode cX11_init 1 = .ok (.invokespecial 3, 3) := by decide +kernel
theorem dX11_init_4 : decode cX11_init 4 = .ok (.aload_n 0, 1) := by decide +kernel
theorem dX11_init_5 : decode cX11_init 5 = .ok (.new 9, 3) := by decide +kernel
theorem dX11_init_8 : decode cX11_init 8 = .ok (.dup, 1) := by decide +kernel
theorem dX11_init_9 : decode cX11_init 9 = .ok (.bipush 20, 2) := by decide +kernel
theorem dX11_init_11 : decode cX11_init 11 = .ok (.invokespecial 13, 3) := by decide +kernel
theorem dX11_init_14 : decode cX11_init 14 = .ok (.putfield 16, 3) := by decide +kernel
theorem dX11_init_17 : decode cX11_init 17 = .ok (.aload_n 0, 1) := by decide +kernel
theorem dX11_init_18 : decode cX11_init 18 = .ok (.new 20, 3) := by decide +kernel
theorem dX11_init_21 : decode cX11_init 21 = .ok (.dup, 1) := by decide +kernel
theorem dX11_init_22 : decode cX11_init 22 = .ok (.invokespecial 22, 3) := by decide +kernel
theorem dX11_init_25 : decode cX11_init 25 = .ok (.putfield 23, 3) := by decide +kernel
theorem dX11_init_28 : decode cX11_init 28 = .ok (.aload_n 0, 1) := by decide +kernel
theorem dX11_init_29 : decode cX11_init 29 = .ok (.new 20, 3) := by decide +kernel
theorem dX11_init_32 : decode cX11_init 32 = .ok (.dup, 1) := by decide +kernel
theorem dX11_init_33 : decode cX11_init 33 = .ok (.invokespecial 22, 3) := by decide +kernel
theorem dX11_init_36 : decode cX11_init 36 = .ok (.putfield 27, 3) := by decide +kernel
theorem dX11_init_39 : decode cX11_init 39 = .ok (.aload_n 0, 1) := by decide +kernel
theorem dX11_init_40 : decode cX11_init 40 = .ok (.new 30, 3) := by decide +kernel
theorem dX11_init_43 : decode cX11_init 43 = .ok (.dup, 1) := by decide +kernel
theorem dX11_init_44 : decode cX11_init 44 = .ok (.aload_n 0, 1) := by decide +kernel
theorem dX11_init_45 : decode cX11_init 45 = .ok (.getfield 23, 3) := by decide +kernel
theorem dX11_init_48 : decode cX11_init 48 = .ok (.getfield 32, 3) := by decide +kernel
theorem dX11_init_51 : decode cX11_init 51 = .ok (.invokespecial 35, 3) := by decide +kernel
theorem dX11_init_54 : decode cX11_init 54 = .ok (.putfield 38, 3) := by decide +kernel
theorem dX11_init_57 : decode cX11_init 57 = .ok (.aload_n 0, 1) := by decide +kernel
theorem dX11_init_58 : decode cX11_init 58 = .ok (.new 42, 3) := by decide +kernel
theorem dX11_init_61 : decode cX11_init 61 = .ok (.dup, 1) := by decide +kernel
theorem dX11_init_62 : decode cX11_init 62 = .ok (.aload_n 0, 1) := by decide +kernel
theorem dX11_init_63 : decode cX11_init 63 = .ok (.getfield 23, 3) := by decide +kernel
theorem dX11_init_66 : decode cX11_init 66 = .ok (.invokespecial 44, 3) := by decide +kernel
theorem dX11_init_69 : decode cX11_init 69 = .ok (.putfield 47, 3) := by decide +kernel
theorem dX11_init_72 : decode cX11_init 72 = .ok (.return_, 1) := by decide +kernel
theorem dX11_feed_0 : decode cX11_feed 0 = .ok (.iload_n 1, 1) := by decide +kernel
theorem dX11_feed_1 : decode cX11_feed 1 = .ok (.ifCond .lt 9, 3) := by decide +kernel
theorem dX11_feed_4 : decode cX11_feed 4 = .ok (.iload_n 1, 1) := by decide +kernel
theorem dX11_feed_5 : decode cX11_feed 5 = .ok (.bipush 127, 2) := by decide +kernel
theorem dX11_feed_7 : decode cX11_feed 7 = .ok (.if_icmp .le 6, 3) := by decide +kernel
theorem dX11_feed_10 : decode cX11_feed 10 = .ok (.bipush (-2), 2) := by decide +kernel
theorem dX11_feed_12 : decode cX11_feed 12 = .ok (.ireturn, 1) := by decide +kernel
theorem dX11_feed_13 : decode cX11_feed 13 = .ok (.aload_n 0, 1) := by decide +kernel
theorem dX11_feed_14 : decode cX11_feed 14 = .ok (.getfield 23, 3) := by decide +kernel
theorem dX11_feed_17 : decode cX11_feed 17 = .ok (.getfield 32, 3) := by decide +kernel
theorem dX11_feed_20 : decode cX11_feed 20 = .ok (.invokevirtual 51, 3) := by decide +kernel
theorem dX11_feed_23 : decode cX11_feed 23 = .ok (.bipush 100, 2) := by decide +kernel
theorem dX11_feed_25 : decode cX11_feed 25 = .ok (.if_icmp .lt 6, 3) := by decide +kernel
theorem dX11_feed_28 : decode cX11_feed 28 = .ok (.bipush (-4), 2) := by decide +kernel
theorem dX11_feed_30 : decode cX11_feed 30 = .ok (.ireturn, 1) := by decide +kernel
theorem dX11_feed_31 : decode cX11_feed 31 = .ok (.aload_n 0, 1) := by decide +kernel
theorem dX11_feed_32 : decode cX11_feed 32 = .ok (.getfield 23, 3) := by decide +kernel
theorem dX11_feed_35 : decode cX11_feed 35 = .ok (.getfield 32, 3) := by decide +kernel
theorem dX11_feed_38 : decode cX11_feed 38 = .ok (.iload_n 1, 1) := by decide +kernel
theorem dX11_feed_39 : decode cX11_feed 39 = .ok (.invokevirtual 55, 3) := by decide +kernel
theorem dX11_feed_42 : decode cX11_feed 42 = .ok (.aload_n 0, 1) := by decide +kernel
theorem dX11_feed_43 : decode cX11_feed 43 = .ok (.getfield 23, 3) := by decide +kernel
theorem dX11_feed_46 : decode cX11_feed 46 = .ok (.getfield 32, 3) := by decide +kernel
theorem dX11_feed_49 : decode cX11_feed 49 = .ok (.invokevirtual 51, 3) := by decide +kernel
theorem dX11_feed_52 : decode cX11_feed 52 = .ok (.ireturn, 1) := by decide +kernel
theorem dX11_map_0 : decode cX11_map 0 = .ok (.aload_n 0, 1) := by decide +kernel
theorem dX11_map_1 : decode cX11_map 1 = .ok (.getfield 23, 3) := by decide +kernel
theorem dX11_map_4 : decode cX11_map 4 = .ok (.getfield 58, 3) := by decide +kernel
theorem dX11_map_7 : decode cX11_map 7 = .ok (.iconst 5, 1) := by decide +kernel
theorem dX11_map_8 : decode cX11_map 8 = .ok (.if_icmp .lt 6, 3) := by decide +kernel
theorem dX11_map_11 : decode cX11_map 11 = .ok (.bipush (-4), 2) := by decide +kernel
theorem dX11_map_13 : decode cX11_map 13 = .ok (.ireturn, 1) := by decide +kernel
theorem dX11_map_14 : decode cX11_map 14 = .ok (.aload_n 0, 1) := by decide +kernel
theorem dX11_map_15 : decode cX11_map 15 = .ok (.getfield 38, 3) := by decide +kernel
theorem dX11_map_18 : decode cX11_map 18 = .ok (.invokevirtual 62, 3) := by decide +kernel
theorem dX11_map_21 : decode cX11_map 21 = .ok (.istore_n 1, 1) := by decide +kernel
theorem dX11_map_22 : decode cX11_map 22 = .ok (.aload_n 0, 1) := by decide +kernel
theorem dX11_map_23 : decode cX11_map 23 = .ok (.getfield 23, 3) := by decide +kernel
theorem dX11_map_26 : decode cX11_map 26 = .ok (.getfield 32, 3) := by decide +kernel
theorem dX11_map_29 : decode cX11_map 29 = .ok (.invokevirtual 66, 3) := by decide +kernel
theorem dX11_map_32 : decode cX11_map 32 = .ok (.iload_n 1, 1) := by decide +kernel
theorem dX11_map_33 : decode cX11_map 33 = .ok (.ifCond .ne 14, 3) := by decide +kernel
theorem dX11_map_36 : decode cX11_map 36 = .ok (.bipush (-10), 2) := by decide +kernel
theorem dX11_map_38 : decode cX11_map 38 = .ok (.aload_n 0, 1) := by decide +kernel
theorem dX11_map_39 : decode cX11_map 39 = .ok (.getfield 38, 3) := by decide +kernel
theorem dX11_map_42 : decode cX11_map 42 = .ok (.getfield 69, 3) := by decide +kernel
theorem dX11_map_45 : decode cX11_map 45 = .ok (.isub, 1) := by decide +kernel
theorem dX11_map_46 : decode cX11_map 46 = .ok (.ireturn, 1) := by decide +kernel
theorem dX11_map_47 : decode cX11_map 47 = .ok (.aload_n 0, 1) := by decide +kernel
theorem dX11_map_48 : decode cX11_map 48 = .ok (.getfield 23, 3) := by decide +kernel
theorem dX11_map_51 : decode cX11_map 51 = .ok (.aload_n 0, 1) := by decide +kernel
theorem dX11_map_52 : decode cX11_map 52 = .ok (.getfield 38, 3) := by decide +kernel
theorem dX11_map_55 : decode cX11_map 55 = .ok (.invokevirtual 72, 3) := by decide +kernel
theorem dX11_map_58 : decode cX11_map 58 = .ok (.aload_n 0, 1) := by decide +kernel
theorem dX11_map_59 : decode cX11_map 59 = .ok (.getfield 23, 3) := by decide +kernel
theorem dX11_map_62 : decode cX11_map 62 = .ok (.getfield 58, 3) := by decide +kernel
theorem dX11_map_65 : decode cX11_map 65 = .ok (.iconst 1, 1) := by decide +kernel
theorem dX11_map_66 : decode cX11_map 66 = .ok (.isub, 1) := by decide +kernel
theorem dX11_map_67 : decode cX11_map 67 = .ok (.ireturn, 1) := by decide +kernel
theorem dX11_dot_0 : decode cX11_dot 0 = .ok (.iload_n 1, 1) := by decide +kernel
theorem dX11_dot_1 : decode cX11_dot 1 = .ok (.ifCond .lt 9, 3) := by decide +kernel
theorem dX11_dot_4 : decode cX11_dot 4 = .ok (.iload_n 1, 1) := by decide +kernel
theorem dX11_dot_5 : decode cX11_dot 5 = .ok (.bipush 7, 2) := by decide +kernel
theorem dX11_dot_7 : decode cX11_dot 7 = .ok (.if_icmp .lt 5, 3) := by decide +kernel
theorem dX11_dot_10 : decode cX11_dot 10 = .ok (.iconst (-1), 1) := by decide +kernel
theorem dX11_dot_11 : decode cX11_dot 11 = .ok (.ireturn, 1) := by decide +kernel
theorem dX11_dot_12 : decode cX11_dot 12 = .ok (.iload_n 2, 1) := by decide +kernel
theorem dX11_dot_13 : decode cX11_dot 13 = .ok (.ifCond .lt 44, 3) := by decide +kernel
theorem dX11_dot_16 : decode cX11_dot 16 = .ok (.iload_n 2, 1) := by decide +kernel
theorem dX11_dot_17 : decode cX11_dot 17 = .ok (.bipush 9, 2) := by decide +kernel
theorem dX11_dot_19 : decode cX11_dot 19 = .ok (.if_icmp .gt 38, 3) := by decide +kernel
theorem dX11_dot_22 : decode cX11_dot 22 = .ok (.iload_n 3, 1) := by decide +kernel
theorem dX11_dot_23 : decode cX11_dot 23 = .ok (.iconst 1, 1) := by decide +kernel
theorem dX11_dot_24 : decode cX11_dot 24 = .ok (.if_icmp .lt 33, 3) := by decide +kernel
theorem dX11_dot_27 : decode cX11_dot 27 = .ok (.iload_n 3, 1) := by decide +kernel
theorem dX11_dot_28 : decode cX11_dot 28 = .ok (.bipush 9, 2) := by decide +kernel
theorem dX11_dot_30 : decode cX11_dot 30 = .ok (.if_icmp .gt 27, 3) := by decide +kernel
theorem dX11_dot_33 : decode cX11_dot 33 = .ok (.iload 4, 2) := by decide +kernel
theorem dX11_dot_35 : decode cX11_dot 35 = .ok (.iload 5, 2) := by decide +kernel
theorem dX11_dot_37 : decode cX11_dot 37 = .ok (.invokestatic 76, 3) := by decide +kernel
theorem dX11_dot_40 : decode cX11_dot 40 = .ok (.ifCond .eq 17, 3) := by decide +kernel
theorem dX11_dot_43 : decode cX11_dot 43 = .ok (.aload_n 0, 1) := by decide +kernel
theorem dX11_dot_44 : decode cX11_dot 44 = .ok (.getfield 23, 3) := by decide +kernel
theorem dX11_dot_47 : decode cX11_dot 47 = .ok (.iload 4, 2) := by decide +kernel
theorem dX11_dot_49 : decode cX11_dot 49 = .ok (.iload 5, 2) := by decide +kernel
theorem dX11_dot_51 : decode cX11_dot 51 = .ok (.invokevirtual 80, 3) := by decide +kernel
theorem dX11_dot_54 : decode cX11_dot 54 = .ok (.ifCond .eq 6, 3) := by decide +kernel
theorem dX11_dot_57 : decode cX11_dot 57 = .ok (.bipush (-2), 2) := by decide +kernel
theorem dX11_dot_59 : decode cX11_dot 59 = .ok (.ireturn, 1) := by decide +kernel
theorem dX11_dot_60 : decode cX11_dot 60 = .ok (.aload_n 0, 1) := by decide +kernel
theorem dX11_dot_61 : decode cX11_dot 61 = .ok (.getfield 23, 3) := by decide +kernel
theorem dX11_dot_64 : decode cX11_dot 64 = .ok (.invokevirtual 83, 3) := by decide +kernel
theorem dX11_dot_67 : decode cX11_dot 67 = .ok (.bipush 7, 2) := by decide +kernel
theorem dX11_dot_69 : decode cX11_dot 69 = .ok (.if_icmp .lt 6, 3) := by decide +kernel
theorem dX11_dot_72 : decode cX11_dot 72 = .ok (.bipush (-4), 2) := by decide +kernel
theorem dX11_dot_74 : decode cX11_dot 74 = .ok (.ireturn, 1) := by decide +kernel
theorem dX11_dot_75 : decode cX11_dot 75 = .ok (.aload_n 0, 1) := by decide +kernel
theorem dX11_dot_76 : decode cX11_dot 76 = .ok (.getfield 23, 3) := by decide +kernel
theorem dX11_dot_79 : decode cX11_dot 79 = .ok (.getfield 86, 3) := by decide +kernel
theorem dX11_dot_82 : decode cX11_dot 82 = .ok (.aload_n 0, 1) := by decide +kernel
theorem dX11_dot_83 : decode cX11_dot 83 = .ok (.iload_n 1, 1) := by decide +kernel
theorem dX11_dot_84 : decode cX11_dot 84 = .ok (.iload_n 2, 1) := by decide +kernel
theorem dX11_dot_85 : decode cX11_dot 85 = .ok (.iload_n 3, 1) := by decide +kernel
theorem dX11_dot_86 : decode cX11_dot 86 = .ok (.iload 4, 2) := by decide +kernel
theorem dX11_dot_88 : decode cX11_dot 88 = .ok (.iload 5, 2) := by decide +kernel
theorem dX11_dot_90 : decode cX11_dot 90 = .ok (.invokevirtual 90, 3) := by decide +kernel
theorem dX11_dot_93 : decode cX11_dot 93 = .ok (.invokevirtual 94, 3) := by decide +kernel
theorem dX11_dot_96 : decode cX11_dot 96 = .ok (.pop, 1) := by decide +kernel
theorem dX11_dot_97 : decode cX11_dot 97 = .ok (.aload_n 0, 1) := by decide +kernel
theorem dX11_dot_98 : decode cX11_dot 98 = .ok (.getfield 23, 3) := by decide +kernel
theorem dX11_dot_101 : decode cX11_dot 101 = .ok (.getfield 99, 3) := by decide +kernel
theorem dX11_dot_104 : decode cX11_dot 104 = .ok (.aload_n 0, 1) := by decide +kernel
theorem dX11_dot_105 : decode cX11_dot 105 = .ok (.getfield 23, 3) := by decide +kernel
theorem dX11_dot_108 : decode cX11_dot 108 = .ok (.invokevirtual 83, 3) := by decide +kernel
theorem dX11_dot_111 : decode cX11_dot 111 = .ok (.iconst 1, 1) := by decide +kernel
theorem dX11_dot_112 : decode cX11_dot 112 = .ok (.isub, 1) := by decide +kernel
theorem dX11_dot_113 : decode cX11_dot 113 = .ok (.iconst 4, 1) := by decide +kernel
theorem dX11_dot_114 : decode cX11_dot 114 = .ok (.invokevirtual 102, 3) := by decide +kernel
theorem dX11_dot_117 : decode cX11_dot 117 = .ok (.aload_n 0, 1) := by decide +kernel
theorem dX11_dot_118 : decode cX11_dot 118 = .ok (.getfield 23, 3) := by decide +kernel
theorem dX11_dot_121 : decode cX11_dot 121 = .ok (.invokevirtual 83, 3) := by decide +kernel
theorem dX11_dot_124 : decode cX11_dot 124 = .ok (.iconst 1, 1) := by decide +kernel
theorem dX11_dot_125 : decode cX11_dot 125 = .ok (.isub, 1) := by decide +kernel
theorem dX11_dot_126 : decode cX11_dot 126 = .ok (.ireturn, 1) := by decide +kernel
theorem dX11_of_0 : decode cX11_of 0 = .ok (.aload_n 0, 1) := by decide +kernel
theorem dX11_of_1 : decode cX11_of 1 = .ok (.getfield 23, 3) := by decide +kernel
theorem dX11_of_4 : decode cX11_of 4 = .ok (.iload_n 1, 1) := by decide +kernel
theorem dX11_of_5 : decode cX11_of 5 = .ok (.invokevirtual 106, 3) := by decide +kernel
theorem dX11_of_8 : decode cX11_of 8 = .ok (.astore_n 3, 1) := by decide +kernel
theorem dX11_of_9 : decode cX11_of 9 = .ok (.aload_n 3, 1) := by decide +kernel
theorem dX11_of_10 : decode cX11_of 10 = .ok (.ifnonnull 5, 3) := by decide +kernel
theorem dX11_of_13 : decode cX11_of 13 = .ok (.iconst (-1), 1) := by decide +kernel
theorem dX11_of_14 : decode cX11_of 14 = .ok (.ireturn, 1) := by decide +kernel
theorem dX11_of_15 : decode cX11_of 15 = .ok (.iload_n 2, 1) := by decide +kernel
theorem dX11_of_16 : decode cX11_of 16 = .ok (.tableswitch 146 0 9 #[56, 61, 66, 71, 76, 81, 90, 105, 114, 130], 56) := by decide +kernel
theorem dX11_of_72 : decode cX11_of 72 = .ok (.aload_n 3, 1) := by decide +kernel
theorem dX11_of_73 : decode cX11_of 73 = .ok (.invokevirtual 110, 3) := by decide +kernel
theorem dX11_of_76 : decode cX11_of 76 = .ok (.ireturn, 1) := by decide +kernel
theorem dX11_of_77 : decode cX11_of 77 = .ok (.aload_n 3, 1) := by decide +kernel
theorem dX11_of_78 : decode cX11_of 78 = .ok (.getfield 115, 3) := by decide +kernel
theorem dX11_of_81 : decode cX11_of 81 = .ok (.ireturn, 1) := by decide +kernel
theorem dX11_of_82 : decode cX11_of 82 = .ok (.aload_n 3, 1) := by decide +kernel
theorem dX11_of_83 : decode cX11_of 83 = .ok (.getfield 118, 3) := by decide +kernel
theorem dX11_of_86 : decode cX11_of 86 = .ok (.ireturn, 1) := by decide +kernel
theorem dX11_of_87 : decode cX11_of 87 = .ok (.aload_n 3, 1) := by decide +kernel
theorem dX11_of_88 : decode cX11_of 88 = .ok (.getfield 121, 3) := by decide +kernel
theorem dX11_of_91 : decode cX11_of 91 = .ok (.ireturn, 1) := by decide +kernel
theorem dX11_of_92 : decode cX11_of 92 = .ok (.aload_n 3, 1) := by decide +kernel
theorem dX11_of_93 : decode cX11_of 93 = .ok (.getfield 124, 3) := by decide +kernel
theorem dX11_of_96 : decode cX11_of 96 = .ok (.ireturn, 1) := by decide +kernel
theorem dX11_of_97 : decode cX11_of 97 = .ok (.aload_n 3, 1) := by decide +kernel
theorem dX11_of_98 : decode cX11_of 98 = .ok (.aload_n 3, 1) := by decide +kernel
theorem dX11_of_99 : decode cX11_of 99 = .ok (.getfield 115, 3) := by decide +kernel
theorem dX11_of_102 : decode cX11_of 102 = .ok (.invokevirtual 127, 3) := by decide +kernel
theorem dX11_of_105 : decode cX11_of 105 = .ok (.ireturn, 1) := by decide +kernel
theorem dX11_of_106 : decode cX11_of 106 = .ok (.aload_n 0, 1) := by decide +kernel
theorem dX11_of_107 : decode cX11_of 107 = .ok (.getfield 23, 3) := by decide +kernel
theorem dX11_of_110 : decode cX11_of 110 = .ok (.getfield 99, 3) := by decide +kernel
theorem dX11_of_113 : decode cX11_of 113 = .ok (.iload_n 1, 1) := by decide +kernel
theorem dX11_of_114 : decode cX11_of 114 = .ok (.invokevirtual 131, 3) := by decide +kernel
theorem dX11_of_117 : decode cX11_of 117 = .ok (.invokestatic 134, 3) := by decide +kernel
theorem dX11_of_120 : decode cX11_of 120 = .ok (.ireturn, 1) := by decide +kernel
theorem dX11_of_121 : decode cX11_of 121 = .ok (.aload_n 0, 1) := by decide +kernel
theorem dX11_of_122 : decode cX11_of 122 = .ok (.getfield 23, 3) := by decide +kernel
theorem dX11_of_125 : decode cX11_of 125 = .ok (.iload_n 1, 1) := by decide +kernel
theorem dX11_of_126 : decode cX11_of 126 = .ok (.invokevirtual 137, 3) := by decide +kernel
theorem dX11_of_129 : decode cX11_of 129 = .ok (.ireturn, 1) := by decide +kernel
theorem dX11_of_130 : decode cX11_of 130 = .ok (.aload_n 0, 1) := by decide +kernel
theorem dX11_of_131 : decode cX11_of 131 = .ok (.getfield 23, 3) := by decide +kernel
theorem dX11_of_134 : decode cX11_of 134 = .ok (.iload_n 1, 1) := by decide +kernel
theorem dX11_of_135 : decode cX11_of 135 = .ok (.aload_n 0, 1) := by decide +kernel
theorem dX11_of_136 : decode cX11_of 136 = .ok (.getfield 23, 3) := by decide +kernel
theorem dX11_of_139 : decode cX11_of 139 = .ok (.getfield 140, 3) := by decide +kernel
theorem dX11_of_142 : decode cX11_of 142 = .ok (.invokevirtual 143, 3) := by decide +kernel
theorem dX11_of_145 : decode cX11_of 145 = .ok (.ireturn, 1) := by decide +kernel
theorem dX11_of_146 : decode cX11_of 146 = .ok (.aload_n 0, 1) := by decide +kernel
theorem dX11_of_147 : decode cX11_of 147 = .ok (.getfield 23, 3) := by decide +kernel
theorem dX11_of_150 : decode cX11_of 150 = .ok (.iload_n 1, 1) := by decide +kernel
theorem dX11_of_151 : decode cX11_of 151 = .ok (.aload_n 0, 1) := by decide +kernel
theorem dX11_of_152 : decode cX11_of 152 = .ok (.getfield 23, 3) := by decide +kernel
theorem dX11_of_155 : decode cX11_of 155 = .ok (.getfield 99, 3) := by decide +kernel
theorem dX11_of_158 : decode cX11_of 158 = .ok (.invokevirtual 147, 3) := by decide +kernel
theorem dX11_of_161 : decode cX11_of 161 = .ok (.ireturn, 1) := by decide +kernel
theorem dX11_of_162 : decode cX11_of 162 = .ok (.iconst (-1), 1) := by decide +kernel
theorem dX11_of_163 : decode cX11_of 163 = .ok (.ireturn, 1) := by decide +kernel
theorem dX11_row_0 : decode cX11_row 0 = .ok (.aload_n 0, 1) := by decide +kernel
theorem dX11_row_1 : decode cX11_row 1 = .ok (.getfield 23, 3) := by decide +kernel
theorem dX11_row_4 : decode cX11_row 4 = .ok (.iload_n 1, 1) := by decide +kernel
theorem dX11_row_5 : decode cX11_row 5 = .ok (.invokevirtual 151, 3) := by decide +kernel
theorem dX11_row_8 : decode cX11_row 8 = .ok (.ifCond .eq 10, 3) := by decide +kernel
theorem dX11_row_11 : decode cX11_row 11 = .ok (.iload_n 2, 1) := by decide +kernel
theorem dX11_row_12 : decode cX11_row 12 = .ok (.invokestatic 155, 3) := by decide +kernel
theorem dX11_row_15 : decode cX11_row 15 = .ok (.ifCond .ne 5, 3) := by decide +kernel
theorem dX11_row_18 : decode cX11_row 18 = .ok (.iconst (-1), 1) := by decide +kernel
theorem dX11_row_19 : decode cX11_row 19 = .ok (.ireturn, 1) := by decide +kernel
theorem dX11_row_20 : decode cX11_row 20 = .ok (.iload_n 3, 1) := by decide +kernel
theorem dX11_row_21 : decode cX11_row 21 = .ok (.ifCond .lt 9, 3) := by decide +kernel
theorem dX11_row_24 : decode cX11_row 24 = .ok (.iload_n 3, 1) := by decide +kernel
theorem dX11_row_25 : decode cX11_row 25 = .ok (.bipush 9, 2) := by decide +kernel
theorem dX11_row_27 : decode cX11_row 27 = .ok (.if_icmp .le 6, 3) := by decide +kernel
theorem dX11_row_30 : decode cX11_row 30 = .ok (.bipush (-2), 2) := by decide +kernel
theorem dX11_row_32 : decode cX11_row 32 = .ok (.ireturn, 1) := by decide +kernel
theorem dX11_row_33 : decode cX11_row 33 = .ok (.aload_n 0, 1) := by decide +kernel
theorem dX11_row_34 : decode cX11_row 34 = .ok (.getfield 23, 3) := by decide +kernel
theorem dX11_row_37 : decode cX11_row 37 = .ok (.iload_n 1, 1) := by decide +kernel
theorem dX11_row_38 : decode cX11_row 38 = .ok (.invokevirtual 106, 3) := by decide +kernel
theorem dX11_row_41 : decode cX11_row 41 = .ok (.instanceof 158, 3) := by decide +kernel
theorem dX11_row_44 : decode cX11_row 44 = .ok (.ifCond .ne 6, 3) := by decide +kernel
theorem dX11_row_47 : decode cX11_row 47 = .ok (.bipush (-3), 2) := by decide +kernel
theorem dX11_row_49 : decode cX11_row 49 = .ok (.ireturn, 1) := by decide +kernel
theorem dX11_row_50 : decode cX11_row 50 = .ok (.aload_n 0, 1) := by decide +kernel
theorem dX11_row_51 : decode cX11_row 51 = .ok (.getfield 23, 3) := by decide +kernel
theorem dX11_row_54 : decode cX11_row 54 = .ok (.getfield 160, 3) := by decide +kernel
theorem dX11_row_57 : decode cX11_row 57 = .ok (.iload_n 1, 1) := by decide +kernel
theorem dX11_row_58 : decode cX11_row 58 = .ok (.iconst 4, 1) := by decide +kernel
theorem dX11_row_59 : decode cX11_row 59 = .ok (.imul, 1) := by decide +kernel
theorem dX11_row_60 : decode cX11_row 60 = .ok (.iload_n 2, 1) := by decide +kernel
theorem dX11_row_61 : decode cX11_row 61 = .ok (.iadd, 1) := by decide +kernel
theorem dX11_row_62 : decode cX11_row 62 = .ok (.invokevirtual 131, 3) := by decide +kernel
theorem dX11_row_65 : decode cX11_row 65 = .ok (.istore 4, 2) := by decide +kernel
theorem dX11_row_67 : decode cX11_row 67 = .ok (.aload_n 0, 1) := by decide +kernel
theorem dX11_row_68 : decode cX11_row 68 = .ok (.getfield 23, 3) := by decide +kernel
theorem dX11_row_71 : decode cX11_row 71 = .ok (.getfield 160, 3) := by decide +kernel
theorem dX11_row_74 : decode cX11_row 74 = .ok (.iload_n 1, 1) := by decide +kernel
theorem dX11_row_75 : decode cX11_row 75 = .ok (.iconst 4, 1) := by decide +kernel
theorem dX11_row_76 : decode cX11_row 76 = .ok (.imul, 1) := by decide +kernel
theorem dX11_row_77 : decode cX11_row 77 = .ok (.iload_n 2, 1) := by decide +kernel
theorem dX11_row_78 : decode cX11_row 78 = .ok (.iadd, 1) := by decide +kernel
theorem dX11_row_79 : decode cX11_row 79 = .ok (.iload_n 3, 1) := by decide +kernel
theorem dX11_row_80 : decode cX11_row 80 = .ok (.invokevirtual 102, 3) := by decide +kernel
theorem dX11_row_83 : decode cX11_row 83 = .ok (.iload 4, 2) := by decide +kernel
theorem dX11_row_85 : decode cX11_row 85 = .ok (.ireturn, 1) := by decide +kernel
theorem dX11_good_0 : decode cX11_good 0 = .ok (.aload_n 0, 1) := by decide +kernel
theorem dX11_good_1 : decode cX11_good 1 = .ok (.getfield 23, 3) := by decide +kernel
theorem dX11_good_4 : decode cX11_good 4 = .ok (.iload_n 1, 1) := by decide +kernel
theorem dX11_good_5 : decode cX11_good 5 = .ok (.invokevirtual 151, 3) := by decide +kernel
theorem dX11_good_8 : decode cX11_good 8 = .ok (.ifCond .eq 22, 3) := by decide +kernel
theorem dX11_good_11 : decode cX11_good 11 = .ok (.iload_n 2, 1) := by decide +kernel
theorem dX11_good_12 : decode cX11_good 12 = .ok (.invokestatic 155, 3) := by decide +kernel
theorem dX11_good_15 : decode cX11_good 15 = .ok (.ifCond .eq 15, 3) := by decide +kernel
theorem dX11_good_18 : decode cX11_good 18 = .ok (.aload_n 0, 1) := by decide +kernel
theorem dX11_good_19 : decode cX11_good 19 = .ok (.getfield 23, 3) := by decide +kernel
theorem dX11_good_22 : decode cX11_good 22 = .ok (.iload_n 1, 1) := by decide +kernel
theorem dX11_good_23 : decode cX11_good 23 = .ok (.iload_n 2, 1) := by decide +kernel
theorem dX11_good_24 : decode cX11_good 24 = .ok (.invokevirtual 163, 3) := by decide +kernel
theorem dX11_good_27 : decode cX11_good 27 = .ok (.goto 6, 3) := by decide +kernel
theorem dX11_good_30 : decode cX11_good 30 = .ok (.sipush (-10001), 3) := by decide +kernel
theorem dX11_good_33 : decode cX11_good 33 = .ok (.ireturn, 1) := by decide +kernel
theorem dX11_lay_0 : decode cX11_lay 0 = .ok (.aload_n 0, 1) := by decide +kernel
theorem dX11_lay_1 : decode cX11_lay 1 = .ok (.getfield 23, 3) := by decide +kernel
theorem dX11_lay_4 : decode cX11_lay 4 = .ok (.iload_n 1, 1) := by decide +kernel
theorem dX11_lay_5 : decode cX11_lay 5 = .ok (.invokevirtual 151, 3) := by decide +kernel
theorem dX11_lay_8 : decode cX11_lay 8 = .ok (.ifCond .eq 10, 3) := by decide +kernel
theorem dX11_lay_11 : decode cX11_lay 11 = .ok (.iload_n 2, 1) := by decide +kernel
theorem dX11_lay_12 : decode cX11_lay 12 = .ok (.invokestatic 155, 3) := by decide +kernel
theorem dX11_lay_15 : decode cX11_lay 15 = .ok (.ifCond .ne 5, 3) := by decide +kernel
theorem dX11_lay_18 : decode cX11_lay 18 = .ok (.iconst (-1), 1) := by decide +kernel
theorem dX11_lay_19 : decode cX11_lay 19 = .ok (.ireturn, 1) := by decide +kernel
theorem dX11_lay_20 : decode cX11_lay 20 = .ok (.aload_n 0, 1) := by decide +kernel
theorem dX11_lay_21 : decode cX11_lay 21 = .ok (.getfield 23, 3) := by decide +kernel
theorem dX11_lay_24 : decode cX11_lay 24 = .ok (.iload_n 1, 1) := by decide +kernel
theorem dX11_lay_25 : decode cX11_lay 25 = .ok (.aload_n 0, 1) := by decide +kernel
theorem dX11_lay_26 : decode cX11_lay 26 = .ok (.getfield 23, 3) := by decide +kernel
theorem dX11_lay_29 : decode cX11_lay 29 = .ok (.getfield 99, 3) := by decide +kernel
theorem dX11_lay_32 : decode cX11_lay 32 = .ok (.invokevirtual 147, 3) := by decide +kernel
theorem dX11_lay_35 : decode cX11_lay 35 = .ok (.iload_n 2, 1) := by decide +kernel
theorem dX11_lay_36 : decode cX11_lay 36 = .ok (.invokestatic 166, 3) := by decide +kernel
theorem dX11_lay_39 : decode cX11_lay 39 = .ok (.ifCond .ne 6, 3) := by decide +kernel
theorem dX11_lay_42 : decode cX11_lay 42 = .ok (.bipush (-3), 2) := by decide +kernel
theorem dX11_lay_44 : decode cX11_lay 44 = .ok (.ireturn, 1) := by decide +kernel
theorem dX11_lay_45 : decode cX11_lay 45 = .ok (.aload_n 0, 1) := by decide +kernel
theorem dX11_lay_46 : decode cX11_lay 46 = .ok (.iload_n 1, 1) := by decide +kernel
theorem dX11_lay_47 : decode cX11_lay 47 = .ok (.iload_n 2, 1) := by decide +kernel
theorem dX11_lay_48 : decode cX11_lay 48 = .ok (.invokevirtual 169, 3) := by decide +kernel
theorem dX11_lay_51 : decode cX11_lay 51 = .ok (.ireturn, 1) := by decide +kernel
theorem dX11_lift_0 : decode cX11_lift 0 = .ok (.aload_n 0, 1) := by decide +kernel
theorem dX11_lift_1 : decode cX11_lift 1 = .ok (.getfield 23, 3) := by decide +kernel
theorem dX11_lift_4 : decode cX11_lift 4 = .ok (.iload_n 1, 1) := by decide +kernel
theorem dX11_lift_5 : decode cX11_lift 5 = .ok (.invokevirtual 151, 3) := by decide +kernel
theorem dX11_lift_8 : decode cX11_lift 8 = .ok (.ifCond .eq 12, 3) := by decide +kernel
theorem dX11_lift_11 : decode cX11_lift 11 = .ok (.aload_n 0, 1) := by decide +kernel
theorem dX11_lift_12 : decode cX11_lift 12 = .ok (.iload_n 1, 1) := by decide +kernel
theorem dX11_lift_13 : decode cX11_lift 13 = .ok (.iconst 4, 1) := by decide +kernel
theorem dX11_lift_14 : decode cX11_lift 14 = .ok (.invokevirtual 169, 3) := by decide +kernel
theorem dX11_lift_17 : decode cX11_lift 17 = .ok (.goto 4, 3) := by decide +kernel
theorem dX11_lift_20 : decode cX11_lift 20 = .ok (.iconst (-1), 1) := by decide +kernel
theorem dX11_lift_21 : decode cX11_lift 21 = .ok (.ireturn, 1) := by decide +kernel
theorem dX11_told_0 : decode cX11_told 0 = .ok (.iload_n 1, 1) := by decide +kernel
theorem dX11_told_1 : decode cX11_told 1 = .ok (.tableswitch 111 0 5 #[39, 47, 55, 73, 88, 96], 39) := by decide +kernel
theorem dX11_told_40 : decode cX11_told 40 = .ok (.aload_n 0, 1) := by decide +kernel
theorem dX11_told_41 : decode cX11_told 41 = .ok (.getfield 23, 3) := by decide +kernel
theorem dX11_told_44 : decode cX11_told 44 = .ok (.getfield 140, 3) := by decide +kernel
theorem dX11_told_47 : decode cX11_told 47 = .ok (.ireturn, 1) := by decide +kernel
theorem dX11_told_48 : decode cX11_told 48 = .ok (.aload_n 0, 1) := by decide +kernel
theorem dX11_told_49 : decode cX11_told 49 = .ok (.getfield 23, 3) := by decide +kernel
theorem dX11_told_52 : decode cX11_told 52 = .ok (.getfield 172, 3) := by decide +kernel
theorem dX11_told_55 : decode cX11_told 55 = .ok (.ireturn, 1) := by decide +kernel
theorem dX11_told_56 : decode cX11_told 56 = .ok (.aload_n 0, 1) := by decide +kernel
theorem dX11_told_57 : decode cX11_told 57 = .ok (.getfield 23, 3) := by decide +kernel
theorem dX11_told_60 : decode cX11_told 60 = .ok (.aload_n 0, 1) := by decide +kernel
theorem dX11_told_61 : decode cX11_told 61 = .ok (.getfield 23, 3) := by decide +kernel
theorem dX11_told_64 : decode cX11_told 64 = .ok (.getfield 99, 3) := by decide +kernel
theorem dX11_told_67 : decode cX11_told 67 = .ok (.invokevirtual 175, 3) := by decide +kernel
theorem dX11_told_70 : decode cX11_told 70 = .ok (.invokestatic 179, 3) := by decide +kernel
theorem dX11_told_73 : decode cX11_told 73 = .ok (.ireturn, 1) := by decide +kernel
theorem dX11_told_74 : decode cX11_told 74 = .ok (.aload_n 0, 1) := by decide +kernel
theorem dX11_told_75 : decode cX11_told 75 = .ok (.getfield 23, 3) := by decide +kernel
theorem dX11_told_78 : decode cX11_told 78 = .ok (.aload_n 0, 1) := by decide +kernel
theorem dX11_told_79 : decode cX11_told 79 = .ok (.getfield 23, 3) := by decide +kernel
theorem dX11_told_82 : decode cX11_told 82 = .ok (.getfield 99, 3) := by decide +kernel
theorem dX11_told_85 : decode cX11_told 85 = .ok (.invokevirtual 184, 3) := by decide +kernel
theorem dX11_told_88 : decode cX11_told 88 = .ok (.ireturn, 1) := by decide +kernel
theorem dX11_told_89 : decode cX11_told 89 = .ok (.aload_n 0, 1) := by decide +kernel
theorem dX11_told_90 : decode cX11_told 90 = .ok (.getfield 23, 3) := by decide +kernel
theorem dX11_told_93 : decode cX11_told 93 = .ok (.invokevirtual 187, 3) := by decide +kernel
theorem dX11_told_96 : decode cX11_told 96 = .ok (.ireturn, 1) := by decide +kernel
theorem dX11_told_97 : decode cX11_told 97 = .ok (.aload_n 0, 1) := by decide +kernel
theorem dX11_told_98 : decode cX11_told 98 = .ok (.getfield 23, 3) := by decide +kernel
theorem dX11_told_101 : decode cX11_told 101 = .ok (.aload_n 0, 1) := by decide +kernel
theorem dX11_told_102 : decode cX11_told 102 = .ok (.getfield 23, 3) := by decide +kernel
theorem dX11_told_105 : decode cX11_told 105 = .ok (.getfield 99, 3) := by decide +kernel
theorem dX11_told_108 : decode cX11_told 108 = .ok (.invokevirtual 175, 3) := by decide +kernel
theorem dX11_told_111 : decode cX11_told 111 = .ok (.ireturn, 1) := by decide +kernel
theorem dX11_told_112 : decode cX11_told 112 = .ok (.sipush (-10001), 3) := by decide +kernel
theorem dX11_told_115 : decode cX11_told 115 = .ok (.ireturn, 1) := by decide +kernel
theorem dX11_clash_0 : decode cX11_clash 0 = .ok (.aload_n 0, 1) := by decide +kernel
theorem dX11_clash_1 : decode cX11_clash 1 = .ok (.getfield 23, 3) := by decide +kernel
theorem dX11_clash_4 : decode cX11_clash 4 = .ok (.iload_n 1, 1) := by decide +kernel
theorem dX11_clash_5 : decode cX11_clash 5 = .ok (.invokevirtual 151, 3) := by decide +kernel
theorem dX11_clash_8 : decode cX11_clash 8 = .ok (.ifCond .eq 29, 3) := by decide +kernel
theorem dX11_clash_11 : decode cX11_clash 11 = .ok (.iload_n 2, 1) := by decide +kernel
theorem dX11_clash_12 : decode cX11_clash 12 = .ok (.invokestatic 155, 3) := by decide +kernel
theorem dX11_clash_15 : decode cX11_clash 15 = .ok (.ifCond .eq 22, 3) := by decide +kernel
theorem dX11_clash_18 : decode cX11_clash 18 = .ok (.aload_n 0, 1) := by decide +kernel
theorem dX11_clash_19 : decode cX11_clash 19 = .ok (.getfield 23, 3) := by decide +kernel
theorem dX11_clash_22 : decode cX11_clash 22 = .ok (.iload_n 3, 1) := by decide +kernel
theorem dX11_clash_23 : decode cX11_clash 23 = .ok (.invokevirtual 151, 3) := by decide +kernel
theorem dX11_clash_26 : decode cX11_clash 26 = .ok (.ifCond .eq 11, 3) := by decide +kernel
theorem dX11_clash_29 : decode cX11_clash 29 = .ok (.iload 4, 2) := by decide +kernel
theorem dX11_clash_31 : decode cX11_clash 31 = .ok (.invokestatic 155, 3) := by decide +kernel
theorem dX11_clash_34 : decode cX11_clash 34 = .ok (.ifCond .ne 5, 3) := by decide +kernel
theorem dX11_clash_37 : decode cX11_clash 37 = .ok (.iconst (-1), 1) := by decide +kernel
theorem dX11_clash_38 : decode cX11_clash 38 = .ok (.ireturn, 1) := by decide +kernel
theorem dX11_clash_39 : decode cX11_clash 39 = .ok (.iload_n 1, 1) := by decide +kernel
theorem dX11_clash_40 : decode cX11_clash 40 = .ok (.iload_n 3, 1) := by decide +kernel
theorem dX11_clash_41 : decode cX11_clash 41 = .ok (.if_icmp .ne 8, 3) := by decide +kernel
theorem dX11_clash_44 : decode cX11_clash 44 = .ok (.bipush (-2), 2) := by decide +kernel
theorem dX11_clash_46 : decode cX11_clash 46 = .ok (.goto 15, 3) := by decide +kernel
theorem dX11_clash_49 : decode cX11_clash 49 = .ok (.aload_n 0, 1) := by decide +kernel
theorem dX11_clash_50 : decode cX11_clash 50 = .ok (.getfield 23, 3) := by decide +kernel
theorem dX11_clash_53 : decode cX11_clash 53 = .ok (.iload_n 1, 1) := by decide +kernel
theorem dX11_clash_54 : decode cX11_clash 54 = .ok (.iload_n 2, 1) := by decide +kernel
theorem dX11_clash_55 : decode cX11_clash 55 = .ok (.iload_n 3, 1) := by decide +kernel
theorem dX11_clash_56 : decode cX11_clash 56 = .ok (.iload 4, 2) := by decide +kernel
theorem dX11_clash_58 : decode cX11_clash 58 = .ok (.invokevirtual 190, 3) := by decide +kernel
theorem dX11_clash_61 : decode cX11_clash 61 = .ok (.ireturn, 1) := by decide +kernel
theorem dX11_at_0 : decode cX11_at 0 = .ok (.iload_n 1, 1) := by decide +kernel
theorem dX11_at_1 : decode cX11_at 1 = .ok (.iload_n 2, 1) := by decide +kernel
theorem dX11_at_2 : decode cX11_at 2 = .ok (.invokestatic 76, 3) := by decide +kernel
theorem dX11_at_5 : decode cX11_at 5 = .ok (.ifCond .eq 15, 3) := by decide +kernel
theorem dX11_at_8 : decode cX11_at 8 = .ok (.aload_n 0, 1) := by decide +kernel
theorem dX11_at_9 : decode cX11_at 9 = .ok (.getfield 23, 3) := by decide +kernel
theorem dX11_at_12 : decode cX11_at 12 = .ok (.iload_n 1, 1) := by decide +kernel
theorem dX11_at_13 : decode cX11_at 13 = .ok (.iload_n 2, 1) := by decide +kernel
theorem dX11_at_14 : decode cX11_at 14 = .ok (.invokevirtual 194, 3) := by decide +kernel
theorem dX11_at_17 : decode cX11_at 17 = .ok (.goto 4, 3) := by decide +kernel
theorem dX11_at_20 : decode cX11_at 20 = .ok (.iconst (-1), 1) := by decide +kernel
theorem dX11_at_21 : decode cX11_at 21 = .ok (.ireturn, 1) := by decide +kernel
theorem dX11_most_0 : decode cX11_most 0 = .ok (.iload_n 1, 1) := by decide +kernel
theorem dX11_most_1 : decode cX11_most 1 = .ok (.ifCond .eq 26, 3) := by decide +kernel
theorem dX11_most_4 : decode cX11_most 4 = .ok (.iload_n 1, 1) := by decide +kernel
theorem dX11_most_5 : decode cX11_most 5 = .ok (.iconst 1, 1) := by decide +kernel
theorem dX11_most_6 : decode cX11_most 6 = .ok (.if_icmp .eq 21, 3) := by decide +kernel
theorem dX11_most_9 : decode cX11_most 9 = .ok (.aload_n 0, 1) := by decide +kernel
theorem dX11_most_10 : decode cX11_most 10 = .ok (.getfield 23, 3) := by decide +kernel
theorem dX11_most_13 : decode cX11_most 13 = .ok (.iload_n 1, 1) := by decide +kernel
theorem dX11_most_14 : decode cX11_most 14 = .ok (.bipush 10, 2) := by decide +kernel
theorem dX11_most_16 : decode cX11_most 16 = .ok (.isub, 1) := by decide +kernel
theorem dX11_most_17 : decode cX11_most 17 = .ok (.invokevirtual 151, 3) := by decide +kernel
theorem dX11_most_20 : decode cX11_most 20 = .ok (.ifCond .ne 7, 3) := by decide +kernel
theorem dX11_most_23 : decode cX11_most 23 = .ok (.sipush (-10001), 3) := by decide +kernel
theorem dX11_most_26 : decode cX11_most 26 = .ok (.ireturn, 1) := by decide +kernel
theorem dX11_most_27 : decode cX11_most 27 = .ok (.aload_n 0, 1) := by decide +kernel
theorem dX11_most_28 : decode cX11_most 28 = .ok (.getfield 47, 3) := by decide +kernel
theorem dX11_most_31 : decode cX11_most 31 = .ok (.ldc 197, 2) := by decide +kernel
theorem dX11_most_33 : decode cX11_most 33 = .ok (.invokevirtual 198, 3) := by decide +kernel
theorem dX11_most_36 : decode cX11_most 36 = .ok (.iload_n 1, 1) := by decide +kernel
theorem dX11_most_37 : decode cX11_most 37 = .ok (.lookupswitch 43 #[(0, 27), (1, 35)], 27) := by decide +kernel
theorem dX11_most_64 : decode cX11_most 64 = .ok (.aload_n 0, 1) := by decide +kernel
theorem dX11_most_65 : decode cX11_most 65 = .ok (.getfield 47, 3) := by decide +kernel
theorem dX11_most_68 : decode cX11_most 68 = .ok (.invokevirtual 201, 3) := by decide +kernel
theorem dX11_most_71 : decode cX11_most 71 = .ok (.ireturn, 1) := by decide +kernel
theorem dX11_most_72 : decode cX11_most 72 = .ok (.aload_n 0, 1) := by decide +kernel
theorem dX11_most_73 : decode cX11_most 73 = .ok (.getfield 47, 3) := by decide +kernel
theorem dX11_most_76 : decode cX11_most 76 = .ok (.invokevirtual 204, 3) := by decide +kernel
theorem dX11_most_79 : decode cX11_most 79 = .ok (.ireturn, 1) := by decide +kernel
theorem dX11_most_80 : decode cX11_most 80 = .ok (.aload_n 0, 1) := by decide +kernel
theorem dX11_most_81 : decode cX11_most 81 = .ok (.getfield 47, 3) := by decide +kernel
theorem dX11_most_84 : decode cX11_most 84 = .ok (.iload_n 1, 1) := by decide +kernel
theorem dX11_most_85 : decode cX11_most 85 = .ok (.bipush 10, 2) := by decide +kernel
theorem dX11_most_87 : decode cX11_most 87 = .ok (.isub, 1) := by decide +kernel
theorem dX11_most_88 : decode cX11_most 88 = .ok (.invokevirtual 206, 3) := by decide +kernel
theorem dX11_most_91 : decode cX11_most 91 = .ok (.invokestatic 134, 3) := by decide +kernel
theorem dX11_most_94 : decode cX11_most 94 = .ok (.ireturn, 1) := by decide +kernel
theorem dX11_best_0 : decode cX11_best 0 = .ok (.iload_n 1, 1) := by decide +kernel
theorem dX11_best_1 : decode cX11_best 1 = .ok (.ifCond .eq 21, 3) := by decide +kernel
theorem dX11_best_4 : decode cX11_best 4 = .ok (.aload_n 0, 1) := by decide +kernel
theorem dX11_best_5 : decode cX11_best 5 = .ok (.getfield 23, 3) := by decide +kernel
theorem dX11_best_8 : decode cX11_best 8 = .ok (.iload_n 1, 1) := by decide +kernel
theorem dX11_best_9 : decode cX11_best 9 = .ok (.bipush 10, 2) := by decide +kernel
theorem dX11_best_11 : decode cX11_best 11 = .ok (.isub, 1) := by decide +kernel
theorem dX11_best_12 : decode cX11_best 12 = .ok (.invokevirtual 151, 3) := by decide +kernel
theorem dX11_best_15 : decode cX11_best 15 = .ok (.ifCond .ne 7, 3) := by decide +kernel
theorem dX11_best_18 : decode cX11_best 18 = .ok (.sipush (-10001), 3) := by decide +kernel
theorem dX11_best_21 : decode cX11_best 21 = .ok (.ireturn, 1) := by decide +kernel
theorem dX11_best_22 : decode cX11_best 22 = .ok (.aload_n 0, 1) := by decide +kernel
theorem dX11_best_23 : decode cX11_best 23 = .ok (.getfield 47, 3) := by decide +kernel
theorem dX11_best_26 : decode cX11_best 26 = .ok (.iconst 0, 1) := by decide +kernel
theorem dX11_best_27 : decode cX11_best 27 = .ok (.invokevirtual 198, 3) := by decide +kernel
theorem dX11_best_30 : decode cX11_best 30 = .ok (.iload_n 1, 1) := by decide +kernel
theorem dX11_best_31 : decode cX11_best 31 = .ok (.ifCond .ne 13, 3) := by decide +kernel
theorem dX11_best_34 : decode cX11_best 34 = .ok (.aload_n 0, 1) := by decide +kernel
theorem dX11_best_35 : decode cX11_best 35 = .ok (.getfield 47, 3) := by decide +kernel
theorem dX11_best_38 : decode cX11_best 38 = .ok (.invokevirtual 204, 3) := by decide +kernel
theorem dX11_best_41 : decode cX11_best 41 = .ok (.goto 17, 3) := by decide +kernel
theorem dX11_best_44 : decode cX11_best 44 = .ok (.aload_n 0, 1) := by decide +kernel
theorem dX11_best_45 : decode cX11_best 45 = .ok (.getfield 47, 3) := by decide +kernel
theorem dX11_best_48 : decode cX11_best 48 = .ok (.iload_n 1, 1) := by decide +kernel
theorem dX11_best_49 : decode cX11_best 49 = .ok (.bipush 10, 2) := by decide +kernel
theorem dX11_best_51 : decode cX11_best 51 = .ok (.isub, 1) := by decide +kernel
theorem dX11_best_52 : decode cX11_best 52 = .ok (.invokevirtual 206, 3) := by decide +kernel
theorem dX11_best_55 : decode cX11_best 55 = .ok (.invokestatic 134, 3) := by decide +kernel
theorem dX11_best_58 : decode cX11_best 58 = .ok (.ireturn, 1) := by decide +kernel
theorem dX11_all_0 : decode cX11_all 0 = .ok (.iload_n 1, 1) := by decide +kernel
theorem dX11_all_1 : decode cX11_all 1 = .ok (.iconst 1, 1) := by decide +kernel
theorem dX11_all_2 : decode cX11_all 2 = .ok (.if_icmp .lt 9, 3) := by decide +kernel
theorem dX11_all_5 : decode cX11_all 5 = .ok (.iload_n 1, 1) := by decide +kernel
theorem dX11_all_6 : decode cX11_all 6 = .ok (.bipush 15, 2) := by decide +kernel
theorem dX11_all_8 : decode cX11_all 8 = .ok (.if_icmp .le 6, 3) := by decide +kernel
theorem dX11_all_11 : decode cX11_all 11 = .ok (.bipush (-2), 2) := by decide +kernel
theorem dX11_all_13 : decode cX11_all 13 = .ok (.ireturn, 1) := by decide +kernel
theorem dX11_all_14 : decode cX11_all 14 = .ok (.aload_n 0, 1) := by decide +kernel
theorem dX11_all_15 : decode cX11_all 15 = .ok (.getfield 47, 3) := by decide +kernel
theorem dX11_all_18 : decode cX11_all 18 = .ok (.aload_n 0, 1) := by decide +kernel
theorem dX11_all_19 : decode cX11_all 19 = .ok (.getfield 23, 3) := by decide +kernel
theorem dX11_all_22 : decode cX11_all 22 = .ok (.getfield 140, 3) := by decide +kernel
theorem dX11_all_25 : decode cX11_all 25 = .ok (.iload_n 1, 1) := by decide +kernel
theorem dX11_all_26 : decode cX11_all 26 = .ok (.invokevirtual 209, 3) := by decide +kernel
theorem dX11_all_29 : decode cX11_all 29 = .ok (.ifCond .eq 7, 3) := by decide +kernel
theorem dX11_all_32 : decode cX11_all 32 = .ok (.iconst 1, 1) := by decide +kernel
theorem dX11_all_33 : decode cX11_all 33 = .ok (.goto 4, 3) := by decide +kernel
theorem dX11_all_36 : decode cX11_all 36 = .ok (.iconst 0, 1) := by decide +kernel
theorem dX11_all_37 : decode cX11_all 37 = .ok (.ireturn, 1) := by decide +kernel
theorem dX11_room_0 : decode cX11_room 0 = .ok (.aload_n 0, 1) := by decide +kernel
theorem dX11_room_1 : decode cX11_room 1 = .ok (.getfield 47, 3) := by decide +kernel
theorem dX11_room_4 : decode cX11_room 4 = .ok (.bipush 30, 2) := by decide +kernel
theorem dX11_room_6 : decode cX11_room 6 = .ok (.bipush 15, 2) := by decide +kernel
theorem dX11_room_8 : decode cX11_room 8 = .ok (.invokevirtual 209, 3) := by decide +kernel
theorem dX11_room_11 : decode cX11_room 11 = .ok (.ifCond .ne 6, 3) := by decide +kernel
theorem dX11_room_14 : decode cX11_room 14 = .ok (.bipush (-5), 2) := by decide +kernel
theorem dX11_room_16 : decode cX11_room 16 = .ok (.ireturn, 1) := by decide +kernel
theorem dX11_room_17 : decode cX11_room 17 = .ok (.bipush 10, 2) := by decide +kernel
theorem dX11_room_19 : decode cX11_room 19 = .ok (.istore_n 1, 1) := by decide +kernel
theorem dX11_room_20 : decode cX11_room 20 = .ok (.iload_n 1, 1) := by decide +kernel
theorem dX11_room_21 : decode cX11_room 21 = .ok (.bipush 30, 2) := by decide +kernel
theorem dX11_room_23 : decode cX11_room 23 = .ok (.if_icmp .ge 24, 3) := by decide +kernel
theorem dX11_room_26 : decode cX11_room 26 = .ok (.aload_n 0, 1) := by decide +kernel
theorem dX11_room_27 : decode cX11_room 27 = .ok (.getfield 47, 3) := by decide +kernel
theorem dX11_room_30 : decode cX11_room 30 = .ok (.iload_n 1, 1) := by decide +kernel
theorem dX11_room_31 : decode cX11_room 31 = .ok (.bipush 15, 2) := by decide +kernel
theorem dX11_room_33 : decode cX11_room 33 = .ok (.invokevirtual 209, 3) := by decide +kernel
theorem dX11_room_36 : decode cX11_room 36 = .ok (.ifCond .eq 5, 3) := by decide +kernel
theorem dX11_room_39 : decode cX11_room 39 = .ok (.iload_n 1, 1) := by decide +kernel
theorem dX11_room_40 : decode cX11_room 40 = .ok (.ireturn, 1) := by decide +kernel
theorem dX11_room_41 : decode cX11_room 41 = .ok (.iinc 1 1, 3) := by decide +kernel
theorem dX11_room_44 : decode cX11_room 44 = .ok (.goto (-24), 3) := by decide +kernel
theorem dX11_room_47 : decode cX11_room 47 = .ok (.bipush 30, 2) := by decide +kernel
theorem dX11_room_49 : decode cX11_room 49 = .ok (.ireturn, 1) := by decide +kernel
theorem dX11_moved_0 : decode cX11_moved 0 = .ok (.aload_n 0, 1) := by decide +kernel
theorem dX11_moved_1 : decode cX11_moved 1 = .ok (.getfield 23, 3) := by decide +kernel
theorem dX11_moved_4 : decode cX11_moved 4 = .ok (.iload_n 1, 1) := by decide +kernel
theorem dX11_moved_5 : decode cX11_moved 5 = .ok (.invokevirtual 151, 3) := by decide +kernel
theorem dX11_moved_8 : decode cX11_moved 8 = .ok (.ifCond .ne 5, 3) := by decide +kernel
theorem dX11_moved_11 : decode cX11_moved 11 = .ok (.iconst (-1), 1) := by decide +kernel
theorem dX11_moved_12 : decode cX11_moved 12 = .ok (.ireturn, 1) := by decide +kernel
theorem dX11_moved_13 : decode cX11_moved 13 = .ok (.aload_n 0, 1) := by decide +kernel
theorem dX11_moved_14 : decode cX11_moved 14 = .ok (.getfield 23, 3) := by decide +kernel
theorem dX11_moved_17 : decode cX11_moved 17 = .ok (.getfield 99, 3) := by decide +kernel
theorem dX11_moved_20 : decode cX11_moved 20 = .ok (.iload_n 1, 1) := by decide +kernel
theorem dX11_moved_21 : decode cX11_moved 21 = .ok (.invokevirtual 131, 3) := by decide +kernel
theorem dX11_moved_24 : decode cX11_moved 24 = .ok (.iconst 4, 1) := by decide +kernel
theorem dX11_moved_25 : decode cX11_moved 25 = .ok (.if_icmp .eq 6, 3) := by decide +kernel
theorem dX11_moved_28 : decode cX11_moved 28 = .ok (.bipush (-5), 2) := by decide +kernel
theorem dX11_moved_30 : decode cX11_moved 30 = .ok (.ireturn, 1) := by decide +kernel
theorem dX11_moved_31 : decode cX11_moved 31 = .ok (.aload_n 0, 1) := by decide +kernel
theorem dX11_moved_32 : decode cX11_moved 32 = .ok (.getfield 47, 3) := by decide +kernel
theorem dX11_moved_35 : decode cX11_moved 35 = .ok (.iload_n 1, 1) := by decide +kernel
theorem dX11_moved_36 : decode cX11_moved 36 = .ok (.invokevirtual 212, 3) := by decide +kernel
theorem dX11_moved_39 : decode cX11_moved 39 = .ok (.istore_n 2, 1) := by decide +kernel
theorem dX11_moved_40 : decode cX11_moved 40 = .ok (.iload_n 2, 1) := by decide +kernel
theorem dX11_moved_41 : decode cX11_moved 41 = .ok (.ifCond .ge 8, 3) := by decide +kernel
theorem dX11_moved_44 : decode cX11_moved 44 = .ok (.bipush (-5), 2) := by decide +kernel
theorem dX11_moved_46 : decode cX11_moved 46 = .ok (.goto 4, 3) := by decide +kernel
theorem dX11_moved_49 : decode cX11_moved 49 = .ok (.iload_n 2, 1) := by decide +kernel
theorem dX11_moved_50 : decode cX11_moved 50 = .ok (.ireturn, 1) := by decide +kernel
theorem dX11_inline_0 : decode cX11_inline 0 = .ok (.iload_n 1, 1) := by decide +kernel
theorem dX11_inline_1 : decode cX11_inline 1 = .ok (.ifCond .eq 12, 3) := by decide +kernel
theorem dX11_inline_4 : decode cX11_inline 4 = .ok (.iload_n 1, 1) := by decide +kernel
theorem dX11_inline_5 : decode cX11_inline 5 = .ok (.iconst 1, 1) := by decide +kernel
theorem dX11_inline_6 : decode cX11_inline 6 = .ok (.if_icmp .eq 7, 3) := by decide +kernel
theorem dX11_inline_9 : decode cX11_inline 9 = .ok (.sipush (-10001), 3) := by decide +kernel
theorem dX11_inline_12 : decode cX11_inline 12 = .ok (.ireturn, 1) := by decide +kernel
theorem dX11_inline_13 : decode cX11_inline 13 = .ok (.aload_n 0, 1) := by decide +kernel
theorem dX11_inline_14 : decode cX11_inline 14 = .ok (.getfield 47, 3) := by decide +kernel
theorem dX11_inline_17 : decode cX11_inline 17 = .ok (.invokevirtual 215, 3) := by decide +kernel
theorem dX11_inline_20 : decode cX11_inline 20 = .ok (.iload_n 1, 1) := by decide +kernel
theorem dX11_inline_21 : decode cX11_inline 21 = .ok (.ifCond .ne 13, 3) := by decide +kernel
theorem dX11_inline_24 : decode cX11_inline 24 = .ok (.aload_n 0, 1) := by decide +kernel
theorem dX11_inline_25 : decode cX11_inline 25 = .ok (.getfield 47, 3) := by decide +kernel
theorem dX11_inline_28 : decode cX11_inline 28 = .ok (.invokevirtual 201, 3) := by decide +kernel
theorem dX11_inline_31 : decode cX11_inline 31 = .ok (.goto 10, 3) := by decide +kernel
theorem dX11_inline_34 : decode cX11_inline 34 = .ok (.aload_n 0, 1) := by decide +kernel
theorem dX11_inline_35 : decode cX11_inline 35 = .ok (.getfield 47, 3) := by decide +kernel
theorem dX11_inline_38 : decode cX11_inline 38 = .ok (.invokevirtual 204, 3) := by decide +kernel
theorem dX11_inline_41 : decode cX11_inline 41 = .ok (.ireturn, 1) := by decide +kernel
theorem dX11_order_0 : decode cX11_order 0 = .ok (.iload_n 1, 1) := by decide +kernel
theorem dX11_order_1 : decode cX11_order 1 = .ok (.bipush (-2), 2) := by decide +kernel
theorem dX11_order_3 : decode cX11_order 3 = .ok (.if_icmp .lt 9, 3) := by decide +kernel
theorem dX11_order_6 : decode cX11_order 6 = .ok (.iload_n 1, 1) := by decide +kernel
theorem dX11_order_7 : decode cX11_order 7 = .ok (.bipush 7, 2) := by decide +kernel
theorem dX11_order_9 : decode cX11_order 9 = .ok (.if_icmp .lt 7, 3) := by decide +kernel
theorem dX11_order_12 : decode cX11_order 12 = .ok (.sipush (-10001), 3) := by decide +kernel
theorem dX11_order_15 : decode cX11_order 15 = .ok (.ireturn, 1) := by decide +kernel
theorem dX11_order_16 : decode cX11_order 16 = .ok (.iload_n 1, 1) := by decide +kernel
theorem dX11_order_17 : decode cX11_order 17 = .ok (.aload_n 0, 1) := by decide +kernel
theorem dX11_order_18 : decode cX11_order 18 = .ok (.getfield 23, 3) := by decide +kernel
theorem dX11_order_21 : decode cX11_order 21 = .ok (.invokevirtual 83, 3) := by decide +kernel
theorem dX11_order_24 : decode cX11_order 24 = .ok (.if_icmp .lt 6, 3) := by decide +kernel
theorem dX11_order_27 : decode cX11_order 27 = .ok (.bipush (-5), 2) := by decide +kernel
theorem dX11_order_29 : decode cX11_order 29 = .ok (.ireturn, 1) := by decide +kernel
theorem dX11_order_30 : decode cX11_order 30 = .ok (.aload_n 0, 1) := by decide +kernel
theorem dX11_order_31 : decode cX11_order 31 = .ok (.getfield 47, 3) := by decide +kernel
theorem dX11_order_34 : decode cX11_order 34 = .ok (.invokevirtual 218, 3) := by decide +kernel
theorem dX11_order_37 : decode cX11_order 37 = .ok (.iload_n 1, 1) := by decide +kernel
theorem dX11_order_38 : decode cX11_order 38 = .ok (.bipush (-2), 2) := by decide +kernel
theorem dX11_order_40 : decode cX11_order 40 = .ok (.if_icmp .ne 11, 3) := by decide +kernel
theorem dX11_order_43 : decode cX11_order 43 = .ok (.aload_n 0, 1) := by decide +kernel
theorem dX11_order_44 : decode cX11_order 44 = .ok (.getfield 47, 3) := by decide +kernel
theorem dX11_order_47 : decode cX11_order 47 = .ok (.invokevirtual 201, 3) := by decide +kernel
theorem dX11_order_50 : decode cX11_order 50 = .ok (.ireturn, 1) := by decide +kernel
theorem dX11_order_51 : decode cX11_order 51 = .ok (.iload_n 1, 1) := by decide +kernel
theorem dX11_order_52 : decode cX11_order 52 = .ok (.iconst (-1), 1) := by decide +kernel
theorem dX11_order_53 : decode cX11_order 53 = .ok (.if_icmp .ne 13, 3) := by decide +kernel
theorem dX11_order_56 : decode cX11_order 56 = .ok (.aload_n 0, 1) := by decide +kernel
theorem dX11_order_57 : decode cX11_order 57 = .ok (.getfield 47, 3) := by decide +kernel
theorem dX11_order_60 : decode cX11_order 60 = .ok (.invokevirtual 204, 3) := by decide +kernel
theorem dX11_order_63 : decode cX11_order 63 = .ok (.goto 11, 3) := by decide +kernel
theorem dX11_order_66 : decode cX11_order 66 = .ok (.aload_n 0, 1) := by decide +kernel
theorem dX11_order_67 : decode cX11_order 67 = .ok (.getfield 47, 3) := by decide +kernel
theorem dX11_order_70 : decode cX11_order 70 = .ok (.iload_n 1, 1) := by decide +kernel
theorem dX11_order_71 : decode cX11_order 71 = .ok (.invokevirtual 206, 3) := by decide +kernel
theorem dX11_order_74 : decode cX11_order 74 = .ok (.ireturn, 1) := by decide +kernel
theorem dX11_far_0 : decode cX11_far 0 = .ok (.aload_n 0, 1) := by decide +kernel
theorem dX11_far_1 : decode cX11_far 1 = .ok (.getfield 23, 3) := by decide +kernel
theorem dX11_far_4 : decode cX11_far 4 = .ok (.iload_n 1, 1) := by decide +kernel
theorem dX11_far_5 : decode cX11_far 5 = .ok (.invokevirtual 151, 3) := by decide +kernel
theorem dX11_far_8 : decode cX11_far 8 = .ok (.ifCond .ne 5, 3) := by decide +kernel
theorem dX11_far_11 : decode cX11_far 11 = .ok (.iconst (-1), 1) := by decide +kernel
theorem dX11_far_12 : decode cX11_far 12 = .ok (.ireturn, 1) := by decide +kernel
theorem dX11_far_13 : decode cX11_far 13 = .ok (.aload_n 0, 1) := by decide +kernel
theorem dX11_far_14 : decode cX11_far 14 = .ok (.getfield 23, 3) := by decide +kernel
theorem dX11_far_17 : decode cX11_far 17 = .ok (.getfield 99, 3) := by decide +kernel
theorem dX11_far_20 : decode cX11_far 20 = .ok (.iload_n 1, 1) := by decide +kernel
theorem dX11_far_21 : decode cX11_far 21 = .ok (.invokevirtual 131, 3) := by decide +kernel
theorem dX11_far_24 : decode cX11_far 24 = .ok (.iconst 4, 1) := by decide +kernel
theorem dX11_far_25 : decode cX11_far 25 = .ok (.if_icmp .ne 8, 3) := by decide +kernel
theorem dX11_far_28 : decode cX11_far 28 = .ok (.bipush (-5), 2) := by decide +kernel
theorem dX11_far_30 : decode cX11_far 30 = .ok (.goto 12, 3) := by decide +kernel
theorem dX11_far_33 : decode cX11_far 33 = .ok (.aload_n 0, 1) := by decide +kernel
theorem dX11_far_34 : decode cX11_far 34 = .ok (.getfield 23, 3) := by decide +kernel
theorem dX11_far_37 : decode cX11_far 37 = .ok (.iload_n 1, 1) := by decide +kernel
theorem dX11_far_38 : decode cX11_far 38 = .ok (.iload_n 1, 1) := by decide +kernel
theorem dX11_far_39 : decode cX11_far 39 = .ok (.invokevirtual 221, 3) := by decide +kernel
theorem dX11_far_42 : decode cX11_far 42 = .ok (.ireturn, 1) := by decide +kernel
theorem dX11_see_0 : decode cX11_see 0 = .ok (.iload_n 1, 1) := by decide +kernel
theorem dX11_see_1 : decode cX11_see 1 = .ok (.iconst (-1), 1) := by decide +kernel
theorem dX11_see_2 : decode cX11_see 2 = .ok (.if_icmp .ne 15, 3) := by decide +kernel
theorem dX11_see_5 : decode cX11_see 5 = .ok (.aload_n 0, 1) := by decide +kernel
theorem dX11_see_6 : decode cX11_see 6 = .ok (.getfield 23, 3) := by decide +kernel
theorem dX11_see_9 : decode cX11_see 9 = .ok (.getfield 224, 3) := by decide +kernel
theorem dX11_see_12 : decode cX11_see 12 = .ok (.invokevirtual 66, 3) := by decide +kernel
theorem dX11_see_15 : decode cX11_see 15 = .ok (.iconst 0, 1) := by decide +kernel
theorem dX11_see_16 : decode cX11_see 16 = .ok (.ireturn, 1) := by decide +kernel
theorem dX11_see_17 : decode cX11_see 17 = .ok (.iload_n 1, 1) := by decide +kernel
theorem dX11_see_18 : decode cX11_see 18 = .ok (.iload_n 2, 1) := by decide +kernel
theorem dX11_see_19 : decode cX11_see 19 = .ok (.invokestatic 76, 3) := by decide +kernel
theorem dX11_see_22 : decode cX11_see 22 = .ok (.ifCond .ne 5, 3) := by decide +kernel
theorem dX11_see_25 : decode cX11_see 25 = .ok (.iconst (-1), 1) := by decide +kernel
theorem dX11_see_26 : decode cX11_see 26 = .ok (.ireturn, 1) := by decide +kernel
theorem dX11_see_27 : decode cX11_see 27 = .ok (.aload_n 0, 1) := by decide +kernel
theorem dX11_see_28 : decode cX11_see 28 = .ok (.getfield 23, 3) := by decide +kernel
theorem dX11_see_31 : decode cX11_see 31 = .ok (.getfield 224, 3) := by decide +kernel
theorem dX11_see_34 : decode cX11_see 34 = .ok (.invokevirtual 51, 3) := by decide +kernel
theorem dX11_see_37 : decode cX11_see 37 = .ok (.bipush 15, 2) := by decide +kernel
theorem dX11_see_39 : decode cX11_see 39 = .ok (.if_icmp .lt 6, 3) := by decide +kernel
theorem dX11_see_42 : decode cX11_see 42 = .ok (.bipush (-4), 2) := by decide +kernel
theorem dX11_see_44 : decode cX11_see 44 = .ok (.ireturn, 1) := by decide +kernel
theorem dX11_see_45 : decode cX11_see 45 = .ok (.aload_n 0, 1) := by decide +kernel
theorem dX11_see_46 : decode cX11_see 46 = .ok (.getfield 23, 3) := by decide +kernel
theorem dX11_see_49 : decode cX11_see 49 = .ok (.getfield 224, 3) := by decide +kernel
theorem dX11_see_52 : decode cX11_see 52 = .ok (.iload_n 1, 1) := by decide +kernel
theorem dX11_see_53 : decode cX11_see 53 = .ok (.invokevirtual 55, 3) := by decide +kernel
theorem dX11_see_56 : decode cX11_see 56 = .ok (.aload_n 0, 1) := by decide +kernel
theorem dX11_see_57 : decode cX11_see 57 = .ok (.getfield 23, 3) := by decide +kernel
theorem dX11_see_60 : decode cX11_see 60 = .ok (.getfield 224, 3) := by decide +kernel
theorem dX11_see_63 : decode cX11_see 63 = .ok (.iload_n 2, 1) := by decide +kernel
theorem dX11_see_64 : decode cX11_see 64 = .ok (.invokevirtual 55, 3) := by decide +kernel
theorem dX11_see_67 : decode cX11_see 67 = .ok (.aload_n 0, 1) := by decide +kernel
theorem dX11_see_68 : decode cX11_see 68 = .ok (.getfield 23, 3) := by decide +kernel
theorem dX11_see_71 : decode cX11_see 71 = .ok (.getfield 224, 3) := by decide +kernel
theorem dX11_see_74 : decode cX11_see 74 = .ok (.iload_n 3, 1) := by decide +kernel
theorem dX11_see_75 : decode cX11_see 75 = .ok (.ifCond .eq 7, 3) := by decide +kernel
theorem dX11_see_78 : decode cX11_see 78 = .ok (.iconst 1, 1) := by decide +kernel
theorem dX11_see_79 : decode cX11_see 79 = .ok (.goto 4, 3) := by decide +kernel
theorem dX11_see_82 : decode cX11_see 82 = .ok (.iconst 0, 1) := by decide +kernel
theorem dX11_see_83 : decode cX11_see 83 = .ok (.invokevirtual 55, 3) := by decide +kernel
theorem dX11_see_86 : decode cX11_see 86 = .ok (.aload_n 0, 1) := by decide +kernel
theorem dX11_see_87 : decode cX11_see 87 = .ok (.getfield 23, 3) := by decide +kernel
theorem dX11_see_90 : decode cX11_see 90 = .ok (.getfield 224, 3) := by decide +kernel
theorem dX11_see_93 : decode cX11_see 93 = .ok (.invokevirtual 51, 3) := by decide +kernel
theorem dX11_see_96 : decode cX11_see 96 = .ok (.iconst 3, 1) := by decide +kernel
theorem dX11_see_97 : decode cX11_see 97 = .ok (.idiv, 1) := by decide +kernel
theorem dX11_see_98 : decode cX11_see 98 = .ok (.ireturn, 1) := by decide +kernel
theorem dX11_can_0 : decode cX11_can 0 = .ok (.aload_n 0, 1) := by decide +kernel
theorem dX11_can_1 : decode cX11_can 1 = .ok (.getfield 23, 3) := by decide +kernel
theorem dX11_can_4 : decode cX11_can 4 = .ok (.iload_n 1, 1) := by decide +kernel
theorem dX11_can_5 : decode cX11_can 5 = .ok (.invokevirtual 106, 3) := by decide +kernel
theorem dX11_can_8 : decode cX11_can 8 = .ok (.astore_n 2, 1) := by decide +kernel
theorem dX11_can_9 : decode cX11_can 9 = .ok (.aload_n 2, 1) := by decide +kernel
theorem dX11_can_10 : decode cX11_can 10 = .ok (.ifnonnull 5, 3) := by decide +kernel
theorem dX11_can_13 : decode cX11_can 13 = .ok (.iconst (-1), 1) := by decide +kernel
theorem dX11_can_14 : decode cX11_can 14 = .ok (.ireturn, 1) := by decide +kernel
theorem dX11_can_15 : decode cX11_can 15 = .ok (.iconst 0, 1) := by decide +kernel
theorem dX11_can_16 : decode cX11_can 16 = .ok (.istore_n 3, 1) := by decide +kernel
theorem dX11_can_17 : decode cX11_can 17 = .ok (.iconst 0, 1) := by decide +kernel
theorem dX11_can_18 : decode cX11_can 18 = .ok (.istore 4, 2) := by decide +kernel
theorem dX11_can_20 : decode cX11_can 20 = .ok (.iload 4, 2) := by decide +kernel
theorem dX11_can_22 : decode cX11_can 22 = .ok (.iconst 4, 1) := by decide +kernel
theorem dX11_can_23 : decode cX11_can 23 = .ok (.if_icmp .gt 33, 3) := by decide +kernel
theorem dX11_can_26 : decode cX11_can 26 = .ok (.aload_n 0, 1) := by decide +kernel
theorem dX11_can_27 : decode cX11_can 27 = .ok (.getfield 23, 3) := by decide +kernel
theorem dX11_can_30 : decode cX11_can 30 = .ok (.iload_n 1, 1) := by decide +kernel
theorem dX11_can_31 : decode cX11_can 31 = .ok (.iload 4, 2) := by decide +kernel
theorem dX11_can_33 : decode cX11_can 33 = .ok (.aload_n 2, 1) := by decide +kernel
theorem dX11_can_34 : decode cX11_can 34 = .ok (.getfield 115, 3) := by decide +kernel
theorem dX11_can_37 : decode cX11_can 37 = .ok (.invokevirtual 227, 3) := by decide +kernel
theorem dX11_can_40 : decode cX11_can 40 = .ok (.ifCond .eq 10, 3) := by decide +kernel
theorem dX11_can_43 : decode cX11_can 43 = .ok (.iload_n 3, 1) := by decide +kernel
theorem dX11_can_44 : decode cX11_can 44 = .ok (.iconst 1, 1) := by decide +kernel
theorem dX11_can_45 : decode cX11_can 45 = .ok (.iload 4, 2) := by decide +kernel
theorem dX11_can_47 : decode cX11_can 47 = .ok (.ishl, 1) := by decide +kernel
theorem dX11_can_48 : decode cX11_can 48 = .ok (.ior, 1) := by decide +kernel
theorem dX11_can_49 : decode cX11_can 49 = .ok (.istore_n 3, 1) := by decide +kernel
theorem dX11_can_50 : decode cX11_can 50 = .ok (.iinc 4 1, 3) := by decide +kernel
theorem dX11_can_53 : decode cX11_can 53 = .ok (.goto (-33), 3) := by decide +kernel
theorem dX11_can_56 : decode cX11_can 56 = .ok (.iload_n 3, 1) := by decide +kernel
theorem dX11_can_57 : decode cX11_can 57 = .ok (.ireturn, 1) := by decide +kernel
theorem dX11_firm_0 : decode cX11_firm 0 = .ok (.aload_n 0, 1) := by decide +kernel
theorem dX11_firm_1 : decode cX11_firm 1 = .ok (.getfield 23, 3) := by decide +kernel
theorem dX11_firm_4 : decode cX11_firm 4 = .ok (.iload_n 1, 1) := by decide +kernel
theorem dX11_firm_5 : decode cX11_firm 5 = .ok (.invokevirtual 151, 3) := by decide +kernel
theorem dX11_firm_8 : decode cX11_firm 8 = .ok (.ifCond .eq 12, 3) := by decide +kernel
theorem dX11_firm_11 : decode cX11_firm 11 = .ok (.iload_n 2, 1) := by decide +kernel
theorem dX11_firm_12 : decode cX11_firm 12 = .ok (.ifCond .eq 10, 3) := by decide +kernel
theorem dX11_firm_15 : decode cX11_firm 15 = .ok (.iload_n 2, 1) := by decide +kernel
theorem dX11_firm_16 : decode cX11_firm 16 = .ok (.iconst 1, 1) := by decide +kernel
theorem dX11_firm_17 : decode cX11_firm 17 = .ok (.if_icmp .eq 5, 3) := by decide +kernel
theorem dX11_firm_20 : decode cX11_firm 20 = .ok (.iconst (-1), 1) := by decide +kernel
theorem dX11_firm_21 : decode cX11_firm 21 = .ok (.ireturn, 1) := by decide +kernel
theorem dX11_firm_22 : decode cX11_firm 22 = .ok (.iconst 0, 1) := by decide +kernel
theorem dX11_firm_23 : decode cX11_firm 23 = .ok (.istore_n 3, 1) := by decide +kernel
theorem dX11_firm_24 : decode cX11_firm 24 = .ok (.bipush (-5), 2) := by decide +kernel
theorem dX11_firm_26 : decode cX11_firm 26 = .ok (.istore 4, 2) := by decide +kernel
theorem dX11_firm_28 : decode cX11_firm 28 = .ok (.bipush 9, 2) := by decide +kernel
theorem dX11_firm_30 : decode cX11_firm 30 = .ok (.istore 5, 2) := by decide +kernel
theorem dX11_firm_32 : decode cX11_firm 32 = .ok (.iload 5, 2) := by decide +kernel
theorem dX11_firm_34 : decode cX11_firm 34 = .ok (.ifCond .lt 40, 3) := by decide +kernel
theorem dX11_firm_37 : decode cX11_firm 37 = .ok (.aload_n 0, 1) := by decide +kernel
theorem dX11_firm_38 : decode cX11_firm 38 = .ok (.getfield 23, 3) := by decide +kernel
theorem dX11_firm_41 : decode cX11_firm 41 = .ok (.iload_n 1, 1) := by decide +kernel
theorem dX11_firm_42 : decode cX11_firm 42 = .ok (.aload_n 0, 1) := by decide +kernel
theorem dX11_firm_43 : decode cX11_firm 43 = .ok (.getfield 23, 3) := by decide +kernel
theorem dX11_firm_46 : decode cX11_firm 46 = .ok (.getfield 99, 3) := by decide +kernel
theorem dX11_firm_49 : decode cX11_firm 49 = .ok (.iload_n 1, 1) := by decide +kernel
theorem dX11_firm_50 : decode cX11_firm 50 = .ok (.invokevirtual 131, 3) := by decide +kernel
theorem dX11_firm_53 : decode cX11_firm 53 = .ok (.iload 5, 2) := by decide +kernel
theorem dX11_firm_55 : decode cX11_firm 55 = .ok (.invokevirtual 227, 3) := by decide +kernel
theorem dX11_firm_58 : decode cX11_firm 58 = .ok (.ifCond .eq 10, 3) := by decide +kernel
theorem dX11_firm_61 : decode cX11_firm 61 = .ok (.iinc 3 1, 3) := by decide +kernel
theorem dX11_firm_64 : decode cX11_firm 64 = .ok (.iload 5, 2) := by decide +kernel
theorem dX11_firm_66 : decode cX11_firm 66 = .ok (.istore 4, 2) := by decide +kernel
theorem dX11_firm_68 : decode cX11_firm 68 = .ok (.iinc 5 (-1), 3) := by decide +kernel
theorem dX11_firm_71 : decode cX11_firm 71 = .ok (.goto (-39), 3) := by decide +kernel
theorem dX11_firm_74 : decode cX11_firm 74 = .ok (.iload_n 2, 1) := by decide +kernel
theorem dX11_firm_75 : decode cX11_firm 75 = .ok (.ifCond .ne 7, 3) := by decide +kernel
theorem dX11_firm_78 : decode cX11_firm 78 = .ok (.iload_n 3, 1) := by decide +kernel
theorem dX11_firm_79 : decode cX11_firm 79 = .ok (.goto 5, 3) := by decide +kernel
theorem dX11_firm_82 : decode cX11_firm 82 = .ok (.iload 4, 2) := by decide +kernel
theorem dX11_firm_84 : decode cX11_firm 84 = .ok (.ireturn, 1) := by decide +kernel
theorem dX11_odds_0 : decode cX11_odds 0 = .ok (.aload_n 0, 1) := by decide +kernel
theorem dX11_odds_1 : decode cX11_odds 1 = .ok (.getfield 23, 3) := by decide +kernel
theorem dX11_odds_4 : decode cX11_odds 4 = .ok (.iload_n 1, 1) := by decide +kernel
theorem dX11_odds_5 : decode cX11_odds 5 = .ok (.invokevirtual 151, 3) := by decide +kernel
theorem dX11_odds_8 : decode cX11_odds 8 = .ok (.ifCond .ne 7, 3) := by decide +kernel
theorem dX11_odds_11 : decode cX11_odds 11 = .ok (.ldc2_w 231, 3) := by decide +kernel
theorem dX11_odds_14 : decode cX11_odds 14 = .ok (.lreturn, 1) := by decide +kernel
theorem dX11_odds_15 : decode cX11_odds 15 = .ok (.aload_n 0, 1) := by decide +kernel
theorem dX11_odds_16 : decode cX11_odds 16 = .ok (.getfield 23, 3) := by decide +kernel
theorem dX11_odds_19 : decode cX11_odds 19 = .ok (.iload_n 1, 1) := by decide +kernel
theorem dX11_odds_20 : decode cX11_odds 20 = .ok (.invokevirtual 137, 3) := by decide +kernel
theorem dX11_odds_23 : decode cX11_odds 23 = .ok (.invokestatic 179, 3) := by decide +kernel
theorem dX11_odds_26 : decode cX11_odds 26 = .ok (.istore_n 3, 1) := by decide +kernel
theorem dX11_odds_27 : decode cX11_odds 27 = .ok (.aload_n 0, 1) := by decide +kernel
theorem dX11_odds_28 : decode cX11_odds 28 = .ok (.getfield 23, 3) := by decide +kernel
theorem dX11_odds_31 : decode cX11_odds 31 = .ok (.iload_n 1, 1) := by decide +kernel
theorem dX11_odds_32 : decode cX11_odds 32 = .ok (.aload_n 0, 1) := by decide +kernel
theorem dX11_odds_33 : decode cX11_odds 33 = .ok (.getfield 23, 3) := by decide +kernel
theorem dX11_odds_36 : decode cX11_odds 36 = .ok (.getfield 99, 3) := by decide +kernel
theorem dX11_odds_39 : decode cX11_odds 39 = .ok (.invokevirtual 147, 3) := by decide +kernel
theorem dX11_odds_42 : decode cX11_odds 42 = .ok (.invokestatic 179, 3) := by decide +kernel
theorem dX11_odds_45 : decode cX11_odds 45 = .ok (.iload_n 3, 1) := by decide +kernel
theorem dX11_odds_46 : decode cX11_odds 46 = .ok (.iload_n 2, 1) := by decide +kernel
theorem dX11_odds_47 : decode cX11_odds 47 = .ok (.invokestatic 233, 3) := by decide +kernel
theorem dX11_odds_50 : decode cX11_odds 50 = .ok (.lreturn, 1) := by decide +kernel
theorem dX11_mean_0 : decode cX11_mean 0 = .ok (.aload_n 0, 1) := by decide +kernel
theorem dX11_mean_1 : decode cX11_mean 1 = .ok (.getfield 23, 3) := by decide +kernel
theorem dX11_mean_4 : decode cX11_mean 4 = .ok (.aload_n 0, 1) := by decide +kernel
theorem dX11_mean_5 : decode cX11_mean 5 = .ok (.getfield 23, 3) := by decide +kernel
theorem dX11_mean_8 : decode cX11_mean 8 = .ok (.getfield 99, 3) := by decide +kernel
theorem dX11_mean_11 : decode cX11_mean 11 = .ok (.invokevirtual 184, 3) := by decide +kernel
theorem dX11_mean_14 : decode cX11_mean 14 = .ok (.aload_n 0, 1) := by decide +kernel
theorem dX11_mean_15 : decode cX11_mean 15 = .ok (.getfield 23, 3) := by decide +kernel
theorem dX11_mean_18 : decode cX11_mean 18 = .ok (.aload_n 0, 1) := by decide +kernel
theorem dX11_mean_19 : decode cX11_mean 19 = .ok (.getfield 23, 3) := by decide +kernel
theorem dX11_mean_22 : decode cX11_mean 22 = .ok (.getfield 99, 3) := by decide +kernel
theorem dX11_mean_25 : decode cX11_mean 25 = .ok (.invokevirtual 175, 3) := by decide +kernel
theorem dX11_mean_28 : decode cX11_mean 28 = .ok (.invokestatic 179, 3) := by decide +kernel
theorem dX11_mean_31 : decode cX11_mean 31 = .ok (.iload_n 1, 1) := by decide +kernel
theorem dX11_mean_32 : decode cX11_mean 32 = .ok (.invokestatic 233, 3) := by decide +kernel
theorem dX11_mean_35 : decode cX11_mean 35 = .ok (.lreturn, 1) := by decide +kernel
theorem dX11_plan_0 : decode cX11_plan 0 = .ok (.aload_n 0, 1) := by decide +kernel
theorem dX11_plan_1 : decode cX11_plan 1 = .ok (.aload_n 0, 1) := by decide +kernel
theorem dX11_plan_2 : decode cX11_plan 2 = .ok (.getfield 23, 3) := by decide +kernel
theorem dX11_plan_5 : decode cX11_plan 5 = .ok (.getfield 237, 3) := by decide +kernel
theorem dX11_plan_8 : decode cX11_plan 8 = .ok (.iload_n 1, 1) := by decide +kernel
theorem dX11_plan_9 : decode cX11_plan 9 = .ok (.iload_n 2, 1) := by decide +kernel
theorem dX11_plan_10 : decode cX11_plan 10 = .ok (.invokevirtual 240, 3) := by decide +kernel
theorem dX11_plan_13 : decode cX11_plan 13 = .ok (.ireturn, 1) := by decide +kernel
theorem dX11_done_0 : decode cX11_done 0 = .ok (.iload_n 1, 1) := by decide +kernel
theorem dX11_done_1 : decode cX11_done 1 = .ok (.ifCond .eq 12, 3) := by decide +kernel
theorem dX11_done_4 : decode cX11_done 4 = .ok (.iload_n 1, 1) := by decide +kernel
theorem dX11_done_5 : decode cX11_done 5 = .ok (.iconst 1, 1) := by decide +kernel
theorem dX11_done_6 : decode cX11_done 6 = .ok (.if_icmp .eq 7, 3) := by decide +kernel
theorem dX11_done_9 : decode cX11_done 9 = .ok (.sipush (-10001), 3) := by decide +kernel
theorem dX11_done_12 : decode cX11_done 12 = .ok (.ireturn, 1) := by decide +kernel
theorem dX11_done_13 : decode cX11_done 13 = .ok (.aload_n 0, 1) := by decide +kernel
theorem dX11_done_14 : decode cX11_done 14 = .ok (.getfield 23, 3) := by decide +kernel
theorem dX11_done_17 : decode cX11_done 17 = .ok (.invokevirtual 244, 3) := by decide +kernel
theorem dX11_done_20 : decode cX11_done 20 = .ok (.astore_n 2, 1) := by decide +kernel
theorem dX11_done_21 : decode cX11_done 21 = .ok (.iload_n 1, 1) := by decide +kernel
theorem dX11_done_22 : decode cX11_done 22 = .ok (.ifCond .ne 17, 3) := by decide +kernel
theorem dX11_done_25 : decode cX11_done 25 = .ok (.aload_n 0, 1) := by decide +kernel
theorem dX11_done_26 : decode cX11_done 26 = .ok (.getfield 23, 3) := by decide +kernel
theorem dX11_done_29 : decode cX11_done 29 = .ok (.aload_n 2, 1) := by decide +kernel
theorem dX11_done_30 : decode cX11_done 30 = .ok (.invokevirtual 175, 3) := by decide +kernel
theorem dX11_done_33 : decode cX11_done 33 = .ok (.invokestatic 179, 3) := by decide +kernel
theorem dX11_done_36 : decode cX11_done 36 = .ok (.goto 11, 3) := by decide +kernel
theorem dX11_done_39 : decode cX11_done 39 = .ok (.aload_n 0, 1) := by decide +kernel
theorem dX11_done_40 : decode cX11_done 40 = .ok (.getfield 23, 3) := by decide +kernel
theorem dX11_done_43 : decode cX11_done 43 = .ok (.aload_n 2, 1) := by decide +kernel
theorem dX11_done_44 : decode cX11_done 44 = .ok (.invokevirtual 184, 3) := by decide +kernel
theorem dX11_done_47 : decode cX11_done 47 = .ok (.ireturn, 1) := by decide +kernel
theorem dX11_book_0 : decode cX11_book 0 = .ok (.aload_n 0, 1) := by decide +kernel
theorem dX11_book_1 : decode cX11_book 1 = .ok (.aload_n 0, 1) := by decide +kernel
theorem dX11_book_2 : decode cX11_book 2 = .ok (.getfield 23, 3) := by decide +kernel
theorem dX11_book_5 : decode cX11_book 5 = .ok (.getfield 248, 3) := by decide +kernel
theorem dX11_book_8 : decode cX11_book 8 = .ok (.iload_n 1, 1) := by decide +kernel
theorem dX11_book_9 : decode cX11_book 9 = .ok (.iload_n 2, 1) := by decide +kernel
theorem dX11_book_10 : decode cX11_book 10 = .ok (.invokevirtual 240, 3) := by decide +kernel
theorem dX11_book_13 : decode cX11_book 13 = .ok (.ireturn, 1) := by decide +kernel
theorem dX11_looked_0 : decode cX11_looked 0 = .ok (.iconst 0, 1) := by decide +kernel
theorem dX11_looked_1 : decode cX11_looked 1 = .ok (.istore_n 1, 1) := by decide +kernel
theorem dX11_looked_2 : decode cX11_looked 2 = .ok (.iload_n 1, 1) := by decide +kernel
theorem dX11_looked_3 : decode cX11_looked 3 = .ok (.aload_n 0, 1) := by decide +kernel
theorem dX11_looked_4 : decode cX11_looked 4 = .ok (.getfield 23, 3) := by decide +kernel
theorem dX11_looked_7 : decode cX11_looked 7 = .ok (.getfield 248, 3) := by decide +kernel
theorem dX11_looked_10 : decode cX11_looked 10 = .ok (.invokevirtual 51, 3) := by decide +kernel
theorem dX11_looked_13 : decode cX11_looked 13 = .ok (.iconst 2, 1) := by decide +kernel
theorem dX11_looked_14 : decode cX11_looked 14 = .ok (.idiv, 1) := by decide +kernel
theorem dX11_looked_15 : decode cX11_looked 15 = .ok (.if_icmp .ge 52, 3) := by decide +kernel
theorem dX11_looked_18 : decode cX11_looked 18 = .ok (.aload_n 0, 1) := by decide +kernel
theorem dX11_looked_19 : decode cX11_looked 19 = .ok (.getfield 23, 3) := by decide +kernel
theorem dX11_looked_22 : decode cX11_looked 22 = .ok (.getfield 99, 3) := by decide +kernel
theorem dX11_looked_25 : decode cX11_looked 25 = .ok (.aload_n 0, 1) := by decide +kernel
theorem dX11_looked_26 : decode cX11_looked 26 = .ok (.getfield 23, 3) := by decide +kernel
theorem dX11_looked_29 : decode cX11_looked 29 = .ok (.getfield 248, 3) := by decide +kernel
theorem dX11_looked_32 : decode cX11_looked 32 = .ok (.iconst 2, 1) := by decide +kernel
theorem dX11_looked_33 : decode cX11_looked 33 = .ok (.iload_n 1, 1) := by decide +kernel
theorem dX11_looked_34 : decode cX11_looked 34 = .ok (.imul, 1) := by decide +kernel
theorem dX11_looked_35 : decode cX11_looked 35 = .ok (.invokevirtual 131, 3) := by decide +kernel
theorem dX11_looked_38 : decode cX11_looked 38 = .ok (.invokevirtual 131, 3) := by decide +kernel
theorem dX11_looked_41 : decode cX11_looked 41 = .ok (.aload_n 0, 1) := by decide +kernel
theorem dX11_looked_42 : decode cX11_looked 42 = .ok (.getfield 23, 3) := by decide +kernel
theorem dX11_looked_45 : decode cX11_looked 45 = .ok (.getfield 248, 3) := by decide +kernel
theorem dX11_looked_48 : decode cX11_looked 48 = .ok (.iconst 2, 1) := by decide +kernel
theorem dX11_looked_49 : decode cX11_looked 49 = .ok (.iload_n 1, 1) := by decide +kernel
theorem dX11_looked_50 : decode cX11_looked 50 = .ok (.imul, 1) := by decide +kernel
theorem dX11_looked_51 : decode cX11_looked 51 = .ok (.iconst 1, 1) := by decide +kernel
theorem dX11_looked_52 : decode cX11_looked 52 = .ok (.iadd, 1) := by decide +kernel
theorem dX11_looked_53 : decode cX11_looked 53 = .ok (.invokevirtual 131, 3) := by decide +kernel
theorem dX11_looked_56 : decode cX11_looked 56 = .ok (.if_icmp .eq 5, 3) := by decide +kernel
theorem dX11_looked_59 : decode cX11_looked 59 = .ok (.iload_n 1, 1) := by decide +kernel
theorem dX11_looked_60 : decode cX11_looked 60 = .ok (.ireturn, 1) := by decide +kernel
theorem dX11_looked_61 : decode cX11_looked 61 = .ok (.iinc 1 1, 3) := by decide +kernel
theorem dX11_looked_64 : decode cX11_looked 64 = .ok (.goto (-62), 3) := by decide +kernel
theorem dX11_looked_67 : decode cX11_looked 67 = .ok (.bipush (-5), 2) := by decide +kernel
theorem dX11_looked_69 : decode cX11_looked 69 = .ok (.ireturn, 1) := by decide +kernel
theorem dX11_act_0 : decode cX11_act 0 = .ok (.aload_n 0, 1) := by decide +kernel
theorem dX11_act_1 : decode cX11_act 1 = .ok (.getfield 16, 3) := by decide +kernel
theorem dX11_act_4 : decode cX11_act 4 = .ok (.invokevirtual 66, 3) := by decide +kernel
theorem dX11_act_7 : decode cX11_act 7 = .ok (.aload_n 0, 1) := by decide +kernel
theorem dX11_act_8 : decode cX11_act 8 = .ok (.getfield 23, 3) := by decide +kernel
theorem dX11_act_11 : decode cX11_act 11 = .ok (.iload_n 1, 1) := by decide +kernel
theorem dX11_act_12 : decode cX11_act 12 = .ok (.invokevirtual 106, 3) := by decide +kernel
theorem dX11_act_15 : decode cX11_act 15 = .ok (.astore 4, 2) := by decide +kernel
theorem dX11_act_17 : decode cX11_act 17 = .ok (.aload 4, 2) := by decide +kernel
theorem dX11_act_19 : decode cX11_act 19 = .ok (.ifnonnull 5, 3) := by decide +kernel
theorem dX11_act_22 : decode cX11_act 22 = .ok (.iconst 0, 1) := by decide +kernel
theorem dX11_act_23 : decode cX11_act 23 = .ok (.ireturn, 1) := by decide +kernel
theorem dX11_act_24 : decode cX11_act 24 = .ok (.iload_n 2, 1) := by decide +kernel
theorem dX11_act_25 : decode cX11_act 25 = .ok (.tableswitch 48 0 2 #[27, 34, 41], 27) := by decide +kernel
theorem dX11_act_52 : decode cX11_act 52 = .ok (.aload 4, 2) := by decide +kernel
theorem dX11_act_54 : decode cX11_act 54 = .ok (.iload_n 3, 1) := by decide +kernel
theorem dX11_act_55 : decode cX11_act 55 = .ok (.invokevirtual 251, 3) := by decide +kernel
theorem dX11_act_58 : decode cX11_act 58 = .ok (.ireturn, 1) := by decide +kernel
theorem dX11_act_59 : decode cX11_act 59 = .ok (.aload 4, 2) := by decide +kernel
theorem dX11_act_61 : decode cX11_act 61 = .ok (.iload_n 3, 1) := by decide +kernel
theorem dX11_act_62 : decode cX11_act 62 = .ok (.invokevirtual 254, 3) := by decide +kernel
theorem dX11_act_65 : decode cX11_act 65 = .ok (.ireturn, 1) := by decide +kernel
theorem dX11_act_66 : decode cX11_act 66 = .ok (.aload 4, 2) := by decide +kernel
theorem dX11_act_68 : decode cX11_act 68 = .ok (.iload_n 3, 1) := by decide +kernel
theorem dX11_act_69 : decode cX11_act 69 = .ok (.invokevirtual 257, 3) := by decide +kernel
theorem dX11_act_72 : decode cX11_act 72 = .ok (.ireturn, 1) := by decide +kernel
theorem dX11_act_73 : decode cX11_act 73 = .ok (.iconst 0, 1) := by decide +kernel
theorem dX11_act_74 : decode cX11_act 74 = .ok (.ireturn, 1) := by decide +kernel
theorem dX11_trace_0 : decode cX11_trace 0 = .ok (.iload_n 1, 1) := by decide +kernel
theorem dX11_trace_1 : decode cX11_trace 1 = .ok (.ifCond .lt 31, 3) := by decide +kernel
theorem dX11_trace_4 : decode cX11_trace 4 = .ok (.iload_n 1, 1) := by decide +kernel
theorem dX11_trace_5 : decode cX11_trace 5 = .ok (.bipush 20, 2) := by decide +kernel
theorem dX11_trace_7 : decode cX11_trace 7 = .ok (.if_icmp .ge 25, 3) := by decide +kernel
theorem dX11_trace_10 : decode cX11_trace 10 = .ok (.iload_n 1, 1) := by decide +kernel
theorem dX11_trace_11 : decode cX11_trace 11 = .ok (.aload_n 0, 1) := by decide +kernel
theorem dX11_trace_12 : decode cX11_trace 12 = .ok (.getfield 16, 3) := by decide +kernel
theorem dX11_trace_15 : decode cX11_trace 15 = .ok (.invokevirtual 51, 3) := by decide +kernel
theorem dX11_trace_18 : decode cX11_trace 18 = .ok (.if_icmp .ge 14, 3) := by decide +kernel
theorem dX11_trace_21 : decode cX11_trace 21 = .ok (.aload_n 0, 1) := by decide +kernel
theorem dX11_trace_22 : decode cX11_trace 22 = .ok (.getfield 16, 3) := by decide +kernel
theorem dX11_trace_25 : decode cX11_trace 25 = .ok (.iload_n 1, 1) := by decide +kernel
theorem dX11_trace_26 : decode cX11_trace 26 = .ok (.invokevirtual 131, 3) := by decide +kernel
theorem dX11_trace_29 : decode cX11_trace 29 = .ok (.goto 4, 3) := by decide +kernel
theorem dX11_trace_32 : decode cX11_trace 32 = .ok (.iconst (-1), 1) := by decide +kernel
theorem dX11_trace_33 : decode cX11_trace 33 = .ok (.ireturn, 1) := by decide +kernel
theorem dX11_as_0 : decode cX11_as 0 = .ok (.aload_n 0, 1) := by decide +kernel
theorem dX11_as_1 : decode cX11_as 1 = .ok (.getfield 23, 3) := by decide +kernel
theorem dX11_as_4 : decode cX11_as 4 = .ok (.iload_n 1, 1) := by decide +kernel
theorem dX11_as_5 : decode cX11_as 5 = .ok (.invokevirtual 106, 3) := by decide +kernel
theorem dX11_as_8 : decode cX11_as 8 = .ok (.astore_n 3, 1) := by decide +kernel
theorem dX11_as_9 : decode cX11_as 9 = .ok (.aload_n 3, 1) := by decide +kernel
theorem dX11_as_10 : decode cX11_as 10 = .ok (.ifnull 13, 3) := by decide +kernel
theorem dX11_as_13 : decode cX11_as 13 = .ok (.iload_n 2, 1) := by decide +kernel
theorem dX11_as_14 : decode cX11_as 14 = .ok (.ifCond .lt 9, 3) := by decide +kernel
theorem dX11_as_17 : decode cX11_as 17 = .ok (.iload_n 2, 1) := by decide +kernel
theorem dX11_as_18 : decode cX11_as 18 = .ok (.bipush 7, 2) := by decide +kernel
theorem dX11_as_20 : decode cX11_as 20 = .ok (.if_icmp .lt 5, 3) := by decide +kernel
theorem dX11_as_23 : decode cX11_as 23 = .ok (.iconst (-1), 1) := by decide +kernel
theorem dX11_as_24 : decode cX11_as 24 = .ok (.ireturn, 1) := by decide +kernel
theorem dX11_as_25 : decode cX11_as 25 = .ok (.aload_n 3, 1) := by decide +kernel
theorem dX11_as_26 : decode cX11_as 26 = .ok (.iload_n 2, 1) := by decide +kernel
theorem dX11_as_27 : decode cX11_as 27 = .ok (.invokestatic 260, 3) := by decide +kernel
theorem dX11_as_30 : decode cX11_as 30 = .ok (.ifCond .eq 10, 3) := by decide +kernel
theorem dX11_as_33 : decode cX11_as 33 = .ok (.aload_n 3, 1) := by decide +kernel
theorem dX11_as_34 : decode cX11_as 34 = .ok (.getfield 115, 3) := by decide +kernel
theorem dX11_as_37 : decode cX11_as 37 = .ok (.goto 5, 3) := by decide +kernel
theorem dX11_as_40 : decode cX11_as 40 = .ok (.bipush (-6), 2) := by decide +kernel
theorem dX11_as_42 : decode cX11_as 42 = .ok (.ireturn, 1) := by decide +kernel
theorem dX11_image_0 : decode cX11_image 0 = .ok (.aload_n 0, 1) := by decide +kernel
theorem dX11_image_1 : decode cX11_image 1 = .ok (.getfield 27, 3) := by decide +kernel
theorem dX11_image_4 : decode cX11_image 4 = .ok (.aload_n 0, 1) := by decide +kernel
theorem dX11_image_5 : decode cX11_image 5 = .ok (.getfield 23, 3) := by decide +kernel
theorem dX11_image_8 : decode cX11_image 8 = .ok (.invokevirtual 264, 3) := by decide +kernel
theorem dX11_image_11 : decode cX11_image 11 = .ok (.aload_n 0, 1) := by decide +kernel
theorem dX11_image_12 : decode cX11_image 12 = .ok (.iconst 1, 1) := by decide +kernel
theorem dX11_image_13 : decode cX11_image 13 = .ok (.putfield 267, 3) := by decide +kernel
theorem dX11_image_16 : decode cX11_image 16 = .ok (.aload_n 0, 1) := by decide +kernel
theorem dX11_image_17 : decode cX11_image 17 = .ok (.getfield 23, 3) := by decide +kernel
theorem dX11_image_20 : decode cX11_image 20 = .ok (.invokevirtual 83, 3) := by decide +kernel
theorem dX11_image_23 : decode cX11_image 23 = .ok (.ireturn, 1) := by decide +kernel
theorem dX11_undo_0 : decode cX11_undo 0 = .ok (.aload_n 0, 1) := by decide +kernel
theorem dX11_undo_1 : decode cX11_undo 1 = .ok (.getfield 267, 3) := by decide +kernel
theorem dX11_undo_4 : decode cX11_undo 4 = .ok (.ifCond .ne 6, 3) := by decide +kernel
theorem dX11_undo_7 : decode cX11_undo 7 = .ok (.bipush (-3), 2) := by decide +kernel
theorem dX11_undo_9 : decode cX11_undo 9 = .ok (.ireturn, 1) := by decide +kernel
theorem dX11_undo_10 : decode cX11_undo 10 = .ok (.aload_n 0, 1) := by decide +kernel
theorem dX11_undo_11 : decode cX11_undo 11 = .ok (.getfield 23, 3) := by decide +kernel
theorem dX11_undo_14 : decode cX11_undo 14 = .ok (.aload_n 0, 1) := by decide +kernel
theorem dX11_undo_15 : decode cX11_undo 15 = .ok (.getfield 27, 3) := by decide +kernel
theorem dX11_undo_18 : decode cX11_undo 18 = .ok (.invokevirtual 264, 3) := by decide +kernel
theorem dX11_undo_21 : decode cX11_undo 21 = .ok (.aload_n 0, 1) := by decide +kernel
theorem dX11_undo_22 : decode cX11_undo 22 = .ok (.getfield 23, 3) := by decide +kernel
theorem dX11_undo_25 : decode cX11_undo 25 = .ok (.invokevirtual 83, 3) := by decide +kernel
theorem dX11_undo_28 : decode cX11_undo 28 = .ok (.ireturn, 1) := by decide +kernel
theorem dX11_count_0 : decode cX11_count 0 = .ok (.iload_n 1, 1) := by decide +kernel
theorem dX11_count_1 : decode cX11_count 1 = .ok (.tableswitch 117 0 6 #[43, 51, 59, 72, 85, 98, 109], 43) := by decide +kernel
theorem dX11_count_44 : decode cX11_count 44 = .ok (.aload_n 0, 1) := by decide +kernel
theorem dX11_count_45 : decode cX11_count 45 = .ok (.getfield 23, 3) := by decide +kernel
theorem dX11_count_48 : decode cX11_count 48 = .ok (.invokevirtual 83, 3) := by decide +kernel
theorem dX11_count_51 : decode cX11_count 51 = .ok (.ireturn, 1) := by decide +kernel
theorem dX11_count_52 : decode cX11_count 52 = .ok (.aload_n 0, 1) := by decide +kernel
theorem dX11_count_53 : decode cX11_count 53 = .ok (.getfield 23, 3) := by decide +kernel
theorem dX11_count_56 : decode cX11_count 56 = .ok (.getfield 58, 3) := by decide +kernel
theorem dX11_count_59 : decode cX11_count 59 = .ok (.ireturn, 1) := by decide +kernel
theorem dX11_count_60 : decode cX11_count 60 = .ok (.aload_n 0, 1) := by decide +kernel
theorem dX11_count_61 : decode cX11_count 61 = .ok (.getfield 23, 3) := by decide +kernel
theorem dX11_count_64 : decode cX11_count 64 = .ok (.getfield 224, 3) := by decide +kernel
theorem dX11_count_67 : decode cX11_count 67 = .ok (.invokevirtual 51, 3) := by decide +kernel
theorem dX11_count_70 : decode cX11_count 70 = .ok (.iconst 3, 1) := by decide +kernel
theorem dX11_count_71 : decode cX11_count 71 = .ok (.idiv, 1) := by decide +kernel
theorem dX11_count_72 : decode cX11_count 72 = .ok (.ireturn, 1) := by decide +kernel
theorem dX11_count_73 : decode cX11_count 73 = .ok (.aload_n 0, 1) := by decide +kernel
theorem dX11_count_74 : decode cX11_count 74 = .ok (.getfield 23, 3) := by decide +kernel
theorem dX11_count_77 : decode cX11_count 77 = .ok (.getfield 237, 3) := by decide +kernel
theorem dX11_count_80 : decode cX11_count 80 = .ok (.invokevirtual 51, 3) := by decide +kernel
theorem dX11_count_83 : decode cX11_count 83 = .ok (.iconst 2, 1) := by decide +kernel
theorem dX11_count_84 : decode cX11_count 84 = .ok (.idiv, 1) := by decide +kernel
theorem dX11_count_85 : decode cX11_count 85 = .ok (.ireturn, 1) := by decide +kernel
theorem dX11_count_86 : decode cX11_count 86 = .ok (.aload_n 0, 1) := by decide +kernel
theorem dX11_count_87 : decode cX11_count 87 = .ok (.getfield 23, 3) := by decide +kernel
theorem dX11_count_90 : decode cX11_count 90 = .ok (.getfield 248, 3) := by decide +kernel
theorem dX11_count_93 : decode cX11_count 93 = .ok (.invokevirtual 51, 3) := by decide +kernel
theorem dX11_count_96 : decode cX11_count 96 = .ok (.iconst 2, 1) := by decide +kernel
theorem dX11_count_97 : decode cX11_count 97 = .ok (.idiv, 1) := by decide +kernel
theorem dX11_count_98 : decode cX11_count 98 = .ok (.ireturn, 1) := by decide +kernel
theorem dX11_count_99 : decode cX11_count 99 = .ok (.aload_n 0, 1) := by decide +kernel
theorem dX11_count_100 : decode cX11_count 100 = .ok (.getfield 23, 3) := by decide +kernel
theorem dX11_count_103 : decode cX11_count 103 = .ok (.getfield 32, 3) := by decide +kernel
theorem dX11_count_106 : decode cX11_count 106 = .ok (.invokevirtual 51, 3) := by decide +kernel
theorem dX11_count_109 : decode cX11_count 109 = .ok (.ireturn, 1) := by decide +kernel
theorem dX11_count_110 : decode cX11_count 110 = .ok (.aload_n 0, 1) := by decide +kernel
theorem dX11_count_111 : decode cX11_count 111 = .ok (.getfield 16, 3) := by decide +kernel
theorem dX11_count_114 : decode cX11_count 114 = .ok (.invokevirtual 51, 3) := by decide +kernel
theorem dX11_count_117 : decode cX11_count 117 = .ok (.ireturn, 1) := by decide +kernel
theorem dX11_count_118 : decode cX11_count 118 = .ok (.iconst (-1), 1) := by decide +kernel
theorem dX11_count_119 : decode cX11_count 119 = .ok (.ireturn, 1) := by decide +kernel
theorem dX11_isPlace_0 : decode cX11_isPlace 0 = .ok (.iload_n 0, 1) := by decide +kernel
theorem dX11_isPlace_1 : decode cX11_isPlace 1 = .ok (.ifCond .lt 12, 3) := by decide +kernel
theorem dX11_isPlace_4 : decode cX11_isPlace 4 = .ok (.iload_n 0, 1) := by decide +kernel
theorem dX11_isPlace_5 : decode cX11_isPlace 5 = .ok (.iconst 4, 1) := by decide +kernel
theorem dX11_isPlace_6 : decode cX11_isPlace 6 = .ok (.if_icmp .ge 7, 3) := by decide +kernel
theorem dX11_isPlace_9 : decode cX11_isPlace 9 = .ok (.iconst 1, 1) := by decide +kernel
theorem dX11_isPlace_10 : decode cX11_isPlace 10 = .ok (.goto 4, 3) := by decide +kernel
theorem dX11_isPlace_13 : decode cX11_isPlace 13 = .ok (.iconst 0, 1) := by decide +kernel
theorem dX11_isPlace_14 : decode cX11_isPlace 14 = .ok (.ireturn, 1) := by decide +kernel
theorem dX11_isSpot_0 : decode cX11_isSpot 0 = .ok (.iload_n 0, 1) := by decide +kernel
theorem dX11_isSpot_1 : decode cX11_isSpot 1 = .ok (.ifCond .lt 23, 3) := by decide +kernel
theorem dX11_isSpot_4 : decode cX11_isSpot 4 = .ok (.iload_n 0, 1) := by decide +kernel
theorem dX11_isSpot_5 : decode cX11_isSpot 5 = .ok (.bipush 30, 2) := by decide +kernel
theorem dX11_isSpot_7 : decode cX11_isSpot 7 = .ok (.if_icmp .ge 17, 3) := by decide +kernel
theorem dX11_isSpot_10 : decode cX11_isSpot 10 = .ok (.iload_n 1, 1) := by decide +kernel
theorem dX11_isSpot_11 : decode cX11_isSpot 11 = .ok (.ifCond .lt 13, 3) := by decide +kernel
theorem dX11_isSpot_14 : decode cX11_isSpot 14 = .ok (.iload_n 1, 1) := by decide +kernel
theorem dX11_isSpot_15 : decode cX11_isSpot 15 = .ok (.bipush 12, 2) := by decide +kernel
theorem dX11_isSpot_17 : decode cX11_isSpot 17 = .ok (.if_icmp .ge 7, 3) := by decide +kernel
theorem dX11_isSpot_20 : decode cX11_isSpot 20 = .ok (.iconst 1, 1) := by decide +kernel
theorem dX11_isSpot_21 : decode cX11_isSpot 21 = .ok (.goto 4, 3) := by decide +kernel
theorem dX11_isSpot_24 : decode cX11_isSpot 24 = .ok (.iconst 0, 1) := by decide +kernel
theorem dX11_isSpot_25 : decode cX11_isSpot 25 = .ok (.ireturn, 1) := by decide +kernel
theorem dX11_hasBit_0 : decode cX11_hasBit 0 = .ok (.iload_n 0, 1) := by decide +kernel
theorem dX11_hasBit_1 : decode cX11_hasBit 1 = .ok (.iload_n 1, 1) := by decide +kernel
theorem dX11_hasBit_2 : decode cX11_hasBit 2 = .ok (.ishr, 1) := by decide +kernel
theorem dX11_hasBit_3 : decode cX11_hasBit 3 = .ok (.iconst 1, 1) := by decide +kernel
theorem dX11_hasBit_4 : decode cX11_hasBit 4 = .ok (.iand, 1) := by decide +kernel
theorem dX11_hasBit_5 : decode cX11_hasBit 5 = .ok (.ifCond .eq 7, 3) := by decide +kernel
theorem dX11_hasBit_8 : decode cX11_hasBit 8 = .ok (.iconst 1, 1) := by decide +kernel
theorem dX11_hasBit_9 : decode cX11_hasBit 9 = .ok (.goto 4, 3) := by decide +kernel
theorem dX11_hasBit_12 : decode cX11_hasBit 12 = .ok (.iconst 0, 1) := by decide +kernel
theorem dX11_hasBit_13 : decode cX11_hasBit 13 = .ok (.ireturn, 1) := by decide +kernel
theorem dX11_outward_0 : decode cX11_outward 0 = .ok (.iload_n 0, 1) := by decide +kernel
theorem dX11_outward_1 : decode cX11_outward 1 = .ok (.iconst 4, 1) := by decide +kernel
theorem dX11_outward_2 : decode cX11_outward 2 = .ok (.if_icmp .ne 8, 3) := by decide +kernel
theorem dX11_outward_5 : decode cX11_outward 5 = .ok (.bipush (-5), 2) := by decide +kernel
theorem dX11_outward_7 : decode cX11_outward 7 = .ok (.goto 4, 3) := by decide +kernel
theorem dX11_outward_10 : decode cX11_outward 10 = .ok (.iload_n 0, 1) := by decide +kernel
theorem dX11_outward_11 : decode cX11_outward 11 = .ok (.ireturn, 1) := by decide +kernel
theorem dX11_put_0 : decode cX11_put 0 = .ok (.aload_n 0, 1) := by decide +kernel
theorem dX11_put_1 : decode cX11_put 1 = .ok (.getfield 23, 3) := by decide +kernel
theorem dX11_put_4 : decode cX11_put 4 = .ok (.getfield 99, 3) := by decide +kernel
theorem dX11_put_7 : decode cX11_put 7 = .ok (.iload_n 1, 1) := by decide +kernel
theorem dX11_put_8 : decode cX11_put 8 = .ok (.invokevirtual 131, 3) := by decide +kernel
theorem dX11_put_11 : decode cX11_put 11 = .ok (.istore_n 3, 1) := by decide +kernel
theorem dX11_put_12 : decode cX11_put 12 = .ok (.aload_n 0, 1) := by decide +kernel
theorem dX11_put_13 : decode cX11_put 13 = .ok (.getfield 23, 3) := by decide +kernel
theorem dX11_put_16 : decode cX11_put 16 = .ok (.getfield 99, 3) := by decide +kernel
theorem dX11_put_19 : decode cX11_put 19 = .ok (.iload_n 1, 1) := by decide +kernel
theorem dX11_put_20 : decode cX11_put 20 = .ok (.iload_n 2, 1) := by decide +kernel
theorem dX11_put_21 : decode cX11_put 21 = .ok (.invokevirtual 102, 3) := by decide +kernel
theorem dX11_put_24 : decode cX11_put 24 = .ok (.iload_n 3, 1) := by decide +kernel
theorem dX11_put_25 : decode cX11_put 25 = .ok (.invokestatic 134, 3) := by decide +kernel
theorem dX11_put_28 : decode cX11_put 28 = .ok (.ireturn, 1) := by decide +kernel
theorem dX11_named_0 : decode cX11_named 0 = .ok (.aload_n 0, 1) := by decide +kernel
theorem dX11_named_1 : decode cX11_named 1 = .ok (.getfield 23, 3) := by decide +kernel
theorem dX11_named_4 : decode cX11_named 4 = .ok (.invokevirtual 83, 3) := by decide +kernel
theorem dX11_named_7 : decode cX11_named 7 = .ok (.istore 6, 2) := by decide +kernel
theorem dX11_named_9 : decode cX11_named 9 = .ok (.iload_n 1, 1) := by decide +kernel
theorem dX11_named_10 : decode cX11_named 10 = .ok (.tableswitch 158 1 6 #[38, 58, 78, 98, 118, 138], 38) := by decide +kernel
theorem dX11_named_48 : decode cX11_named 48 = .ok (.new 271, 3) := by decide +kernel
theorem dX11_named_51 : decode cX11_named 51 = .ok (.dup, 1) := by decide +kernel
theorem dX11_named_52 : decode cX11_named 52 = .ok (.aload_n 0, 1) := by decide +kernel
theorem dX11_named_53 : decode cX11_named 53 = .ok (.getfield 16, 3) := by decide +kernel
theorem dX11_named_56 : decode cX11_named 56 = .ok (.iload 6, 2) := by decide +kernel
theorem dX11_named_58 : decode cX11_named 58 = .ok (.iload_n 2, 1) := by decide +kernel
theorem dX11_named_59 : decode cX11_named 59 = .ok (.iload_n 3, 1) := by decide +kernel
theorem dX11_named_60 : decode cX11_named 60 = .ok (.iload 4, 2) := by decide +kernel
theorem dX11_named_62 : decode cX11_named 62 = .ok (.iload 5, 2) := by decide +kernel
theorem dX11_named_64 : decode cX11_named 64 = .ok (.invokespecial 273, 3) := by decide +kernel
theorem dX11_named_67 : decode cX11_named 67 = .ok (.areturn, 1) := by decide +kernel
theorem dX11_named_68 : decode cX11_named 68 = .ok (.new 276, 3) := by decide +kernel
theorem dX11_named_71 : decode cX11_named 71 = .ok (.dup, 1) := by decide +kernel
theorem dX11_named_72 : decode cX11_named 72 = .ok (.aload_n 0, 1) := by decide +kernel
theorem dX11_named_73 : decode cX11_named 73 = .ok (.getfield 16, 3) := by decide +kernel
theorem dX11_named_76 : decode cX11_named 76 = .ok (.iload 6, 2) := by decide +kernel
theorem dX11_named_78 : decode cX11_named 78 = .ok (.iload_n 2, 1) := by decide +kernel
theorem dX11_named_79 : decode cX11_named 79 = .ok (.iload_n 3, 1) := by decide +kernel
theorem dX11_named_80 : decode cX11_named 80 = .ok (.iload 4, 2) := by decide +kernel
theorem dX11_named_82 : decode cX11_named 82 = .ok (.iload 5, 2) := by decide +kernel
theorem dX11_named_84 : decode cX11_named 84 = .ok (.invokespecial 278, 3) := by decide +kernel
theorem dX11_named_87 : decode cX11_named 87 = .ok (.areturn, 1) := by decide +kernel
theorem dX11_named_88 : decode cX11_named 88 = .ok (.new 279, 3) := by decide +kernel
theorem dX11_named_91 : decode cX11_named 91 = .ok (.dup, 1) := by decide +kernel
theorem dX11_named_92 : decode cX11_named 92 = .ok (.aload_n 0, 1) := by decide +kernel
theorem dX11_named_93 : decode cX11_named 93 = .ok (.getfield 16, 3) := by decide +kernel
theorem dX11_named_96 : decode cX11_named 96 = .ok (.iload 6, 2) := by decide +kernel
theorem dX11_named_98 : decode cX11_named 98 = .ok (.iload_n 2, 1) := by decide +kernel
theorem dX11_named_99 : decode cX11_named 99 = .ok (.iload_n 3, 1) := by decide +kernel
theorem dX11_named_100 : decode cX11_named 100 = .ok (.iload 4, 2) := by decide +kernel
theorem dX11_named_102 : decode cX11_named 102 = .ok (.iload 5, 2) := by decide +kernel
theorem dX11_named_104 : decode cX11_named 104 = .ok (.invokespecial 281, 3) := by decide +kernel
theorem dX11_named_107 : decode cX11_named 107 = .ok (.areturn, 1) := by decide +kernel
theorem dX11_named_108 : decode cX11_named 108 = .ok (.new 282, 3) := by decide +kernel
theorem dX11_named_111 : decode cX11_named 111 = .ok (.dup, 1) := by decide +kernel
theorem dX11_named_112 : decode cX11_named 112 = .ok (.aload_n 0, 1) := by decide +kernel
theorem dX11_named_113 : decode cX11_named 113 = .ok (.getfield 16, 3) := by decide +kernel
theorem dX11_named_116 : decode cX11_named 116 = .ok (.iload 6, 2) := by decide +kernel
theorem dX11_named_118 : decode cX11_named 118 = .ok (.iload_n 2, 1) := by decide +kernel
theorem dX11_named_119 : decode cX11_named 119 = .ok (.iload_n 3, 1) := by decide +kernel
theorem dX11_named_120 : decode cX11_named 120 = .ok (.iload 4, 2) := by decide +kernel
theorem dX11_named_122 : decode cX11_named 122 = .ok (.iload 5, 2) := by decide +kernel
theorem dX11_named_124 : decode cX11_named 124 = .ok (.invokespecial 284, 3) := by decide +kernel
theorem dX11_named_127 : decode cX11_named 127 = .ok (.areturn, 1) := by decide +kernel
theorem dX11_named_128 : decode cX11_named 128 = .ok (.new 285, 3) := by decide +kernel
theorem dX11_named_131 : decode cX11_named 131 = .ok (.dup, 1) := by decide +kernel
theorem dX11_named_132 : decode cX11_named 132 = .ok (.aload_n 0, 1) := by decide +kernel
theorem dX11_named_133 : decode cX11_named 133 = .ok (.getfield 16, 3) := by decide +kernel
theorem dX11_named_136 : decode cX11_named 136 = .ok (.iload 6, 2) := by decide +kernel
theorem dX11_named_138 : decode cX11_named 138 = .ok (.iload_n 2, 1) := by decide +kernel
theorem dX11_named_139 : decode cX11_named 139 = .ok (.iload_n 3, 1) := by decide +kernel
theorem dX11_named_140 : decode cX11_named 140 = .ok (.iload 4, 2) := by decide +kernel
theorem dX11_named_142 : decode cX11_named 142 = .ok (.iload 5, 2) := by decide +kernel
theorem dX11_named_144 : decode cX11_named 144 = .ok (.invokespecial 287, 3) := by decide +kernel
theorem dX11_named_147 : decode cX11_named 147 = .ok (.areturn, 1) := by decide +kernel
theorem dX11_named_148 : decode cX11_named 148 = .ok (.new 158, 3) := by decide +kernel
theorem dX11_named_151 : decode cX11_named 151 = .ok (.dup, 1) := by decide +kernel
theorem dX11_named_152 : decode cX11_named 152 = .ok (.aload_n 0, 1) := by decide +kernel
theorem dX11_named_153 : decode cX11_named 153 = .ok (.getfield 16, 3) := by decide +kernel
theorem dX11_named_156 : decode cX11_named 156 = .ok (.iload 6, 2) := by decide +kernel
theorem dX11_named_158 : decode cX11_named 158 = .ok (.iload_n 2, 1) := by decide +kernel
theorem dX11_named_159 : decode cX11_named 159 = .ok (.iload_n 3, 1) := by decide +kernel
theorem dX11_named_160 : decode cX11_named 160 = .ok (.iload 4, 2) := by decide +kernel
theorem dX11_named_162 : decode cX11_named 162 = .ok (.iload 5, 2) := by decide +kernel
theorem dX11_named_164 : decode cX11_named 164 = .ok (.invokespecial 288, 3) := by decide +kernel
theorem dX11_named_167 : decode cX11_named 167 = .ok (.areturn, 1) := by decide +kernel
theorem dX11_named_168 : decode cX11_named 168 = .ok (.new 111, 3) := by decide +kernel
theorem dX11_named_171 : decode cX11_named 171 = .ok (.dup, 1) := by decide +kernel
theorem dX11_named_172 : decode cX11_named 172 = .ok (.aload_n 0, 1) := by decide +kernel
theorem dX11_named_173 : decode cX11_named 173 = .ok (.getfield 16, 3) := by decide +kernel
theorem dX11_named_176 : decode cX11_named 176 = .ok (.iload 6, 2) := by decide +kernel
theorem dX11_named_178 : decode cX11_named 178 = .ok (.iload_n 2, 1) := by decide +kernel
theorem dX11_named_179 : decode cX11_named 179 = .ok (.iload_n 3, 1) := by decide +kernel
theorem dX11_named_180 : decode cX11_named 180 = .ok (.iload 4, 2) := by decide +kernel
theorem dX11_named_182 : decode cX11_named 182 = .ok (.iload 5, 2) := by decide +kernel
theorem dX11_named_184 : decode cX11_named 184 = .ok (.invokespecial 289, 3) := by decide +kernel
theorem dX11_named_187 : decode cX11_named 187 = .ok (.areturn, 1) := by decide +kernel
theorem dX11_isOfKind_0 : decode cX11_isOfKind 0 = .ok (.iload_n 1, 1) := by decide +kernel
theorem dX11_isOfKind_1 : decode cX11_isOfKind 1 = .ok (.tableswitch 69 1 6 #[39, 44, 49, 54, 59, 64], 39) := by decide +kernel
theorem dX11_isOfKind_40 : decode cX11_isOfKind 40 = .ok (.aload_n 0, 1) := by decide +kernel
theorem dX11_isOfKind_41 : decode cX11_isOfKind 41 = .ok (.instanceof 271, 3) := by decide +kernel
theorem dX11_isOfKind_44 : decode cX11_isOfKind 44 = .ok (.ireturn, 1) := by decide +kernel
theorem dX11_isOfKind_45 : decode cX11_isOfKind 45 = .ok (.aload_n 0, 1) := by decide +kernel
theorem dX11_isOfKind_46 : decode cX11_isOfKind 46 = .ok (.instanceof 276, 3) := by decide +kernel
theorem dX11_isOfKind_49 : decode cX11_isOfKind 49 = .ok (.ireturn, 1) := by decide +kernel
theorem dX11_isOfKind_50 : decode cX11_isOfKind 50 = .ok (.aload_n 0, 1) := by decide +kernel
theorem dX11_isOfKind_51 : decode cX11_isOfKind 51 = .ok (.instanceof 279, 3) := by decide +kernel
theorem dX11_isOfKind_54 : decode cX11_isOfKind 54 = .ok (.ireturn, 1) := by decide +kernel
theorem dX11_isOfKind_55 : decode cX11_isOfKind 55 = .ok (.aload_n 0, 1) := by decide +kernel
theorem dX11_isOfKind_56 : decode cX11_isOfKind 56 = .ok (.instanceof 282, 3) := by decide +kernel
theorem dX11_isOfKind_59 : decode cX11_isOfKind 59 = .ok (.ireturn, 1) := by decide +kernel
theorem dX11_isOfKind_60 : decode cX11_isOfKind 60 = .ok (.aload_n 0, 1) := by decide +kernel
theorem dX11_isOfKind_61 : decode cX11_isOfKind 61 = .ok (.instanceof 285, 3) := by decide +kernel
theorem dX11_isOfKind_64 : decode cX11_isOfKind 64 = .ok (.ireturn, 1) := by decide +kernel
theorem dX11_isOfKind_65 : decode cX11_isOfKind 65 = .ok (.aload_n 0, 1) := by decide +kernel
theorem dX11_isOfKind_66 : decode cX11_isOfKind 66 = .ok (.instanceof 158, 3) := by decide +kernel
theorem dX11_isOfKind_69 : decode cX11_isOfKind 69 = .ok (.ireturn, 1) := by decide +kernel
theorem dX11_isOfKind_70 : decode cX11_isOfKind 70 = .ok (.iconst 1, 1) := by decide +kernel
theorem dX11_isOfKind_71 : decode cX11_isOfKind 71 = .ok (.ireturn, 1) := by decide +kernel
theorem dX11_written_0 : decode cX11_written 0 = .ok (.iload_n 2, 1) := by decide +kernel
theorem dX11_written_1 : decode cX11_written 1 = .ok (.iconst (-1), 1) := by decide +kernel
theorem dX11_written_2 : decode cX11_written 2 = .ok (.if_icmp .ne 9, 3) := by decide +kernel
theorem dX11_written_5 : decode cX11_written 5 = .ok (.aload_n 1, 1) := by decide +kernel
theorem dX11_written_6 : decode cX11_written 6 = .ok (.invokevirtual 66, 3) := by decide +kernel
theorem dX11_written_9 : decode cX11_written 9 = .ok (.iconst 0, 1) := by decide +kernel
theorem dX11_written_10 : decode cX11_written 10 = .ok (.ireturn, 1) := by decide +kernel
theorem dX11_written_11 : decode cX11_written 11 = .ok (.aload_n 0, 1) := by decide +kernel
theorem dX11_written_12 : decode cX11_written 12 = .ok (.getfield 23, 3) := by decide +kernel
theorem dX11_written_15 : decode cX11_written 15 = .ok (.iload_n 2, 1) := by decide +kernel
theorem dX11_written_16 : decode cX11_written 16 = .ok (.invokevirtual 151, 3) := by decide +kernel
theorem dX11_written_19 : decode cX11_written 19 = .ok (.ifCond .eq 12, 3) := by decide +kernel
theorem dX11_written_22 : decode cX11_written 22 = .ok (.iload_n 3, 1) := by decide +kernel
theorem dX11_written_23 : decode cX11_written 23 = .ok (.ifCond .lt 8, 3) := by decide +kernel
theorem dX11_written_26 : decode cX11_written 26 = .ok (.iload_n 3, 1) := by decide +kernel
theorem dX11_written_27 : decode cX11_written 27 = .ok (.iconst 4, 1) := by decide +kernel
theorem dX11_written_28 : decode cX11_written 28 = .ok (.if_icmp .le 5, 3) := by decide +kernel
theorem dX11_written_31 : decode cX11_written 31 = .ok (.iconst (-1), 1) := by decide +kernel
theorem dX11_written_32 : decode cX11_written 32 = .ok (.ireturn, 1) := by decide +kernel
theorem dX11_written_33 : decode cX11_written 33 = .ok (.aload_n 1, 1) := by decide +kernel
theorem dX11_written_34 : decode cX11_written 34 = .ok (.invokevirtual 51, 3) := by decide +kernel
theorem dX11_written_37 : decode cX11_written 37 = .ok (.bipush 16, 2) := by decide +kernel
theorem dX11_written_39 : decode cX11_written 39 = .ok (.if_icmp .lt 6, 3) := by decide +kernel
theorem dX11_written_42 : decode cX11_written 42 = .ok (.bipush (-4), 2) := by decide +kernel
theorem dX11_written_44 : decode cX11_written 44 = .ok (.ireturn, 1) := by decide +kernel
theorem dX11_written_45 : decode cX11_written 45 = .ok (.aload_n 1, 1) := by decide +kernel
theorem dX11_written_46 : decode cX11_written 46 = .ok (.iload_n 2, 1) := by decide +kernel
theorem dX11_written_47 : decode cX11_written 47 = .ok (.invokevirtual 55, 3) := by decide +kernel
theorem dX11_written_50 : decode cX11_written 50 = .ok (.aload_n 1, 1) := by decide +kernel
theorem dX11_written_51 : decode cX11_written 51 = .ok (.iload_n 3, 1) := by decide +kernel
theorem dX11_written_52 : decode cX11_written 52 = .ok (.invokevirtual 55, 3) := by decide +kernel
theorem dX11_written_55 : decode cX11_written 55 = .ok (.aload_n 1, 1) := by decide +kernel
theorem dX11_written_56 : decode cX11_written 56 = .ok (.invokevirtual 51, 3) := by decide +kernel
theorem dX11_written_59 : decode cX11_written 59 = .ok (.iconst 2, 1) := by decide +kernel
theorem dX11_written_60 : decode cX11_written 60 = .ok (.idiv, 1) := by decide +kernel
theorem dX11_written_61 : decode cX11_written 61 = .ok (.ireturn, 1) := by decide +kernel
theorem dX11_fraction_0 : decode cX11_fraction 0 = .ok (.iload_n 1, 1) := by decide +kernel
theorem dX11_fraction_1 : decode cX11_fraction 1 = .ok (.ifCond .le 12, 3) := by decide +kernel
theorem dX11_fraction_4 : decode cX11_fraction 4 = .ok (.iload_n 2, 1) := by decide +kernel
theorem dX11_fraction_5 : decode cX11_fraction 5 = .ok (.ifCond .eq 12, 3) := by decide +kernel
theorem dX11_fraction_8 : decode cX11_fraction 8 = .ok (.iload_n 2, 1) := by decide +kernel
theorem dX11_fraction_9 : decode cX11_fraction 9 = .ok (.iconst 1, 1) := by decide +kernel
theorem dX11_fraction_10 : decode cX11_fraction 10 = .ok (.if_icmp .eq 7, 3) := by decide +kernel
theorem dX11_fraction_13 : decode cX11_fraction 13 = .ok (.ldc2_w 231, 3) := by decide +kernel
theorem dX11_fraction_16 : decode cX11_fraction 16 = .ok (.lreturn, 1) := by decide +kernel
theorem dX11_fraction_17 : decode cX11_fraction 17 = .ok (.iload_n 2, 1) := by decide +kernel
theorem dX11_fraction_18 : decode cX11_fraction 18 = .ok (.ifCond .ne 7, 3) := by decide +kernel
theorem dX11_fraction_21 : decode cX11_fraction 21 = .ok (.iload_n 0, 1) := by decide +kernel
theorem dX11_fraction_22 : decode cX11_fraction 22 = .ok (.goto 4, 3) := by decide +kernel
theorem dX11_fraction_25 : decode cX11_fraction 25 = .ok (.iload_n 1, 1) := by decide +kernel
theorem dX11_fraction_26 : decode cX11_fraction 26 = .ok (.istore_n 3, 1) := by decide +kernel
theorem dX11_fraction_27 : decode cX11_fraction 27 = .ok (.iload_n 1, 1) := by decide +kernel
theorem dX11_fraction_28 : decode cX11_fraction 28 = .ok (.istore 4, 2) := by decide +kernel
theorem dX11_fraction_30 : decode cX11_fraction 30 = .ok (.iload 4, 2) := by decide +kernel
theorem dX11_fraction_32 : decode cX11_fraction 32 = .ok (.iconst 1, 1) := by decide +kernel
theorem dX11_fraction_33 : decode cX11_fraction 33 = .ok (.if_icmp .le 29, 3) := by decide +kernel
theorem dX11_fraction_36 : decode cX11_fraction 36 = .ok (.iload_n 0, 1) := by decide +kernel
theorem dX11_fraction_37 : decode cX11_fraction 37 = .ok (.iload 4, 2) := by decide +kernel
theorem dX11_fraction_39 : decode cX11_fraction 39 = .ok (.irem, 1) := by decide +kernel
theorem dX11_fraction_40 : decode cX11_fraction 40 = .ok (.ifCond .ne 16, 3) := by decide +kernel
theorem dX11_fraction_43 : decode cX11_fraction 43 = .ok (.iload_n 1, 1) := by decide +kernel
theorem dX11_fraction_44 : decode cX11_fraction 44 = .ok (.iload 4, 2) := by decide +kernel
theorem dX11_fraction_46 : decode cX11_fraction 46 = .ok (.irem, 1) := by decide +kernel
theorem dX11_fraction_47 : decode cX11_fraction 47 = .ok (.ifCond .ne 9, 3) := by decide +kernel
theorem dX11_fraction_50 : decode cX11_fraction 50 = .ok (.iload_n 3, 1) := by decide +kernel
theorem dX11_fraction_51 : decode cX11_fraction 51 = .ok (.iload 4, 2) := by decide +kernel
theorem dX11_fraction_53 : decode cX11_fraction 53 = .ok (.idiv, 1) := by decide +kernel
theorem dX11_fraction_54 : decode cX11_fraction 54 = .ok (.i2l, 1) := by decide +kernel
theorem dX11_fraction_55 : decode cX11_fraction 55 = .ok (.lreturn, 1) := by decide +kernel
theorem dX11_fraction_56 : decode cX11_fraction 56 = .ok (.iinc 4 (-1), 3) := by decide +kernel
theorem dX11_fraction_59 : decode cX11_fraction 59 = .ok (.goto (-29), 3) := by decide +kernel
theorem dX11_fraction_62 : decode cX11_fraction 62 = .ok (.iload_n 3, 1) := by decide +kernel
theorem dX11_fraction_63 : decode cX11_fraction 63 = .ok (.i2l, 1) := by decide +kernel
theorem dX11_fraction_64 : decode cX11_fraction 64 = .ok (.lreturn, 1) := by decide +kernel
theorem dX12_init_0 : decode cX12_init 0 = .ok (.aload_n 0, 1) := by decide +kernel
theorem dX12_init_1 : decode cX12_init 1 = .ok (.invokespecial 3, 3) := by decide +kernel
theorem dX12_init_4 : decode cX12_init 4 = .ok (.aload_n 0, 1) := by decide +kernel
theorem dX12_init_5 : decode cX12_init 5 = .ok (.sipush 939, 3) := by decide +kernel
theorem dX12_init_8 : decode cX12_init 8 = .ok (.newarray .int, 2) := by decide +kernel
theorem dX12_init_10 : decode cX12_init 10 = .ok (.putfield 9, 3) := by decide +kernel
theorem dX12_init_13 : decode cX12_init 13 = .ok (.aload_n 0, 1) := by decide +kernel
theorem dX12_init_14 : decode cX12_init 14 = .ok (.sipush 939, 3) := by decide +kernel
theorem dX12_init_17 : decode cX12_init 17 = .ok (.newarray .int, 2) := by decide +kernel
theorem dX12_init_19 : decode cX12_init 19 = .ok (.putfield 15, 3) := by decide +kernel
theorem dX12_init_22 : decode cX12_init 22 = .ok (.aload_n 0, 1) := by decide +kernel
theorem dX12_init_23 : decode cX12_init 23 = .ok (.bipush 6, 2) := by decide +kernel
theorem dX12_init_25 : decode cX12_init 25 = .ok (.newarray .int, 2) := by decide +kernel
theorem dX12_init_27 : decode cX12_init 27 = .ok (.putfield 18, 3) := by decide +kernel
theorem dX12_init_30 : decode cX12_init 30 = .ok (.aload_n 0, 1) := by decide +kernel
theorem dX12_init_31 : decode cX12_init 31 = .ok (.bipush 64, 2) := by decide +kernel
theorem dX12_init_33 : decode cX12_init 33 = .ok (.newarray .boolean, 2) := by decide +kernel
theorem dX12_init_35 : decode cX12_init 35 = .ok (.putfield 21, 3) := by decide +kernel
theorem dX12_init_38 : decode cX12_init 38 = .ok (.aload_n 0, 1) := by decide +kernel
theorem dX12_init_39 : decode cX12_init 39 = .ok (.bipush 28, 2) := by decide +kernel
theorem dX12_init_41 : decode cX12_init 41 = .ok (.newarray .boolean, 2) := by decide +kernel
theorem dX12_init_43 : decode cX12_init 43 = .ok (.putfield 25, 3) := by decide +kernel
theorem dX12_init_46 : decode cX12_init 46 = .ok (.aload_n 0, 1) := by decide +kernel
theorem dX12_init_47 : decode cX12_init 47 = .ok (.bipush 28, 2) := by decide +kernel
theorem dX12_init_49 : decode cX12_init 49 = .ok (.newarray .int, 2) := by decide +kernel
theorem dX12_init_51 : decode cX12_init 51 = .ok (.putfield 28, 3) := by decide +kernel
theorem dX12_init_54 : decode cX12_init 54 = .ok (.aload_n 0, 1) := by decide +kernel
theorem dX12_init_55 : decode cX12_init 55 = .ok (.bipush 28, 2) := by decide +kernel
theorem dX12_init_57 : decode cX12_init 57 = .ok (.newarray .int, 2) := by decide +kernel
theorem dX12_init_59 : decode cX12_init 59 = .ok (.putfield 31, 3) := by decide +kernel
theorem dX12_init_62 : decode cX12_init 62 = .ok (.aload_n 0, 1) := by decide +kernel
theorem dX12_init_63 : decode cX12_init 63 = .ok (.bipush 7, 2) := by decide +kernel
theorem dX12_init_65 : decode cX12_init 65 = .ok (.newarray .int, 2) := by decide +kernel
theorem dX12_init_67 : decode cX12_init 67 = .ok (.putfield 34, 3) := by decide +kernel
theorem dX12_init_70 : decode cX12_init 70 = .ok (.aload_n 0, 1) := by decide +kernel
theorem dX12_init_71 : decode cX12_init 71 = .ok (.bipush 7, 2) := by decide +kernel
theorem dX12_init_73 : decode cX12_init 73 = .ok (.newarray .int, 2) := by decide +kernel
theorem dX12_init_75 : decode cX12_init 75 = .ok (.putfield 37, 3) := by decide +kernel
theorem dX12_init_78 : decode cX12_init 78 = .ok (.aload_n 0, 1) := by decide +kernel
theorem dX12_init_79 : decode cX12_init 79 = .ok (.bipush 7, 2) := by decide +kernel
theorem dX12_init_81 : decode cX12_init 81 = .ok (.newarray .int, 2) := by decide +kernel
theorem dX12_init_83 : decode cX12_init 83 = .ok (.putfield 40, 3) := by decide +kernel
theorem dX12_init_86 : decode cX12_init 86 = .ok (.aload_n 0, 1) := by decide +kernel
theorem dX12_init_87 : decode cX12_init 87 = .ok (.bipush 7, 2) := by decide +kernel
theorem dX12_init_89 : decode cX12_init 89 = .ok (.newarray .int, 2) := by decide +kernel
theorem dX12_init_91 : decode cX12_init 91 = .ok (.putfield 43, 3) := by decide +kernel
theorem dX12_init_94 : decode cX12_init 94 = .ok (.aload_n 0, 1) := by decide +kernel
theorem dX12_init_95 : decode cX12_init 95 = .ok (.bipush 7, 2) := by decide +kernel
theorem dX12_init_97 : decode cX12_init 97 = .ok (.newarray .int, 2) := by decide +kernel
theorem dX12_init_99 : decode cX12_init 99 = .ok (.putfield 46, 3) := by decide +kernel
theorem dX12_init_102 : decode cX12_init 102 = .ok (.aload_n 0, 1) := by decide +kernel
theorem dX12_init_103 : decode cX12_init 103 = .ok (.bipush 20, 2) := by decide +kernel
theorem dX12_init_105 : decode cX12_init 105 = .ok (.newarray .int, 2) := by decide +kernel
theorem dX12_init_107 : decode cX12_init 107 = .ok (.putfield 49, 3) := by decide +kernel
theorem dX12_init_110 : decode cX12_init 110 = .ok (.aload_n 0, 1) := by decide +kernel
theorem dX12_init_111 : decode cX12_init 111 = .ok (.getfield 9, 3) := by decide +kernel
theorem dX12_init_114 : decode cX12_init 114 = .ok (.bipush 6, 2) := by decide +kernel
theorem dX12_init_116 : decode cX12_init 116 = .ok (.iconst (-1), 1) := by decide +kernel
theorem dX12_init_117 : decode cX12_init 117 = .ok (.iastore, 1) := by decide +kernel
theorem dX12_init_118 : decode cX12_init 118 = .ok (.return_, 1) := by decide +kernel
theorem dX12_in_0 : decode cX12_in 0 = .ok (.iload_n 0, 1) := by decide +kernel
theorem dX12_in_1 : decode cX12_in 1 = .ok (.iload_n 1, 1) := by decide +kernel
theorem dX12_in_2 : decode cX12_in 2 = .ok (.if_icmp .lt 12, 3) := by decide +kernel
theorem dX12_in_5 : decode cX12_in 5 = .ok (.iload_n 0, 1) := by decide +kernel
theorem dX12_in_6 : decode cX12_in 6 = .ok (.iload_n 2, 1) := by decide +kernel
theorem dX12_in_7 : decode cX12_in 7 = .ok (.if_icmp .gt 7, 3) := by decide +kernel
theorem dX12_in_10 : decode cX12_in 10 = .ok (.iconst 1, 1) := by decide +kernel
theorem dX12_in_11 : decode cX12_in 11 = .ok (.goto 4, 3) := by decide +kernel
theorem dX12_in_14 : decode cX12_in 14 = .ok (.iconst 0, 1) := by decide +kernel
theorem dX12_in_15 : decode cX12_in 15 = .ok (.ireturn, 1) := by decide +kernel
theorem dX12_within_0 : decode cX12_within 0 = .ok (.iload_n 0, 1) := by decide +kernel
theorem dX12_within_1 : decode cX12_within 1 = .ok (.iload_n 1, 1) := by decide +kernel
theorem dX12_within_2 : decode cX12_within 2 = .ok (.if_icmp .ge 7, 3) := by decide +kernel
theorem dX12_within_5 : decode cX12_within 5 = .ok (.iload_n 1, 1) := by decide +kernel
theorem dX12_within_6 : decode cX12_within 6 = .ok (.goto 13, 3) := by decide +kernel
theorem dX12_within_9 : decode cX12_within 9 = .ok (.iload_n 0, 1) := by decide +kernel
theorem dX12_within_10 : decode cX12_within 10 = .ok (.iload_n 2, 1) := by decide +kernel
theorem dX12_within_11 : decode cX12_within 11 = .ok (.if_icmp .le 7, 3) := by decide +kernel
theorem dX12_within_14 : decode cX12_within 14 = .ok (.iload_n 2, 1) := by decide +kernel
theorem dX12_within_15 : decode cX12_within 15 = .ok (.goto 4, 3) := by decide +kernel
theorem dX12_within_18 : decode cX12_within 18 = .ok (.iload_n 0, 1) := by decide +kernel
theorem dX12_within_19 : decode cX12_within 19 = .ok (.ireturn, 1) := by decide +kernel
theorem dX12_apart_0 : decode cX12_apart 0 = .ok (.iload_n 0, 1) := by decide +kernel
theorem dX12_apart_1 : decode cX12_apart 1 = .ok (.iload_n 1, 1) := by decide +kernel
theorem dX12_apart_2 : decode cX12_apart 2 = .ok (.if_icmp .ge 9, 3) := by decide +kernel
theorem dX12_apart_5 : decode cX12_apart 5 = .ok (.iload_n 1, 1) := by decide +kernel
theorem dX12_apart_6 : decode cX12_apart 6 = .ok (.iload_n 0, 1) := by decide +kernel
theorem dX12_apart_7 : decode cX12_apart 7 = .ok (.isub, 1) := by decide +kernel
theorem dX12_apart_8 : decode cX12_apart 8 = .ok (.goto 6, 3) := by decide +kernel
theorem dX12_apart_11 : decode cX12_apart 11 = .ok (.iload_n 0, 1) := by decide +kernel
theorem dX12_apart_12 : decode cX12_apart 12 = .ok (.iload_n 1, 1) := by decide +kernel
theorem dX12_apart_13 : decode cX12_apart 13 = .ok (.isub, 1) := by decide +kernel
theorem dX12_apart_14 : decode cX12_apart 14 = .ok (.ireturn, 1) := by decide +kernel
theorem dX12_isName_0 : decode cX12_isName 0 = .ok (.iload_n 1, 1) := by decide +kernel
theorem dX12_isName_1 : decode cX12_isName 1 = .ok (.iconst 0, 1) := by decide +kernel
theorem dX12_isName_2 : decode cX12_isName 2 = .ok (.aload_n 0, 1) := by decide +kernel
theorem dX12_isName_3 : decode cX12_isName 3 = .ok (.getfield 9, 3) := by decide +kernel
theorem dX12_isName_6 : decode cX12_isName 6 = .ok (.iconst 0, 1) := by decide +kernel
theorem dX12_isName_7 : decode cX12_isName 7 = .ok (.iaload, 1) := by decide +kernel
theorem dX12_isName_8 : decode cX12_isName 8 = .ok (.iconst 1, 1) := by decide +kernel
theorem dX12_isName_9 : decode cX12_isName 9 = .ok (.isub, 1) := by decide +kernel
theorem dX12_isName_10 : decode cX12_isName 10 = .ok (.invokestatic 56, 3) := by decide +kernel
theorem dX12_isName_13 : decode cX12_isName 13 = .ok (.ireturn, 1) := by decide +kernel
theorem dX12_isPlace_0 : decode cX12_isPlace 0 = .ok (.iload_n 0, 1) := by decide +kernel
theorem dX12_isPlace_1 : decode cX12_isPlace 1 = .ok (.iconst 0, 1) := by decide +kernel
theorem dX12_isPlace_2 : decode cX12_isPlace 2 = .ok (.iconst 3, 1) := by decide +kernel
theorem dX12_isPlace_3 : decode cX12_isPlace 3 = .ok (.invokestatic 56, 3) := by decide +kernel
theorem dX12_isPlace_6 : decode cX12_isPlace 6 = .ok (.ireturn, 1) := by decide +kernel
theorem dX12_orNone_0 : decode cX12_orNone 0 = .ok (.iload_n 0, 1) := by decide +kernel
theorem dX12_orNone_1 : decode cX12_orNone 1 = .ok (.iconst 4, 1) := by decide +kernel
theorem dX12_orNone_2 : decode cX12_orNone 2 = .ok (.if_icmp .ne 8, 3) := by decide +kernel
theorem dX12_orNone_5 : decode cX12_orNone 5 = .ok (.bipush (-5), 2) := by decide +kernel
theorem dX12_orNone_7 : decode cX12_orNone 7 = .ok (.goto 4, 3) := by decide +kernel
theorem dX12_orNone_10 : decode cX12_orNone 10 = .ok (.iload_n 0, 1) := by decide +kernel
theorem dX12_orNone_11 : decode cX12_orNone 11 = .ok (.ireturn, 1) := by decide +kernel
theorem dX12_feed_0 : decode cX12_feed 0 = .ok (.iload_n 1, 1) := by decide +kernel
theorem dX12_feed_1 : decode cX12_feed 1 = .ok (.iconst 0, 1) := by decide +kernel
theorem dX12_feed_2 : decode cX12_feed 2 = .ok (.bipush 127, 2) := by decide +kernel
theorem dX12_feed_4 : decode cX12_feed 4 = .ok (.invokestatic 56, 3) := by decide +kernel
theorem dX12_feed_7 : decode cX12_feed 7 = .ok (.ifCond .ne 6, 3) := by decide +kernel
theorem dX12_feed_10 : decode cX12_feed 10 = .ok (.bipush (-2), 2) := by decide +kernel
theorem dX12_feed_12 : decode cX12_feed 12 = .ok (.ireturn, 1) := by decide +kernel
theorem dX12_feed_13 : decode cX12_feed 13 = .ok (.aload_n 0, 1) := by decide +kernel
theorem dX12_feed_14 : decode cX12_feed 14 = .ok (.getfield 9, 3) := by decide +kernel
theorem dX12_feed_17 : decode cX12_feed 17 = .ok (.iconst 5, 1) := by decide +kernel
theorem dX12_feed_18 : decode cX12_feed 18 = .ok (.iaload, 1) := by decide +kernel
theorem dX12_feed_19 : decode cX12_feed 19 = .ok (.bipush 100, 2) := by decide +kernel
theorem dX12_feed_21 : decode cX12_feed 21 = .ok (.if_icmp .ne 6, 3) := by decide +kernel
theorem dX12_feed_24 : decode cX12_feed 24 = .ok (.bipush (-4), 2) := by decide +kernel
theorem dX12_feed_26 : decode cX12_feed 26 = .ok (.ireturn, 1) := by decide +kernel
theorem dX12_feed_27 : decode cX12_feed 27 = .ok (.aload_n 0, 1) := by decide +kernel
theorem dX12_feed_28 : decode cX12_feed 28 = .ok (.getfield 9, 3) := by decide +kernel
theorem dX12_feed_31 : decode cX12_feed 31 = .ok (.bipush 124, 2) := by decide +kernel
theorem dX12_feed_33 : decode cX12_feed 33 = .ok (.aload_n 0, 1) := by decide +kernel
theorem dX12_feed_34 : decode cX12_feed 34 = .ok (.getfield 9, 3) := by decide +kernel
theorem dX12_feed_37 : decode cX12_feed 37 = .ok (.iconst 5, 1) := by decide +kernel
theorem dX12_feed_38 : decode cX12_feed 38 = .ok (.iaload, 1) := by decide +kernel
theorem dX12_feed_39 : decode cX12_feed 39 = .ok (.iadd, 1) := by decide +kernel
theorem dX12_feed_40 : decode cX12_feed 40 = .ok (.iload_n 1, 1) := by decide +kernel
theorem dX12_feed_41 : decode cX12_feed 41 = .ok (.iastore, 1) := by decide +kernel
theorem dX12_feed_42 : decode cX12_feed 42 = .ok (.aload_n 0, 1) := by decide +kernel
theorem dX12_feed_43 : decode cX12_feed 43 = .ok (.getfield 9, 3) := by decide +kernel
theorem dX12_feed_46 : decode cX12_feed 46 = .ok (.iconst 5, 1) := by decide +kernel
theorem dX12_feed_47 : decode cX12_feed 47 = .ok (.dup2, 1) := by decide +kernel
theorem dX12_feed_48 : decode cX12_feed 48 = .ok (.iaload, 1) := by decide +kernel
theorem dX12_feed_49 : decode cX12_feed 49 = .ok (.iconst 1, 1) := by decide +kernel
theorem dX12_feed_50 : decode cX12_feed 50 = .ok (.iadd, 1) := by decide +kernel
theorem dX12_feed_51 : decode cX12_feed 51 = .ok (.iastore, 1) := by decide +kernel
theorem dX12_feed_52 : decode cX12_feed 52 = .ok (.aload_n 0, 1) := by decide +kernel
theorem dX12_feed_53 : decode cX12_feed 53 = .ok (.getfield 9, 3) := by decide +kernel
theorem dX12_feed_56 : decode cX12_feed 56 = .ok (.iconst 5, 1) := by decide +kernel
theorem dX12_feed_57 : decode cX12_feed 57 = .ok (.iaload, 1) := by decide +kernel
theorem dX12_feed_58 : decode cX12_feed 58 = .ok (.ireturn, 1) := by decide +kernel
theorem dX12_here_0 : decode cX12_here 0 = .ok (.aload_n 0, 1) := by decide +kernel
theorem dX12_here_1 : decode cX12_here 1 = .ok (.getfield 60, 3) := by decide +kernel
theorem dX12_here_4 : decode cX12_here 4 = .ok (.aload_n 0, 1) := by decide +kernel
theorem dX12_here_5 : decode cX12_here 5 = .ok (.getfield 63, 3) := by decide +kernel
theorem dX12_here_8 : decode cX12_here 8 = .ok (.if_icmp .ge 18, 3) := by decide +kernel
theorem dX12_here_11 : decode cX12_here 11 = .ok (.aload_n 0, 1) := by decide +kernel
theorem dX12_here_12 : decode cX12_here 12 = .ok (.getfield 9, 3) := by decide +kernel
theorem dX12_here_15 : decode cX12_here 15 = .ok (.bipush 124, 2) := by decide +kernel
theorem dX12_here_17 : decode cX12_here 17 = .ok (.aload_n 0, 1) := by decide +kernel
theorem dX12_here_18 : decode cX12_here 18 = .ok (.getfield 60, 3) := by decide +kernel
theorem dX12_here_21 : decode cX12_here 21 = .ok (.iadd, 1) := by decide +kernel
theorem dX12_here_22 : decode cX12_here 22 = .ok (.iaload, 1) := by decide +kernel
theorem dX12_here_23 : decode cX12_here 23 = .ok (.goto 4, 3) := by decide +kernel
theorem dX12_here_26 : decode cX12_here 26 = .ok (.iconst (-1), 1) := by decide +kernel
theorem dX12_here_27 : decode cX12_here 27 = .ok (.ireturn, 1) := by decide +kernel
theorem dX12_must_0 : decode cX12_must 0 = .ok (.aload_n 0, 1) := by decide +kernel
theorem dX12_must_1 : decode cX12_must 1 = .ok (.aload_n 0, 1) := by decide +kernel
theorem dX12_must_2 : decode cX12_must 2 = .ok (.getfield 66, 3) := by decide +kernel
theorem dX12_must_5 : decode cX12_must 5 = .ok (.ifCond .ne 11, 3) := by decide +kernel
theorem dX12_must_8 : decode cX12_must 8 = .ok (.aload_n 0, 1) := by decide +kernel
theorem dX12_must_9 : decode cX12_must 9 = .ok (.invokevirtual 70, 3) := by decide +kernel
theorem dX12_must_12 : decode cX12_must 12 = .ok (.iload_n 1, 1) := by decide +kernel
theorem dX12_must_13 : decode cX12_must 13 = .ok (.if_icmp .eq 7, 3) := by decide +kernel
theorem dX12_must_16 : decode cX12_must 16 = .ok (.iconst 1, 1) := by decide +kernel
theorem dX12_must_17 : decode cX12_must 17 = .ok (.goto 4, 3) := by decide +kernel
theorem dX12_must_20 : decode cX12_must 20 = .ok (.iconst 0, 1) := by decide +kernel
theorem dX12_must_21 : decode cX12_must 21 = .ok (.putfield 66, 3) := by decide +kernel
theorem dX12_must_24 : decode cX12_must 24 = .ok (.aload_n 0, 1) := by decide +kernel
theorem dX12_must_25 : decode cX12_must 25 = .ok (.dup, 1) := by decide +kernel
theorem dX12_must_26 : decode cX12_must 26 = .ok (.getfield 60, 3) := by decide +kernel
theorem dX12_must_29 : decode cX12_must 29 = .ok (.aload_n 0, 1) := by decide +kernel
theorem dX12_must_30 : decode cX12_must 30 = .ok (.getfield 66, 3) := by decide +kernel
theorem dX12_must_33 : decode cX12_must 33 = .ok (.ifCond .eq 7, 3) := by decide +kernel
theorem dX12_must_36 : decode cX12_must 36 = .ok (.iconst 0, 1) := by decide +kernel
theorem dX12_must_37 : decode cX12_must 37 = .ok (.goto 4, 3) := by decide +kernel
theorem dX12_must_40 : decode cX12_must 40 = .ok (.iconst 1, 1) := by decide +kernel
theorem dX12_must_41 : decode cX12_must 41 = .ok (.iadd, 1) := by decide +kernel
theorem dX12_must_42 : decode cX12_must 42 = .ok (.putfield 60, 3) := by decide +kernel
theorem dX12_must_45 : decode cX12_must 45 = .ok (.return_, 1) := by decide +kernel
theorem dX12_spells_0 : decode cX12_spells 0 = .ok (.iconst 0, 1) := by decide +kernel
theorem dX12_spells_1 : decode cX12_spells 1 = .ok (.istore_n 2, 1) := by decide +kernel
theorem dX12_spells_2 : decode cX12_spells 2 = .ok (.iload_n 2, 1) := by decide +kernel
theorem dX12_spells_3 : decode cX12_spells 3 = .ok (.aload_n 1, 1) := by decide +kernel
theorem dX12_spells_4 : decode cX12_spells 4 = .ok (.invokevirtual 74, 3) := by decide +kernel
theorem dX12_spells_7 : decode cX12_spells 7 = .ok (.if_icmp .ge 18, 3) := by decide +kernel
theorem dX12_spells_10 : decode cX12_spells 10 = .ok (.aload_n 0, 1) := by decide +kernel
theorem dX12_spells_11 : decode cX12_spells 11 = .ok (.aload_n 1, 1) := by decide +kernel
theorem dX12_spells_12 : decode cX12_spells 12 = .ok (.iload_n 2, 1) := by decide +kernel
theorem dX12_spells_13 : decode cX12_spells 13 = .ok (.invokevirtual 79, 3) := by decide +kernel
theorem dX12_spells_16 : decode cX12_spells 16 = .ok (.invokevirtual 83, 3) := by decide +kernel
theorem dX12_spells_19 : decode cX12_spells 19 = .ok (.iinc 2 1, 3) := by decide +kernel
theorem dX12_spells_22 : decode cX12_spells 22 = .ok (.goto (-20), 3) := by decide +kernel
theorem dX12_spells_25 : decode cX12_spells 25 = .ok (.return_, 1) := by decide +kernel
theorem dX12_figures_0 : decode cX12_figures 0 = .ok (.aload_n 0, 1) := by decide +kernel
theorem dX12_figures_1 : decode cX12_figures 1 = .ok (.aload_n 0, 1) := by decide +kernel
theorem dX12_figures_2 : decode cX12_figures 2 = .ok (.getfield 66, 3) := by decide +kernel
theorem dX12_figures_5 : decode cX12_figures 5 = .ok (.ifCond .ne 17, 3) := by decide +kernel
theorem dX12_figures_8 : decode cX12_figures 8 = .ok (.aload_n 0, 1) := by decide +kernel
theorem dX12_figures_9 : decode cX12_figures 9 = .ok (.invokevirtual 70, 3) := by decide +kernel
theorem dX12_figures_12 : decode cX12_figures 12 = .ok (.bipush 48, 2) := by decide +kernel
theorem dX12_figures_14 : decode cX12_figures 14 = .ok (.bipush 57, 2) := by decide +kernel
theorem dX12_figures_16 : decode cX12_figures 16 = .ok (.invokestatic 56, 3) := by decide +kernel
theorem dX12_figures_19 : decode cX12_figures 19 = .ok (.ifCond .ne 7, 3) := by decide +kernel
theorem dX12_figures_22 : decode cX12_figures 22 = .ok (.iconst 1, 1) := by decide +kernel
theorem dX12_figures_23 : decode cX12_figures 23 = .ok (.goto 4, 3) := by decide +kernel
theorem dX12_figures_26 : decode cX12_figures 26 = .ok (.iconst 0, 1) := by decide +kernel
theorem dX12_figures_27 : decode cX12_figures 27 = .ok (.putfield 66, 3) := by decide +kernel
theorem dX12_figures_30 : decode cX12_figures 30 = .ok (.iconst 0, 1) := by decide +kernel
theorem dX12_figures_31 : decode cX12_figures 31 = .ok (.istore_n 1, 1) := by decide +kernel
theorem dX12_figures_32 : decode cX12_figures 32 = .ok (.iconst 0, 1) := by decide +kernel
theorem dX12_figures_33 : decode cX12_figures 33 = .ok (.istore_n 2, 1) := by decide +kernel
theorem dX12_figures_34 : decode cX12_figures 34 = .ok (.iload_n 2, 1) := by decide +kernel
theorem dX12_figures_35 : decode cX12_figures 35 = .ok (.iconst 2, 1) := by decide +kernel
theorem dX12_figures_36 : decode cX12_figures 36 = .ok (.if_icmp .ge 61, 3) := by decide +kernel
theorem dX12_figures_39 : decode cX12_figures 39 = .ok (.aload_n 0, 1) := by decide +kernel
theorem dX12_figures_40 : decode cX12_figures 40 = .ok (.getfield 66, 3) := by decide +kernel
theorem dX12_figures_43 : decode cX12_figures 43 = .ok (.ifCond .ne 54, 3) := by decide +kernel
theorem dX12_figures_46 : decode cX12_figures 46 = .ok (.aload_n 0, 1) := by decide +kernel
theorem dX12_figures_47 : decode cX12_figures 47 = .ok (.invokevirtual 70, 3) := by decide +kernel
theorem dX12_figures_50 : decode cX12_figures 50 = .ok (.bipush 48, 2) := by decide +kernel
theorem dX12_figures_52 : decode cX12_figures 52 = .ok (.bipush 57, 2) := by decide +kernel
theorem dX12_figures_54 : decode cX12_figures 54 = .ok (.invokestatic 56, 3) := by decide +kernel
theorem dX12_figures_57 : decode cX12_figures 57 = .ok (.ifCond .eq 40, 3) := by decide +kernel
theorem dX12_figures_60 : decode cX12_figures 60 = .ok (.iload_n 2, 1) := by decide +kernel
theorem dX12_figures_61 : decode cX12_figures 61 = .ok (.ifCond .eq 7, 3) := by decide +kernel
theorem dX12_figures_64 : decode cX12_figures 64 = .ok (.iload_n 1, 1) := by decide +kernel
theorem dX12_figures_65 : decode cX12_figures 65 = .ok (.ifCond .le 32, 3) := by decide +kernel
theorem dX12_figures_68 : decode cX12_figures 68 = .ok (.bipush 10, 2) := by decide +kernel
theorem dX12_figures_70 : decode cX12_figures 70 = .ok (.iload_n 1, 1) := by decide +kernel
theorem dX12_figures_71 : decode cX12_figures 71 = .ok (.imul, 1) := by decide +kernel
theorem dX12_figures_72 : decode cX12_figures 72 = .ok (.aload_n 0, 1) := by decide +kernel
theorem dX12_figures_73 : decode cX12_figures 73 = .ok (.invokevirtual 70, 3) := by decide +kernel
theorem dX12_figures_76 : decode cX12_figures 76 = .ok (.iadd, 1) := by decide +kernel
theorem dX12_figures_77 : decode cX12_figures 77 = .ok (.bipush 48, 2) := by decide +kernel
theorem dX12_figures_79 : decode cX12_figures 79 = .ok (.isub, 1) := by decide +kernel
theorem dX12_figures_80 : decode cX12_figures 80 = .ok (.istore_n 1, 1) := by decide +kernel
theorem dX12_figures_81 : decode cX12_figures 81 = .ok (.aload_n 0, 1) := by decide +kernel
theorem dX12_figures_82 : decode cX12_figures 82 = .ok (.dup, 1) := by decide +kernel
theorem dX12_figures_83 : decode cX12_figures 83 = .ok (.getfield 60, 3) := by decide +kernel
theorem dX12_figures_86 : decode cX12_figures 86 = .ok (.iconst 1, 1) := by decide +kernel
theorem dX12_figures_87 : decode cX12_figures 87 = .ok (.iadd, 1) := by decide +kernel
theorem dX12_figures_88 : decode cX12_figures 88 = .ok (.putfield 60, 3) := by decide +kernel
theorem dX12_figures_91 : decode cX12_figures 91 = .ok (.iinc 2 1, 3) := by decide +kernel
theorem dX12_figures_94 : decode cX12_figures 94 = .ok (.goto (-60), 3) := by decide +kernel
theorem dX12_figures_97 : decode cX12_figures 97 = .ok (.iload_n 1, 1) := by decide +kernel
theorem dX12_figures_98 : decode cX12_figures 98 = .ok (.ireturn, 1) := by decide +kernel
theorem dX12_among_0 : decode cX12_among 0 = .ok (.iconst 0, 1) := by decide +kernel
theorem dX12_among_1 : decode cX12_among 1 = .ok (.istore_n 2, 1) := by decide +kernel
theorem dX12_among_2 : decode cX12_among 2 = .ok (.iload_n 2, 1) := by decide +kernel
theorem dX12_among_3 : decode cX12_among 3 = .ok (.aload_n 1, 1) := by decide +kernel
theorem dX12_among_4 : decode cX12_among 4 = .ok (.invokevirtual 74, 3) := by decide +kernel
theorem dX12_among_7 : decode cX12_among 7 = .ok (.if_icmp .ge 33, 3) := by decide +kernel
theorem dX12_among_10 : decode cX12_among 10 = .ok (.aload_n 0, 1) := by decide +kernel
theorem dX12_among_11 : decode cX12_among 11 = .ok (.invokevirtual 70, 3) := by decide +kernel
theorem dX12_among_14 : decode cX12_among 14 = .ok (.aload_n 1, 1) := by decide +kernel
theorem dX12_among_15 : decode cX12_among 15 = .ok (.iload_n 2, 1) := by decide +kernel
theorem dX12_among_16 : decode cX12_among 16 = .ok (.invokevirtual 79, 3) := by decide +kernel
theorem dX12_among_19 : decode cX12_among 19 = .ok (.if_icmp .ne 15, 3) := by decide +kernel
theorem dX12_among_22 : decode cX12_among 22 = .ok (.aload_n 0, 1) := by decide +kernel
theorem dX12_among_23 : decode cX12_among 23 = .ok (.dup, 1) := by decide +kernel
theorem dX12_among_24 : decode cX12_among 24 = .ok (.getfield 60, 3) := by decide +kernel
theorem dX12_among_27 : decode cX12_among 27 = .ok (.iconst 1, 1) := by decide +kernel
theorem dX12_among_28 : decode cX12_among 28 = .ok (.iadd, 1) := by decide +kernel
theorem dX12_among_29 : decode cX12_among 29 = .ok (.putfield 60, 3) := by decide +kernel
theorem dX12_among_32 : decode cX12_among 32 = .ok (.iload_n 2, 1) := by decide +kernel
theorem dX12_among_33 : decode cX12_among 33 = .ok (.ireturn, 1) := by decide +kernel
theorem dX12_among_34 : decode cX12_among 34 = .ok (.iinc 2 1, 3) := by decide +kernel
theorem dX12_among_37 : decode cX12_among 37 = .ok (.goto (-35), 3) := by decide +kernel
theorem dX12_among_40 : decode cX12_among 40 = .ok (.iconst (-1), 1) := by decide +kernel
theorem dX12_among_41 : decode cX12_among 41 = .ok (.ireturn, 1) := by decide +kernel
theorem dX12_emits_0 : decode cX12_emits 0 = .ok (.aload_n 0, 1) := by decide +kernel
theorem dX12_emits_1 : decode cX12_emits 1 = .ok (.getfield 66, 3) := by decide +kernel
theorem dX12_emits_4 : decode cX12_emits 4 = .ok (.ifCond .ne 52, 3) := by decide +kernel
theorem dX12_emits_7 : decode cX12_emits 7 = .ok (.aload_n 0, 1) := by decide +kernel
theorem dX12_emits_8 : decode cX12_emits 8 = .ok (.getfield 9, 3) := by decide +kernel
theorem dX12_emits_11 : decode cX12_emits 11 = .ok (.sipush 239, 3) := by decide +kernel
theorem dX12_emits_14 : decode cX12_emits 14 = .ok (.sipush 140, 3) := by decide +kernel
theorem dX12_emits_17 : decode cX12_emits 17 = .ok (.aload_n 0, 1) := by decide +kernel
theorem dX12_emits_18 : decode cX12_emits 18 = .ok (.getfield 87, 3) := by decide +kernel
theorem dX12_emits_21 : decode cX12_emits 21 = .ok (.imul, 1) := by decide +kernel
theorem dX12_emits_22 : decode cX12_emits 22 = .ok (.iadd, 1) := by decide +kernel
theorem dX12_emits_23 : decode cX12_emits 23 = .ok (.aload_n 0, 1) := by decide +kernel
theorem dX12_emits_24 : decode cX12_emits 24 = .ok (.getfield 9, 3) := by decide +kernel
theorem dX12_emits_27 : decode cX12_emits 27 = .ok (.sipush 234, 3) := by decide +kernel
theorem dX12_emits_30 : decode cX12_emits 30 = .ok (.aload_n 0, 1) := by decide +kernel
theorem dX12_emits_31 : decode cX12_emits 31 = .ok (.getfield 87, 3) := by decide +kernel
theorem dX12_emits_34 : decode cX12_emits 34 = .ok (.iadd, 1) := by decide +kernel
theorem dX12_emits_35 : decode cX12_emits 35 = .ok (.iaload, 1) := by decide +kernel
theorem dX12_emits_36 : decode cX12_emits 36 = .ok (.iadd, 1) := by decide +kernel
theorem dX12_emits_37 : decode cX12_emits 37 = .ok (.iload_n 1, 1) := by decide +kernel
theorem dX12_emits_38 : decode cX12_emits 38 = .ok (.iastore, 1) := by decide +kernel
theorem dX12_emits_39 : decode cX12_emits 39 = .ok (.aload_n 0, 1) := by decide +kernel
theorem dX12_emits_40 : decode cX12_emits 40 = .ok (.getfield 9, 3) := by decide +kernel
theorem dX12_emits_43 : decode cX12_emits 43 = .ok (.sipush 234, 3) := by decide +kernel
theorem dX12_emits_46 : decode cX12_emits 46 = .ok (.aload_n 0, 1) := by decide +kernel
theorem dX12_emits_47 : decode cX12_emits 47 = .ok (.getfield 87, 3) := by decide +kernel
theorem dX12_emits_50 : decode cX12_emits 50 = .ok (.iadd, 1) := by decide +kernel
theorem dX12_emits_51 : decode cX12_emits 51 = .ok (.dup2, 1) := by decide +kernel
theorem dX12_emits_52 : decode cX12_emits 52 = .ok (.iaload, 1) := by decide +kernel
theorem dX12_emits_53 : decode cX12_emits 53 = .ok (.iconst 1, 1) := by decide +kernel
theorem dX12_emits_54 : decode cX12_emits 54 = .ok (.iadd, 1) := by decide +kernel
theorem dX12_emits_55 : decode cX12_emits 55 = .ok (.iastore, 1) := by decide +kernel
theorem dX12_emits_56 : decode cX12_emits 56 = .ok (.return_, 1) := by decide +kernel
theorem dX12_factor_0 : decode cX12_factor 0 = .ok (.aload_n 0, 1) := by decide +kernel
theorem dX12_factor_1 : decode cX12_factor 1 = .ok (.getfield 66, 3) := by decide +kernel
theorem dX12_factor_4 : decode cX12_factor 4 = .ok (.ifCond .eq 4, 3) := by decide +kernel
theorem dX12_factor_7 : decode cX12_factor 7 = .ok (.return_, 1) := by decide +kernel
theorem dX12_factor_8 : decode cX12_factor 8 = .ok (.aload_n 0, 1) := by decide +kernel
theorem dX12_factor_9 : decode cX12_factor 9 = .ok (.invokevirtual 70, 3) := by decide +kernel
theorem dX12_factor_12 : decode cX12_factor 12 = .ok (.istore_n 1, 1) := by decide +kernel
theorem dX12_factor_13 : decode cX12_factor 13 = .ok (.iload_n 1, 1) := by decide +kernel
theorem dX12_factor_14 : decode cX12_factor 14 = .ok (.bipush 33, 2) := by decide +kernel
theorem dX12_factor_16 : decode cX12_factor 16 = .ok (.if_icmp .eq 9, 3) := by decide +kernel
theorem dX12_factor_19 : decode cX12_factor 19 = .ok (.iload_n 1, 1) := by decide +kernel
theorem dX12_factor_20 : decode cX12_factor 20 = .ok (.bipush 40, 2) := by decide +kernel
theorem dX12_factor_22 : decode cX12_factor 22 = .ok (.if_icmp .ne 90, 3) := by decide +kernel
theorem dX12_factor_25 : decode cX12_factor 25 = .ok (.aload_n 0, 1) := by decide +kernel
theorem dX12_factor_26 : decode cX12_factor 26 = .ok (.aload_n 0, 1) := by decide +kernel
theorem dX12_factor_27 : decode cX12_factor 27 = .ok (.getfield 90, 3) := by decide +kernel
theorem dX12_factor_30 : decode cX12_factor 30 = .ok (.iconst 5, 1) := by decide +kernel
theorem dX12_factor_31 : decode cX12_factor 31 = .ok (.if_icmp .ne 7, 3) := by decide +kernel
theorem dX12_factor_34 : decode cX12_factor 34 = .ok (.iconst 1, 1) := by decide +kernel
theorem dX12_factor_35 : decode cX12_factor 35 = .ok (.goto 4, 3) := by decide +kernel
theorem dX12_factor_38 : decode cX12_factor 38 = .ok (.iconst 0, 1) := by decide +kernel
theorem dX12_factor_39 : decode cX12_factor 39 = .ok (.putfield 66, 3) := by decide +kernel
theorem dX12_factor_42 : decode cX12_factor 42 = .ok (.aload_n 0, 1) := by decide +kernel
theorem dX12_factor_43 : decode cX12_factor 43 = .ok (.dup, 1) := by decide +kernel
theorem dX12_factor_44 : decode cX12_factor 44 = .ok (.getfield 90, 3) := by decide +kernel
theorem dX12_factor_47 : decode cX12_factor 47 = .ok (.iconst 1, 1) := by decide +kernel
theorem dX12_factor_48 : decode cX12_factor 48 = .ok (.iadd, 1) := by decide +kernel
theorem dX12_factor_49 : decode cX12_factor 49 = .ok (.putfield 90, 3) := by decide +kernel
theorem dX12_factor_52 : decode cX12_factor 52 = .ok (.aload_n 0, 1) := by decide +kernel
theorem dX12_factor_53 : decode cX12_factor 53 = .ok (.dup, 1) := by decide +kernel
theorem dX12_factor_54 : decode cX12_factor 54 = .ok (.getfield 60, 3) := by decide +kernel
theorem dX12_factor_57 : decode cX12_factor 57 = .ok (.aload_n 0, 1) := by decide +kernel
theorem dX12_factor_58 : decode cX12_factor 58 = .ok (.getfield 66, 3) := by decide +kernel
theorem dX12_factor_61 : decode cX12_factor 61 = .ok (.ifCond .eq 7, 3) := by decide +kernel
theorem dX12_factor_64 : decode cX12_factor 64 = .ok (.iconst 0, 1) := by decide +kernel
theorem dX12_factor_65 : decode cX12_factor 65 = .ok (.goto 4, 3) := by decide +kernel
theorem dX12_factor_68 : decode cX12_factor 68 = .ok (.iconst 1, 1) := by decide +kernel
theorem dX12_factor_69 : decode cX12_factor 69 = .ok (.iadd, 1) := by decide +kernel
theorem dX12_factor_70 : decode cX12_factor 70 = .ok (.putfield 60, 3) := by decide +kernel
theorem dX12_factor_73 : decode cX12_factor 73 = .ok (.iload_n 1, 1) := by decide +kernel
theorem dX12_factor_74 : decode cX12_factor 74 = .ok (.bipush 33, 2) := by decide +kernel
theorem dX12_factor_76 : decode cX12_factor 76 = .ok (.if_icmp .ne 15, 3) := by decide +kernel
theorem dX12_factor_79 : decode cX12_factor 79 = .ok (.aload_n 0, 1) := by decide +kernel
theorem dX12_factor_80 : decode cX12_factor 80 = .ok (.invokevirtual 93, 3) := by decide +kernel
theorem dX12_factor_83 : decode cX12_factor 83 = .ok (.aload_n 0, 1) := by decide +kernel
theorem dX12_factor_84 : decode cX12_factor 84 = .ok (.iconst (-1), 1) := by decide +kernel
theorem dX12_factor_85 : decode cX12_factor 85 = .ok (.invokevirtual 96, 3) := by decide +kernel
theorem dX12_factor_88 : decode cX12_factor 88 = .ok (.goto 13, 3) := by decide +kernel
theorem dX12_factor_91 : decode cX12_factor 91 = .ok (.aload_n 0, 1) := by decide +kernel
theorem dX12_factor_92 : decode cX12_factor 92 = .ok (.invokevirtual 99, 3) := by decide +kernel
theorem dX12_factor_95 : decode cX12_factor 95 = .ok (.aload_n 0, 1) := by decide +kernel
theorem dX12_factor_96 : decode cX12_factor 96 = .ok (.bipush 41, 2) := by decide +kernel
theorem dX12_factor_98 : decode cX12_factor 98 = .ok (.invokevirtual 83, 3) := by decide +kernel
theorem dX12_factor_101 : decode cX12_factor 101 = .ok (.aload_n 0, 1) := by decide +kernel
theorem dX12_factor_102 : decode cX12_factor 102 = .ok (.dup, 1) := by decide +kernel
theorem dX12_factor_103 : decode cX12_factor 103 = .ok (.getfield 90, 3) := by decide +kernel
theorem dX12_factor_106 : decode cX12_factor 106 = .ok (.iconst 1, 1) := by decide +kernel
theorem dX12_factor_107 : decode cX12_factor 107 = .ok (.isub, 1) := by decide +kernel
theorem dX12_factor_108 : decode cX12_factor 108 = .ok (.putfield 90, 3) := by decide +kernel
theorem dX12_factor_111 : decode cX12_factor 111 = .ok (.return_, 1) := by decide +kernel
theorem dX12_factor_112 : decode cX12_factor 112 = .ok (.aload_n 0, 1) := by decide +kernel
theorem dX12_factor_113 : decode cX12_factor 113 = .ok (.ldc 102, 2) := by decide +kernel
theorem dX12_factor_115 : decode cX12_factor 115 = .ok (.invokevirtual 104, 3) := by decide +kernel
theorem dX12_factor_118 : decode cX12_factor 118 = .ok (.istore_n 2, 1) := by decide +kernel
theorem dX12_factor_119 : decode cX12_factor 119 = .ok (.aload_n 0, 1) := by decide +kernel
theorem dX12_factor_120 : decode cX12_factor 120 = .ok (.iload_n 2, 1) := by decide +kernel
theorem dX12_factor_121 : decode cX12_factor 121 = .ok (.iconst (-1), 1) := by decide +kernel
theorem dX12_factor_122 : decode cX12_factor 122 = .ok (.if_icmp .ne 7, 3) := by decide +kernel
theorem dX12_factor_125 : decode cX12_factor 125 = .ok (.iconst 1, 1) := by decide +kernel
theorem dX12_factor_126 : decode cX12_factor 126 = .ok (.goto 4, 3) := by decide +kernel
theorem dX12_factor_129 : decode cX12_factor 129 = .ok (.iconst 0, 1) := by decide +kernel
theorem dX12_factor_130 : decode cX12_factor 130 = .ok (.putfield 66, 3) := by decide +kernel
theorem dX12_factor_133 : decode cX12_factor 133 = .ok (.aload_n 0, 1) := by decide +kernel
theorem dX12_factor_134 : decode cX12_factor 134 = .ok (.getfield 66, 3) := by decide +kernel
theorem dX12_factor_137 : decode cX12_factor 137 = .ok (.ifCond .eq 7, 3) := by decide +kernel
theorem dX12_factor_140 : decode cX12_factor 140 = .ok (.iconst 0, 1) := by decide +kernel
theorem dX12_factor_141 : decode cX12_factor 141 = .ok (.goto 9, 3) := by decide +kernel
theorem dX12_factor_144 : decode cX12_factor 144 = .ok (.aload_n 0, 1) := by decide +kernel
theorem dX12_factor_145 : decode cX12_factor 145 = .ok (.ldc 108, 2) := by decide +kernel
theorem dX12_factor_147 : decode cX12_factor 147 = .ok (.invokevirtual 104, 3) := by decide +kernel
theorem dX12_factor_150 : decode cX12_factor 150 = .ok (.istore_n 3, 1) := by decide +kernel
theorem dX12_factor_151 : decode cX12_factor 151 = .ok (.aload_n 0, 1) := by decide +kernel
theorem dX12_factor_152 : decode cX12_factor 152 = .ok (.aload_n 0, 1) := by decide +kernel
theorem dX12_factor_153 : decode cX12_factor 153 = .ok (.getfield 66, 3) := by decide +kernel
theorem dX12_factor_156 : decode cX12_factor 156 = .ok (.ifCond .ne 8, 3) := by decide +kernel
theorem dX12_factor_159 : decode cX12_factor 159 = .ok (.iload_n 3, 1) := by decide +kernel
theorem dX12_factor_160 : decode cX12_factor 160 = .ok (.iconst (-1), 1) := by decide +kernel
theorem dX12_factor_161 : decode cX12_factor 161 = .ok (.if_icmp .ne 7, 3) := by decide +kernel
theorem dX12_factor_164 : decode cX12_factor 164 = .ok (.iconst 1, 1) := by decide +kernel
theorem dX12_factor_165 : decode cX12_factor 165 = .ok (.goto 4, 3) := by decide +kernel
theorem dX12_factor_168 : decode cX12_factor 168 = .ok (.iconst 0, 1) := by decide +kernel
theorem dX12_factor_169 : decode cX12_factor 169 = .ok (.putfield 66, 3) := by decide +kernel
theorem dX12_factor_172 : decode cX12_factor 172 = .ok (.aload_n 0, 1) := by decide +kernel
theorem dX12_factor_173 : decode cX12_factor 173 = .ok (.invokevirtual 110, 3) := by decide +kernel
theorem dX12_factor_176 : decode cX12_factor 176 = .ok (.istore 4, 2) := by decide +kernel
theorem dX12_factor_178 : decode cX12_factor 178 = .ok (.aload_n 0, 1) := by decide +kernel
theorem dX12_factor_179 : decode cX12_factor 179 = .ok (.iload_n 2, 1) := by decide +kernel
theorem dX12_factor_180 : decode cX12_factor 180 = .ok (.bipush 8, 2) := by decide +kernel
theorem dX12_factor_182 : decode cX12_factor 182 = .ok (.iload_n 3, 1) := by decide +kernel
theorem dX12_factor_183 : decode cX12_factor 183 = .ok (.imul, 1) := by decide +kernel
theorem dX12_factor_184 : decode cX12_factor 184 = .ok (.iadd, 1) := by decide +kernel
theorem dX12_factor_185 : decode cX12_factor 185 = .ok (.bipush 32, 2) := by decide +kernel
theorem dX12_factor_187 : decode cX12_factor 187 = .ok (.iload 4, 2) := by decide +kernel
theorem dX12_factor_189 : decode cX12_factor 189 = .ok (.imul, 1) := by decide +kernel
theorem dX12_factor_190 : decode cX12_factor 190 = .ok (.iadd, 1) := by decide +kernel
theorem dX12_factor_191 : decode cX12_factor 191 = .ok (.invokevirtual 96, 3) := by decide +kernel
theorem dX12_factor_194 : decode cX12_factor 194 = .ok (.return_, 1) := by decide +kernel
theorem dX12_every_0 : decode cX12_every 0 = .ok (.aload_n 0, 1) := by decide +kernel
theorem dX12_every_1 : decode cX12_every 1 = .ok (.invokevirtual 93, 3) := by decide +kernel
theorem dX12_every_4 : decode cX12_every 4 = .ok (.aload_n 0, 1) := by decide +kernel
theorem dX12_every_5 : decode cX12_every 5 = .ok (.getfield 66, 3) := by decide +kernel
theorem dX12_every_8 : decode cX12_every 8 = .ok (.ifCond .ne 35, 3) := by decide +kernel
theorem dX12_every_11 : decode cX12_every 11 = .ok (.aload_n 0, 1) := by decide +kernel
theorem dX12_every_12 : decode cX12_every 12 = .ok (.invokevirtual 70, 3) := by decide +kernel
theorem dX12_every_15 : decode cX12_every 15 = .ok (.bipush 38, 2) := by decide +kernel
theorem dX12_every_17 : decode cX12_every 17 = .ok (.if_icmp .ne 26, 3) := by decide +kernel
theorem dX12_every_20 : decode cX12_every 20 = .ok (.aload_n 0, 1) := by decide +kernel
theorem dX12_every_21 : decode cX12_every 21 = .ok (.dup, 1) := by decide +kernel
theorem dX12_every_22 : decode cX12_every 22 = .ok (.getfield 60, 3) := by decide +kernel
theorem dX12_every_25 : decode cX12_every 25 = .ok (.iconst 1, 1) := by decide +kernel
theorem dX12_every_26 : decode cX12_every 26 = .ok (.iadd, 1) := by decide +kernel
theorem dX12_every_27 : decode cX12_every 27 = .ok (.putfield 60, 3) := by decide +kernel
theorem dX12_every_30 : decode cX12_every 30 = .ok (.aload_n 0, 1) := by decide +kernel
theorem dX12_every_31 : decode cX12_every 31 = .ok (.invokevirtual 93, 3) := by decide +kernel
theorem dX12_every_34 : decode cX12_every 34 = .ok (.aload_n 0, 1) := by decide +kernel
theorem dX12_every_35 : decode cX12_every 35 = .ok (.bipush (-2), 2) := by decide +kernel
theorem dX12_every_37 : decode cX12_every 37 = .ok (.invokevirtual 96, 3) := by decide +kernel
theorem dX12_every_40 : decode cX12_every 40 = .ok (.goto (-36), 3) := by decide +kernel
theorem dX12_every_43 : decode cX12_every 43 = .ok (.return_, 1) := by decide +kernel
theorem dX12_some_0 : decode cX12_some 0 = .ok (.aload_n 0, 1) := by decide +kernel
theorem dX12_some_1 : decode cX12_some 1 = .ok (.invokevirtual 113, 3) := by decide +kernel
theorem dX12_some_4 : decode cX12_some 4 = .ok (.aload_n 0, 1) := by decide +kernel
theorem dX12_some_5 : decode cX12_some 5 = .ok (.getfield 66, 3) := by decide +kernel
theorem dX12_some_8 : decode cX12_some 8 = .ok (.ifCond .ne 35, 3) := by decide +kernel
theorem dX12_some_11 : decode cX12_some 11 = .ok (.aload_n 0, 1) := by decide +kernel
theorem dX12_some_12 : decode cX12_some 12 = .ok (.invokevirtual 70, 3) := by decide +kernel
theorem dX12_some_15 : decode cX12_some 15 = .ok (.bipush 124, 2) := by decide +kernel
theorem dX12_some_17 : decode cX12_some 17 = .ok (.if_icmp .ne 26, 3) := by decide +kernel
theorem dX12_some_20 : decode cX12_some 20 = .ok (.aload_n 0, 1) := by decide +kernel
theorem dX12_some_21 : decode cX12_some 21 = .ok (.dup, 1) := by decide +kernel
theorem dX12_some_22 : decode cX12_some 22 = .ok (.getfield 60, 3) := by decide +kernel
theorem dX12_some_25 : decode cX12_some 25 = .ok (.iconst 1, 1) := by decide +kernel
theorem dX12_some_26 : decode cX12_some 26 = .ok (.iadd, 1) := by decide +kernel
theorem dX12_some_27 : decode cX12_some 27 = .ok (.putfield 60, 3) := by decide +kernel
theorem dX12_some_30 : decode cX12_some 30 = .ok (.aload_n 0, 1) := by decide +kernel
theorem dX12_some_31 : decode cX12_some 31 = .ok (.invokevirtual 113, 3) := by decide +kernel
theorem dX12_some_34 : decode cX12_some 34 = .ok (.aload_n 0, 1) := by decide +kernel
theorem dX12_some_35 : decode cX12_some 35 = .ok (.bipush (-3), 2) := by decide +kernel
theorem dX12_some_37 : decode cX12_some 37 = .ok (.invokevirtual 96, 3) := by decide +kernel
theorem dX12_some_40 : decode cX12_some 40 = .ok (.goto (-36), 3) := by decide +kernel
theorem dX12_some_43 : decode cX12_some 43 = .ok (.return_, 1) := by decide +kernel
theorem dX12_much_0 : decode cX12_much 0 = .ok (.aload_n 0, 1) := by decide +kernel
theorem dX12_much_1 : decode cX12_much 1 = .ok (.aload_n 2, 1) := by decide +kernel
theorem dX12_much_2 : decode cX12_much 2 = .ok (.invokevirtual 116, 3) := by decide +kernel
theorem dX12_much_5 : decode cX12_much 5 = .ok (.aload_n 0, 1) := by decide +kernel
theorem dX12_much_6 : decode cX12_much 6 = .ok (.invokevirtual 110, 3) := by decide +kernel
theorem dX12_much_9 : decode cX12_much 9 = .ok (.istore_n 3, 1) := by decide +kernel
theorem dX12_much_10 : decode cX12_much 10 = .ok (.aload_n 0, 1) := by decide +kernel
theorem dX12_much_11 : decode cX12_much 11 = .ok (.bipush 32, 2) := by decide +kernel
theorem dX12_much_13 : decode cX12_much 13 = .ok (.invokevirtual 83, 3) := by decide +kernel
theorem dX12_much_16 : decode cX12_much 16 = .ok (.aload_n 0, 1) := by decide +kernel
theorem dX12_much_17 : decode cX12_much 17 = .ok (.invokevirtual 99, 3) := by decide +kernel
theorem dX12_much_20 : decode cX12_much 20 = .ok (.aload_n 0, 1) := by decide +kernel
theorem dX12_much_21 : decode cX12_much 21 = .ok (.iload_n 1, 1) := by decide +kernel
theorem dX12_much_22 : decode cX12_much 22 = .ok (.iload_n 3, 1) := by decide +kernel
theorem dX12_much_23 : decode cX12_much 23 = .ok (.isub, 1) := by decide +kernel
theorem dX12_much_24 : decode cX12_much 24 = .ok (.invokevirtual 96, 3) := by decide +kernel
theorem dX12_much_27 : decode cX12_much 27 = .ok (.return_, 1) := by decide +kernel
theorem dX12_tellsHere_0 : decode cX12_tellsHere 0 = .ok (.aload_n 0, 1) := by decide +kernel
theorem dX12_tellsHere_1 : decode cX12_tellsHere 1 = .ok (.aload_n 2, 1) := by decide +kernel
theorem dX12_tellsHere_2 : decode cX12_tellsHere 2 = .ok (.invokevirtual 116, 3) := by decide +kernel
theorem dX12_tellsHere_5 : decode cX12_tellsHere 5 = .ok (.aload_n 0, 1) := by decide +kernel
theorem dX12_tellsHere_6 : decode cX12_tellsHere 6 = .ok (.invokevirtual 110, 3) := by decide +kernel
theorem dX12_tellsHere_9 : decode cX12_tellsHere 9 = .ok (.istore_n 3, 1) := by decide +kernel
theorem dX12_tellsHere_10 : decode cX12_tellsHere 10 = .ok (.aload_n 0, 1) := by decide +kernel
theorem dX12_tellsHere_11 : decode cX12_tellsHere 11 = .ok (.getfield 66, 3) := by decide +kernel
theorem dX12_tellsHere_14 : decode cX12_tellsHere 14 = .ok (.ifCond .ne 15, 3) := by decide +kernel
theorem dX12_tellsHere_17 : decode cX12_tellsHere 17 = .ok (.aload_n 0, 1) := by decide +kernel
theorem dX12_tellsHere_18 : decode cX12_tellsHere 18 = .ok (.getfield 9, 3) := by decide +kernel
theorem dX12_tellsHere_21 : decode cX12_tellsHere 21 = .ok (.iload_n 1, 1) := by decide +kernel
theorem dX12_tellsHere_22 : decode cX12_tellsHere 22 = .ok (.aload_n 0, 1) := by decide +kernel
theorem dX12_tellsHere_23 : decode cX12_tellsHere 23 = .ok (.getfield 87, 3) := by decide +kernel
theorem dX12_tellsHere_26 : decode cX12_tellsHere 26 = .ok (.iadd, 1) := by decide +kernel
theorem dX12_tellsHere_27 : decode cX12_tellsHere 27 = .ok (.iload_n 3, 1) := by decide +kernel
theorem dX12_tellsHere_28 : decode cX12_tellsHere 28 = .ok (.iastore, 1) := by decide +kernel
theorem dX12_tellsHere_29 : decode cX12_tellsHere 29 = .ok (.return_, 1) := by decide +kernel
theorem dX12_clauseHere_0 : decode cX12_clauseHere 0 = .ok (.aload_n 0, 1) := by decide +kernel
theorem dX12_clauseHere_1 : decode cX12_clauseHere 1 = .ok (.invokevirtual 70, 3) := by decide +kernel
theorem dX12_clauseHere_4 : decode cX12_clauseHere 4 = .ok (.lookupswitch 91 #[(98, 79), (108, 68), (114, 56), (119, 44)], 44) := by decide +kernel
theorem dX12_clauseHere_48 : decode cX12_clauseHere 48 = .ok (.aload_n 0, 1) := by decide +kernel
theorem dX12_clauseHere_49 : decode cX12_clauseHere 49 = .ok (.sipush 224, 3) := by decide +kernel
theorem dX12_clauseHere_52 : decode cX12_clauseHere 52 = .ok (.ldc 120, 2) := by decide +kernel
theorem dX12_clauseHere_54 : decode cX12_clauseHere 54 = .ok (.invokevirtual 122, 3) := by decide +kernel
theorem dX12_clauseHere_57 : decode cX12_clauseHere 57 = .ok (.goto 43, 3) := by decide +kernel
theorem dX12_clauseHere_60 : decode cX12_clauseHere 60 = .ok (.aload_n 0, 1) := by decide +kernel
theorem dX12_clauseHere_61 : decode cX12_clauseHere 61 = .ok (.sipush 229, 3) := by decide +kernel
theorem dX12_clauseHere_64 : decode cX12_clauseHere 64 = .ok (.ldc 126, 2) := by decide +kernel
theorem dX12_clauseHere_66 : decode cX12_clauseHere 66 = .ok (.invokevirtual 122, 3) := by decide +kernel
theorem dX12_clauseHere_69 : decode cX12_clauseHere 69 = .ok (.goto 31, 3) := by decide +kernel
theorem dX12_clauseHere_72 : decode cX12_clauseHere 72 = .ok (.aload_n 0, 1) := by decide +kernel
theorem dX12_clauseHere_73 : decode cX12_clauseHere 73 = .ok (.bipush (-10), 2) := by decide +kernel
theorem dX12_clauseHere_75 : decode cX12_clauseHere 75 = .ok (.ldc 128, 2) := by decide +kernel
theorem dX12_clauseHere_77 : decode cX12_clauseHere 77 = .ok (.invokevirtual 130, 3) := by decide +kernel
theorem dX12_clauseHere_80 : decode cX12_clauseHere 80 = .ok (.goto 20, 3) := by decide +kernel
theorem dX12_clauseHere_83 : decode cX12_clauseHere 83 = .ok (.aload_n 0, 1) := by decide +kernel
theorem dX12_clauseHere_84 : decode cX12_clauseHere 84 = .ok (.sipush (-200), 3) := by decide +kernel
theorem dX12_clauseHere_87 : decode cX12_clauseHere 87 = .ok (.ldc 133, 2) := by decide +kernel
theorem dX12_clauseHere_89 : decode cX12_clauseHere 89 = .ok (.invokevirtual 130, 3) := by decide +kernel
theorem dX12_clauseHere_92 : decode cX12_clauseHere 92 = .ok (.goto 8, 3) := by decide +kernel
theorem dX12_clauseHere_95 : decode cX12_clauseHere 95 = .ok (.aload_n 0, 1) := by decide +kernel
theorem dX12_clauseHere_96 : decode cX12_clauseHere 96 = .ok (.iconst 1, 1) := by decide +kernel
theorem dX12_clauseHere_97 : decode cX12_clauseHere 97 = .ok (.putfield 66, 3) := by decide +kernel
theorem dX12_clauseHere_100 : decode cX12_clauseHere 100 = .ok (.return_, 1) := by decide +kernel
theorem dX12_map_0 : decode cX12_map 0 = .ok (.aload_n 0, 1) := by decide +kernel
theorem dX12_map_1 : decode cX12_map 1 = .ok (.getfield 9, 3) := by decide +kernel
theorem dX12_map_4 : decode cX12_map 4 = .ok (.iconst 1, 1) := by decide +kernel
theorem dX12_map_5 : decode cX12_map 5 = .ok (.iaload, 1) := by decide +kernel
theorem dX12_map_6 : decode cX12_map 6 = .ok (.iconst 5, 1) := by decide +kernel
theorem dX12_map_7 : decode cX12_map 7 = .ok (.if_icmp .ne 6, 3) := by decide +kernel
theorem dX12_map_10 : decode cX12_map 10 = .ok (.bipush (-4), 2) := by decide +kernel
theorem dX12_map_12 : decode cX12_map 12 = .ok (.ireturn, 1) := by decide +kernel
theorem dX12_map_13 : decode cX12_map 13 = .ok (.aload_n 0, 1) := by decide +kernel
theorem dX12_map_14 : decode cX12_map 14 = .ok (.aload_n 0, 1) := by decide +kernel
theorem dX12_map_15 : decode cX12_map 15 = .ok (.getfield 9, 3) := by decide +kernel
theorem dX12_map_18 : decode cX12_map 18 = .ok (.iconst 1, 1) := by decide +kernel
theorem dX12_map_19 : decode cX12_map 19 = .ok (.iaload, 1) := by decide +kernel
theorem dX12_map_20 : decode cX12_map 20 = .ok (.putfield 87, 3) := by decide +kernel
theorem dX12_map_23 : decode cX12_map 23 = .ok (.aload_n 0, 1) := by decide +kernel
theorem dX12_map_24 : decode cX12_map 24 = .ok (.aload_n 0, 1) := by decide +kernel
theorem dX12_map_25 : decode cX12_map 25 = .ok (.getfield 9, 3) := by decide +kernel
theorem dX12_map_28 : decode cX12_map 28 = .ok (.iconst 5, 1) := by decide +kernel
theorem dX12_map_29 : decode cX12_map 29 = .ok (.iaload, 1) := by decide +kernel
theorem dX12_map_30 : decode cX12_map 30 = .ok (.putfield 63, 3) := by decide +kernel
theorem dX12_map_33 : decode cX12_map 33 = .ok (.aload_n 0, 1) := by decide +kernel
theorem dX12_map_34 : decode cX12_map 34 = .ok (.getfield 9, 3) := by decide +kernel
theorem dX12_map_37 : decode cX12_map 37 = .ok (.iconst 5, 1) := by decide +kernel
theorem dX12_map_38 : decode cX12_map 38 = .ok (.iconst 0, 1) := by decide +kernel
theorem dX12_map_39 : decode cX12_map 39 = .ok (.iastore, 1) := by decide +kernel
theorem dX12_map_40 : decode cX12_map 40 = .ok (.aload_n 0, 1) := by decide +kernel
theorem dX12_map_41 : decode cX12_map 41 = .ok (.getfield 9, 3) := by decide +kernel
theorem dX12_map_44 : decode cX12_map 44 = .ok (.sipush 224, 3) := by decide +kernel
theorem dX12_map_47 : decode cX12_map 47 = .ok (.aload_n 0, 1) := by decide +kernel
theorem dX12_map_48 : decode cX12_map 48 = .ok (.getfield 87, 3) := by decide +kernel
theorem dX12_map_51 : decode cX12_map 51 = .ok (.iadd, 1) := by decide +kernel
theorem dX12_map_52 : decode cX12_map 52 = .ok (.bipush 24, 2) := by decide +kernel
theorem dX12_map_54 : decode cX12_map 54 = .ok (.iastore, 1) := by decide +kernel
theorem dX12_map_55 : decode cX12_map 55 = .ok (.aload_n 0, 1) := by decide +kernel
theorem dX12_map_56 : decode cX12_map 56 = .ok (.getfield 9, 3) := by decide +kernel
theorem dX12_map_59 : decode cX12_map 59 = .ok (.sipush 229, 3) := by decide +kernel
theorem dX12_map_62 : decode cX12_map 62 = .ok (.aload_n 0, 1) := by decide +kernel
theorem dX12_map_63 : decode cX12_map 63 = .ok (.getfield 87, 3) := by decide +kernel
theorem dX12_map_66 : decode cX12_map 66 = .ok (.iadd, 1) := by decide +kernel
theorem dX12_map_67 : decode cX12_map 67 = .ok (.bipush 99, 2) := by decide +kernel
theorem dX12_map_69 : decode cX12_map 69 = .ok (.iastore, 1) := by decide +kernel
theorem dX12_map_70 : decode cX12_map 70 = .ok (.aload_n 0, 1) := by decide +kernel
theorem dX12_map_71 : decode cX12_map 71 = .ok (.getfield 9, 3) := by decide +kernel
theorem dX12_map_74 : decode cX12_map 74 = .ok (.sipush 234, 3) := by decide +kernel
theorem dX12_map_77 : decode cX12_map 77 = .ok (.aload_n 0, 1) := by decide +kernel
theorem dX12_map_78 : decode cX12_map 78 = .ok (.getfield 87, 3) := by decide +kernel
theorem dX12_map_81 : decode cX12_map 81 = .ok (.iadd, 1) := by decide +kernel
theorem dX12_map_82 : decode cX12_map 82 = .ok (.iconst 0, 1) := by decide +kernel
theorem dX12_map_83 : decode cX12_map 83 = .ok (.iastore, 1) := by decide +kernel
theorem dX12_map_84 : decode cX12_map 84 = .ok (.aload_n 0, 1) := by decide +kernel
theorem dX12_map_85 : decode cX12_map 85 = .ok (.iconst 0, 1) := by decide +kernel
theorem dX12_map_86 : decode cX12_map 86 = .ok (.putfield 60, 3) := by decide +kernel
theorem dX12_map_89 : decode cX12_map 89 = .ok (.aload_n 0, 1) := by decide +kernel
theorem dX12_map_90 : decode cX12_map 90 = .ok (.iconst 0, 1) := by decide +kernel
theorem dX12_map_91 : decode cX12_map 91 = .ok (.putfield 66, 3) := by decide +kernel
theorem dX12_map_94 : decode cX12_map 94 = .ok (.aload_n 0, 1) := by decide +kernel
theorem dX12_map_95 : decode cX12_map 95 = .ok (.iconst 0, 1) := by decide +kernel
theorem dX12_map_96 : decode cX12_map 96 = .ok (.putfield 90, 3) := by decide +kernel
theorem dX12_map_99 : decode cX12_map 99 = .ok (.iconst 1, 1) := by decide +kernel
theorem dX12_map_100 : decode cX12_map 100 = .ok (.istore_n 1, 1) := by decide +kernel
theorem dX12_map_101 : decode cX12_map 101 = .ok (.aload_n 0, 1) := by decide +kernel
theorem dX12_map_102 : decode cX12_map 102 = .ok (.invokevirtual 135, 3) := by decide +kernel
theorem dX12_map_105 : decode cX12_map 105 = .ok (.aload_n 0, 1) := by decide +kernel
theorem dX12_map_106 : decode cX12_map 106 = .ok (.getfield 66, 3) := by decide +kernel
theorem dX12_map_109 : decode cX12_map 109 = .ok (.ifCond .ne 38, 3) := by decide +kernel
theorem dX12_map_112 : decode cX12_map 112 = .ok (.iload_n 1, 1) := by decide +kernel
theorem dX12_map_113 : decode cX12_map 113 = .ok (.bipush 10, 2) := by decide +kernel
theorem dX12_map_115 : decode cX12_map 115 = .ok (.if_icmp .ge 32, 3) := by decide +kernel
theorem dX12_map_118 : decode cX12_map 118 = .ok (.aload_n 0, 1) := by decide +kernel
theorem dX12_map_119 : decode cX12_map 119 = .ok (.invokevirtual 70, 3) := by decide +kernel
theorem dX12_map_122 : decode cX12_map 122 = .ok (.bipush 59, 2) := by decide +kernel
theorem dX12_map_124 : decode cX12_map 124 = .ok (.if_icmp .ne 23, 3) := by decide +kernel
theorem dX12_map_127 : decode cX12_map 127 = .ok (.aload_n 0, 1) := by decide +kernel
theorem dX12_map_128 : decode cX12_map 128 = .ok (.dup, 1) := by decide +kernel
theorem dX12_map_129 : decode cX12_map 129 = .ok (.getfield 60, 3) := by decide +kernel
theorem dX12_map_132 : decode cX12_map 132 = .ok (.iconst 1, 1) := by decide +kernel
theorem dX12_map_133 : decode cX12_map 133 = .ok (.iadd, 1) := by decide +kernel
theorem dX12_map_134 : decode cX12_map 134 = .ok (.putfield 60, 3) := by decide +kernel
theorem dX12_map_137 : decode cX12_map 137 = .ok (.aload_n 0, 1) := by decide +kernel
theorem dX12_map_138 : decode cX12_map 138 = .ok (.invokevirtual 135, 3) := by decide +kernel
theorem dX12_map_141 : decode cX12_map 141 = .ok (.iinc 1 1, 3) := by decide +kernel
theorem dX12_map_144 : decode cX12_map 144 = .ok (.goto (-39), 3) := by decide +kernel
theorem dX12_map_147 : decode cX12_map 147 = .ok (.aload_n 0, 1) := by decide +kernel
theorem dX12_map_148 : decode cX12_map 148 = .ok (.getfield 66, 3) := by decide +kernel
theorem dX12_map_151 : decode cX12_map 151 = .ok (.ifCond .ne 14, 3) := by decide +kernel
theorem dX12_map_154 : decode cX12_map 154 = .ok (.aload_n 0, 1) := by decide +kernel
theorem dX12_map_155 : decode cX12_map 155 = .ok (.getfield 60, 3) := by decide +kernel
theorem dX12_map_158 : decode cX12_map 158 = .ok (.aload_n 0, 1) := by decide +kernel
theorem dX12_map_159 : decode cX12_map 159 = .ok (.getfield 63, 3) := by decide +kernel
theorem dX12_map_162 : decode cX12_map 162 = .ok (.if_icmp .eq 11, 3) := by decide +kernel
theorem dX12_map_165 : decode cX12_map 165 = .ok (.bipush (-10), 2) := by decide +kernel
theorem dX12_map_167 : decode cX12_map 167 = .ok (.aload_n 0, 1) := by decide +kernel
theorem dX12_map_168 : decode cX12_map 168 = .ok (.getfield 60, 3) := by decide +kernel
theorem dX12_map_171 : decode cX12_map 171 = .ok (.isub, 1) := by decide +kernel
theorem dX12_map_172 : decode cX12_map 172 = .ok (.ireturn, 1) := by decide +kernel
theorem dX12_map_173 : decode cX12_map 173 = .ok (.aload_n 0, 1) := by decide +kernel
theorem dX12_map_174 : decode cX12_map 174 = .ok (.getfield 9, 3) := by decide +kernel
theorem dX12_map_177 : decode cX12_map 177 = .ok (.iconst 1, 1) := by decide +kernel
theorem dX12_map_178 : decode cX12_map 178 = .ok (.dup2, 1) := by decide +kernel
theorem dX12_map_179 : decode cX12_map 179 = .ok (.iaload, 1) := by decide +kernel
theorem dX12_map_180 : decode cX12_map 180 = .ok (.iconst 1, 1) := by decide +kernel
theorem dX12_map_181 : decode cX12_map 181 = .ok (.iadd, 1) := by decide +kernel
theorem dX12_map_182 : decode cX12_map 182 = .ok (.iastore, 1) := by decide +kernel
theorem dX12_map_183 : decode cX12_map 183 = .ok (.aload_n 0, 1) := by decide +kernel
theorem dX12_map_184 : decode cX12_map 184 = .ok (.getfield 9, 3) := by decide +kernel
theorem dX12_map_187 : decode cX12_map 187 = .ok (.bipush 6, 2) := by decide +kernel
theorem dX12_map_189 : decode cX12_map 189 = .ok (.aload_n 0, 1) := by decide +kernel
theorem dX12_map_190 : decode cX12_map 190 = .ok (.getfield 87, 3) := by decide +kernel
theorem dX12_map_193 : decode cX12_map 193 = .ok (.iastore, 1) := by decide +kernel
theorem dX12_map_194 : decode cX12_map 194 = .ok (.aload_n 0, 1) := by decide +kernel
theorem dX12_map_195 : decode cX12_map 195 = .ok (.getfield 87, 3) := by decide +kernel
theorem dX12_map_198 : decode cX12_map 198 = .ok (.ireturn, 1) := by decide +kernel
theorem dX12_tellsOf_0 : decode cX12_tellsOf 0 = .ok (.aload_n 0, 1) := by decide +kernel
theorem dX12_tellsOf_1 : decode cX12_tellsOf 1 = .ok (.getfield 9, 3) := by decide +kernel
theorem dX12_tellsOf_4 : decode cX12_tellsOf 4 = .ok (.bipush 6, 2) := by decide +kernel
theorem dX12_tellsOf_6 : decode cX12_tellsOf 6 = .ok (.iaload, 1) := by decide +kernel
theorem dX12_tellsOf_7 : decode cX12_tellsOf 7 = .ok (.iconst (-1), 1) := by decide +kernel
theorem dX12_tellsOf_8 : decode cX12_tellsOf 8 = .ok (.if_icmp .ne 7, 3) := by decide +kernel
theorem dX12_tellsOf_11 : decode cX12_tellsOf 11 = .ok (.iload_n 2, 1) := by decide +kernel
theorem dX12_tellsOf_12 : decode cX12_tellsOf 12 = .ok (.goto 17, 3) := by decide +kernel
theorem dX12_tellsOf_15 : decode cX12_tellsOf 15 = .ok (.aload_n 0, 1) := by decide +kernel
theorem dX12_tellsOf_16 : decode cX12_tellsOf 16 = .ok (.getfield 9, 3) := by decide +kernel
theorem dX12_tellsOf_19 : decode cX12_tellsOf 19 = .ok (.iload_n 1, 1) := by decide +kernel
theorem dX12_tellsOf_20 : decode cX12_tellsOf 20 = .ok (.aload_n 0, 1) := by decide +kernel
theorem dX12_tellsOf_21 : decode cX12_tellsOf 21 = .ok (.getfield 9, 3) := by decide +kernel
theorem dX12_tellsOf_24 : decode cX12_tellsOf 24 = .ok (.bipush 6, 2) := by decide +kernel
theorem dX12_tellsOf_26 : decode cX12_tellsOf 26 = .ok (.iaload, 1) := by decide +kernel
theorem dX12_tellsOf_27 : decode cX12_tellsOf 27 = .ok (.iadd, 1) := by decide +kernel
theorem dX12_tellsOf_28 : decode cX12_tellsOf 28 = .ok (.iaload, 1) := by decide +kernel
theorem dX12_tellsOf_29 : decode cX12_tellsOf 29 = .ok (.ireturn, 1) := by decide +kernel
theorem dX12_wideNow_0 : decode cX12_wideNow 0 = .ok (.aload_n 0, 1) := by decide +kernel
theorem dX12_wideNow_1 : decode cX12_wideNow 1 = .ok (.sipush 224, 3) := by decide +kernel
theorem dX12_wideNow_4 : decode cX12_wideNow 4 = .ok (.bipush 24, 2) := by decide +kernel
theorem dX12_wideNow_6 : decode cX12_wideNow 6 = .ok (.invokevirtual 138, 3) := by decide +kernel
theorem dX12_wideNow_9 : decode cX12_wideNow 9 = .ok (.bipush 10, 2) := by decide +kernel
theorem dX12_wideNow_11 : decode cX12_wideNow 11 = .ok (.bipush 30, 2) := by decide +kernel
theorem dX12_wideNow_13 : decode cX12_wideNow 13 = .ok (.invokestatic 142, 3) := by decide +kernel
theorem dX12_wideNow_16 : decode cX12_wideNow 16 = .ok (.ireturn, 1) := by decide +kernel
theorem dX12_riverNow_0 : decode cX12_riverNow 0 = .ok (.aload_n 0, 1) := by decide +kernel
theorem dX12_riverNow_1 : decode cX12_riverNow 1 = .ok (.sipush 229, 3) := by decide +kernel
theorem dX12_riverNow_4 : decode cX12_riverNow 4 = .ok (.bipush 99, 2) := by decide +kernel
theorem dX12_riverNow_6 : decode cX12_riverNow 6 = .ok (.invokevirtual 138, 3) := by decide +kernel
theorem dX12_riverNow_9 : decode cX12_riverNow 9 = .ok (.ireturn, 1) := by decide +kernel
theorem dX12_looks_0 : decode cX12_looks 0 = .ok (.aload_n 0, 1) := by decide +kernel
theorem dX12_looks_1 : decode cX12_looks 1 = .ok (.getfield 18, 3) := by decide +kernel
theorem dX12_looks_4 : decode cX12_looks 4 = .ok (.iconst 0, 1) := by decide +kernel
theorem dX12_looks_5 : decode cX12_looks 5 = .ok (.iload_n 1, 1) := by decide +kernel
theorem dX12_looks_6 : decode cX12_looks 6 = .ok (.iastore, 1) := by decide +kernel
theorem dX12_looks_7 : decode cX12_looks 7 = .ok (.aload_n 0, 1) := by decide +kernel
theorem dX12_looks_8 : decode cX12_looks 8 = .ok (.getfield 18, 3) := by decide +kernel
theorem dX12_looks_11 : decode cX12_looks 11 = .ok (.iconst 1, 1) := by decide +kernel
theorem dX12_looks_12 : decode cX12_looks 12 = .ok (.aload_n 0, 1) := by decide +kernel
theorem dX12_looks_13 : decode cX12_looks 13 = .ok (.getfield 9, 3) := by decide +kernel
theorem dX12_looks_16 : decode cX12_looks 16 = .ok (.bipush 7, 2) := by decide +kernel
theorem dX12_looks_18 : decode cX12_looks 18 = .ok (.iload_n 1, 1) := by decide +kernel
theorem dX12_looks_19 : decode cX12_looks 19 = .ok (.iadd, 1) := by decide +kernel
theorem dX12_looks_20 : decode cX12_looks 20 = .ok (.iaload, 1) := by decide +kernel
theorem dX12_looks_21 : decode cX12_looks 21 = .ok (.iastore, 1) := by decide +kernel
theorem dX12_looks_22 : decode cX12_looks 22 = .ok (.aload_n 0, 1) := by decide +kernel
theorem dX12_looks_23 : decode cX12_looks 23 = .ok (.getfield 18, 3) := by decide +kernel
theorem dX12_looks_26 : decode cX12_looks 26 = .ok (.iconst 2, 1) := by decide +kernel
theorem dX12_looks_27 : decode cX12_looks 27 = .ok (.aload_n 0, 1) := by decide +kernel
theorem dX12_looks_28 : decode cX12_looks 28 = .ok (.getfield 9, 3) := by decide +kernel
theorem dX12_looks_31 : decode cX12_looks 31 = .ok (.bipush 14, 2) := by decide +kernel
theorem dX12_looks_33 : decode cX12_looks 33 = .ok (.iload_n 1, 1) := by decide +kernel
theorem dX12_looks_34 : decode cX12_looks 34 = .ok (.iadd, 1) := by decide +kernel
theorem dX12_looks_35 : decode cX12_looks 35 = .ok (.iaload, 1) := by decide +kernel
theorem dX12_looks_36 : decode cX12_looks 36 = .ok (.iastore, 1) := by decide +kernel
theorem dX12_looks_37 : decode cX12_looks 37 = .ok (.aload_n 0, 1) := by decide +kernel
theorem dX12_looks_38 : decode cX12_looks 38 = .ok (.getfield 18, 3) := by decide +kernel
theorem dX12_looks_41 : decode cX12_looks 41 = .ok (.iconst 3, 1) := by decide +kernel
theorem dX12_looks_42 : decode cX12_looks 42 = .ok (.iload_n 2, 1) := by decide +kernel
theorem dX12_looks_43 : decode cX12_looks 43 = .ok (.iastore, 1) := by decide +kernel
theorem dX12_looks_44 : decode cX12_looks 44 = .ok (.aload_n 0, 1) := by decide +kernel
theorem dX12_looks_45 : decode cX12_looks 45 = .ok (.getfield 18, 3) := by decide +kernel
theorem dX12_looks_48 : decode cX12_looks 48 = .ok (.iconst 4, 1) := by decide +kernel
theorem dX12_looks_49 : decode cX12_looks 49 = .ok (.aload_n 0, 1) := by decide +kernel
theorem dX12_looks_50 : decode cX12_looks 50 = .ok (.getfield 9, 3) := by decide +kernel
theorem dX12_looks_53 : decode cX12_looks 53 = .ok (.bipush 28, 2) := by decide +kernel
theorem dX12_looks_55 : decode cX12_looks 55 = .ok (.iload_n 1, 1) := by decide +kernel
theorem dX12_looks_56 : decode cX12_looks 56 = .ok (.iadd, 1) := by decide +kernel
theorem dX12_looks_57 : decode cX12_looks 57 = .ok (.iaload, 1) := by decide +kernel
theorem dX12_looks_58 : decode cX12_looks 58 = .ok (.iconst 3, 1) := by decide +kernel
theorem dX12_looks_59 : decode cX12_looks 59 = .ok (.idiv, 1) := by decide +kernel
theorem dX12_looks_60 : decode cX12_looks 60 = .ok (.iastore, 1) := by decide +kernel
theorem dX12_looks_61 : decode cX12_looks 61 = .ok (.aload_n 0, 1) := by decide +kernel
theorem dX12_looks_62 : decode cX12_looks 62 = .ok (.getfield 18, 3) := by decide +kernel
theorem dX12_looks_65 : decode cX12_looks 65 = .ok (.iconst 5, 1) := by decide +kernel
theorem dX12_looks_66 : decode cX12_looks 66 = .ok (.aload_n 0, 1) := by decide +kernel
theorem dX12_looks_67 : decode cX12_looks 67 = .ok (.getfield 9, 3) := by decide +kernel
theorem dX12_looks_70 : decode cX12_looks 70 = .ok (.bipush 21, 2) := by decide +kernel
theorem dX12_looks_72 : decode cX12_looks 72 = .ok (.iload_n 1, 1) := by decide +kernel
theorem dX12_looks_73 : decode cX12_looks 73 = .ok (.iadd, 1) := by decide +kernel
theorem dX12_looks_74 : decode cX12_looks 74 = .ok (.iaload, 1) := by decide +kernel
theorem dX12_looks_75 : decode cX12_looks 75 = .ok (.iastore, 1) := by decide +kernel
