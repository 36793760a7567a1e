theorem dX5_init_0 : decode cX5_init 0 = .ok (.aload_n 0, 1) := by decide +kernel
theorem dX5_init_1 : decode cX5_init 1 = .ok (.invokespecial 1, 3) := by decide +kernel
theorem dX5_init_4 : decode cX5_init 4 = .ok (.aload_n 0, 1) := by decide +kernel
theorem dX5_init_5 : decode cX5_init 5 = .ok (.bipush 125, 2) := by decide +kernel
theorem dX5_init_7 : decode cX5_init 7 = .ok (.newarray .int, 2) := by decide +kernel
theorem dX5_init_9 : decode cX5_init 9 = .ok (.putfield 7, 3) := by decide +kernel
theorem dX5_init_12 : decode cX5_init 12 = .ok (.aload_n 0, 1) := by decide +kernel
theorem dX5_init_13 : decode cX5_init 13 = .ok (.bipush 125, 2) := by decide +kernel
theorem dX5_init_15 : decode cX5_init 15 = .ok (.newarray .int, 2) := by decide +kernel
theorem dX5_init_17 : decode cX5_init 17 = .ok (.putfield 13, 3) := by decide +kernel
theorem dX5_init_20 : decode cX5_init 20 = .ok (.aload_n 0, 1) := by decide +kernel
theorem dX5_init_21 : decode cX5_init 21 = .ok (.sipush 625, 3) := by decide +kernel
theorem dX5_init_24 : decode cX5_init 24 = .ok (.newarray .int, 2) := by decide +kernel
theorem dX5_init_26 : decode cX5_init 26 = .ok (.putfield 16, 3) := by decide +kernel
theorem dX5_init_29 : decode cX5_init 29 = .ok (.aload_n 0, 1) := by decide +kernel
theorem dX5_init_30 : decode cX5_init 30 = .ok (.iconst 3, 1) := by decide +kernel
theorem dX5_init_31 : decode cX5_init 31 = .ok (.newarray .int, 2) := by decide +kernel
theorem dX5_init_33 : decode cX5_init 33 = .ok (.putfield 19, 3) := by decide +kernel
theorem dX5_init_36 : decode cX5_init 36 = .ok (.aload_n 0, 1) := by decide +kernel
theorem dX5_init_37 : decode cX5_init 37 = .ok (.sipush 150, 3) := by decide +kernel
theorem dX5_init_40 : decode cX5_init 40 = .ok (.newarray .int, 2) := by decide +kernel
theorem dX5_init_42 : decode cX5_init 42 = .ok (.putfield 22, 3) := by decide +kernel
theorem dX5_init_45 : decode cX5_init 45 = .ok (.aload_n 0, 1) := by decide +kernel
theorem dX5_init_46 : decode cX5_init 46 = .ok (.bipush 48, 2) := by decide +kernel
theorem dX5_init_48 : decode cX5_init 48 = .ok (.newarray .int, 2) := by decide +kernel
theorem dX5_init_50 : decode cX5_init 50 = .ok (.putfield 25, 3) := by decide +kernel
theorem dX5_init_53 : decode cX5_init 53 = .ok (.aload_n 0, 1) := by decide +kernel
theorem dX5_init_54 : decode cX5_init 54 = .ok (.bipush 12, 2) := by decide +kernel
theorem dX5_init_56 : decode cX5_init 56 = .ok (.newarray .int, 2) := by decide +kernel
theorem dX5_init_58 : decode cX5_init 58 = .ok (.putfield 28, 3) := by decide +kernel
theorem dX5_init_61 : decode cX5_init 61 = .ok (.aload_n 0, 1) := by decide +kernel
theorem dX5_init_62 : decode cX5_init 62 = .ok (.bipush 48, 2) := by decide +kernel
theorem dX5_init_64 : decode cX5_init 64 = .ok (.newarray .int, 2) := by decide +kernel
theorem dX5_init_66 : decode cX5_init 66 = .ok (.putfield 31, 3) := by decide +kernel
theorem dX5_init_69 : decode cX5_init 69 = .ok (.aload_n 0, 1) := by decide +kernel
theorem dX5_init_70 : decode cX5_init 70 = .ok (.bipush 48, 2) := by decide +kernel
theorem dX5_init_72 : decode cX5_init 72 = .ok (.newarray .int, 2) := by decide +kernel
theorem dX5_init_74 : decode cX5_init 74 = .ok (.putfield 34, 3) := by decide +kernel
theorem dX5_init_77 : decode cX5_init 77 = .ok (.aload_n 0, 1) := by decide +kernel
theorem dX5_init_78 : decode cX5_init 78 = .ok (.bipush 48, 2) := by decide +kernel
theorem dX5_init_80 : decode cX5_init 80 = .ok (.newarray .int, 2) := by decide +kernel
theorem dX5_init_82 : decode cX5_init 82 = .ok (.putfield 37, 3) := by decide +kernel
theorem dX5_init_85 : decode cX5_init 85 = .ok (.aload_n 0, 1) := by decide +kernel
theorem dX5_init_86 : decode cX5_init 86 = .ok (.bipush 48, 2) := by decide +kernel
theorem dX5_init_88 : decode cX5_init 88 = .ok (.newarray .int, 2) := by decide +kernel
theorem dX5_init_90 : decode cX5_init 90 = .ok (.putfield 40, 3) := by decide +kernel
theorem dX5_init_93 : decode cX5_init 93 = .ok (.aload_n 0, 1) := by decide +kernel
theorem dX5_init_94 : decode cX5_init 94 = .ok (.bipush 48, 2) := by decide +kernel
theorem dX5_init_96 : decode cX5_init 96 = .ok (.newarray .int, 2) := by decide +kernel
theorem dX5_init_98 : decode cX5_init 98 = .ok (.putfield 43, 3) := by decide +kernel
theorem dX5_init_101 : decode cX5_init 101 = .ok (.aload_n 0, 1) := by decide +kernel
theorem dX5_init_102 : decode cX5_init 102 = .ok (.bipush 48, 2) := by decide +kernel
theorem dX5_init_104 : decode cX5_init 104 = .ok (.newarray .int, 2) := by decide +kernel
theorem dX5_init_106 : decode cX5_init 106 = .ok (.putfield 46, 3) := by decide +kernel
theorem dX5_init_109 : decode cX5_init 109 = .ok (.aload_n 0, 1) := by decide +kernel
theorem dX5_init_110 : decode cX5_init 110 = .ok (.bipush 51, 2) := by decide +kernel
theorem dX5_init_112 : decode cX5_init 112 = .ok (.newarray .int, 2) := by decide +kernel
theorem dX5_init_114 : decode cX5_init 114 = .ok (.putfield 49, 3) := by decide +kernel
theorem dX5_init_117 : decode cX5_init 117 = .ok (.aload_n 0, 1) := by decide +kernel
theorem dX5_init_118 : decode cX5_init 118 = .ok (.sipush 153, 3) := by decide +kernel
theorem dX5_init_121 : decode cX5_init 121 = .ok (.newarray .int, 2) := by decide +kernel
theorem dX5_init_123 : decode cX5_init 123 = .ok (.putfield 52, 3) := by decide +kernel
theorem dX5_init_126 : decode cX5_init 126 = .ok (.aload_n 0, 1) := by decide +kernel
theorem dX5_init_127 : decode cX5_init 127 = .ok (.getfield 7, 3) := by decide +kernel
theorem dX5_init_130 : decode cX5_init 130 = .ok (.iconst 0, 1) := by decide +kernel
theorem dX5_init_131 : decode cX5_init 131 = .ok (.iconst 3, 1) := by decide +kernel
theorem dX5_init_132 : decode cX5_init 132 = .ok (.iastore, 1) := by decide +kernel
theorem dX5_init_133 : decode cX5_init 133 = .ok (.aload_n 0, 1) := by decide +kernel
theorem dX5_init_134 : decode cX5_init 134 = .ok (.getfield 7, 3) := by decide +kernel
theorem dX5_init_137 : decode cX5_init 137 = .ok (.iconst 1, 1) := by decide +kernel
theorem dX5_init_138 : decode cX5_init 138 = .ok (.iconst 4, 1) := by decide +kernel
theorem dX5_init_139 : decode cX5_init 139 = .ok (.iastore, 1) := by decide +kernel
theorem dX5_init_140 : decode cX5_init 140 = .ok (.return_, 1) := by decide +kernel
theorem dX5_bad_0 : decode cX5_bad 0 = .ok (.aload_n 0, 1) := by decide +kernel
theorem dX5_bad_1 : decode cX5_bad 1 = .ok (.getfield 19, 3) := by decide +kernel
theorem dX5_bad_4 : decode cX5_bad 4 = .ok (.iconst 0, 1) := by decide +kernel
theorem dX5_bad_5 : decode cX5_bad 5 = .ok (.dup2, 1) := by decide +kernel
theorem dX5_bad_6 : decode cX5_bad 6 = .ok (.iaload, 1) := by decide +kernel
theorem dX5_bad_7 : decode cX5_bad 7 = .ok (.iconst 1, 1) := by decide +kernel
theorem dX5_bad_8 : decode cX5_bad 8 = .ok (.iadd, 1) := by decide +kernel
theorem dX5_bad_9 : decode cX5_bad 9 = .ok (.iastore, 1) := by decide +kernel
theorem dX5_bad_10 : decode cX5_bad 10 = .ok (.bipush (-2), 2) := by decide +kernel
theorem dX5_bad_12 : decode cX5_bad 12 = .ok (.ireturn, 1) := by decide +kernel
theorem dX5_no_0 : decode cX5_no 0 = .ok (.aload_n 0, 1) := by decide +kernel
theorem dX5_no_1 : decode cX5_no 1 = .ok (.getfield 19, 3) := by decide +kernel
theorem dX5_no_4 : decode cX5_no 4 = .ok (.iconst 1, 1) := by decide +kernel
theorem dX5_no_5 : decode cX5_no 5 = .ok (.dup2, 1) := by decide +kernel
theorem dX5_no_6 : decode cX5_no 6 = .ok (.iaload, 1) := by decide +kernel
theorem dX5_no_7 : decode cX5_no 7 = .ok (.iconst 1, 1) := by decide +kernel
theorem dX5_no_8 : decode cX5_no 8 = .ok (.iadd, 1) := by decide +kernel
theorem dX5_no_9 : decode cX5_no 9 = .ok (.iastore, 1) := by decide +kernel
theorem dX5_no_10 : decode cX5_no 10 = .ok (.bipush (-3), 2) := by decide +kernel
theorem dX5_no_12 : decode cX5_no 12 = .ok (.ireturn, 1) := by decide +kernel
theorem dX5_full_0 : decode cX5_full 0 = .ok (.aload_n 0, 1) := by decide +kernel
theorem dX5_full_1 : decode cX5_full 1 = .ok (.getfield 19, 3) := by decide +kernel
theorem dX5_full_4 : decode cX5_full 4 = .ok (.iconst 2, 1) := by decide +kernel
theorem dX5_full_5 : decode cX5_full 5 = .ok (.dup2, 1) := by decide +kernel
theorem dX5_full_6 : decode cX5_full 6 = .ok (.iaload, 1) := by decide +kernel
theorem dX5_full_7 : decode cX5_full 7 = .ok (.iconst 1, 1) := by decide +kernel
theorem dX5_full_8 : decode cX5_full 8 = .ok (.iadd, 1) := by decide +kernel
theorem dX5_full_9 : decode cX5_full 9 = .ok (.iastore, 1) := by decide +kernel
theorem dX5_full_10 : decode cX5_full 10 = .ok (.bipush (-4), 2) := by decide +kernel
theorem dX5_full_12 : decode cX5_full 12 = .ok (.ireturn, 1) := by decide +kernel
theorem dX5_within_0 : decode cX5_within 0 = .ok (.iload_n 0, 1) := by decide +kernel
theorem dX5_within_1 : decode cX5_within 1 = .ok (.iload_n 1, 1) := by decide +kernel
theorem dX5_within_2 : decode cX5_within 2 = .ok (.if_icmp .lt 12, 3) := by decide +kernel
theorem dX5_within_5 : decode cX5_within 5 = .ok (.iload_n 0, 1) := by decide +kernel
theorem dX5_within_6 : decode cX5_within 6 = .ok (.iload_n 2, 1) := by decide +kernel
theorem dX5_within_7 : decode cX5_within 7 = .ok (.if_icmp .gt 7, 3) := by decide +kernel
theorem dX5_within_10 : decode cX5_within 10 = .ok (.iconst 1, 1) := by decide +kernel
theorem dX5_within_11 : decode cX5_within 11 = .ok (.goto 4, 3) := by decide +kernel
theorem dX5_within_14 : decode cX5_within 14 = .ok (.iconst 0, 1) := by decide +kernel
theorem dX5_within_15 : decode cX5_within 15 = .ok (.ireturn, 1) := by decide +kernel
theorem dX5_isNode_0 : decode cX5_isNode 0 = .ok (.iload_n 1, 1) := by decide +kernel
theorem dX5_isNode_1 : decode cX5_isNode 1 = .ok (.iconst 0, 1) := by decide +kernel
theorem dX5_isNode_2 : decode cX5_isNode 2 = .ok (.aload_n 0, 1) := by decide +kernel
theorem dX5_isNode_3 : decode cX5_isNode 3 = .ok (.getfield 7, 3) := by decide +kernel
theorem dX5_isNode_6 : decode cX5_isNode 6 = .ok (.iconst 1, 1) := by decide +kernel
theorem dX5_isNode_7 : decode cX5_isNode 7 = .ok (.iaload, 1) := by decide +kernel
theorem dX5_isNode_8 : decode cX5_isNode 8 = .ok (.iconst 1, 1) := by decide +kernel
theorem dX5_isNode_9 : decode cX5_isNode 9 = .ok (.isub, 1) := by decide +kernel
theorem dX5_isNode_10 : decode cX5_isNode 10 = .ok (.invokestatic 55, 3) := by decide +kernel
theorem dX5_isNode_13 : decode cX5_isNode 13 = .ok (.ireturn, 1) := by decide +kernel
theorem dX5_isGate_0 : decode cX5_isGate 0 = .ok (.aload_n 0, 1) := by decide +kernel
theorem dX5_isGate_1 : decode cX5_isGate 1 = .ok (.iload_n 1, 1) := by decide +kernel
theorem dX5_isGate_2 : decode cX5_isGate 2 = .ok (.invokevirtual 59, 3) := by decide +kernel
theorem dX5_isGate_5 : decode cX5_isGate 5 = .ok (.ifCond .eq 17, 3) := by decide +kernel
theorem dX5_isGate_8 : decode cX5_isGate 8 = .ok (.iload_n 1, 1) := by decide +kernel
theorem dX5_isGate_9 : decode cX5_isGate 9 = .ok (.aload_n 0, 1) := by decide +kernel
theorem dX5_isGate_10 : decode cX5_isGate 10 = .ok (.getfield 7, 3) := by decide +kernel
theorem dX5_isGate_13 : decode cX5_isGate 13 = .ok (.iconst 0, 1) := by decide +kernel
theorem dX5_isGate_14 : decode cX5_isGate 14 = .ok (.iaload, 1) := by decide +kernel
theorem dX5_isGate_15 : decode cX5_isGate 15 = .ok (.if_icmp .le 7, 3) := by decide +kernel
theorem dX5_isGate_18 : decode cX5_isGate 18 = .ok (.iconst 1, 1) := by decide +kernel
theorem dX5_isGate_19 : decode cX5_isGate 19 = .ok (.goto 4, 3) := by decide +kernel
theorem dX5_isGate_22 : decode cX5_isGate 22 = .ok (.iconst 0, 1) := by decide +kernel
theorem dX5_isGate_23 : decode cX5_isGate 23 = .ok (.ireturn, 1) := by decide +kernel
theorem dX5_isLiteral_0 : decode cX5_isLiteral 0 = .ok (.iload_n 1, 1) := by decide +kernel
theorem dX5_isLiteral_1 : decode cX5_isLiteral 1 = .ok (.iconst 0, 1) := by decide +kernel
theorem dX5_isLiteral_2 : decode cX5_isLiteral 2 = .ok (.iconst 2, 1) := by decide +kernel
theorem dX5_isLiteral_3 : decode cX5_isLiteral 3 = .ok (.aload_n 0, 1) := by decide +kernel
theorem dX5_isLiteral_4 : decode cX5_isLiteral 4 = .ok (.getfield 7, 3) := by decide +kernel
theorem dX5_isLiteral_7 : decode cX5_isLiteral 7 = .ok (.iconst 1, 1) := by decide +kernel
theorem dX5_isLiteral_8 : decode cX5_isLiteral 8 = .ok (.iaload, 1) := by decide +kernel
theorem dX5_isLiteral_9 : decode cX5_isLiteral 9 = .ok (.imul, 1) := by decide +kernel
theorem dX5_isLiteral_10 : decode cX5_isLiteral 10 = .ok (.iconst 1, 1) := by decide +kernel
theorem dX5_isLiteral_11 : decode cX5_isLiteral 11 = .ok (.isub, 1) := by decide +kernel
theorem dX5_isLiteral_12 : decode cX5_isLiteral 12 = .ok (.invokestatic 55, 3) := by decide +kernel
theorem dX5_isLiteral_15 : decode cX5_isLiteral 15 = .ok (.ireturn, 1) := by decide +kernel
theorem dX5_rows_0 : decode cX5_rows 0 = .ok (.iconst 1, 1) := by decide +kernel
theorem dX5_rows_1 : decode cX5_rows 1 = .ok (.aload_n 0, 1) := by decide +kernel
theorem dX5_rows_2 : decode cX5_rows 2 = .ok (.getfield 7, 3) := by decide +kernel
theorem dX5_rows_5 : decode cX5_rows 5 = .ok (.iconst 0, 1) := by decide +kernel
theorem dX5_rows_6 : decode cX5_rows 6 = .ok (.iaload, 1) := by decide +kernel
theorem dX5_rows_7 : decode cX5_rows 7 = .ok (.ishl, 1) := by decide +kernel
theorem dX5_rows_8 : decode cX5_rows 8 = .ok (.ireturn, 1) := by decide +kernel
theorem dX5_isSide_0 : decode cX5_isSide 0 = .ok (.iload_n 0, 1) := by decide +kernel
theorem dX5_isSide_1 : decode cX5_isSide 1 = .ok (.ifCond .eq 8, 3) := by decide +kernel
theorem dX5_isSide_4 : decode cX5_isSide 4 = .ok (.iload_n 0, 1) := by decide +kernel
theorem dX5_isSide_5 : decode cX5_isSide 5 = .ok (.iconst 1, 1) := by decide +kernel
theorem dX5_isSide_6 : decode cX5_isSide 6 = .ok (.if_icmp .ne 7, 3) := by decide +kernel
theorem dX5_isSide_9 : decode cX5_isSide 9 = .ok (.iconst 1, 1) := by decide +kernel
theorem dX5_isSide_10 : decode cX5_isSide 10 = .ok (.goto 4, 3) := by decide +kernel
theorem dX5_isSide_13 : decode cX5_isSide 13 = .ok (.iconst 0, 1) := by decide +kernel
theorem dX5_isSide_14 : decode cX5_isSide 14 = .ok (.ireturn, 1) := by decide +kernel
theorem dX5_laysAside_0 : decode cX5_laysAside 0 = .ok (.iconst 0, 1) := by decide +kernel
theorem dX5_laysAside_1 : decode cX5_laysAside 1 = .ok (.istore_n 1, 1) := by decide +kernel
theorem dX5_laysAside_2 : decode cX5_laysAside 2 = .ok (.iload_n 1, 1) := by decide +kernel
theorem dX5_laysAside_3 : decode cX5_laysAside 3 = .ok (.bipush 125, 2) := by decide +kernel
theorem dX5_laysAside_5 : decode cX5_laysAside 5 = .ok (.if_icmp .ge 21, 3) := by decide +kernel
theorem dX5_laysAside_8 : decode cX5_laysAside 8 = .ok (.aload_n 0, 1) := by decide +kernel
theorem dX5_laysAside_9 : decode cX5_laysAside 9 = .ok (.getfield 13, 3) := by decide +kernel
theorem dX5_laysAside_12 : decode cX5_laysAside 12 = .ok (.iload_n 1, 1) := by decide +kernel
theorem dX5_laysAside_13 : decode cX5_laysAside 13 = .ok (.aload_n 0, 1) := by decide +kernel
theorem dX5_laysAside_14 : decode cX5_laysAside 14 = .ok (.getfield 7, 3) := by decide +kernel
theorem dX5_laysAside_17 : decode cX5_laysAside 17 = .ok (.iload_n 1, 1) := by decide +kernel
theorem dX5_laysAside_18 : decode cX5_laysAside 18 = .ok (.iaload, 1) := by decide +kernel
theorem dX5_laysAside_19 : decode cX5_laysAside 19 = .ok (.iastore, 1) := by decide +kernel
theorem dX5_laysAside_20 : decode cX5_laysAside 20 = .ok (.iinc 1 1, 3) := by decide +kernel
theorem dX5_laysAside_23 : decode cX5_laysAside 23 = .ok (.goto (-21), 3) := by decide +kernel
theorem dX5_laysAside_26 : decode cX5_laysAside 26 = .ok (.return_, 1) := by decide +kernel
theorem dX5_leaves_0 : decode cX5_leaves 0 = .ok (.aload_n 0, 1) := by decide +kernel
theorem dX5_leaves_1 : decode cX5_leaves 1 = .ok (.getfield 63, 3) := by decide +kernel
theorem dX5_leaves_4 : decode cX5_leaves 4 = .ok (.iconst 5, 1) := by decide +kernel
theorem dX5_leaves_5 : decode cX5_leaves 5 = .ok (.if_icmp .ne 43, 3) := by decide +kernel
theorem dX5_leaves_8 : decode cX5_leaves 8 = .ok (.iconst 0, 1) := by decide +kernel
theorem dX5_leaves_9 : decode cX5_leaves 9 = .ok (.istore_n 1, 1) := by decide +kernel
theorem dX5_leaves_10 : decode cX5_leaves 10 = .ok (.iload_n 1, 1) := by decide +kernel
theorem dX5_leaves_11 : decode cX5_leaves 11 = .ok (.sipush 500, 3) := by decide +kernel
theorem dX5_leaves_14 : decode cX5_leaves 14 = .ok (.if_icmp .ge 24, 3) := by decide +kernel
theorem dX5_leaves_17 : decode cX5_leaves 17 = .ok (.aload_n 0, 1) := by decide +kernel
theorem dX5_leaves_18 : decode cX5_leaves 18 = .ok (.getfield 16, 3) := by decide +kernel
theorem dX5_leaves_21 : decode cX5_leaves 21 = .ok (.iload_n 1, 1) := by decide +kernel
theorem dX5_leaves_22 : decode cX5_leaves 22 = .ok (.aload_n 0, 1) := by decide +kernel
theorem dX5_leaves_23 : decode cX5_leaves 23 = .ok (.getfield 16, 3) := by decide +kernel
theorem dX5_leaves_26 : decode cX5_leaves 26 = .ok (.iload_n 1, 1) := by decide +kernel
theorem dX5_leaves_27 : decode cX5_leaves 27 = .ok (.bipush 125, 2) := by decide +kernel
theorem dX5_leaves_29 : decode cX5_leaves 29 = .ok (.iadd, 1) := by decide +kernel
theorem dX5_leaves_30 : decode cX5_leaves 30 = .ok (.iaload, 1) := by decide +kernel
theorem dX5_leaves_31 : decode cX5_leaves 31 = .ok (.iastore, 1) := by decide +kernel
theorem dX5_leaves_32 : decode cX5_leaves 32 = .ok (.iinc 1 1, 3) := by decide +kernel
theorem dX5_leaves_35 : decode cX5_leaves 35 = .ok (.goto (-25), 3) := by decide +kernel
theorem dX5_leaves_38 : decode cX5_leaves 38 = .ok (.aload_n 0, 1) := by decide +kernel
theorem dX5_leaves_39 : decode cX5_leaves 39 = .ok (.dup, 1) := by decide +kernel
theorem dX5_leaves_40 : decode cX5_leaves 40 = .ok (.getfield 63, 3) := by decide +kernel
theorem dX5_leaves_43 : decode cX5_leaves 43 = .ok (.iconst 1, 1) := by decide +kernel
theorem dX5_leaves_44 : decode cX5_leaves 44 = .ok (.isub, 1) := by decide +kernel
theorem dX5_leaves_45 : decode cX5_leaves 45 = .ok (.putfield 63, 3) := by decide +kernel
theorem dX5_leaves_48 : decode cX5_leaves 48 = .ok (.iconst 0, 1) := by decide +kernel
theorem dX5_leaves_49 : decode cX5_leaves 49 = .ok (.istore_n 1, 1) := by decide +kernel
theorem dX5_leaves_50 : decode cX5_leaves 50 = .ok (.iload_n 1, 1) := by decide +kernel
theorem dX5_leaves_51 : decode cX5_leaves 51 = .ok (.bipush 125, 2) := by decide +kernel
theorem dX5_leaves_53 : decode cX5_leaves 53 = .ok (.if_icmp .ge 29, 3) := by decide +kernel
theorem dX5_leaves_56 : decode cX5_leaves 56 = .ok (.aload_n 0, 1) := by decide +kernel
theorem dX5_leaves_57 : decode cX5_leaves 57 = .ok (.getfield 16, 3) := by decide +kernel
theorem dX5_leaves_60 : decode cX5_leaves 60 = .ok (.bipush 125, 2) := by decide +kernel
theorem dX5_leaves_62 : decode cX5_leaves 62 = .ok (.aload_n 0, 1) := by decide +kernel
theorem dX5_leaves_63 : decode cX5_leaves 63 = .ok (.getfield 63, 3) := by decide +kernel
theorem dX5_leaves_66 : decode cX5_leaves 66 = .ok (.imul, 1) := by decide +kernel
theorem dX5_leaves_67 : decode cX5_leaves 67 = .ok (.iload_n 1, 1) := by decide +kernel
theorem dX5_leaves_68 : decode cX5_leaves 68 = .ok (.iadd, 1) := by decide +kernel
theorem dX5_leaves_69 : decode cX5_leaves 69 = .ok (.aload_n 0, 1) := by decide +kernel
theorem dX5_leaves_70 : decode cX5_leaves 70 = .ok (.getfield 13, 3) := by decide +kernel
theorem dX5_leaves_73 : decode cX5_leaves 73 = .ok (.iload_n 1, 1) := by decide +kernel
theorem dX5_leaves_74 : decode cX5_leaves 74 = .ok (.iaload, 1) := by decide +kernel
theorem dX5_leaves_75 : decode cX5_leaves 75 = .ok (.iastore, 1) := by decide +kernel
theorem dX5_leaves_76 : decode cX5_leaves 76 = .ok (.iinc 1 1, 3) := by decide +kernel
theorem dX5_leaves_79 : decode cX5_leaves 79 = .ok (.goto (-29), 3) := by decide +kernel
theorem dX5_leaves_82 : decode cX5_leaves 82 = .ok (.aload_n 0, 1) := by decide +kernel
theorem dX5_leaves_83 : decode cX5_leaves 83 = .ok (.dup, 1) := by decide +kernel
theorem dX5_leaves_84 : decode cX5_leaves 84 = .ok (.getfield 63, 3) := by decide +kernel
theorem dX5_leaves_87 : decode cX5_leaves 87 = .ok (.iconst 1, 1) := by decide +kernel
theorem dX5_leaves_88 : decode cX5_leaves 88 = .ok (.iadd, 1) := by decide +kernel
theorem dX5_leaves_89 : decode cX5_leaves 89 = .ok (.putfield 63, 3) := by decide +kernel
theorem dX5_leaves_92 : decode cX5_leaves 92 = .ok (.return_, 1) := by decide +kernel
theorem dX5_back_0 : decode cX5_back 0 = .ok (.aload_n 0, 1) := by decide +kernel
theorem dX5_back_1 : decode cX5_back 1 = .ok (.getfield 63, 3) := by decide +kernel
theorem dX5_back_4 : decode cX5_back 4 = .ok (.ifCond .ne 8, 3) := by decide +kernel
theorem dX5_back_7 : decode cX5_back 7 = .ok (.aload_n 0, 1) := by decide +kernel
theorem dX5_back_8 : decode cX5_back 8 = .ok (.invokevirtual 67, 3) := by decide +kernel
theorem dX5_back_11 : decode cX5_back 11 = .ok (.ireturn, 1) := by decide +kernel
theorem dX5_back_12 : decode cX5_back 12 = .ok (.aload_n 0, 1) := by decide +kernel
theorem dX5_back_13 : decode cX5_back 13 = .ok (.dup, 1) := by decide +kernel
theorem dX5_back_14 : decode cX5_back 14 = .ok (.getfield 63, 3) := by decide +kernel
theorem dX5_back_17 : decode cX5_back 17 = .ok (.iconst 1, 1) := by decide +kernel
theorem dX5_back_18 : decode cX5_back 18 = .ok (.isub, 1) := by decide +kernel
theorem dX5_back_19 : decode cX5_back 19 = .ok (.putfield 63, 3) := by decide +kernel
theorem dX5_back_22 : decode cX5_back 22 = .ok (.iconst 0, 1) := by decide +kernel
theorem dX5_back_23 : decode cX5_back 23 = .ok (.istore_n 1, 1) := by decide +kernel
theorem dX5_back_24 : decode cX5_back 24 = .ok (.iload_n 1, 1) := by decide +kernel
theorem dX5_back_25 : decode cX5_back 25 = .ok (.bipush 125, 2) := by decide +kernel
theorem dX5_back_27 : decode cX5_back 27 = .ok (.if_icmp .ge 29, 3) := by decide +kernel
theorem dX5_back_30 : decode cX5_back 30 = .ok (.aload_n 0, 1) := by decide +kernel
theorem dX5_back_31 : decode cX5_back 31 = .ok (.getfield 7, 3) := by decide +kernel
theorem dX5_back_34 : decode cX5_back 34 = .ok (.iload_n 1, 1) := by decide +kernel
theorem dX5_back_35 : decode cX5_back 35 = .ok (.aload_n 0, 1) := by decide +kernel
theorem dX5_back_36 : decode cX5_back 36 = .ok (.getfield 16, 3) := by decide +kernel
theorem dX5_back_39 : decode cX5_back 39 = .ok (.bipush 125, 2) := by decide +kernel
theorem dX5_back_41 : decode cX5_back 41 = .ok (.aload_n 0, 1) := by decide +kernel
theorem dX5_back_42 : decode cX5_back 42 = .ok (.getfield 63, 3) := by decide +kernel
theorem dX5_back_45 : decode cX5_back 45 = .ok (.imul, 1) := by decide +kernel
theorem dX5_back_46 : decode cX5_back 46 = .ok (.iload_n 1, 1) := by decide +kernel
theorem dX5_back_47 : decode cX5_back 47 = .ok (.iadd, 1) := by decide +kernel
theorem dX5_back_48 : decode cX5_back 48 = .ok (.iaload, 1) := by decide +kernel
theorem dX5_back_49 : decode cX5_back 49 = .ok (.iastore, 1) := by decide +kernel
theorem dX5_back_50 : decode cX5_back 50 = .ok (.iinc 1 1, 3) := by decide +kernel
theorem dX5_back_53 : decode cX5_back 53 = .ok (.goto (-29), 3) := by decide +kernel
theorem dX5_back_56 : decode cX5_back 56 = .ok (.aload_n 0, 1) := by decide +kernel
theorem dX5_back_57 : decode cX5_back 57 = .ok (.getfield 63, 3) := by decide +kernel
theorem dX5_back_60 : decode cX5_back 60 = .ok (.ireturn, 1) := by decide +kernel
theorem dX5_answers_0 : decode cX5_answers 0 = .ok (.iload_n 1, 1) := by decide +kernel
theorem dX5_answers_1 : decode cX5_answers 1 = .ok (.ifCond .lt 9, 3) := by decide +kernel
theorem dX5_answers_4 : decode cX5_answers 4 = .ok (.aload_n 0, 1) := by decide +kernel
theorem dX5_answers_5 : decode cX5_answers 5 = .ok (.invokevirtual 71, 3) := by decide +kernel
theorem dX5_answers_8 : decode cX5_answers 8 = .ok (.iload_n 1, 1) := by decide +kernel
theorem dX5_answers_9 : decode cX5_answers 9 = .ok (.ireturn, 1) := by decide +kernel
theorem dX5_answers_10 : decode cX5_answers 10 = .ok (.iload_n 1, 1) := by decide +kernel
theorem dX5_answers_11 : decode cX5_answers 11 = .ok (.bipush (-4), 2) := by decide +kernel
theorem dX5_answers_13 : decode cX5_answers 13 = .ok (.if_icmp .ne 10, 3) := by decide +kernel
theorem dX5_answers_16 : decode cX5_answers 16 = .ok (.aload_n 0, 1) := by decide +kernel
theorem dX5_answers_17 : decode cX5_answers 17 = .ok (.invokevirtual 74, 3) := by decide +kernel
theorem dX5_answers_20 : decode cX5_answers 20 = .ok (.goto 7, 3) := by decide +kernel
theorem dX5_answers_23 : decode cX5_answers 23 = .ok (.aload_n 0, 1) := by decide +kernel
theorem dX5_answers_24 : decode cX5_answers 24 = .ok (.invokevirtual 77, 3) := by decide +kernel
theorem dX5_answers_27 : decode cX5_answers 27 = .ok (.ireturn, 1) := by decide +kernel
theorem dX5_begins_0 : decode cX5_begins 0 = .ok (.iload_n 1, 1) := by decide +kernel
theorem dX5_begins_1 : decode cX5_begins 1 = .ok (.iconst 1, 1) := by decide +kernel
theorem dX5_begins_2 : decode cX5_begins 2 = .ok (.iconst 5, 1) := by decide +kernel
theorem dX5_begins_3 : decode cX5_begins 3 = .ok (.invokestatic 55, 3) := by decide +kernel
theorem dX5_begins_6 : decode cX5_begins 6 = .ok (.ifCond .ne 6, 3) := by decide +kernel
theorem dX5_begins_9 : decode cX5_begins 9 = .ok (.bipush (-2), 2) := by decide +kernel
theorem dX5_begins_11 : decode cX5_begins 11 = .ok (.ireturn, 1) := by decide +kernel
theorem dX5_begins_12 : decode cX5_begins 12 = .ok (.aload_n 0, 1) := by decide +kernel
theorem dX5_begins_13 : decode cX5_begins 13 = .ok (.getfield 7, 3) := by decide +kernel
theorem dX5_begins_16 : decode cX5_begins 16 = .ok (.iconst 0, 1) := by decide +kernel
theorem dX5_begins_17 : decode cX5_begins 17 = .ok (.iaload, 1) := by decide +kernel
theorem dX5_begins_18 : decode cX5_begins 18 = .ok (.istore_n 2, 1) := by decide +kernel
theorem dX5_begins_19 : decode cX5_begins 19 = .ok (.iconst 0, 1) := by decide +kernel
theorem dX5_begins_20 : decode cX5_begins 20 = .ok (.istore_n 3, 1) := by decide +kernel
theorem dX5_begins_21 : decode cX5_begins 21 = .ok (.iload_n 3, 1) := by decide +kernel
theorem dX5_begins_22 : decode cX5_begins 22 = .ok (.bipush 125, 2) := by decide +kernel
theorem dX5_begins_24 : decode cX5_begins 24 = .ok (.if_icmp .ge 16, 3) := by decide +kernel
theorem dX5_begins_27 : decode cX5_begins 27 = .ok (.aload_n 0, 1) := by decide +kernel
theorem dX5_begins_28 : decode cX5_begins 28 = .ok (.getfield 7, 3) := by decide +kernel
theorem dX5_begins_31 : decode cX5_begins 31 = .ok (.iload_n 3, 1) := by decide +kernel
theorem dX5_begins_32 : decode cX5_begins 32 = .ok (.iconst 0, 1) := by decide +kernel
theorem dX5_begins_33 : decode cX5_begins 33 = .ok (.iastore, 1) := by decide +kernel
theorem dX5_begins_34 : decode cX5_begins 34 = .ok (.iinc 3 1, 3) := by decide +kernel
theorem dX5_begins_37 : decode cX5_begins 37 = .ok (.goto (-16), 3) := by decide +kernel
theorem dX5_begins_40 : decode cX5_begins 40 = .ok (.aload_n 0, 1) := by decide +kernel
theorem dX5_begins_41 : decode cX5_begins 41 = .ok (.getfield 7, 3) := by decide +kernel
theorem dX5_begins_44 : decode cX5_begins 44 = .ok (.iconst 0, 1) := by decide +kernel
theorem dX5_begins_45 : decode cX5_begins 45 = .ok (.iload_n 1, 1) := by decide +kernel
theorem dX5_begins_46 : decode cX5_begins 46 = .ok (.iastore, 1) := by decide +kernel
theorem dX5_begins_47 : decode cX5_begins 47 = .ok (.aload_n 0, 1) := by decide +kernel
theorem dX5_begins_48 : decode cX5_begins 48 = .ok (.getfield 7, 3) := by decide +kernel
theorem dX5_begins_51 : decode cX5_begins 51 = .ok (.iconst 1, 1) := by decide +kernel
theorem dX5_begins_52 : decode cX5_begins 52 = .ok (.iload_n 1, 1) := by decide +kernel
theorem dX5_begins_53 : decode cX5_begins 53 = .ok (.iconst 1, 1) := by decide +kernel
theorem dX5_begins_54 : decode cX5_begins 54 = .ok (.iadd, 1) := by decide +kernel
theorem dX5_begins_55 : decode cX5_begins 55 = .ok (.iastore, 1) := by decide +kernel
theorem dX5_begins_56 : decode cX5_begins 56 = .ok (.iload_n 2, 1) := by decide +kernel
theorem dX5_begins_57 : decode cX5_begins 57 = .ok (.ireturn, 1) := by decide +kernel
theorem dX5_adds_0 : decode cX5_adds 0 = .ok (.aload_n 0, 1) := by decide +kernel
theorem dX5_adds_1 : decode cX5_adds 1 = .ok (.getfield 7, 3) := by decide +kernel
theorem dX5_adds_4 : decode cX5_adds 4 = .ok (.iconst 2, 1) := by decide +kernel
theorem dX5_adds_5 : decode cX5_adds 5 = .ok (.aload_n 0, 1) := by decide +kernel
theorem dX5_adds_6 : decode cX5_adds 6 = .ok (.getfield 7, 3) := by decide +kernel
theorem dX5_adds_9 : decode cX5_adds 9 = .ok (.iconst 1, 1) := by decide +kernel
theorem dX5_adds_10 : decode cX5_adds 10 = .ok (.iaload, 1) := by decide +kernel
theorem dX5_adds_11 : decode cX5_adds 11 = .ok (.iadd, 1) := by decide +kernel
theorem dX5_adds_12 : decode cX5_adds 12 = .ok (.iload_n 1, 1) := by decide +kernel
theorem dX5_adds_13 : decode cX5_adds 13 = .ok (.iastore, 1) := by decide +kernel
theorem dX5_adds_14 : decode cX5_adds 14 = .ok (.aload_n 0, 1) := by decide +kernel
theorem dX5_adds_15 : decode cX5_adds 15 = .ok (.getfield 7, 3) := by decide +kernel
theorem dX5_adds_18 : decode cX5_adds 18 = .ok (.bipush 50, 2) := by decide +kernel
theorem dX5_adds_20 : decode cX5_adds 20 = .ok (.aload_n 0, 1) := by decide +kernel
theorem dX5_adds_21 : decode cX5_adds 21 = .ok (.getfield 7, 3) := by decide +kernel
theorem dX5_adds_24 : decode cX5_adds 24 = .ok (.iconst 1, 1) := by decide +kernel
theorem dX5_adds_25 : decode cX5_adds 25 = .ok (.iaload, 1) := by decide +kernel
theorem dX5_adds_26 : decode cX5_adds 26 = .ok (.iadd, 1) := by decide +kernel
theorem dX5_adds_27 : decode cX5_adds 27 = .ok (.iload_n 2, 1) := by decide +kernel
theorem dX5_adds_28 : decode cX5_adds 28 = .ok (.iastore, 1) := by decide +kernel
theorem dX5_adds_29 : decode cX5_adds 29 = .ok (.aload_n 0, 1) := by decide +kernel
theorem dX5_adds_30 : decode cX5_adds 30 = .ok (.getfield 7, 3) := by decide +kernel
theorem dX5_adds_33 : decode cX5_adds 33 = .ok (.iconst 1, 1) := by decide +kernel
theorem dX5_adds_34 : decode cX5_adds 34 = .ok (.dup2, 1) := by decide +kernel
theorem dX5_adds_35 : decode cX5_adds 35 = .ok (.iaload, 1) := by decide +kernel
theorem dX5_adds_36 : decode cX5_adds 36 = .ok (.iconst 1, 1) := by decide +kernel
theorem dX5_adds_37 : decode cX5_adds 37 = .ok (.iadd, 1) := by decide +kernel
theorem dX5_adds_38 : decode cX5_adds 38 = .ok (.iastore, 1) := by decide +kernel
theorem dX5_adds_39 : decode cX5_adds 39 = .ok (.iconst 2, 1) := by decide +kernel
theorem dX5_adds_40 : decode cX5_adds 40 = .ok (.aload_n 0, 1) := by decide +kernel
theorem dX5_adds_41 : decode cX5_adds 41 = .ok (.getfield 7, 3) := by decide +kernel
theorem dX5_adds_44 : decode cX5_adds 44 = .ok (.iconst 1, 1) := by decide +kernel
theorem dX5_adds_45 : decode cX5_adds 45 = .ok (.iaload, 1) := by decide +kernel
theorem dX5_adds_46 : decode cX5_adds 46 = .ok (.imul, 1) := by decide +kernel
theorem dX5_adds_47 : decode cX5_adds 47 = .ok (.iconst 2, 1) := by decide +kernel
theorem dX5_adds_48 : decode cX5_adds 48 = .ok (.isub, 1) := by decide +kernel
theorem dX5_adds_49 : decode cX5_adds 49 = .ok (.ireturn, 1) := by decide +kernel
theorem dX5_addsGate_0 : decode cX5_addsGate 0 = .ok (.aload_n 0, 1) := by decide +kernel
theorem dX5_addsGate_1 : decode cX5_addsGate 1 = .ok (.iload_n 1, 1) := by decide +kernel
theorem dX5_addsGate_2 : decode cX5_addsGate 2 = .ok (.invokevirtual 80, 3) := by decide +kernel
theorem dX5_addsGate_5 : decode cX5_addsGate 5 = .ok (.ifCond .eq 11, 3) := by decide +kernel
theorem dX5_addsGate_8 : decode cX5_addsGate 8 = .ok (.aload_n 0, 1) := by decide +kernel
theorem dX5_addsGate_9 : decode cX5_addsGate 9 = .ok (.iload_n 2, 1) := by decide +kernel
theorem dX5_addsGate_10 : decode cX5_addsGate 10 = .ok (.invokevirtual 80, 3) := by decide +kernel
theorem dX5_addsGate_13 : decode cX5_addsGate 13 = .ok (.ifCond .ne 6, 3) := by decide +kernel
theorem dX5_addsGate_16 : decode cX5_addsGate 16 = .ok (.bipush (-2), 2) := by decide +kernel
theorem dX5_addsGate_18 : decode cX5_addsGate 18 = .ok (.ireturn, 1) := by decide +kernel
theorem dX5_addsGate_19 : decode cX5_addsGate 19 = .ok (.aload_n 0, 1) := by decide +kernel
theorem dX5_addsGate_20 : decode cX5_addsGate 20 = .ok (.getfield 7, 3) := by decide +kernel
theorem dX5_addsGate_23 : decode cX5_addsGate 23 = .ok (.iconst 1, 1) := by decide +kernel
theorem dX5_addsGate_24 : decode cX5_addsGate 24 = .ok (.iaload, 1) := by decide +kernel
theorem dX5_addsGate_25 : decode cX5_addsGate 25 = .ok (.bipush 48, 2) := by decide +kernel
theorem dX5_addsGate_27 : decode cX5_addsGate 27 = .ok (.if_icmp .ge 12, 3) := by decide +kernel
theorem dX5_addsGate_30 : decode cX5_addsGate 30 = .ok (.aload_n 0, 1) := by decide +kernel
theorem dX5_addsGate_31 : decode cX5_addsGate 31 = .ok (.iload_n 1, 1) := by decide +kernel
theorem dX5_addsGate_32 : decode cX5_addsGate 32 = .ok (.iload_n 2, 1) := by decide +kernel
theorem dX5_addsGate_33 : decode cX5_addsGate 33 = .ok (.invokevirtual 83, 3) := by decide +kernel
theorem dX5_addsGate_36 : decode cX5_addsGate 36 = .ok (.goto 5, 3) := by decide +kernel
theorem dX5_addsGate_39 : decode cX5_addsGate 39 = .ok (.bipush (-4), 2) := by decide +kernel
theorem dX5_addsGate_41 : decode cX5_addsGate 41 = .ok (.ireturn, 1) := by decide +kernel
theorem dX5_addsThree_0 : decode cX5_addsThree 0 = .ok (.aload_n 0, 1) := by decide +kernel
theorem dX5_addsThree_1 : decode cX5_addsThree 1 = .ok (.getfield 7, 3) := by decide +kernel
theorem dX5_addsThree_4 : decode cX5_addsThree 4 = .ok (.iconst 1, 1) := by decide +kernel
theorem dX5_addsThree_5 : decode cX5_addsThree 5 = .ok (.iaload, 1) := by decide +kernel
theorem dX5_addsThree_6 : decode cX5_addsThree 6 = .ok (.iconst 3, 1) := by decide +kernel
theorem dX5_addsThree_7 : decode cX5_addsThree 7 = .ok (.iadd, 1) := by decide +kernel
theorem dX5_addsThree_8 : decode cX5_addsThree 8 = .ok (.bipush 48, 2) := by decide +kernel
theorem dX5_addsThree_10 : decode cX5_addsThree 10 = .ok (.if_icmp .le 6, 3) := by decide +kernel
theorem dX5_addsThree_13 : decode cX5_addsThree 13 = .ok (.bipush (-4), 2) := by decide +kernel
theorem dX5_addsThree_15 : decode cX5_addsThree 15 = .ok (.ireturn, 1) := by decide +kernel
theorem dX5_addsThree_16 : decode cX5_addsThree 16 = .ok (.aload_n 0, 1) := by decide +kernel
theorem dX5_addsThree_17 : decode cX5_addsThree 17 = .ok (.iload_n 1, 1) := by decide +kernel
theorem dX5_addsThree_18 : decode cX5_addsThree 18 = .ok (.iload_n 2, 1) := by decide +kernel
theorem dX5_addsThree_19 : decode cX5_addsThree 19 = .ok (.invokevirtual 83, 3) := by decide +kernel
theorem dX5_addsThree_22 : decode cX5_addsThree 22 = .ok (.istore 5, 2) := by decide +kernel
theorem dX5_addsThree_24 : decode cX5_addsThree 24 = .ok (.aload_n 0, 1) := by decide +kernel
theorem dX5_addsThree_25 : decode cX5_addsThree 25 = .ok (.iload_n 3, 1) := by decide +kernel
theorem dX5_addsThree_26 : decode cX5_addsThree 26 = .ok (.iload 4, 2) := by decide +kernel
theorem dX5_addsThree_28 : decode cX5_addsThree 28 = .ok (.invokevirtual 83, 3) := by decide +kernel
theorem dX5_addsThree_31 : decode cX5_addsThree 31 = .ok (.istore 6, 2) := by decide +kernel
theorem dX5_addsThree_33 : decode cX5_addsThree 33 = .ok (.aload_n 0, 1) := by decide +kernel
theorem dX5_addsThree_34 : decode cX5_addsThree 34 = .ok (.iload 5, 2) := by decide +kernel
theorem dX5_addsThree_36 : decode cX5_addsThree 36 = .ok (.iconst 1, 1) := by decide +kernel
theorem dX5_addsThree_37 : decode cX5_addsThree 37 = .ok (.iadd, 1) := by decide +kernel
theorem dX5_addsThree_38 : decode cX5_addsThree 38 = .ok (.iload 6, 2) := by decide +kernel
theorem dX5_addsThree_40 : decode cX5_addsThree 40 = .ok (.iconst 1, 1) := by decide +kernel
theorem dX5_addsThree_41 : decode cX5_addsThree 41 = .ok (.iadd, 1) := by decide +kernel
theorem dX5_addsThree_42 : decode cX5_addsThree 42 = .ok (.invokevirtual 83, 3) := by decide +kernel
theorem dX5_addsThree_45 : decode cX5_addsThree 45 = .ok (.iconst 1, 1) := by decide +kernel
theorem dX5_addsThree_46 : decode cX5_addsThree 46 = .ok (.iadd, 1) := by decide +kernel
theorem dX5_addsThree_47 : decode cX5_addsThree 47 = .ok (.ireturn, 1) := by decide +kernel
theorem dX5_turned_0 : decode cX5_turned 0 = .ok (.iload_n 0, 1) := by decide +kernel
theorem dX5_turned_1 : decode cX5_turned 1 = .ok (.iconst 2, 1) := by decide +kernel
theorem dX5_turned_2 : decode cX5_turned 2 = .ok (.irem, 1) := by decide +kernel
theorem dX5_turned_3 : decode cX5_turned 3 = .ok (.ifCond .ne 9, 3) := by decide +kernel
theorem dX5_turned_6 : decode cX5_turned 6 = .ok (.iload_n 0, 1) := by decide +kernel
theorem dX5_turned_7 : decode cX5_turned 7 = .ok (.iconst 1, 1) := by decide +kernel
theorem dX5_turned_8 : decode cX5_turned 8 = .ok (.iadd, 1) := by decide +kernel
theorem dX5_turned_9 : decode cX5_turned 9 = .ok (.goto 6, 3) := by decide +kernel
theorem dX5_turned_12 : decode cX5_turned 12 = .ok (.iload_n 0, 1) := by decide +kernel
theorem dX5_turned_13 : decode cX5_turned 13 = .ok (.iconst 1, 1) := by decide +kernel
theorem dX5_turned_14 : decode cX5_turned 14 = .ok (.isub, 1) := by decide +kernel
theorem dX5_turned_15 : decode cX5_turned 15 = .ok (.ireturn, 1) := by decide +kernel
theorem dX5_addsXor_0 : decode cX5_addsXor 0 = .ok (.aload_n 0, 1) := by decide +kernel
theorem dX5_addsXor_1 : decode cX5_addsXor 1 = .ok (.iload_n 1, 1) := by decide +kernel
theorem dX5_addsXor_2 : decode cX5_addsXor 2 = .ok (.invokevirtual 80, 3) := by decide +kernel
theorem dX5_addsXor_5 : decode cX5_addsXor 5 = .ok (.ifCond .eq 28, 3) := by decide +kernel
theorem dX5_addsXor_8 : decode cX5_addsXor 8 = .ok (.aload_n 0, 1) := by decide +kernel
theorem dX5_addsXor_9 : decode cX5_addsXor 9 = .ok (.iload_n 2, 1) := by decide +kernel
theorem dX5_addsXor_10 : decode cX5_addsXor 10 = .ok (.invokevirtual 80, 3) := by decide +kernel
theorem dX5_addsXor_13 : decode cX5_addsXor 13 = .ok (.ifCond .eq 20, 3) := by decide +kernel
theorem dX5_addsXor_16 : decode cX5_addsXor 16 = .ok (.aload_n 0, 1) := by decide +kernel
theorem dX5_addsXor_17 : decode cX5_addsXor 17 = .ok (.iload_n 1, 1) := by decide +kernel
theorem dX5_addsXor_18 : decode cX5_addsXor 18 = .ok (.iload_n 2, 1) := by decide +kernel
theorem dX5_addsXor_19 : decode cX5_addsXor 19 = .ok (.invokestatic 87, 3) := by decide +kernel
theorem dX5_addsXor_22 : decode cX5_addsXor 22 = .ok (.iload_n 1, 1) := by decide +kernel
theorem dX5_addsXor_23 : decode cX5_addsXor 23 = .ok (.invokestatic 87, 3) := by decide +kernel
theorem dX5_addsXor_26 : decode cX5_addsXor 26 = .ok (.iload_n 2, 1) := by decide +kernel
theorem dX5_addsXor_27 : decode cX5_addsXor 27 = .ok (.invokevirtual 91, 3) := by decide +kernel
theorem dX5_addsXor_30 : decode cX5_addsXor 30 = .ok (.goto 5, 3) := by decide +kernel
theorem dX5_addsXor_33 : decode cX5_addsXor 33 = .ok (.bipush (-2), 2) := by decide +kernel
theorem dX5_addsXor_35 : decode cX5_addsXor 35 = .ok (.ireturn, 1) := by decide +kernel
theorem dX5_addsMux_0 : decode cX5_addsMux 0 = .ok (.aload_n 0, 1) := by decide +kernel
theorem dX5_addsMux_1 : decode cX5_addsMux 1 = .ok (.iload_n 1, 1) := by decide +kernel
theorem dX5_addsMux_2 : decode cX5_addsMux 2 = .ok (.invokevirtual 80, 3) := by decide +kernel
theorem dX5_addsMux_5 : decode cX5_addsMux 5 = .ok (.ifCond .eq 33, 3) := by decide +kernel
theorem dX5_addsMux_8 : decode cX5_addsMux 8 = .ok (.aload_n 0, 1) := by decide +kernel
theorem dX5_addsMux_9 : decode cX5_addsMux 9 = .ok (.iload_n 2, 1) := by decide +kernel
theorem dX5_addsMux_10 : decode cX5_addsMux 10 = .ok (.invokevirtual 80, 3) := by decide +kernel
theorem dX5_addsMux_13 : decode cX5_addsMux 13 = .ok (.ifCond .eq 25, 3) := by decide +kernel
theorem dX5_addsMux_16 : decode cX5_addsMux 16 = .ok (.aload_n 0, 1) := by decide +kernel
theorem dX5_addsMux_17 : decode cX5_addsMux 17 = .ok (.iload_n 3, 1) := by decide +kernel
theorem dX5_addsMux_18 : decode cX5_addsMux 18 = .ok (.invokevirtual 80, 3) := by decide +kernel
theorem dX5_addsMux_21 : decode cX5_addsMux 21 = .ok (.ifCond .eq 17, 3) := by decide +kernel
theorem dX5_addsMux_24 : decode cX5_addsMux 24 = .ok (.aload_n 0, 1) := by decide +kernel
theorem dX5_addsMux_25 : decode cX5_addsMux 25 = .ok (.iload_n 1, 1) := by decide +kernel
theorem dX5_addsMux_26 : decode cX5_addsMux 26 = .ok (.iload_n 2, 1) := by decide +kernel
theorem dX5_addsMux_27 : decode cX5_addsMux 27 = .ok (.iload_n 1, 1) := by decide +kernel
theorem dX5_addsMux_28 : decode cX5_addsMux 28 = .ok (.invokestatic 87, 3) := by decide +kernel
theorem dX5_addsMux_31 : decode cX5_addsMux 31 = .ok (.iload_n 3, 1) := by decide +kernel
theorem dX5_addsMux_32 : decode cX5_addsMux 32 = .ok (.invokevirtual 91, 3) := by decide +kernel
theorem dX5_addsMux_35 : decode cX5_addsMux 35 = .ok (.goto 5, 3) := by decide +kernel
theorem dX5_addsMux_38 : decode cX5_addsMux 38 = .ok (.bipush (-2), 2) := by decide +kernel
theorem dX5_addsMux_40 : decode cX5_addsMux 40 = .ok (.ireturn, 1) := by decide +kernel
theorem dX5_addsOut_0 : decode cX5_addsOut 0 = .ok (.iload_n 1, 1) := by decide +kernel
theorem dX5_addsOut_1 : decode cX5_addsOut 1 = .ok (.invokestatic 95, 3) := by decide +kernel
theorem dX5_addsOut_4 : decode cX5_addsOut 4 = .ok (.ifCond .eq 11, 3) := by decide +kernel
theorem dX5_addsOut_7 : decode cX5_addsOut 7 = .ok (.aload_n 0, 1) := by decide +kernel
theorem dX5_addsOut_8 : decode cX5_addsOut 8 = .ok (.iload_n 2, 1) := by decide +kernel
theorem dX5_addsOut_9 : decode cX5_addsOut 9 = .ok (.invokevirtual 80, 3) := by decide +kernel
theorem dX5_addsOut_12 : decode cX5_addsOut 12 = .ok (.ifCond .ne 6, 3) := by decide +kernel
theorem dX5_addsOut_15 : decode cX5_addsOut 15 = .ok (.bipush (-2), 2) := by decide +kernel
theorem dX5_addsOut_17 : decode cX5_addsOut 17 = .ok (.ireturn, 1) := by decide +kernel
theorem dX5_addsOut_18 : decode cX5_addsOut 18 = .ok (.aload_n 0, 1) := by decide +kernel
theorem dX5_addsOut_19 : decode cX5_addsOut 19 = .ok (.getfield 7, 3) := by decide +kernel
theorem dX5_addsOut_22 : decode cX5_addsOut 22 = .ok (.bipush 98, 2) := by decide +kernel
theorem dX5_addsOut_24 : decode cX5_addsOut 24 = .ok (.iload_n 1, 1) := by decide +kernel
theorem dX5_addsOut_25 : decode cX5_addsOut 25 = .ok (.iadd, 1) := by decide +kernel
theorem dX5_addsOut_26 : decode cX5_addsOut 26 = .ok (.iaload, 1) := by decide +kernel
theorem dX5_addsOut_27 : decode cX5_addsOut 27 = .ok (.istore_n 3, 1) := by decide +kernel
theorem dX5_addsOut_28 : decode cX5_addsOut 28 = .ok (.iload_n 3, 1) := by decide +kernel
theorem dX5_addsOut_29 : decode cX5_addsOut 29 = .ok (.bipush 6, 2) := by decide +kernel
theorem dX5_addsOut_31 : decode cX5_addsOut 31 = .ok (.if_icmp .ne 6, 3) := by decide +kernel
theorem dX5_addsOut_34 : decode cX5_addsOut 34 = .ok (.bipush (-4), 2) := by decide +kernel
theorem dX5_addsOut_36 : decode cX5_addsOut 36 = .ok (.ireturn, 1) := by decide +kernel
theorem dX5_addsOut_37 : decode cX5_addsOut 37 = .ok (.aload_n 0, 1) := by decide +kernel
theorem dX5_addsOut_38 : decode cX5_addsOut 38 = .ok (.getfield 7, 3) := by decide +kernel
theorem dX5_addsOut_41 : decode cX5_addsOut 41 = .ok (.bipush 100, 2) := by decide +kernel
theorem dX5_addsOut_43 : decode cX5_addsOut 43 = .ok (.bipush 6, 2) := by decide +kernel
theorem dX5_addsOut_45 : decode cX5_addsOut 45 = .ok (.iload_n 1, 1) := by decide +kernel
theorem dX5_addsOut_46 : decode cX5_addsOut 46 = .ok (.imul, 1) := by decide +kernel
theorem dX5_addsOut_47 : decode cX5_addsOut 47 = .ok (.iadd, 1) := by decide +kernel
theorem dX5_addsOut_48 : decode cX5_addsOut 48 = .ok (.iload_n 3, 1) := by decide +kernel
theorem dX5_addsOut_49 : decode cX5_addsOut 49 = .ok (.iadd, 1) := by decide +kernel
theorem dX5_addsOut_50 : decode cX5_addsOut 50 = .ok (.iload_n 2, 1) := by decide +kernel
theorem dX5_addsOut_51 : decode cX5_addsOut 51 = .ok (.iastore, 1) := by decide +kernel
theorem dX5_addsOut_52 : decode cX5_addsOut 52 = .ok (.aload_n 0, 1) := by decide +kernel
theorem dX5_addsOut_53 : decode cX5_addsOut 53 = .ok (.getfield 7, 3) := by decide +kernel
theorem dX5_addsOut_56 : decode cX5_addsOut 56 = .ok (.bipush 98, 2) := by decide +kernel
theorem dX5_addsOut_58 : decode cX5_addsOut 58 = .ok (.iload_n 1, 1) := by decide +kernel
theorem dX5_addsOut_59 : decode cX5_addsOut 59 = .ok (.iadd, 1) := by decide +kernel
theorem dX5_addsOut_60 : decode cX5_addsOut 60 = .ok (.dup2, 1) := by decide +kernel
theorem dX5_addsOut_61 : decode cX5_addsOut 61 = .ok (.iaload, 1) := by decide +kernel
theorem dX5_addsOut_62 : decode cX5_addsOut 62 = .ok (.iconst 1, 1) := by decide +kernel
theorem dX5_addsOut_63 : decode cX5_addsOut 63 = .ok (.iadd, 1) := by decide +kernel
theorem dX5_addsOut_64 : decode cX5_addsOut 64 = .ok (.iastore, 1) := by decide +kernel
theorem dX5_addsOut_65 : decode cX5_addsOut 65 = .ok (.iload_n 3, 1) := by decide +kernel
theorem dX5_addsOut_66 : decode cX5_addsOut 66 = .ok (.ireturn, 1) := by decide +kernel
theorem dX5_addsPattern_0 : decode cX5_addsPattern 0 = .ok (.iload_n 1, 1) := by decide +kernel
theorem dX5_addsPattern_1 : decode cX5_addsPattern 1 = .ok (.iconst 0, 1) := by decide +kernel
theorem dX5_addsPattern_2 : decode cX5_addsPattern 2 = .ok (.aload_n 0, 1) := by decide +kernel
theorem dX5_addsPattern_3 : decode cX5_addsPattern 3 = .ok (.invokevirtual 98, 3) := by decide +kernel
theorem dX5_addsPattern_6 : decode cX5_addsPattern 6 = .ok (.iconst 1, 1) := by decide +kernel
theorem dX5_addsPattern_7 : decode cX5_addsPattern 7 = .ok (.isub, 1) := by decide +kernel
theorem dX5_addsPattern_8 : decode cX5_addsPattern 8 = .ok (.invokestatic 55, 3) := by decide +kernel
theorem dX5_addsPattern_11 : decode cX5_addsPattern 11 = .ok (.ifCond .ne 6, 3) := by decide +kernel
theorem dX5_addsPattern_14 : decode cX5_addsPattern 14 = .ok (.bipush (-2), 2) := by decide +kernel
theorem dX5_addsPattern_16 : decode cX5_addsPattern 16 = .ok (.ireturn, 1) := by decide +kernel
theorem dX5_addsPattern_17 : decode cX5_addsPattern 17 = .ok (.aload_n 0, 1) := by decide +kernel
theorem dX5_addsPattern_18 : decode cX5_addsPattern 18 = .ok (.getfield 7, 3) := by decide +kernel
theorem dX5_addsPattern_21 : decode cX5_addsPattern 21 = .ok (.bipush 112, 2) := by decide +kernel
theorem dX5_addsPattern_23 : decode cX5_addsPattern 23 = .ok (.iaload, 1) := by decide +kernel
theorem dX5_addsPattern_24 : decode cX5_addsPattern 24 = .ok (.bipush 12, 2) := by decide +kernel
theorem dX5_addsPattern_26 : decode cX5_addsPattern 26 = .ok (.if_icmp .ne 6, 3) := by decide +kernel
theorem dX5_addsPattern_29 : decode cX5_addsPattern 29 = .ok (.bipush (-4), 2) := by decide +kernel
theorem dX5_addsPattern_31 : decode cX5_addsPattern 31 = .ok (.ireturn, 1) := by decide +kernel
theorem dX5_addsPattern_32 : decode cX5_addsPattern 32 = .ok (.aload_n 0, 1) := by decide +kernel
theorem dX5_addsPattern_33 : decode cX5_addsPattern 33 = .ok (.getfield 7, 3) := by decide +kernel
theorem dX5_addsPattern_36 : decode cX5_addsPattern 36 = .ok (.bipush 113, 2) := by decide +kernel
theorem dX5_addsPattern_38 : decode cX5_addsPattern 38 = .ok (.aload_n 0, 1) := by decide +kernel
theorem dX5_addsPattern_39 : decode cX5_addsPattern 39 = .ok (.getfield 7, 3) := by decide +kernel
theorem dX5_addsPattern_42 : decode cX5_addsPattern 42 = .ok (.bipush 112, 2) := by decide +kernel
theorem dX5_addsPattern_44 : decode cX5_addsPattern 44 = .ok (.iaload, 1) := by decide +kernel
theorem dX5_addsPattern_45 : decode cX5_addsPattern 45 = .ok (.iadd, 1) := by decide +kernel
theorem dX5_addsPattern_46 : decode cX5_addsPattern 46 = .ok (.iload_n 1, 1) := by decide +kernel
theorem dX5_addsPattern_47 : decode cX5_addsPattern 47 = .ok (.iastore, 1) := by decide +kernel
theorem dX5_addsPattern_48 : decode cX5_addsPattern 48 = .ok (.aload_n 0, 1) := by decide +kernel
theorem dX5_addsPattern_49 : decode cX5_addsPattern 49 = .ok (.getfield 7, 3) := by decide +kernel
theorem dX5_addsPattern_52 : decode cX5_addsPattern 52 = .ok (.bipush 112, 2) := by decide +kernel
theorem dX5_addsPattern_54 : decode cX5_addsPattern 54 = .ok (.dup2, 1) := by decide +kernel
theorem dX5_addsPattern_55 : decode cX5_addsPattern 55 = .ok (.iaload, 1) := by decide +kernel
theorem dX5_addsPattern_56 : decode cX5_addsPattern 56 = .ok (.iconst 1, 1) := by decide +kernel
theorem dX5_addsPattern_57 : decode cX5_addsPattern 57 = .ok (.iadd, 1) := by decide +kernel
theorem dX5_addsPattern_58 : decode cX5_addsPattern 58 = .ok (.iastore, 1) := by decide +kernel
theorem dX5_addsPattern_59 : decode cX5_addsPattern 59 = .ok (.aload_n 0, 1) := by decide +kernel
theorem dX5_addsPattern_60 : decode cX5_addsPattern 60 = .ok (.getfield 7, 3) := by decide +kernel
theorem dX5_addsPattern_63 : decode cX5_addsPattern 63 = .ok (.bipush 112, 2) := by decide +kernel
theorem dX5_addsPattern_65 : decode cX5_addsPattern 65 = .ok (.iaload, 1) := by decide +kernel
theorem dX5_addsPattern_66 : decode cX5_addsPattern 66 = .ok (.ireturn, 1) := by decide +kernel
theorem dX5_inputs_0 : decode cX5_inputs 0 = .ok (.aload_n 0, 1) := by decide +kernel
theorem dX5_inputs_1 : decode cX5_inputs 1 = .ok (.invokevirtual 101, 3) := by decide +kernel
theorem dX5_inputs_4 : decode cX5_inputs 4 = .ok (.aload_n 0, 1) := by decide +kernel
theorem dX5_inputs_5 : decode cX5_inputs 5 = .ok (.aload_n 0, 1) := by decide +kernel
theorem dX5_inputs_6 : decode cX5_inputs 6 = .ok (.iload_n 1, 1) := by decide +kernel
theorem dX5_inputs_7 : decode cX5_inputs 7 = .ok (.invokevirtual 104, 3) := by decide +kernel
theorem dX5_inputs_10 : decode cX5_inputs 10 = .ok (.invokevirtual 107, 3) := by decide +kernel
theorem dX5_inputs_13 : decode cX5_inputs 13 = .ok (.ireturn, 1) := by decide +kernel
theorem dX5_gate_0 : decode cX5_gate 0 = .ok (.aload_n 0, 1) := by decide +kernel
theorem dX5_gate_1 : decode cX5_gate 1 = .ok (.invokevirtual 101, 3) := by decide +kernel
theorem dX5_gate_4 : decode cX5_gate 4 = .ok (.aload_n 0, 1) := by decide +kernel
theorem dX5_gate_5 : decode cX5_gate 5 = .ok (.aload_n 0, 1) := by decide +kernel
theorem dX5_gate_6 : decode cX5_gate 6 = .ok (.iload_n 1, 1) := by decide +kernel
theorem dX5_gate_7 : decode cX5_gate 7 = .ok (.iload_n 2, 1) := by decide +kernel
theorem dX5_gate_8 : decode cX5_gate 8 = .ok (.invokevirtual 110, 3) := by decide +kernel
theorem dX5_gate_11 : decode cX5_gate 11 = .ok (.invokevirtual 107, 3) := by decide +kernel
theorem dX5_gate_14 : decode cX5_gate 14 = .ok (.ireturn, 1) := by decide +kernel
theorem dX5_xor_0 : decode cX5_xor 0 = .ok (.aload_n 0, 1) := by decide +kernel
theorem dX5_xor_1 : decode cX5_xor 1 = .ok (.invokevirtual 101, 3) := by decide +kernel
theorem dX5_xor_4 : decode cX5_xor 4 = .ok (.aload_n 0, 1) := by decide +kernel
theorem dX5_xor_5 : decode cX5_xor 5 = .ok (.aload_n 0, 1) := by decide +kernel
theorem dX5_xor_6 : decode cX5_xor 6 = .ok (.iload_n 1, 1) := by decide +kernel
theorem dX5_xor_7 : decode cX5_xor 7 = .ok (.iload_n 2, 1) := by decide +kernel
theorem dX5_xor_8 : decode cX5_xor 8 = .ok (.invokevirtual 113, 3) := by decide +kernel
theorem dX5_xor_11 : decode cX5_xor 11 = .ok (.invokevirtual 107, 3) := by decide +kernel
theorem dX5_xor_14 : decode cX5_xor 14 = .ok (.ireturn, 1) := by decide +kernel
theorem dX5_mux_0 : decode cX5_mux 0 = .ok (.aload_n 0, 1) := by decide +kernel
theorem dX5_mux_1 : decode cX5_mux 1 = .ok (.invokevirtual 101, 3) := by decide +kernel
theorem dX5_mux_4 : decode cX5_mux 4 = .ok (.aload_n 0, 1) := by decide +kernel
theorem dX5_mux_5 : decode cX5_mux 5 = .ok (.aload_n 0, 1) := by decide +kernel
theorem dX5_mux_6 : decode cX5_mux 6 = .ok (.iload_n 1, 1) := by decide +kernel
theorem dX5_mux_7 : decode cX5_mux 7 = .ok (.iload_n 2, 1) := by decide +kernel
theorem dX5_mux_8 : decode cX5_mux 8 = .ok (.iload_n 3, 1) := by decide +kernel
theorem dX5_mux_9 : decode cX5_mux 9 = .ok (.invokevirtual 116, 3) := by decide +kernel
theorem dX5_mux_12 : decode cX5_mux 12 = .ok (.invokevirtual 107, 3) := by decide +kernel
theorem dX5_mux_15 : decode cX5_mux 15 = .ok (.ireturn, 1) := by decide +kernel
theorem dX5_out_0 : decode cX5_out 0 = .ok (.aload_n 0, 1) := by decide +kernel
theorem dX5_out_1 : decode cX5_out 1 = .ok (.invokevirtual 101, 3) := by decide +kernel
theorem dX5_out_4 : decode cX5_out 4 = .ok (.aload_n 0, 1) := by decide +kernel
theorem dX5_out_5 : decode cX5_out 5 = .ok (.aload_n 0, 1) := by decide +kernel
theorem dX5_out_6 : decode cX5_out 6 = .ok (.iload_n 1, 1) := by decide +kernel
theorem dX5_out_7 : decode cX5_out 7 = .ok (.iload_n 2, 1) := by decide +kernel
theorem dX5_out_8 : decode cX5_out 8 = .ok (.invokevirtual 120, 3) := by decide +kernel
theorem dX5_out_11 : decode cX5_out 11 = .ok (.invokevirtual 107, 3) := by decide +kernel
theorem dX5_out_14 : decode cX5_out 14 = .ok (.ireturn, 1) := by decide +kernel
theorem dX5_pattern_0 : decode cX5_pattern 0 = .ok (.aload_n 0, 1) := by decide +kernel
theorem dX5_pattern_1 : decode cX5_pattern 1 = .ok (.invokevirtual 101, 3) := by decide +kernel
theorem dX5_pattern_4 : decode cX5_pattern 4 = .ok (.aload_n 0, 1) := by decide +kernel
theorem dX5_pattern_5 : decode cX5_pattern 5 = .ok (.aload_n 0, 1) := by decide +kernel
theorem dX5_pattern_6 : decode cX5_pattern 6 = .ok (.iload_n 1, 1) := by decide +kernel
theorem dX5_pattern_7 : decode cX5_pattern 7 = .ok (.invokevirtual 123, 3) := by decide +kernel
theorem dX5_pattern_10 : decode cX5_pattern 10 = .ok (.invokevirtual 107, 3) := by decide +kernel
theorem dX5_pattern_13 : decode cX5_pattern 13 = .ok (.ireturn, 1) := by decide +kernel
theorem dX5_tableOf_0 : decode cX5_tableOf 0 = .ok (.iload_n 1, 1) := by decide +kernel
theorem dX5_tableOf_1 : decode cX5_tableOf 1 = .ok (.iconst 2, 1) := by decide +kernel
theorem dX5_tableOf_2 : decode cX5_tableOf 2 = .ok (.irem, 1) := by decide +kernel
theorem dX5_tableOf_3 : decode cX5_tableOf 3 = .ok (.ifCond .ne 14, 3) := by decide +kernel
theorem dX5_tableOf_6 : decode cX5_tableOf 6 = .ok (.aload_n 0, 1) := by decide +kernel
theorem dX5_tableOf_7 : decode cX5_tableOf 7 = .ok (.getfield 25, 3) := by decide +kernel
theorem dX5_tableOf_10 : decode cX5_tableOf 10 = .ok (.iload_n 1, 1) := by decide +kernel
theorem dX5_tableOf_11 : decode cX5_tableOf 11 = .ok (.iconst 2, 1) := by decide +kernel
theorem dX5_tableOf_12 : decode cX5_tableOf 12 = .ok (.idiv, 1) := by decide +kernel
theorem dX5_tableOf_13 : decode cX5_tableOf 13 = .ok (.iaload, 1) := by decide +kernel
theorem dX5_tableOf_14 : decode cX5_tableOf 14 = .ok (.goto 18, 3) := by decide +kernel
theorem dX5_tableOf_17 : decode cX5_tableOf 17 = .ok (.aload_n 0, 1) := by decide +kernel
theorem dX5_tableOf_18 : decode cX5_tableOf 18 = .ok (.getfield 126, 3) := by decide +kernel
theorem dX5_tableOf_21 : decode cX5_tableOf 21 = .ok (.aload_n 0, 1) := by decide +kernel
theorem dX5_tableOf_22 : decode cX5_tableOf 22 = .ok (.getfield 25, 3) := by decide +kernel
theorem dX5_tableOf_25 : decode cX5_tableOf 25 = .ok (.iload_n 1, 1) := by decide +kernel
theorem dX5_tableOf_26 : decode cX5_tableOf 26 = .ok (.iconst 2, 1) := by decide +kernel
theorem dX5_tableOf_27 : decode cX5_tableOf 27 = .ok (.idiv, 1) := by decide +kernel
theorem dX5_tableOf_28 : decode cX5_tableOf 28 = .ok (.iaload, 1) := by decide +kernel
theorem dX5_tableOf_29 : decode cX5_tableOf 29 = .ok (.iconst (-1), 1) := by decide +kernel
theorem dX5_tableOf_30 : decode cX5_tableOf 30 = .ok (.ixor, 1) := by decide +kernel
theorem dX5_tableOf_31 : decode cX5_tableOf 31 = .ok (.iand, 1) := by decide +kernel
theorem dX5_tableOf_32 : decode cX5_tableOf 32 = .ok (.ireturn, 1) := by decide +kernel
theorem dX5_laysTables_0 : decode cX5_laysTables 0 = .ok (.aload_n 0, 1) := by decide +kernel
theorem dX5_laysTables_1 : decode cX5_laysTables 1 = .ok (.iconst 0, 1) := by decide +kernel
theorem dX5_laysTables_2 : decode cX5_laysTables 2 = .ok (.putfield 126, 3) := by decide +kernel
theorem dX5_laysTables_5 : decode cX5_laysTables 5 = .ok (.iconst 0, 1) := by decide +kernel
theorem dX5_laysTables_6 : decode cX5_laysTables 6 = .ok (.istore_n 1, 1) := by decide +kernel
theorem dX5_laysTables_7 : decode cX5_laysTables 7 = .ok (.iload_n 1, 1) := by decide +kernel
theorem dX5_laysTables_8 : decode cX5_laysTables 8 = .ok (.aload_n 0, 1) := by decide +kernel
theorem dX5_laysTables_9 : decode cX5_laysTables 9 = .ok (.invokevirtual 98, 3) := by decide +kernel
theorem dX5_laysTables_12 : decode cX5_laysTables 12 = .ok (.if_icmp .ge 21, 3) := by decide +kernel
theorem dX5_laysTables_15 : decode cX5_laysTables 15 = .ok (.aload_n 0, 1) := by decide +kernel
theorem dX5_laysTables_16 : decode cX5_laysTables 16 = .ok (.dup, 1) := by decide +kernel
theorem dX5_laysTables_17 : decode cX5_laysTables 17 = .ok (.getfield 126, 3) := by decide +kernel
theorem dX5_laysTables_20 : decode cX5_laysTables 20 = .ok (.iconst 1, 1) := by decide +kernel
theorem dX5_laysTables_21 : decode cX5_laysTables 21 = .ok (.iload_n 1, 1) := by decide +kernel
theorem dX5_laysTables_22 : decode cX5_laysTables 22 = .ok (.ishl, 1) := by decide +kernel
theorem dX5_laysTables_23 : decode cX5_laysTables 23 = .ok (.ior, 1) := by decide +kernel
theorem dX5_laysTables_24 : decode cX5_laysTables 24 = .ok (.putfield 126, 3) := by decide +kernel
theorem dX5_laysTables_27 : decode cX5_laysTables 27 = .ok (.iinc 1 1, 3) := by decide +kernel
theorem dX5_laysTables_30 : decode cX5_laysTables 30 = .ok (.goto (-23), 3) := by decide +kernel
theorem dX5_laysTables_33 : decode cX5_laysTables 33 = .ok (.iconst 0, 1) := by decide +kernel
theorem dX5_laysTables_34 : decode cX5_laysTables 34 = .ok (.istore_n 1, 1) := by decide +kernel
theorem dX5_laysTables_35 : decode cX5_laysTables 35 = .ok (.iload_n 1, 1) := by decide +kernel
theorem dX5_laysTables_36 : decode cX5_laysTables 36 = .ok (.aload_n 0, 1) := by decide +kernel
theorem dX5_laysTables_37 : decode cX5_laysTables 37 = .ok (.getfield 7, 3) := by decide +kernel
theorem dX5_laysTables_40 : decode cX5_laysTables 40 = .ok (.iconst 1, 1) := by decide +kernel
theorem dX5_laysTables_41 : decode cX5_laysTables 41 = .ok (.iaload, 1) := by decide +kernel
theorem dX5_laysTables_42 : decode cX5_laysTables 42 = .ok (.if_icmp .ge 115, 3) := by decide +kernel
theorem dX5_laysTables_45 : decode cX5_laysTables 45 = .ok (.aload_n 0, 1) := by decide +kernel
theorem dX5_laysTables_46 : decode cX5_laysTables 46 = .ok (.getfield 25, 3) := by decide +kernel
theorem dX5_laysTables_49 : decode cX5_laysTables 49 = .ok (.iload_n 1, 1) := by decide +kernel
theorem dX5_laysTables_50 : decode cX5_laysTables 50 = .ok (.iconst 0, 1) := by decide +kernel
theorem dX5_laysTables_51 : decode cX5_laysTables 51 = .ok (.iastore, 1) := by decide +kernel
theorem dX5_laysTables_52 : decode cX5_laysTables 52 = .ok (.iconst 0, 1) := by decide +kernel
theorem dX5_laysTables_53 : decode cX5_laysTables 53 = .ok (.istore_n 2, 1) := by decide +kernel
theorem dX5_laysTables_54 : decode cX5_laysTables 54 = .ok (.iload_n 2, 1) := by decide +kernel
theorem dX5_laysTables_55 : decode cX5_laysTables 55 = .ok (.aload_n 0, 1) := by decide +kernel
theorem dX5_laysTables_56 : decode cX5_laysTables 56 = .ok (.invokevirtual 98, 3) := by decide +kernel
theorem dX5_laysTables_59 : decode cX5_laysTables 59 = .ok (.if_icmp .ge 50, 3) := by decide +kernel
theorem dX5_laysTables_62 : decode cX5_laysTables 62 = .ok (.iload_n 1, 1) := by decide +kernel
theorem dX5_laysTables_63 : decode cX5_laysTables 63 = .ok (.aload_n 0, 1) := by decide +kernel
theorem dX5_laysTables_64 : decode cX5_laysTables 64 = .ok (.getfield 7, 3) := by decide +kernel
theorem dX5_laysTables_67 : decode cX5_laysTables 67 = .ok (.iconst 0, 1) := by decide +kernel
theorem dX5_laysTables_68 : decode cX5_laysTables 68 = .ok (.iaload, 1) := by decide +kernel
theorem dX5_laysTables_69 : decode cX5_laysTables 69 = .ok (.if_icmp .gt 40, 3) := by decide +kernel
theorem dX5_laysTables_72 : decode cX5_laysTables 72 = .ok (.aload_n 0, 1) := by decide +kernel
theorem dX5_laysTables_73 : decode cX5_laysTables 73 = .ok (.getfield 25, 3) := by decide +kernel
theorem dX5_laysTables_76 : decode cX5_laysTables 76 = .ok (.iload_n 1, 1) := by decide +kernel
theorem dX5_laysTables_77 : decode cX5_laysTables 77 = .ok (.dup2, 1) := by decide +kernel
theorem dX5_laysTables_78 : decode cX5_laysTables 78 = .ok (.iaload, 1) := by decide +kernel
theorem dX5_laysTables_79 : decode cX5_laysTables 79 = .ok (.iload_n 1, 1) := by decide +kernel
theorem dX5_laysTables_80 : decode cX5_laysTables 80 = .ok (.ifCond .le 20, 3) := by decide +kernel
theorem dX5_laysTables_83 : decode cX5_laysTables 83 = .ok (.iload_n 2, 1) := by decide +kernel
theorem dX5_laysTables_84 : decode cX5_laysTables 84 = .ok (.iload_n 1, 1) := by decide +kernel
theorem dX5_laysTables_85 : decode cX5_laysTables 85 = .ok (.iconst 1, 1) := by decide +kernel
theorem dX5_laysTables_86 : decode cX5_laysTables 86 = .ok (.isub, 1) := by decide +kernel
theorem dX5_laysTables_87 : decode cX5_laysTables 87 = .ok (.ishr, 1) := by decide +kernel
theorem dX5_laysTables_88 : decode cX5_laysTables 88 = .ok (.iconst 1, 1) := by decide +kernel
theorem dX5_laysTables_89 : decode cX5_laysTables 89 = .ok (.iand, 1) := by decide +kernel
theorem dX5_laysTables_90 : decode cX5_laysTables 90 = .ok (.iconst 1, 1) := by decide +kernel
theorem dX5_laysTables_91 : decode cX5_laysTables 91 = .ok (.if_icmp .ne 9, 3) := by decide +kernel
theorem dX5_laysTables_94 : decode cX5_laysTables 94 = .ok (.iconst 1, 1) := by decide +kernel
theorem dX5_laysTables_95 : decode cX5_laysTables 95 = .ok (.iload_n 2, 1) := by decide +kernel
theorem dX5_laysTables_96 : decode cX5_laysTables 96 = .ok (.ishl, 1) := by decide +kernel
theorem dX5_laysTables_97 : decode cX5_laysTables 97 = .ok (.goto 4, 3) := by decide +kernel
theorem dX5_laysTables_100 : decode cX5_laysTables 100 = .ok (.iconst 0, 1) := by decide +kernel
theorem dX5_laysTables_101 : decode cX5_laysTables 101 = .ok (.ior, 1) := by decide +kernel
theorem dX5_laysTables_102 : decode cX5_laysTables 102 = .ok (.iastore, 1) := by decide +kernel
theorem dX5_laysTables_103 : decode cX5_laysTables 103 = .ok (.iinc 2 1, 3) := by decide +kernel
theorem dX5_laysTables_106 : decode cX5_laysTables 106 = .ok (.goto (-52), 3) := by decide +kernel
theorem dX5_laysTables_109 : decode cX5_laysTables 109 = .ok (.iload_n 1, 1) := by decide +kernel
theorem dX5_laysTables_110 : decode cX5_laysTables 110 = .ok (.aload_n 0, 1) := by decide +kernel
theorem dX5_laysTables_111 : decode cX5_laysTables 111 = .ok (.getfield 7, 3) := by decide +kernel
theorem dX5_laysTables_114 : decode cX5_laysTables 114 = .ok (.iconst 0, 1) := by decide +kernel
theorem dX5_laysTables_115 : decode cX5_laysTables 115 = .ok (.iaload, 1) := by decide +kernel
theorem dX5_laysTables_116 : decode cX5_laysTables 116 = .ok (.if_icmp .le 35, 3) := by decide +kernel
theorem dX5_laysTables_119 : decode cX5_laysTables 119 = .ok (.aload_n 0, 1) := by decide +kernel
theorem dX5_laysTables_120 : decode cX5_laysTables 120 = .ok (.getfield 25, 3) := by decide +kernel
theorem dX5_laysTables_123 : decode cX5_laysTables 123 = .ok (.iload_n 1, 1) := by decide +kernel
theorem dX5_laysTables_124 : decode cX5_laysTables 124 = .ok (.aload_n 0, 1) := by decide +kernel
theorem dX5_laysTables_125 : decode cX5_laysTables 125 = .ok (.aload_n 0, 1) := by decide +kernel
theorem dX5_laysTables_126 : decode cX5_laysTables 126 = .ok (.getfield 7, 3) := by decide +kernel
theorem dX5_laysTables_129 : decode cX5_laysTables 129 = .ok (.iconst 2, 1) := by decide +kernel
theorem dX5_laysTables_130 : decode cX5_laysTables 130 = .ok (.iload_n 1, 1) := by decide +kernel
theorem dX5_laysTables_131 : decode cX5_laysTables 131 = .ok (.iadd, 1) := by decide +kernel
theorem dX5_laysTables_132 : decode cX5_laysTables 132 = .ok (.iaload, 1) := by decide +kernel
theorem dX5_laysTables_133 : decode cX5_laysTables 133 = .ok (.invokevirtual 129, 3) := by decide +kernel
theorem dX5_laysTables_136 : decode cX5_laysTables 136 = .ok (.aload_n 0, 1) := by decide +kernel
theorem dX5_laysTables_137 : decode cX5_laysTables 137 = .ok (.aload_n 0, 1) := by decide +kernel
theorem dX5_laysTables_138 : decode cX5_laysTables 138 = .ok (.getfield 7, 3) := by decide +kernel
theorem dX5_laysTables_141 : decode cX5_laysTables 141 = .ok (.bipush 50, 2) := by decide +kernel
theorem dX5_laysTables_143 : decode cX5_laysTables 143 = .ok (.iload_n 1, 1) := by decide +kernel
theorem dX5_laysTables_144 : decode cX5_laysTables 144 = .ok (.iadd, 1) := by decide +kernel
theorem dX5_laysTables_145 : decode cX5_laysTables 145 = .ok (.iaload, 1) := by decide +kernel
theorem dX5_laysTables_146 : decode cX5_laysTables 146 = .ok (.invokevirtual 129, 3) := by decide +kernel
theorem dX5_laysTables_149 : decode cX5_laysTables 149 = .ok (.iand, 1) := by decide +kernel
theorem dX5_laysTables_150 : decode cX5_laysTables 150 = .ok (.iastore, 1) := by decide +kernel
theorem dX5_laysTables_151 : decode cX5_laysTables 151 = .ok (.iinc 1 1, 3) := by decide +kernel
theorem dX5_laysTables_154 : decode cX5_laysTables 154 = .ok (.goto (-119), 3) := by decide +kernel
theorem dX5_laysTables_157 : decode cX5_laysTables 157 = .ok (.return_, 1) := by decide +kernel
theorem dX5_tellTable_0 : decode cX5_tellTable 0 = .ok (.aload_n 0, 1) := by decide +kernel
theorem dX5_tellTable_1 : decode cX5_tellTable 1 = .ok (.invokevirtual 132, 3) := by decide +kernel
theorem dX5_tellTable_4 : decode cX5_tellTable 4 = .ok (.aload_n 0, 1) := by decide +kernel
theorem dX5_tellTable_5 : decode cX5_tellTable 5 = .ok (.iload_n 1, 1) := by decide +kernel
theorem dX5_tellTable_6 : decode cX5_tellTable 6 = .ok (.invokevirtual 129, 3) := by decide +kernel
theorem dX5_tellTable_9 : decode cX5_tellTable 9 = .ok (.ireturn, 1) := by decide +kernel
theorem dX5_bitsOf_0 : decode cX5_bitsOf 0 = .ok (.iconst 0, 1) := by decide +kernel
theorem dX5_bitsOf_1 : decode cX5_bitsOf 1 = .ok (.istore 4, 2) := by decide +kernel
theorem dX5_bitsOf_3 : decode cX5_bitsOf 3 = .ok (.iconst 0, 1) := by decide +kernel
theorem dX5_bitsOf_4 : decode cX5_bitsOf 4 = .ok (.istore 5, 2) := by decide +kernel
theorem dX5_bitsOf_6 : decode cX5_bitsOf 6 = .ok (.iload 5, 2) := by decide +kernel
theorem dX5_bitsOf_8 : decode cX5_bitsOf 8 = .ok (.iload_n 1, 1) := by decide +kernel
theorem dX5_bitsOf_9 : decode cX5_bitsOf 9 = .ok (.if_icmp .ge 27, 3) := by decide +kernel
theorem dX5_bitsOf_12 : decode cX5_bitsOf 12 = .ok (.iload 4, 2) := by decide +kernel
theorem dX5_bitsOf_14 : decode cX5_bitsOf 14 = .ok (.iload_n 0, 1) := by decide +kernel
theorem dX5_bitsOf_15 : decode cX5_bitsOf 15 = .ok (.aload_n 3, 1) := by decide +kernel
theorem dX5_bitsOf_16 : decode cX5_bitsOf 16 = .ok (.iload_n 2, 1) := by decide +kernel
theorem dX5_bitsOf_17 : decode cX5_bitsOf 17 = .ok (.iload 5, 2) := by decide +kernel
theorem dX5_bitsOf_19 : decode cX5_bitsOf 19 = .ok (.iadd, 1) := by decide +kernel
theorem dX5_bitsOf_20 : decode cX5_bitsOf 20 = .ok (.iaload, 1) := by decide +kernel
theorem dX5_bitsOf_21 : decode cX5_bitsOf 21 = .ok (.ishr, 1) := by decide +kernel
theorem dX5_bitsOf_22 : decode cX5_bitsOf 22 = .ok (.iconst 1, 1) := by decide +kernel
theorem dX5_bitsOf_23 : decode cX5_bitsOf 23 = .ok (.iand, 1) := by decide +kernel
theorem dX5_bitsOf_24 : decode cX5_bitsOf 24 = .ok (.iload 5, 2) := by decide +kernel
theorem dX5_bitsOf_26 : decode cX5_bitsOf 26 = .ok (.ishl, 1) := by decide +kernel
theorem dX5_bitsOf_27 : decode cX5_bitsOf 27 = .ok (.ior, 1) := by decide +kernel
theorem dX5_bitsOf_28 : decode cX5_bitsOf 28 = .ok (.istore 4, 2) := by decide +kernel
theorem dX5_bitsOf_30 : decode cX5_bitsOf 30 = .ok (.iinc 5 1, 3) := by decide +kernel
theorem dX5_bitsOf_33 : decode cX5_bitsOf 33 = .ok (.goto (-27), 3) := by decide +kernel
theorem dX5_bitsOf_36 : decode cX5_bitsOf 36 = .ok (.iload 4, 2) := by decide +kernel
theorem dX5_bitsOf_38 : decode cX5_bitsOf 38 = .ok (.ireturn, 1) := by decide +kernel
theorem dX5_formOf_0 : decode cX5_formOf 0 = .ok (.aload_n 0, 1) := by decide +kernel
theorem dX5_formOf_1 : decode cX5_formOf 1 = .ok (.getfield 31, 3) := by decide +kernel
theorem dX5_formOf_4 : decode cX5_formOf 4 = .ok (.iload_n 1, 1) := by decide +kernel
theorem dX5_formOf_5 : decode cX5_formOf 5 = .ok (.iconst 2, 1) := by decide +kernel
theorem dX5_formOf_6 : decode cX5_formOf 6 = .ok (.idiv, 1) := by decide +kernel
theorem dX5_formOf_7 : decode cX5_formOf 7 = .ok (.iaload, 1) := by decide +kernel
theorem dX5_formOf_8 : decode cX5_formOf 8 = .ok (.istore_n 2, 1) := by decide +kernel
theorem dX5_formOf_9 : decode cX5_formOf 9 = .ok (.iload_n 1, 1) := by decide +kernel
theorem dX5_formOf_10 : decode cX5_formOf 10 = .ok (.iconst 2, 1) := by decide +kernel
theorem dX5_formOf_11 : decode cX5_formOf 11 = .ok (.irem, 1) := by decide +kernel
theorem dX5_formOf_12 : decode cX5_formOf 12 = .ok (.ifCond .ne 7, 3) := by decide +kernel
theorem dX5_formOf_15 : decode cX5_formOf 15 = .ok (.iload_n 2, 1) := by decide +kernel
theorem dX5_formOf_16 : decode cX5_formOf 16 = .ok (.goto 7, 3) := by decide +kernel
theorem dX5_formOf_19 : decode cX5_formOf 19 = .ok (.iload_n 2, 1) := by decide +kernel
theorem dX5_formOf_20 : decode cX5_formOf 20 = .ok (.invokestatic 87, 3) := by decide +kernel
theorem dX5_formOf_23 : decode cX5_formOf 23 = .ok (.ireturn, 1) := by decide +kernel
theorem dX5_merges_0 : decode cX5_merges 0 = .ok (.aload_n 0, 1) := by decide +kernel
theorem dX5_merges_1 : decode cX5_merges 1 = .ok (.getfield 31, 3) := by decide +kernel
theorem dX5_merges_4 : decode cX5_merges 4 = .ok (.iload_n 1, 1) := by decide +kernel
theorem dX5_merges_5 : decode cX5_merges 5 = .ok (.iload_n 2, 1) := by decide +kernel
theorem dX5_merges_6 : decode cX5_merges 6 = .ok (.iastore, 1) := by decide +kernel
theorem dX5_merges_7 : decode cX5_merges 7 = .ok (.aload_n 0, 1) := by decide +kernel
theorem dX5_merges_8 : decode cX5_merges 8 = .ok (.getfield 40, 3) := by decide +kernel
theorem dX5_merges_11 : decode cX5_merges 11 = .ok (.iload_n 1, 1) := by decide +kernel
theorem dX5_merges_12 : decode cX5_merges 12 = .ok (.iload_n 3, 1) := by decide +kernel
theorem dX5_merges_13 : decode cX5_merges 13 = .ok (.iastore, 1) := by decide +kernel
theorem dX5_merges_14 : decode cX5_merges 14 = .ok (.return_, 1) := by decide +kernel
theorem dX5_comes_0 : decode cX5_comes 0 = .ok (.aload_n 0, 1) := by decide +kernel
theorem dX5_comes_1 : decode cX5_comes 1 = .ok (.getfield 135, 3) := by decide +kernel
theorem dX5_comes_4 : decode cX5_comes 4 = .ok (.bipush 12, 2) := by decide +kernel
theorem dX5_comes_6 : decode cX5_comes 6 = .ok (.if_icmp .ge 39, 3) := by decide +kernel
theorem dX5_comes_9 : decode cX5_comes 9 = .ok (.iconst 0, 1) := by decide +kernel
theorem dX5_comes_10 : decode cX5_comes 10 = .ok (.istore_n 2, 1) := by decide +kernel
theorem dX5_comes_11 : decode cX5_comes 11 = .ok (.iload_n 1, 1) := by decide +kernel
theorem dX5_comes_12 : decode cX5_comes 12 = .ok (.iload_n 2, 1) := by decide +kernel
theorem dX5_comes_13 : decode cX5_comes 13 = .ok (.ishr, 1) := by decide +kernel
theorem dX5_comes_14 : decode cX5_comes 14 = .ok (.iconst 1, 1) := by decide +kernel
theorem dX5_comes_15 : decode cX5_comes 15 = .ok (.iand, 1) := by decide +kernel
theorem dX5_comes_16 : decode cX5_comes 16 = .ok (.ifCond .ne 9, 3) := by decide +kernel
theorem dX5_comes_19 : decode cX5_comes 19 = .ok (.iinc 2 1, 3) := by decide +kernel
theorem dX5_comes_22 : decode cX5_comes 22 = .ok (.goto (-11), 3) := by decide +kernel
theorem dX5_comes_25 : decode cX5_comes 25 = .ok (.aload_n 0, 1) := by decide +kernel
theorem dX5_comes_26 : decode cX5_comes 26 = .ok (.getfield 28, 3) := by decide +kernel
theorem dX5_comes_29 : decode cX5_comes 29 = .ok (.aload_n 0, 1) := by decide +kernel
theorem dX5_comes_30 : decode cX5_comes 30 = .ok (.getfield 135, 3) := by decide +kernel
theorem dX5_comes_33 : decode cX5_comes 33 = .ok (.iload_n 2, 1) := by decide +kernel
theorem dX5_comes_34 : decode cX5_comes 34 = .ok (.iastore, 1) := by decide +kernel
theorem dX5_comes_35 : decode cX5_comes 35 = .ok (.aload_n 0, 1) := by decide +kernel
theorem dX5_comes_36 : decode cX5_comes 36 = .ok (.dup, 1) := by decide +kernel
theorem dX5_comes_37 : decode cX5_comes 37 = .ok (.getfield 135, 3) := by decide +kernel
theorem dX5_comes_40 : decode cX5_comes 40 = .ok (.iconst 1, 1) := by decide +kernel
theorem dX5_comes_41 : decode cX5_comes 41 = .ok (.iadd, 1) := by decide +kernel
theorem dX5_comes_42 : decode cX5_comes 42 = .ok (.putfield 135, 3) := by decide +kernel
theorem dX5_comes_45 : decode cX5_comes 45 = .ok (.return_, 1) := by decide +kernel
theorem dX5_otherwise_0 : decode cX5_otherwise 0 = .ok (.aload_n 0, 1) := by decide +kernel
theorem dX5_otherwise_1 : decode cX5_otherwise 1 = .ok (.getfield 25, 3) := by decide +kernel
theorem dX5_otherwise_4 : decode cX5_otherwise 4 = .ok (.iload_n 1, 1) := by decide +kernel
theorem dX5_otherwise_5 : decode cX5_otherwise 5 = .ok (.iaload, 1) := by decide +kernel
theorem dX5_otherwise_6 : decode cX5_otherwise 6 = .ok (.aload_n 0, 1) := by decide +kernel
theorem dX5_otherwise_7 : decode cX5_otherwise 7 = .ok (.getfield 25, 3) := by decide +kernel
theorem dX5_otherwise_10 : decode cX5_otherwise 10 = .ok (.iload_n 2, 1) := by decide +kernel
theorem dX5_otherwise_11 : decode cX5_otherwise 11 = .ok (.iaload, 1) := by decide +kernel
theorem dX5_otherwise_12 : decode cX5_otherwise 12 = .ok (.ixor, 1) := by decide +kernel
theorem dX5_otherwise_13 : decode cX5_otherwise 13 = .ok (.aload_n 0, 1) := by decide +kernel
theorem dX5_otherwise_14 : decode cX5_otherwise 14 = .ok (.getfield 135, 3) := by decide +kernel
theorem dX5_otherwise_17 : decode cX5_otherwise 17 = .ok (.iconst 0, 1) := by decide +kernel
theorem dX5_otherwise_18 : decode cX5_otherwise 18 = .ok (.aload_n 0, 1) := by decide +kernel
theorem dX5_otherwise_19 : decode cX5_otherwise 19 = .ok (.getfield 28, 3) := by decide +kernel
theorem dX5_otherwise_22 : decode cX5_otherwise 22 = .ok (.invokestatic 138, 3) := by decide +kernel
theorem dX5_otherwise_25 : decode cX5_otherwise 25 = .ok (.ireturn, 1) := by decide +kernel
theorem dX5_checks_0 : decode cX5_checks 0 = .ok (.aload_n 0, 1) := by decide +kernel
theorem dX5_checks_1 : decode cX5_checks 1 = .ok (.dup, 1) := by decide +kernel
theorem dX5_checks_2 : decode cX5_checks 2 = .ok (.getfield 142, 3) := by decide +kernel
theorem dX5_checks_5 : decode cX5_checks 5 = .ok (.iconst 1, 1) := by decide +kernel
theorem dX5_checks_6 : decode cX5_checks 6 = .ok (.iadd, 1) := by decide +kernel
theorem dX5_checks_7 : decode cX5_checks 7 = .ok (.putfield 142, 3) := by decide +kernel
theorem dX5_checks_10 : decode cX5_checks 10 = .ok (.iload_n 3, 1) := by decide +kernel
theorem dX5_checks_11 : decode cX5_checks 11 = .ok (.ifCond .eq 21, 3) := by decide +kernel
theorem dX5_checks_14 : decode cX5_checks 14 = .ok (.aload_n 0, 1) := by decide +kernel
theorem dX5_checks_15 : decode cX5_checks 15 = .ok (.getfield 25, 3) := by decide +kernel
theorem dX5_checks_18 : decode cX5_checks 18 = .ok (.iload_n 1, 1) := by decide +kernel
theorem dX5_checks_19 : decode cX5_checks 19 = .ok (.iaload, 1) := by decide +kernel
theorem dX5_checks_20 : decode cX5_checks 20 = .ok (.aload_n 0, 1) := by decide +kernel
theorem dX5_checks_21 : decode cX5_checks 21 = .ok (.getfield 25, 3) := by decide +kernel
theorem dX5_checks_24 : decode cX5_checks 24 = .ok (.iload_n 2, 1) := by decide +kernel
theorem dX5_checks_25 : decode cX5_checks 25 = .ok (.iaload, 1) := by decide +kernel
theorem dX5_checks_26 : decode cX5_checks 26 = .ok (.ixor, 1) := by decide +kernel
theorem dX5_checks_27 : decode cX5_checks 27 = .ok (.iconst (-1), 1) := by decide +kernel
theorem dX5_checks_28 : decode cX5_checks 28 = .ok (.ixor, 1) := by decide +kernel
theorem dX5_checks_29 : decode cX5_checks 29 = .ok (.goto 16, 3) := by decide +kernel
theorem dX5_checks_32 : decode cX5_checks 32 = .ok (.aload_n 0, 1) := by decide +kernel
theorem dX5_checks_33 : decode cX5_checks 33 = .ok (.getfield 25, 3) := by decide +kernel
theorem dX5_checks_36 : decode cX5_checks 36 = .ok (.iload_n 1, 1) := by decide +kernel
theorem dX5_checks_37 : decode cX5_checks 37 = .ok (.iaload, 1) := by decide +kernel
theorem dX5_checks_38 : decode cX5_checks 38 = .ok (.aload_n 0, 1) := by decide +kernel
theorem dX5_checks_39 : decode cX5_checks 39 = .ok (.getfield 25, 3) := by decide +kernel
theorem dX5_checks_42 : decode cX5_checks 42 = .ok (.iload_n 2, 1) := by decide +kernel
theorem dX5_checks_43 : decode cX5_checks 43 = .ok (.iaload, 1) := by decide +kernel
theorem dX5_checks_44 : decode cX5_checks 44 = .ok (.ixor, 1) := by decide +kernel
theorem dX5_checks_45 : decode cX5_checks 45 = .ok (.aload_n 0, 1) := by decide +kernel
theorem dX5_checks_46 : decode cX5_checks 46 = .ok (.getfield 126, 3) := by decide +kernel
theorem dX5_checks_49 : decode cX5_checks 49 = .ok (.iand, 1) := by decide +kernel
theorem dX5_checks_50 : decode cX5_checks 50 = .ok (.istore 4, 2) := by decide +kernel
theorem dX5_checks_52 : decode cX5_checks 52 = .ok (.iload 4, 2) := by decide +kernel
theorem dX5_checks_54 : decode cX5_checks 54 = .ok (.ifCond .ne 26, 3) := by decide +kernel
theorem dX5_checks_57 : decode cX5_checks 57 = .ok (.aload_n 0, 1) := by decide +kernel
theorem dX5_checks_58 : decode cX5_checks 58 = .ok (.iload_n 1, 1) := by decide +kernel
theorem dX5_checks_59 : decode cX5_checks 59 = .ok (.iload_n 3, 1) := by decide +kernel
theorem dX5_checks_60 : decode cX5_checks 60 = .ok (.ifCond .eq 11, 3) := by decide +kernel
theorem dX5_checks_63 : decode cX5_checks 63 = .ok (.iconst 2, 1) := by decide +kernel
theorem dX5_checks_64 : decode cX5_checks 64 = .ok (.iload_n 2, 1) := by decide +kernel
theorem dX5_checks_65 : decode cX5_checks 65 = .ok (.imul, 1) := by decide +kernel
theorem dX5_checks_66 : decode cX5_checks 66 = .ok (.iconst 1, 1) := by decide +kernel
theorem dX5_checks_67 : decode cX5_checks 67 = .ok (.iadd, 1) := by decide +kernel
theorem dX5_checks_68 : decode cX5_checks 68 = .ok (.goto 6, 3) := by decide +kernel
theorem dX5_checks_71 : decode cX5_checks 71 = .ok (.iconst 2, 1) := by decide +kernel
theorem dX5_checks_72 : decode cX5_checks 72 = .ok (.iload_n 2, 1) := by decide +kernel
theorem dX5_checks_73 : decode cX5_checks 73 = .ok (.imul, 1) := by decide +kernel
theorem dX5_checks_74 : decode cX5_checks 74 = .ok (.iconst 3, 1) := by decide +kernel
theorem dX5_checks_75 : decode cX5_checks 75 = .ok (.invokevirtual 145, 3) := by decide +kernel
theorem dX5_checks_78 : decode cX5_checks 78 = .ok (.iconst 1, 1) := by decide +kernel
theorem dX5_checks_79 : decode cX5_checks 79 = .ok (.ireturn, 1) := by decide +kernel
theorem dX5_checks_80 : decode cX5_checks 80 = .ok (.aload_n 0, 1) := by decide +kernel
theorem dX5_checks_81 : decode cX5_checks 81 = .ok (.iload 4, 2) := by decide +kernel
theorem dX5_checks_83 : decode cX5_checks 83 = .ok (.invokevirtual 149, 3) := by decide +kernel
theorem dX5_checks_86 : decode cX5_checks 86 = .ok (.iconst 0, 1) := by decide +kernel
theorem dX5_checks_87 : decode cX5_checks 87 = .ok (.ireturn, 1) := by decide +kernel
theorem dX5_looksAt_0 : decode cX5_looksAt 0 = .ok (.aload_n 0, 1) := by decide +kernel
theorem dX5_looksAt_1 : decode cX5_looksAt 1 = .ok (.iload_n 1, 1) := by decide +kernel
theorem dX5_looksAt_2 : decode cX5_looksAt 2 = .ok (.iload_n 2, 1) := by decide +kernel
theorem dX5_looksAt_3 : decode cX5_looksAt 3 = .ok (.invokevirtual 153, 3) := by decide +kernel
theorem dX5_looksAt_6 : decode cX5_looksAt 6 = .ok (.istore_n 3, 1) := by decide +kernel
theorem dX5_looksAt_7 : decode cX5_looksAt 7 = .ok (.iload_n 3, 1) := by decide +kernel
theorem dX5_looksAt_8 : decode cX5_looksAt 8 = .ok (.ifCond .ne 7, 3) := by decide +kernel
theorem dX5_looksAt_11 : decode cX5_looksAt 11 = .ok (.iconst 1, 1) := by decide +kernel
theorem dX5_looksAt_12 : decode cX5_looksAt 12 = .ok (.goto 4, 3) := by decide +kernel
theorem dX5_looksAt_15 : decode cX5_looksAt 15 = .ok (.iconst 0, 1) := by decide +kernel
theorem dX5_looksAt_16 : decode cX5_looksAt 16 = .ok (.istore 4, 2) := by decide +kernel
theorem dX5_looksAt_18 : decode cX5_looksAt 18 = .ok (.iload 4, 2) := by decide +kernel
theorem dX5_looksAt_20 : decode cX5_looksAt 20 = .ok (.ifCond .ne 17, 3) := by decide +kernel
theorem dX5_looksAt_23 : decode cX5_looksAt 23 = .ok (.iload_n 3, 1) := by decide +kernel
theorem dX5_looksAt_24 : decode cX5_looksAt 24 = .ok (.iconst 1, 1) := by decide +kernel
theorem dX5_looksAt_25 : decode cX5_looksAt 25 = .ok (.aload_n 0, 1) := by decide +kernel
theorem dX5_looksAt_26 : decode cX5_looksAt 26 = .ok (.getfield 135, 3) := by decide +kernel
theorem dX5_looksAt_29 : decode cX5_looksAt 29 = .ok (.ishl, 1) := by decide +kernel
theorem dX5_looksAt_30 : decode cX5_looksAt 30 = .ok (.iconst 1, 1) := by decide +kernel
theorem dX5_looksAt_31 : decode cX5_looksAt 31 = .ok (.isub, 1) := by decide +kernel
theorem dX5_looksAt_32 : decode cX5_looksAt 32 = .ok (.if_icmp .eq 5, 3) := by decide +kernel
theorem dX5_looksAt_35 : decode cX5_looksAt 35 = .ok (.iconst 0, 1) := by decide +kernel
theorem dX5_looksAt_36 : decode cX5_looksAt 36 = .ok (.ireturn, 1) := by decide +kernel
theorem dX5_looksAt_37 : decode cX5_looksAt 37 = .ok (.aload_n 0, 1) := by decide +kernel
theorem dX5_looksAt_38 : decode cX5_looksAt 38 = .ok (.iload_n 1, 1) := by decide +kernel
theorem dX5_looksAt_39 : decode cX5_looksAt 39 = .ok (.iload_n 2, 1) := by decide +kernel
theorem dX5_looksAt_40 : decode cX5_looksAt 40 = .ok (.iload 4, 2) := by decide +kernel
theorem dX5_looksAt_42 : decode cX5_looksAt 42 = .ok (.ifCond .ne 7, 3) := by decide +kernel
theorem dX5_looksAt_45 : decode cX5_looksAt 45 = .ok (.iconst 1, 1) := by decide +kernel
theorem dX5_looksAt_46 : decode cX5_looksAt 46 = .ok (.goto 4, 3) := by decide +kernel
theorem dX5_looksAt_49 : decode cX5_looksAt 49 = .ok (.iconst 0, 1) := by decide +kernel
theorem dX5_looksAt_50 : decode cX5_looksAt 50 = .ok (.invokevirtual 156, 3) := by decide +kernel
theorem dX5_looksAt_53 : decode cX5_looksAt 53 = .ok (.ifCond .eq 5, 3) := by decide +kernel
theorem dX5_looksAt_56 : decode cX5_looksAt 56 = .ok (.iconst 1, 1) := by decide +kernel
theorem dX5_looksAt_57 : decode cX5_looksAt 57 = .ok (.ireturn, 1) := by decide +kernel
theorem dX5_looksAt_58 : decode cX5_looksAt 58 = .ok (.iload 4, 2) := by decide +kernel
theorem dX5_looksAt_60 : decode cX5_looksAt 60 = .ok (.ifCond .eq 34, 3) := by decide +kernel
theorem dX5_looksAt_63 : decode cX5_looksAt 63 = .ok (.aload_n 0, 1) := by decide +kernel
theorem dX5_looksAt_64 : decode cX5_looksAt 64 = .ok (.iload_n 1, 1) := by decide +kernel
theorem dX5_looksAt_65 : decode cX5_looksAt 65 = .ok (.iload_n 2, 1) := by decide +kernel
theorem dX5_looksAt_66 : decode cX5_looksAt 66 = .ok (.invokevirtual 153, 3) := by decide +kernel
theorem dX5_looksAt_69 : decode cX5_looksAt 69 = .ok (.iconst 1, 1) := by decide +kernel
theorem dX5_looksAt_70 : decode cX5_looksAt 70 = .ok (.aload_n 0, 1) := by decide +kernel
theorem dX5_looksAt_71 : decode cX5_looksAt 71 = .ok (.getfield 135, 3) := by decide +kernel
theorem dX5_looksAt_74 : decode cX5_looksAt 74 = .ok (.ishl, 1) := by decide +kernel
theorem dX5_looksAt_75 : decode cX5_looksAt 75 = .ok (.iconst 1, 1) := by decide +kernel
theorem dX5_looksAt_76 : decode cX5_looksAt 76 = .ok (.isub, 1) := by decide +kernel
theorem dX5_looksAt_77 : decode cX5_looksAt 77 = .ok (.if_icmp .ne 17, 3) := by decide +kernel
theorem dX5_looksAt_80 : decode cX5_looksAt 80 = .ok (.aload_n 0, 1) := by decide +kernel
theorem dX5_looksAt_81 : decode cX5_looksAt 81 = .ok (.iload_n 1, 1) := by decide +kernel
theorem dX5_looksAt_82 : decode cX5_looksAt 82 = .ok (.iload_n 2, 1) := by decide +kernel
theorem dX5_looksAt_83 : decode cX5_looksAt 83 = .ok (.iconst 1, 1) := by decide +kernel
theorem dX5_looksAt_84 : decode cX5_looksAt 84 = .ok (.invokevirtual 156, 3) := by decide +kernel
theorem dX5_looksAt_87 : decode cX5_looksAt 87 = .ok (.ifCond .eq 7, 3) := by decide +kernel
theorem dX5_looksAt_90 : decode cX5_looksAt 90 = .ok (.iconst 1, 1) := by decide +kernel
theorem dX5_looksAt_91 : decode cX5_looksAt 91 = .ok (.goto 4, 3) := by decide +kernel
theorem dX5_looksAt_94 : decode cX5_looksAt 94 = .ok (.iconst 0, 1) := by decide +kernel
theorem dX5_looksAt_95 : decode cX5_looksAt 95 = .ok (.ireturn, 1) := by decide +kernel
theorem dX5_isByRules_0 : decode cX5_isByRules 0 = .ok (.iload_n 2, 1) := by decide +kernel
theorem dX5_isByRules_1 : decode cX5_isByRules 1 = .ok (.ifCond .eq 16, 3) := by decide +kernel
theorem dX5_isByRules_4 : decode cX5_isByRules 4 = .ok (.iload_n 3, 1) := by decide +kernel
theorem dX5_isByRules_5 : decode cX5_isByRules 5 = .ok (.iload_n 2, 1) := by decide +kernel
theorem dX5_isByRules_6 : decode cX5_isByRules 6 = .ok (.iconst 1, 1) := by decide +kernel
theorem dX5_isByRules_7 : decode cX5_isByRules 7 = .ok (.iadd, 1) := by decide +kernel
theorem dX5_isByRules_8 : decode cX5_isByRules 8 = .ok (.if_icmp .ne 18, 3) := by decide +kernel
theorem dX5_isByRules_11 : decode cX5_isByRules 11 = .ok (.iload_n 2, 1) := by decide +kernel
theorem dX5_isByRules_12 : decode cX5_isByRules 12 = .ok (.iconst 2, 1) := by decide +kernel
theorem dX5_isByRules_13 : decode cX5_isByRules 13 = .ok (.irem, 1) := by decide +kernel
theorem dX5_isByRules_14 : decode cX5_isByRules 14 = .ok (.ifCond .ne 12, 3) := by decide +kernel
theorem dX5_isByRules_17 : decode cX5_isByRules 17 = .ok (.aload_n 0, 1) := by decide +kernel
theorem dX5_isByRules_18 : decode cX5_isByRules 18 = .ok (.iload_n 1, 1) := by decide +kernel
theorem dX5_isByRules_19 : decode cX5_isByRules 19 = .ok (.iconst 0, 1) := by decide +kernel
theorem dX5_isByRules_20 : decode cX5_isByRules 20 = .ok (.iconst 1, 1) := by decide +kernel
theorem dX5_isByRules_21 : decode cX5_isByRules 21 = .ok (.invokevirtual 145, 3) := by decide +kernel
theorem dX5_isByRules_24 : decode cX5_isByRules 24 = .ok (.iconst 1, 1) := by decide +kernel
theorem dX5_isByRules_25 : decode cX5_isByRules 25 = .ok (.ireturn, 1) := by decide +kernel
theorem dX5_isByRules_26 : decode cX5_isByRules 26 = .ok (.iload_n 2, 1) := by decide +kernel
theorem dX5_isByRules_27 : decode cX5_isByRules 27 = .ok (.iconst 1, 1) := by decide +kernel
theorem dX5_isByRules_28 : decode cX5_isByRules 28 = .ok (.if_icmp .eq 8, 3) := by decide +kernel
theorem dX5_isByRules_31 : decode cX5_isByRules 31 = .ok (.iload_n 2, 1) := by decide +kernel
theorem dX5_isByRules_32 : decode cX5_isByRules 32 = .ok (.iload_n 3, 1) := by decide +kernel
theorem dX5_isByRules_33 : decode cX5_isByRules 33 = .ok (.if_icmp .ne 12, 3) := by decide +kernel
theorem dX5_isByRules_36 : decode cX5_isByRules 36 = .ok (.aload_n 0, 1) := by decide +kernel
theorem dX5_isByRules_37 : decode cX5_isByRules 37 = .ok (.iload_n 1, 1) := by decide +kernel
theorem dX5_isByRules_38 : decode cX5_isByRules 38 = .ok (.iload_n 3, 1) := by decide +kernel
theorem dX5_isByRules_39 : decode cX5_isByRules 39 = .ok (.iconst 1, 1) := by decide +kernel
theorem dX5_isByRules_40 : decode cX5_isByRules 40 = .ok (.invokevirtual 145, 3) := by decide +kernel
theorem dX5_isByRules_43 : decode cX5_isByRules 43 = .ok (.iconst 1, 1) := by decide +kernel
theorem dX5_isByRules_44 : decode cX5_isByRules 44 = .ok (.ireturn, 1) := by decide +kernel
theorem dX5_isByRules_45 : decode cX5_isByRules 45 = .ok (.iconst 0, 1) := by decide +kernel
theorem dX5_isByRules_46 : decode cX5_isByRules 46 = .ok (.ireturn, 1) := by decide +kernel
theorem dX5_isThere_0 : decode cX5_isThere 0 = .ok (.aload_n 0, 1) := by decide +kernel
theorem dX5_isThere_1 : decode cX5_isThere 1 = .ok (.getfield 7, 3) := by decide +kernel
theorem dX5_isThere_4 : decode cX5_isThere 4 = .ok (.iconst 0, 1) := by decide +kernel
theorem dX5_isThere_5 : decode cX5_isThere 5 = .ok (.iaload, 1) := by decide +kernel
theorem dX5_isThere_6 : decode cX5_isThere 6 = .ok (.iconst 1, 1) := by decide +kernel
theorem dX5_isThere_7 : decode cX5_isThere 7 = .ok (.iadd, 1) := by decide +kernel
theorem dX5_isThere_8 : decode cX5_isThere 8 = .ok (.istore 4, 2) := by decide +kernel
theorem dX5_isThere_10 : decode cX5_isThere 10 = .ok (.iload 4, 2) := by decide +kernel
theorem dX5_isThere_12 : decode cX5_isThere 12 = .ok (.iload_n 1, 1) := by decide +kernel
theorem dX5_isThere_13 : decode cX5_isThere 13 = .ok (.if_icmp .ge 53, 3) := by decide +kernel
theorem dX5_isThere_16 : decode cX5_isThere 16 = .ok (.aload_n 0, 1) := by decide +kernel
theorem dX5_isThere_17 : decode cX5_isThere 17 = .ok (.getfield 40, 3) := by decide +kernel
theorem dX5_isThere_20 : decode cX5_isThere 20 = .ok (.iload 4, 2) := by decide +kernel
theorem dX5_isThere_22 : decode cX5_isThere 22 = .ok (.iaload, 1) := by decide +kernel
theorem dX5_isThere_23 : decode cX5_isThere 23 = .ok (.ifCond .ne 37, 3) := by decide +kernel
theorem dX5_isThere_26 : decode cX5_isThere 26 = .ok (.aload_n 0, 1) := by decide +kernel
theorem dX5_isThere_27 : decode cX5_isThere 27 = .ok (.getfield 34, 3) := by decide +kernel
theorem dX5_isThere_30 : decode cX5_isThere 30 = .ok (.iload 4, 2) := by decide +kernel
theorem dX5_isThere_32 : decode cX5_isThere 32 = .ok (.iaload, 1) := by decide +kernel
theorem dX5_isThere_33 : decode cX5_isThere 33 = .ok (.iload_n 2, 1) := by decide +kernel
theorem dX5_isThere_34 : decode cX5_isThere 34 = .ok (.if_icmp .ne 26, 3) := by decide +kernel
theorem dX5_isThere_37 : decode cX5_isThere 37 = .ok (.aload_n 0, 1) := by decide +kernel
theorem dX5_isThere_38 : decode cX5_isThere 38 = .ok (.getfield 37, 3) := by decide +kernel
theorem dX5_isThere_41 : decode cX5_isThere 41 = .ok (.iload 4, 2) := by decide +kernel
theorem dX5_isThere_43 : decode cX5_isThere 43 = .ok (.iaload, 1) := by decide +kernel
theorem dX5_isThere_44 : decode cX5_isThere 44 = .ok (.iload_n 3, 1) := by decide +kernel
theorem dX5_isThere_45 : decode cX5_isThere 45 = .ok (.if_icmp .ne 15, 3) := by decide +kernel
theorem dX5_isThere_48 : decode cX5_isThere 48 = .ok (.aload_n 0, 1) := by decide +kernel
theorem dX5_isThere_49 : decode cX5_isThere 49 = .ok (.iload_n 1, 1) := by decide +kernel
theorem dX5_isThere_50 : decode cX5_isThere 50 = .ok (.iconst 2, 1) := by decide +kernel
theorem dX5_isThere_51 : decode cX5_isThere 51 = .ok (.iload 4, 2) := by decide +kernel
theorem dX5_isThere_53 : decode cX5_isThere 53 = .ok (.imul, 1) := by decide +kernel
theorem dX5_isThere_54 : decode cX5_isThere 54 = .ok (.iconst 2, 1) := by decide +kernel
theorem dX5_isThere_55 : decode cX5_isThere 55 = .ok (.invokevirtual 145, 3) := by decide +kernel
theorem dX5_isThere_58 : decode cX5_isThere 58 = .ok (.iconst 1, 1) := by decide +kernel
theorem dX5_isThere_59 : decode cX5_isThere 59 = .ok (.ireturn, 1) := by decide +kernel
theorem dX5_isThere_60 : decode cX5_isThere 60 = .ok (.iinc 4 1, 3) := by decide +kernel
theorem dX5_isThere_63 : decode cX5_isThere 63 = .ok (.goto (-53), 3) := by decide +kernel
theorem dX5_isThere_66 : decode cX5_isThere 66 = .ok (.iconst 0, 1) := by decide +kernel
theorem dX5_isThere_67 : decode cX5_isThere 67 = .ok (.ireturn, 1) := by decide +kernel
theorem dX5_sweepsGate_0 : decode cX5_sweepsGate 0 = .ok (.aload_n 0, 1) := by decide +kernel
theorem dX5_sweepsGate_1 : decode cX5_sweepsGate 1 = .ok (.aload_n 0, 1) := by decide +kernel
theorem dX5_sweepsGate_2 : decode cX5_sweepsGate 2 = .ok (.getfield 7, 3) := by decide +kernel
theorem dX5_sweepsGate_5 : decode cX5_sweepsGate 5 = .ok (.iconst 2, 1) := by decide +kernel
theorem dX5_sweepsGate_6 : decode cX5_sweepsGate 6 = .ok (.iload_n 1, 1) := by decide +kernel
theorem dX5_sweepsGate_7 : decode cX5_sweepsGate 7 = .ok (.iadd, 1) := by decide +kernel
theorem dX5_sweepsGate_8 : decode cX5_sweepsGate 8 = .ok (.iaload, 1) := by decide +kernel
theorem dX5_sweepsGate_9 : decode cX5_sweepsGate 9 = .ok (.invokevirtual 159, 3) := by decide +kernel
theorem dX5_sweepsGate_12 : decode cX5_sweepsGate 12 = .ok (.istore_n 2, 1) := by decide +kernel
theorem dX5_sweepsGate_13 : decode cX5_sweepsGate 13 = .ok (.aload_n 0, 1) := by decide +kernel
theorem dX5_sweepsGate_14 : decode cX5_sweepsGate 14 = .ok (.aload_n 0, 1) := by decide +kernel
theorem dX5_sweepsGate_15 : decode cX5_sweepsGate 15 = .ok (.getfield 7, 3) := by decide +kernel
theorem dX5_sweepsGate_18 : decode cX5_sweepsGate 18 = .ok (.bipush 50, 2) := by decide +kernel
theorem dX5_sweepsGate_20 : decode cX5_sweepsGate 20 = .ok (.iload_n 1, 1) := by decide +kernel
theorem dX5_sweepsGate_21 : decode cX5_sweepsGate 21 = .ok (.iadd, 1) := by decide +kernel
theorem dX5_sweepsGate_22 : decode cX5_sweepsGate 22 = .ok (.iaload, 1) := by decide +kernel
theorem dX5_sweepsGate_23 : decode cX5_sweepsGate 23 = .ok (.invokevirtual 159, 3) := by decide +kernel
theorem dX5_sweepsGate_26 : decode cX5_sweepsGate 26 = .ok (.istore_n 3, 1) := by decide +kernel
theorem dX5_sweepsGate_27 : decode cX5_sweepsGate 27 = .ok (.iload_n 2, 1) := by decide +kernel
theorem dX5_sweepsGate_28 : decode cX5_sweepsGate 28 = .ok (.iload_n 3, 1) := by decide +kernel
theorem dX5_sweepsGate_29 : decode cX5_sweepsGate 29 = .ok (.if_icmp .ge 7, 3) := by decide +kernel
theorem dX5_sweepsGate_32 : decode cX5_sweepsGate 32 = .ok (.iload_n 2, 1) := by decide +kernel
theorem dX5_sweepsGate_33 : decode cX5_sweepsGate 33 = .ok (.goto 4, 3) := by decide +kernel
theorem dX5_sweepsGate_36 : decode cX5_sweepsGate 36 = .ok (.iload_n 3, 1) := by decide +kernel
theorem dX5_sweepsGate_37 : decode cX5_sweepsGate 37 = .ok (.istore 4, 2) := by decide +kernel
theorem dX5_sweepsGate_39 : decode cX5_sweepsGate 39 = .ok (.iload_n 2, 1) := by decide +kernel
theorem dX5_sweepsGate_40 : decode cX5_sweepsGate 40 = .ok (.iload_n 3, 1) := by decide +kernel
theorem dX5_sweepsGate_41 : decode cX5_sweepsGate 41 = .ok (.if_icmp .ge 7, 3) := by decide +kernel
theorem dX5_sweepsGate_44 : decode cX5_sweepsGate 44 = .ok (.iload_n 3, 1) := by decide +kernel
theorem dX5_sweepsGate_45 : decode cX5_sweepsGate 45 = .ok (.goto 4, 3) := by decide +kernel
theorem dX5_sweepsGate_48 : decode cX5_sweepsGate 48 = .ok (.iload_n 2, 1) := by decide +kernel
theorem dX5_sweepsGate_49 : decode cX5_sweepsGate 49 = .ok (.istore 5, 2) := by decide +kernel
theorem dX5_sweepsGate_51 : decode cX5_sweepsGate 51 = .ok (.aload_n 0, 1) := by decide +kernel
theorem dX5_sweepsGate_52 : decode cX5_sweepsGate 52 = .ok (.iload_n 1, 1) := by decide +kernel
theorem dX5_sweepsGate_53 : decode cX5_sweepsGate 53 = .ok (.iload 4, 2) := by decide +kernel
theorem dX5_sweepsGate_55 : decode cX5_sweepsGate 55 = .ok (.iload 5, 2) := by decide +kernel
theorem dX5_sweepsGate_57 : decode cX5_sweepsGate 57 = .ok (.invokevirtual 162, 3) := by decide +kernel
theorem dX5_sweepsGate_60 : decode cX5_sweepsGate 60 = .ok (.ifCond .ne 15, 3) := by decide +kernel
theorem dX5_sweepsGate_63 : decode cX5_sweepsGate 63 = .ok (.aload_n 0, 1) := by decide +kernel
theorem dX5_sweepsGate_64 : decode cX5_sweepsGate 64 = .ok (.iload_n 1, 1) := by decide +kernel
theorem dX5_sweepsGate_65 : decode cX5_sweepsGate 65 = .ok (.iload 4, 2) := by decide +kernel
theorem dX5_sweepsGate_67 : decode cX5_sweepsGate 67 = .ok (.iload 5, 2) := by decide +kernel
theorem dX5_sweepsGate_69 : decode cX5_sweepsGate 69 = .ok (.invokevirtual 165, 3) := by decide +kernel
theorem dX5_sweepsGate_72 : decode cX5_sweepsGate 72 = .ok (.ifCond .eq 4, 3) := by decide +kernel
theorem dX5_sweepsGate_75 : decode cX5_sweepsGate 75 = .ok (.return_, 1) := by decide +kernel
theorem dX5_sweepsGate_76 : decode cX5_sweepsGate 76 = .ok (.iconst 0, 1) := by decide +kernel
theorem dX5_sweepsGate_77 : decode cX5_sweepsGate 77 = .ok (.istore 6, 2) := by decide +kernel
theorem dX5_sweepsGate_79 : decode cX5_sweepsGate 79 = .ok (.iload 6, 2) := by decide +kernel
theorem dX5_sweepsGate_81 : decode cX5_sweepsGate 81 = .ok (.iload_n 1, 1) := by decide +kernel
theorem dX5_sweepsGate_82 : decode cX5_sweepsGate 82 = .ok (.if_icmp .ge 30, 3) := by decide +kernel
theorem dX5_sweepsGate_85 : decode cX5_sweepsGate 85 = .ok (.aload_n 0, 1) := by decide +kernel
theorem dX5_sweepsGate_86 : decode cX5_sweepsGate 86 = .ok (.getfield 40, 3) := by decide +kernel
theorem dX5_sweepsGate_89 : decode cX5_sweepsGate 89 = .ok (.iload 6, 2) := by decide +kernel
theorem dX5_sweepsGate_91 : decode cX5_sweepsGate 91 = .ok (.iaload, 1) := by decide +kernel
theorem dX5_sweepsGate_92 : decode cX5_sweepsGate 92 = .ok (.ifCond .ne 14, 3) := by decide +kernel
theorem dX5_sweepsGate_95 : decode cX5_sweepsGate 95 = .ok (.aload_n 0, 1) := by decide +kernel
theorem dX5_sweepsGate_96 : decode cX5_sweepsGate 96 = .ok (.iload_n 1, 1) := by decide +kernel
theorem dX5_sweepsGate_97 : decode cX5_sweepsGate 97 = .ok (.iload 6, 2) := by decide +kernel
theorem dX5_sweepsGate_99 : decode cX5_sweepsGate 99 = .ok (.invokevirtual 168, 3) := by decide +kernel
theorem dX5_sweepsGate_102 : decode cX5_sweepsGate 102 = .ok (.ifCond .eq 4, 3) := by decide +kernel
theorem dX5_sweepsGate_105 : decode cX5_sweepsGate 105 = .ok (.return_, 1) := by decide +kernel
theorem dX5_sweepsGate_106 : decode cX5_sweepsGate 106 = .ok (.iinc 6 1, 3) := by decide +kernel
theorem dX5_sweepsGate_109 : decode cX5_sweepsGate 109 = .ok (.goto (-30), 3) := by decide +kernel
theorem dX5_sweepsGate_112 : decode cX5_sweepsGate 112 = .ok (.aload_n 0, 1) := by decide +kernel
theorem dX5_sweepsGate_113 : decode cX5_sweepsGate 113 = .ok (.iload_n 1, 1) := by decide +kernel
theorem dX5_sweepsGate_114 : decode cX5_sweepsGate 114 = .ok (.iconst 2, 1) := by decide +kernel
theorem dX5_sweepsGate_115 : decode cX5_sweepsGate 115 = .ok (.iload_n 1, 1) := by decide +kernel
theorem dX5_sweepsGate_116 : decode cX5_sweepsGate 116 = .ok (.imul, 1) := by decide +kernel
theorem dX5_sweepsGate_117 : decode cX5_sweepsGate 117 = .ok (.iconst 0, 1) := by decide +kernel
theorem dX5_sweepsGate_118 : decode cX5_sweepsGate 118 = .ok (.invokevirtual 145, 3) := by decide +kernel
theorem dX5_sweepsGate_121 : decode cX5_sweepsGate 121 = .ok (.aload_n 0, 1) := by decide +kernel
theorem dX5_sweepsGate_122 : decode cX5_sweepsGate 122 = .ok (.getfield 34, 3) := by decide +kernel
theorem dX5_sweepsGate_125 : decode cX5_sweepsGate 125 = .ok (.iload_n 1, 1) := by decide +kernel
theorem dX5_sweepsGate_126 : decode cX5_sweepsGate 126 = .ok (.iload 4, 2) := by decide +kernel
theorem dX5_sweepsGate_128 : decode cX5_sweepsGate 128 = .ok (.iastore, 1) := by decide +kernel
theorem dX5_sweepsGate_129 : decode cX5_sweepsGate 129 = .ok (.aload_n 0, 1) := by decide +kernel
theorem dX5_sweepsGate_130 : decode cX5_sweepsGate 130 = .ok (.getfield 37, 3) := by decide +kernel
theorem dX5_sweepsGate_133 : decode cX5_sweepsGate 133 = .ok (.iload_n 1, 1) := by decide +kernel
theorem dX5_sweepsGate_134 : decode cX5_sweepsGate 134 = .ok (.iload 5, 2) := by decide +kernel
theorem dX5_sweepsGate_136 : decode cX5_sweepsGate 136 = .ok (.iastore, 1) := by decide +kernel
theorem dX5_sweepsGate_137 : decode cX5_sweepsGate 137 = .ok (.return_, 1) := by decide +kernel
theorem dX5_sweeps_0 : decode cX5_sweeps 0 = .ok (.aload_n 0, 1) := by decide +kernel
theorem dX5_sweeps_1 : decode cX5_sweeps 1 = .ok (.invokevirtual 132, 3) := by decide +kernel
theorem dX5_sweeps_4 : decode cX5_sweeps 4 = .ok (.aload_n 0, 1) := by decide +kernel
theorem dX5_sweeps_5 : decode cX5_sweeps 5 = .ok (.aload_n 0, 1) := by decide +kernel
theorem dX5_sweeps_6 : decode cX5_sweeps 6 = .ok (.getfield 7, 3) := by decide +kernel
theorem dX5_sweeps_9 : decode cX5_sweeps 9 = .ok (.bipush 112, 2) := by decide +kernel
theorem dX5_sweeps_11 : decode cX5_sweeps 11 = .ok (.iaload, 1) := by decide +kernel
theorem dX5_sweeps_12 : decode cX5_sweeps 12 = .ok (.putfield 135, 3) := by decide +kernel
theorem dX5_sweeps_15 : decode cX5_sweeps 15 = .ok (.iconst 0, 1) := by decide +kernel
theorem dX5_sweeps_16 : decode cX5_sweeps 16 = .ok (.istore_n 1, 1) := by decide +kernel
theorem dX5_sweeps_17 : decode cX5_sweeps 17 = .ok (.iload_n 1, 1) := by decide +kernel
theorem dX5_sweeps_18 : decode cX5_sweeps 18 = .ok (.aload_n 0, 1) := by decide +kernel
theorem dX5_sweeps_19 : decode cX5_sweeps 19 = .ok (.getfield 135, 3) := by decide +kernel
theorem dX5_sweeps_22 : decode cX5_sweeps 22 = .ok (.if_icmp .ge 24, 3) := by decide +kernel
theorem dX5_sweeps_25 : decode cX5_sweeps 25 = .ok (.aload_n 0, 1) := by decide +kernel
theorem dX5_sweeps_26 : decode cX5_sweeps 26 = .ok (.getfield 28, 3) := by decide +kernel
theorem dX5_sweeps_29 : decode cX5_sweeps 29 = .ok (.iload_n 1, 1) := by decide +kernel
theorem dX5_sweeps_30 : decode cX5_sweeps 30 = .ok (.aload_n 0, 1) := by decide +kernel
theorem dX5_sweeps_31 : decode cX5_sweeps 31 = .ok (.getfield 7, 3) := by decide +kernel
theorem dX5_sweeps_34 : decode cX5_sweeps 34 = .ok (.bipush 113, 2) := by decide +kernel
theorem dX5_sweeps_36 : decode cX5_sweeps 36 = .ok (.iload_n 1, 1) := by decide +kernel
theorem dX5_sweeps_37 : decode cX5_sweeps 37 = .ok (.iadd, 1) := by decide +kernel
theorem dX5_sweeps_38 : decode cX5_sweeps 38 = .ok (.iaload, 1) := by decide +kernel
theorem dX5_sweeps_39 : decode cX5_sweeps 39 = .ok (.iastore, 1) := by decide +kernel
theorem dX5_sweeps_40 : decode cX5_sweeps 40 = .ok (.iinc 1 1, 3) := by decide +kernel
theorem dX5_sweeps_43 : decode cX5_sweeps 43 = .ok (.goto (-26), 3) := by decide +kernel
theorem dX5_sweeps_46 : decode cX5_sweeps 46 = .ok (.aload_n 0, 1) := by decide +kernel
theorem dX5_sweeps_47 : decode cX5_sweeps 47 = .ok (.iconst 0, 1) := by decide +kernel
theorem dX5_sweeps_48 : decode cX5_sweeps 48 = .ok (.putfield 142, 3) := by decide +kernel
theorem dX5_sweeps_51 : decode cX5_sweeps 51 = .ok (.iconst 0, 1) := by decide +kernel
theorem dX5_sweeps_52 : decode cX5_sweeps 52 = .ok (.istore_n 1, 1) := by decide +kernel
theorem dX5_sweeps_53 : decode cX5_sweeps 53 = .ok (.iload_n 1, 1) := by decide +kernel
theorem dX5_sweeps_54 : decode cX5_sweeps 54 = .ok (.aload_n 0, 1) := by decide +kernel
theorem dX5_sweeps_55 : decode cX5_sweeps 55 = .ok (.getfield 7, 3) := by decide +kernel
theorem dX5_sweeps_58 : decode cX5_sweeps 58 = .ok (.iconst 1, 1) := by decide +kernel
theorem dX5_sweeps_59 : decode cX5_sweeps 59 = .ok (.iaload, 1) := by decide +kernel
theorem dX5_sweeps_60 : decode cX5_sweeps 60 = .ok (.if_icmp .ge 36, 3) := by decide +kernel
theorem dX5_sweeps_63 : decode cX5_sweeps 63 = .ok (.iload_n 1, 1) := by decide +kernel
theorem dX5_sweeps_64 : decode cX5_sweeps 64 = .ok (.aload_n 0, 1) := by decide +kernel
theorem dX5_sweeps_65 : decode cX5_sweeps 65 = .ok (.getfield 7, 3) := by decide +kernel
theorem dX5_sweeps_68 : decode cX5_sweeps 68 = .ok (.iconst 0, 1) := by decide +kernel
theorem dX5_sweeps_69 : decode cX5_sweeps 69 = .ok (.iaload, 1) := by decide +kernel
theorem dX5_sweeps_70 : decode cX5_sweeps 70 = .ok (.if_icmp .gt 15, 3) := by decide +kernel
theorem dX5_sweeps_73 : decode cX5_sweeps 73 = .ok (.aload_n 0, 1) := by decide +kernel
theorem dX5_sweeps_74 : decode cX5_sweeps 74 = .ok (.iload_n 1, 1) := by decide +kernel
theorem dX5_sweeps_75 : decode cX5_sweeps 75 = .ok (.iconst 2, 1) := by decide +kernel
theorem dX5_sweeps_76 : decode cX5_sweeps 76 = .ok (.iload_n 1, 1) := by decide +kernel
theorem dX5_sweeps_77 : decode cX5_sweeps 77 = .ok (.imul, 1) := by decide +kernel
theorem dX5_sweeps_78 : decode cX5_sweeps 78 = .ok (.iconst 0, 1) := by decide +kernel
theorem dX5_sweeps_79 : decode cX5_sweeps 79 = .ok (.invokevirtual 145, 3) := by decide +kernel
theorem dX5_sweeps_82 : decode cX5_sweeps 82 = .ok (.goto 8, 3) := by decide +kernel
theorem dX5_sweeps_85 : decode cX5_sweeps 85 = .ok (.aload_n 0, 1) := by decide +kernel
theorem dX5_sweeps_86 : decode cX5_sweeps 86 = .ok (.iload_n 1, 1) := by decide +kernel
theorem dX5_sweeps_87 : decode cX5_sweeps 87 = .ok (.invokevirtual 172, 3) := by decide +kernel
theorem dX5_sweeps_90 : decode cX5_sweeps 90 = .ok (.iinc 1 1, 3) := by decide +kernel
theorem dX5_sweeps_93 : decode cX5_sweeps 93 = .ok (.goto (-40), 3) := by decide +kernel
theorem dX5_sweeps_96 : decode cX5_sweeps 96 = .ok (.return_, 1) := by decide +kernel
theorem dX5_merged_0 : decode cX5_merged 0 = .ok (.iconst 0, 1) := by decide +kernel
theorem dX5_merged_1 : decode cX5_merged 1 = .ok (.istore_n 2, 1) := by decide +kernel
theorem dX5_merged_2 : decode cX5_merged 2 = .ok (.aload_n 0, 1) := by decide +kernel
theorem dX5_merged_3 : decode cX5_merged 3 = .ok (.getfield 7, 3) := by decide +kernel
theorem dX5_merged_6 : decode cX5_merged 6 = .ok (.iconst 0, 1) := by decide +kernel
theorem dX5_merged_7 : decode cX5_merged 7 = .ok (.iaload, 1) := by decide +kernel
theorem dX5_merged_8 : decode cX5_merged 8 = .ok (.iconst 1, 1) := by decide +kernel
theorem dX5_merged_9 : decode cX5_merged 9 = .ok (.iadd, 1) := by decide +kernel
theorem dX5_merged_10 : decode cX5_merged 10 = .ok (.istore_n 3, 1) := by decide +kernel
theorem dX5_merged_11 : decode cX5_merged 11 = .ok (.iload_n 3, 1) := by decide +kernel
theorem dX5_merged_12 : decode cX5_merged 12 = .ok (.aload_n 0, 1) := by decide +kernel
theorem dX5_merged_13 : decode cX5_merged 13 = .ok (.getfield 7, 3) := by decide +kernel
theorem dX5_merged_16 : decode cX5_merged 16 = .ok (.iconst 1, 1) := by decide +kernel
theorem dX5_merged_17 : decode cX5_merged 17 = .ok (.iaload, 1) := by decide +kernel
theorem dX5_merged_18 : decode cX5_merged 18 = .ok (.if_icmp .ge 27, 3) := by decide +kernel
theorem dX5_merged_21 : decode cX5_merged 21 = .ok (.iload_n 2, 1) := by decide +kernel
theorem dX5_merged_22 : decode cX5_merged 22 = .ok (.aload_n 0, 1) := by decide +kernel
theorem dX5_merged_23 : decode cX5_merged 23 = .ok (.getfield 40, 3) := by decide +kernel
theorem dX5_merged_26 : decode cX5_merged 26 = .ok (.iload_n 3, 1) := by decide +kernel
theorem dX5_merged_27 : decode cX5_merged 27 = .ok (.iaload, 1) := by decide +kernel
theorem dX5_merged_28 : decode cX5_merged 28 = .ok (.iload_n 1, 1) := by decide +kernel
theorem dX5_merged_29 : decode cX5_merged 29 = .ok (.if_icmp .ne 7, 3) := by decide +kernel
theorem dX5_merged_32 : decode cX5_merged 32 = .ok (.iconst 1, 1) := by decide +kernel
theorem dX5_merged_33 : decode cX5_merged 33 = .ok (.goto 4, 3) := by decide +kernel
theorem dX5_merged_36 : decode cX5_merged 36 = .ok (.iconst 0, 1) := by decide +kernel
theorem dX5_merged_37 : decode cX5_merged 37 = .ok (.iadd, 1) := by decide +kernel
theorem dX5_merged_38 : decode cX5_merged 38 = .ok (.istore_n 2, 1) := by decide +kernel
theorem dX5_merged_39 : decode cX5_merged 39 = .ok (.iinc 3 1, 3) := by decide +kernel
theorem dX5_merged_42 : decode cX5_merged 42 = .ok (.goto (-31), 3) := by decide +kernel
theorem dX5_merged_45 : decode cX5_merged 45 = .ok (.iload_n 2, 1) := by decide +kernel
theorem dX5_merged_46 : decode cX5_merged 46 = .ok (.ireturn, 1) := by decide +kernel
theorem dX5_settled_0 : decode cX5_settled 0 = .ok (.iconst 2, 1) := by decide +kernel
theorem dX5_settled_1 : decode cX5_settled 1 = .ok (.aload_n 0, 1) := by decide +kernel
theorem dX5_settled_2 : decode cX5_settled 2 = .ok (.getfield 43, 3) := by decide +kernel
theorem dX5_settled_5 : decode cX5_settled 5 = .ok (.iload_n 1, 1) := by decide +kernel
theorem dX5_settled_6 : decode cX5_settled 6 = .ok (.iconst 2, 1) := by decide +kernel
theorem dX5_settled_7 : decode cX5_settled 7 = .ok (.idiv, 1) := by decide +kernel
theorem dX5_settled_8 : decode cX5_settled 8 = .ok (.iaload, 1) := by decide +kernel
theorem dX5_settled_9 : decode cX5_settled 9 = .ok (.imul, 1) := by decide +kernel
theorem dX5_settled_10 : decode cX5_settled 10 = .ok (.iload_n 1, 1) := by decide +kernel
theorem dX5_settled_11 : decode cX5_settled 11 = .ok (.iconst 2, 1) := by decide +kernel
theorem dX5_settled_12 : decode cX5_settled 12 = .ok (.irem, 1) := by decide +kernel
theorem dX5_settled_13 : decode cX5_settled 13 = .ok (.iadd, 1) := by decide +kernel
theorem dX5_settled_14 : decode cX5_settled 14 = .ok (.ireturn, 1) := by decide +kernel
theorem dX5_settlesAll_0 : decode cX5_settlesAll 0 = .ok (.aload_n 0, 1) := by decide +kernel
theorem dX5_settlesAll_1 : decode cX5_settlesAll 1 = .ok (.invokevirtual 175, 3) := by decide +kernel
theorem dX5_settlesAll_4 : decode cX5_settlesAll 4 = .ok (.iconst 0, 1) := by decide +kernel
theorem dX5_settlesAll_5 : decode cX5_settlesAll 5 = .ok (.istore_n 1, 1) := by decide +kernel
theorem dX5_settlesAll_6 : decode cX5_settlesAll 6 = .ok (.iconst 0, 1) := by decide +kernel
theorem dX5_settlesAll_7 : decode cX5_settlesAll 7 = .ok (.istore_n 2, 1) := by decide +kernel
theorem dX5_settlesAll_8 : decode cX5_settlesAll 8 = .ok (.iload_n 2, 1) := by decide +kernel
theorem dX5_settlesAll_9 : decode cX5_settlesAll 9 = .ok (.aload_n 0, 1) := by decide +kernel
theorem dX5_settlesAll_10 : decode cX5_settlesAll 10 = .ok (.getfield 7, 3) := by decide +kernel
theorem dX5_settlesAll_13 : decode cX5_settlesAll 13 = .ok (.iconst 1, 1) := by decide +kernel
theorem dX5_settlesAll_14 : decode cX5_settlesAll 14 = .ok (.iaload, 1) := by decide +kernel
theorem dX5_settlesAll_15 : decode cX5_settlesAll 15 = .ok (.if_icmp .ge 33, 3) := by decide +kernel
theorem dX5_settlesAll_18 : decode cX5_settlesAll 18 = .ok (.aload_n 0, 1) := by decide +kernel
theorem dX5_settlesAll_19 : decode cX5_settlesAll 19 = .ok (.getfield 43, 3) := by decide +kernel
theorem dX5_settlesAll_22 : decode cX5_settlesAll 22 = .ok (.iload_n 2, 1) := by decide +kernel
theorem dX5_settlesAll_23 : decode cX5_settlesAll 23 = .ok (.iload_n 1, 1) := by decide +kernel
theorem dX5_settlesAll_24 : decode cX5_settlesAll 24 = .ok (.iastore, 1) := by decide +kernel
theorem dX5_settlesAll_25 : decode cX5_settlesAll 25 = .ok (.iload_n 1, 1) := by decide +kernel
theorem dX5_settlesAll_26 : decode cX5_settlesAll 26 = .ok (.aload_n 0, 1) := by decide +kernel
theorem dX5_settlesAll_27 : decode cX5_settlesAll 27 = .ok (.getfield 40, 3) := by decide +kernel
theorem dX5_settlesAll_30 : decode cX5_settlesAll 30 = .ok (.iload_n 2, 1) := by decide +kernel
theorem dX5_settlesAll_31 : decode cX5_settlesAll 31 = .ok (.iaload, 1) := by decide +kernel
theorem dX5_settlesAll_32 : decode cX5_settlesAll 32 = .ok (.ifCond .ne 7, 3) := by decide +kernel
theorem dX5_settlesAll_35 : decode cX5_settlesAll 35 = .ok (.iconst 1, 1) := by decide +kernel
theorem dX5_settlesAll_36 : decode cX5_settlesAll 36 = .ok (.goto 4, 3) := by decide +kernel
theorem dX5_settlesAll_39 : decode cX5_settlesAll 39 = .ok (.iconst 0, 1) := by decide +kernel
theorem dX5_settlesAll_40 : decode cX5_settlesAll 40 = .ok (.iadd, 1) := by decide +kernel
theorem dX5_settlesAll_41 : decode cX5_settlesAll 41 = .ok (.istore_n 1, 1) := by decide +kernel
theorem dX5_settlesAll_42 : decode cX5_settlesAll 42 = .ok (.iinc 2 1, 3) := by decide +kernel
theorem dX5_settlesAll_45 : decode cX5_settlesAll 45 = .ok (.goto (-37), 3) := by decide +kernel
theorem dX5_settlesAll_48 : decode cX5_settlesAll 48 = .ok (.iconst 0, 1) := by decide +kernel
theorem dX5_settlesAll_49 : decode cX5_settlesAll 49 = .ok (.istore_n 2, 1) := by decide +kernel
theorem dX5_settlesAll_50 : decode cX5_settlesAll 50 = .ok (.iload_n 2, 1) := by decide +kernel
theorem dX5_settlesAll_51 : decode cX5_settlesAll 51 = .ok (.bipush 12, 2) := by decide +kernel
theorem dX5_settlesAll_53 : decode cX5_settlesAll 53 = .ok (.if_icmp .ge 68, 3) := by decide +kernel
theorem dX5_settlesAll_56 : decode cX5_settlesAll 56 = .ok (.iload_n 2, 1) := by decide +kernel
theorem dX5_settlesAll_57 : decode cX5_settlesAll 57 = .ok (.bipush 6, 2) := by decide +kernel
theorem dX5_settlesAll_59 : decode cX5_settlesAll 59 = .ok (.irem, 1) := by decide +kernel
theorem dX5_settlesAll_60 : decode cX5_settlesAll 60 = .ok (.aload_n 0, 1) := by decide +kernel
theorem dX5_settlesAll_61 : decode cX5_settlesAll 61 = .ok (.getfield 7, 3) := by decide +kernel
theorem dX5_settlesAll_64 : decode cX5_settlesAll 64 = .ok (.bipush 98, 2) := by decide +kernel
theorem dX5_settlesAll_66 : decode cX5_settlesAll 66 = .ok (.iload_n 2, 1) := by decide +kernel
theorem dX5_settlesAll_67 : decode cX5_settlesAll 67 = .ok (.bipush 6, 2) := by decide +kernel
theorem dX5_settlesAll_69 : decode cX5_settlesAll 69 = .ok (.idiv, 1) := by decide +kernel
theorem dX5_settlesAll_70 : decode cX5_settlesAll 70 = .ok (.iadd, 1) := by decide +kernel
theorem dX5_settlesAll_71 : decode cX5_settlesAll 71 = .ok (.iaload, 1) := by decide +kernel
theorem dX5_settlesAll_72 : decode cX5_settlesAll 72 = .ok (.if_icmp .ge 7, 3) := by decide +kernel
theorem dX5_settlesAll_75 : decode cX5_settlesAll 75 = .ok (.iconst 1, 1) := by decide +kernel
theorem dX5_settlesAll_76 : decode cX5_settlesAll 76 = .ok (.goto 4, 3) := by decide +kernel
theorem dX5_settlesAll_79 : decode cX5_settlesAll 79 = .ok (.iconst 0, 1) := by decide +kernel
theorem dX5_settlesAll_80 : decode cX5_settlesAll 80 = .ok (.istore_n 3, 1) := by decide +kernel
theorem dX5_settlesAll_81 : decode cX5_settlesAll 81 = .ok (.aload_n 0, 1) := by decide +kernel
theorem dX5_settlesAll_82 : decode cX5_settlesAll 82 = .ok (.getfield 7, 3) := by decide +kernel
theorem dX5_settlesAll_85 : decode cX5_settlesAll 85 = .ok (.bipush 100, 2) := by decide +kernel
theorem dX5_settlesAll_87 : decode cX5_settlesAll 87 = .ok (.iload_n 2, 1) := by decide +kernel
theorem dX5_settlesAll_88 : decode cX5_settlesAll 88 = .ok (.iadd, 1) := by decide +kernel
theorem dX5_settlesAll_89 : decode cX5_settlesAll 89 = .ok (.iload_n 3, 1) := by decide +kernel
theorem dX5_settlesAll_90 : decode cX5_settlesAll 90 = .ok (.ifCond .eq 23, 3) := by decide +kernel
theorem dX5_settlesAll_93 : decode cX5_settlesAll 93 = .ok (.aload_n 0, 1) := by decide +kernel
theorem dX5_settlesAll_94 : decode cX5_settlesAll 94 = .ok (.aload_n 0, 1) := by decide +kernel
theorem dX5_settlesAll_95 : decode cX5_settlesAll 95 = .ok (.aload_n 0, 1) := by decide +kernel
theorem dX5_settlesAll_96 : decode cX5_settlesAll 96 = .ok (.getfield 7, 3) := by decide +kernel
theorem dX5_settlesAll_99 : decode cX5_settlesAll 99 = .ok (.bipush 100, 2) := by decide +kernel
theorem dX5_settlesAll_101 : decode cX5_settlesAll 101 = .ok (.iload_n 2, 1) := by decide +kernel
theorem dX5_settlesAll_102 : decode cX5_settlesAll 102 = .ok (.iadd, 1) := by decide +kernel
theorem dX5_settlesAll_103 : decode cX5_settlesAll 103 = .ok (.iaload, 1) := by decide +kernel
theorem dX5_settlesAll_104 : decode cX5_settlesAll 104 = .ok (.invokevirtual 159, 3) := by decide +kernel
theorem dX5_settlesAll_107 : decode cX5_settlesAll 107 = .ok (.invokevirtual 178, 3) := by decide +kernel
theorem dX5_settlesAll_110 : decode cX5_settlesAll 110 = .ok (.goto 4, 3) := by decide +kernel
theorem dX5_settlesAll_113 : decode cX5_settlesAll 113 = .ok (.iconst 0, 1) := by decide +kernel
theorem dX5_settlesAll_114 : decode cX5_settlesAll 114 = .ok (.iastore, 1) := by decide +kernel
theorem dX5_settlesAll_115 : decode cX5_settlesAll 115 = .ok (.iinc 2 1, 3) := by decide +kernel
theorem dX5_settlesAll_118 : decode cX5_settlesAll 118 = .ok (.goto (-68), 3) := by decide +kernel
theorem dX5_settlesAll_121 : decode cX5_settlesAll 121 = .ok (.aload_n 0, 1) := by decide +kernel
theorem dX5_settlesAll_122 : decode cX5_settlesAll 122 = .ok (.getfield 7, 3) := by decide +kernel
theorem dX5_settlesAll_125 : decode cX5_settlesAll 125 = .ok (.iconst 0, 1) := by decide +kernel
theorem dX5_settlesAll_126 : decode cX5_settlesAll 126 = .ok (.iaload, 1) := by decide +kernel
theorem dX5_settlesAll_127 : decode cX5_settlesAll 127 = .ok (.iconst 1, 1) := by decide +kernel
theorem dX5_settlesAll_128 : decode cX5_settlesAll 128 = .ok (.iadd, 1) := by decide +kernel
theorem dX5_settlesAll_129 : decode cX5_settlesAll 129 = .ok (.istore_n 2, 1) := by decide +kernel
theorem dX5_settlesAll_130 : decode cX5_settlesAll 130 = .ok (.iload_n 2, 1) := by decide +kernel
theorem dX5_settlesAll_131 : decode cX5_settlesAll 131 = .ok (.aload_n 0, 1) := by decide +kernel
theorem dX5_settlesAll_132 : decode cX5_settlesAll 132 = .ok (.getfield 7, 3) := by decide +kernel
theorem dX5_settlesAll_135 : decode cX5_settlesAll 135 = .ok (.iconst 1, 1) := by decide +kernel
theorem dX5_settlesAll_136 : decode cX5_settlesAll 136 = .ok (.iaload, 1) := by decide +kernel
theorem dX5_settlesAll_137 : decode cX5_settlesAll 137 = .ok (.if_icmp .ge 65, 3) := by decide +kernel
theorem dX5_settlesAll_140 : decode cX5_settlesAll 140 = .ok (.aload_n 0, 1) := by decide +kernel
theorem dX5_settlesAll_141 : decode cX5_settlesAll 141 = .ok (.getfield 40, 3) := by decide +kernel
theorem dX5_settlesAll_144 : decode cX5_settlesAll 144 = .ok (.iload_n 2, 1) := by decide +kernel
theorem dX5_settlesAll_145 : decode cX5_settlesAll 145 = .ok (.iaload, 1) := by decide +kernel
theorem dX5_settlesAll_146 : decode cX5_settlesAll 146 = .ok (.ifCond .ne 50, 3) := by decide +kernel
theorem dX5_settlesAll_149 : decode cX5_settlesAll 149 = .ok (.aload_n 0, 1) := by decide +kernel
theorem dX5_settlesAll_150 : decode cX5_settlesAll 150 = .ok (.getfield 7, 3) := by decide +kernel
theorem dX5_settlesAll_153 : decode cX5_settlesAll 153 = .ok (.iconst 2, 1) := by decide +kernel
theorem dX5_settlesAll_154 : decode cX5_settlesAll 154 = .ok (.aload_n 0, 1) := by decide +kernel
theorem dX5_settlesAll_155 : decode cX5_settlesAll 155 = .ok (.getfield 43, 3) := by decide +kernel
theorem dX5_settlesAll_158 : decode cX5_settlesAll 158 = .ok (.iload_n 2, 1) := by decide +kernel
theorem dX5_settlesAll_159 : decode cX5_settlesAll 159 = .ok (.iaload, 1) := by decide +kernel
theorem dX5_settlesAll_160 : decode cX5_settlesAll 160 = .ok (.iadd, 1) := by decide +kernel
theorem dX5_settlesAll_161 : decode cX5_settlesAll 161 = .ok (.aload_n 0, 1) := by decide +kernel
theorem dX5_settlesAll_162 : decode cX5_settlesAll 162 = .ok (.aload_n 0, 1) := by decide +kernel
theorem dX5_settlesAll_163 : decode cX5_settlesAll 163 = .ok (.getfield 34, 3) := by decide +kernel
theorem dX5_settlesAll_166 : decode cX5_settlesAll 166 = .ok (.iload_n 2, 1) := by decide +kernel
theorem dX5_settlesAll_167 : decode cX5_settlesAll 167 = .ok (.iaload, 1) := by decide +kernel
theorem dX5_settlesAll_168 : decode cX5_settlesAll 168 = .ok (.invokevirtual 178, 3) := by decide +kernel
theorem dX5_settlesAll_171 : decode cX5_settlesAll 171 = .ok (.iastore, 1) := by decide +kernel
theorem dX5_settlesAll_172 : decode cX5_settlesAll 172 = .ok (.aload_n 0, 1) := by decide +kernel
theorem dX5_settlesAll_173 : decode cX5_settlesAll 173 = .ok (.getfield 7, 3) := by decide +kernel
theorem dX5_settlesAll_176 : decode cX5_settlesAll 176 = .ok (.bipush 50, 2) := by decide +kernel
theorem dX5_settlesAll_178 : decode cX5_settlesAll 178 = .ok (.aload_n 0, 1) := by decide +kernel
theorem dX5_settlesAll_179 : decode cX5_settlesAll 179 = .ok (.getfield 43, 3) := by decide +kernel
theorem dX5_settlesAll_182 : decode cX5_settlesAll 182 = .ok (.iload_n 2, 1) := by decide +kernel
theorem dX5_settlesAll_183 : decode cX5_settlesAll 183 = .ok (.iaload, 1) := by decide +kernel
theorem dX5_settlesAll_184 : decode cX5_settlesAll 184 = .ok (.iadd, 1) := by decide +kernel
theorem dX5_settlesAll_185 : decode cX5_settlesAll 185 = .ok (.aload_n 0, 1) := by decide +kernel
theorem dX5_settlesAll_186 : decode cX5_settlesAll 186 = .ok (.aload_n 0, 1) := by decide +kernel
theorem dX5_settlesAll_187 : decode cX5_settlesAll 187 = .ok (.getfield 37, 3) := by decide +kernel
theorem dX5_settlesAll_190 : decode cX5_settlesAll 190 = .ok (.iload_n 2, 1) := by decide +kernel
theorem dX5_settlesAll_191 : decode cX5_settlesAll 191 = .ok (.iaload, 1) := by decide +kernel
theorem dX5_settlesAll_192 : decode cX5_settlesAll 192 = .ok (.invokevirtual 178, 3) := by decide +kernel
theorem dX5_settlesAll_195 : decode cX5_settlesAll 195 = .ok (.iastore, 1) := by decide +kernel
theorem dX5_settlesAll_196 : decode cX5_settlesAll 196 = .ok (.iinc 2 1, 3) := by decide +kernel
theorem dX5_settlesAll_199 : decode cX5_settlesAll 199 = .ok (.goto (-69), 3) := by decide +kernel
theorem dX5_settlesAll_202 : decode cX5_settlesAll 202 = .ok (.aload_n 0, 1) := by decide +kernel
theorem dX5_settlesAll_203 : decode cX5_settlesAll 203 = .ok (.getfield 7, 3) := by decide +kernel
theorem dX5_settlesAll_206 : decode cX5_settlesAll 206 = .ok (.iconst 1, 1) := by decide +kernel
theorem dX5_settlesAll_207 : decode cX5_settlesAll 207 = .ok (.iaload, 1) := by decide +kernel
theorem dX5_settlesAll_208 : decode cX5_settlesAll 208 = .ok (.iload_n 1, 1) := by decide +kernel
theorem dX5_settlesAll_209 : decode cX5_settlesAll 209 = .ok (.isub, 1) := by decide +kernel
theorem dX5_settlesAll_210 : decode cX5_settlesAll 210 = .ok (.istore_n 2, 1) := by decide +kernel
theorem dX5_settlesAll_211 : decode cX5_settlesAll 211 = .ok (.aload_n 0, 1) := by decide +kernel
theorem dX5_settlesAll_212 : decode cX5_settlesAll 212 = .ok (.getfield 7, 3) := by decide +kernel
theorem dX5_settlesAll_215 : decode cX5_settlesAll 215 = .ok (.iconst 1, 1) := by decide +kernel
theorem dX5_settlesAll_216 : decode cX5_settlesAll 216 = .ok (.iload_n 1, 1) := by decide +kernel
theorem dX5_settlesAll_217 : decode cX5_settlesAll 217 = .ok (.iastore, 1) := by decide +kernel
theorem dX5_settlesAll_218 : decode cX5_settlesAll 218 = .ok (.iload_n 2, 1) := by decide +kernel
theorem dX5_settlesAll_219 : decode cX5_settlesAll 219 = .ok (.ireturn, 1) := by decide +kernel
theorem dX5_settles_0 : decode cX5_settles 0 = .ok (.aload_n 0, 1) := by decide +kernel
theorem dX5_settles_1 : decode cX5_settles 1 = .ok (.invokevirtual 101, 3) := by decide +kernel
theorem dX5_settles_4 : decode cX5_settles 4 = .ok (.aload_n 0, 1) := by decide +kernel
theorem dX5_settles_5 : decode cX5_settles 5 = .ok (.aload_n 0, 1) := by decide +kernel
theorem dX5_settles_6 : decode cX5_settles 6 = .ok (.invokevirtual 181, 3) := by decide +kernel
theorem dX5_settles_9 : decode cX5_settles 9 = .ok (.invokevirtual 107, 3) := by decide +kernel
theorem dX5_settles_12 : decode cX5_settles 12 = .ok (.ireturn, 1) := by decide +kernel
theorem dX5_of_0 : decode cX5_of 0 = .ok (.aload_n 0, 1) := by decide +kernel
theorem dX5_of_1 : decode cX5_of 1 = .ok (.iload_n 1, 1) := by decide +kernel
theorem dX5_of_2 : decode cX5_of 2 = .ok (.invokevirtual 184, 3) := by decide +kernel
theorem dX5_of_5 : decode cX5_of 5 = .ok (.ifCond .eq 10, 3) := by decide +kernel
theorem dX5_of_8 : decode cX5_of 8 = .ok (.iload_n 2, 1) := by decide +kernel
theorem dX5_of_9 : decode cX5_of 9 = .ok (.invokestatic 95, 3) := by decide +kernel
theorem dX5_of_12 : decode cX5_of 12 = .ok (.ifCond .ne 8, 3) := by decide +kernel
theorem dX5_of_15 : decode cX5_of 15 = .ok (.aload_n 0, 1) := by decide +kernel
theorem dX5_of_16 : decode cX5_of 16 = .ok (.invokevirtual 77, 3) := by decide +kernel
theorem dX5_of_19 : decode cX5_of 19 = .ok (.ireturn, 1) := by decide +kernel
theorem dX5_of_20 : decode cX5_of 20 = .ok (.aload_n 0, 1) := by decide +kernel
theorem dX5_of_21 : decode cX5_of 21 = .ok (.getfield 7, 3) := by decide +kernel
theorem dX5_of_24 : decode cX5_of 24 = .ok (.iload_n 2, 1) := by decide +kernel
theorem dX5_of_25 : decode cX5_of 25 = .ok (.ifCond .ne 7, 3) := by decide +kernel
theorem dX5_of_28 : decode cX5_of 28 = .ok (.iconst 2, 1) := by decide +kernel
theorem dX5_of_29 : decode cX5_of 29 = .ok (.goto 5, 3) := by decide +kernel
theorem dX5_of_32 : decode cX5_of 32 = .ok (.bipush 50, 2) := by decide +kernel
theorem dX5_of_34 : decode cX5_of 34 = .ok (.iload_n 1, 1) := by decide +kernel
theorem dX5_of_35 : decode cX5_of 35 = .ok (.iadd, 1) := by decide +kernel
theorem dX5_of_36 : decode cX5_of 36 = .ok (.iaload, 1) := by decide +kernel
theorem dX5_of_37 : decode cX5_of 37 = .ok (.ireturn, 1) := by decide +kernel
theorem dX5_table_0 : decode cX5_table 0 = .ok (.aload_n 0, 1) := by decide +kernel
theorem dX5_table_1 : decode cX5_table 1 = .ok (.iload_n 1, 1) := by decide +kernel
theorem dX5_table_2 : decode cX5_table 2 = .ok (.invokevirtual 80, 3) := by decide +kernel
theorem dX5_table_5 : decode cX5_table 5 = .ok (.ifCond .eq 11, 3) := by decide +kernel
theorem dX5_table_8 : decode cX5_table 8 = .ok (.aload_n 0, 1) := by decide +kernel
theorem dX5_table_9 : decode cX5_table 9 = .ok (.iload_n 1, 1) := by decide +kernel
theorem dX5_table_10 : decode cX5_table 10 = .ok (.invokevirtual 187, 3) := by decide +kernel
theorem dX5_table_13 : decode cX5_table 13 = .ok (.goto 7, 3) := by decide +kernel
theorem dX5_table_16 : decode cX5_table 16 = .ok (.aload_n 0, 1) := by decide +kernel
theorem dX5_table_17 : decode cX5_table 17 = .ok (.invokevirtual 77, 3) := by decide +kernel
theorem dX5_table_20 : decode cX5_table 20 = .ok (.ireturn, 1) := by decide +kernel
theorem dX5_at_0 : decode cX5_at 0 = .ok (.aload_n 0, 1) := by decide +kernel
theorem dX5_at_1 : decode cX5_at 1 = .ok (.iload_n 1, 1) := by decide +kernel
theorem dX5_at_2 : decode cX5_at 2 = .ok (.invokevirtual 80, 3) := by decide +kernel
theorem dX5_at_5 : decode cX5_at 5 = .ok (.ifCond .eq 29, 3) := by decide +kernel
theorem dX5_at_8 : decode cX5_at 8 = .ok (.iload_n 2, 1) := by decide +kernel
theorem dX5_at_9 : decode cX5_at 9 = .ok (.iconst 0, 1) := by decide +kernel
theorem dX5_at_10 : decode cX5_at 10 = .ok (.aload_n 0, 1) := by decide +kernel
theorem dX5_at_11 : decode cX5_at 11 = .ok (.invokevirtual 98, 3) := by decide +kernel
theorem dX5_at_14 : decode cX5_at 14 = .ok (.iconst 1, 1) := by decide +kernel
theorem dX5_at_15 : decode cX5_at 15 = .ok (.isub, 1) := by decide +kernel
theorem dX5_at_16 : decode cX5_at 16 = .ok (.invokestatic 55, 3) := by decide +kernel
theorem dX5_at_19 : decode cX5_at 19 = .ok (.ifCond .eq 15, 3) := by decide +kernel
theorem dX5_at_22 : decode cX5_at 22 = .ok (.aload_n 0, 1) := by decide +kernel
theorem dX5_at_23 : decode cX5_at 23 = .ok (.iload_n 1, 1) := by decide +kernel
theorem dX5_at_24 : decode cX5_at 24 = .ok (.invokevirtual 187, 3) := by decide +kernel
theorem dX5_at_27 : decode cX5_at 27 = .ok (.iload_n 2, 1) := by decide +kernel
theorem dX5_at_28 : decode cX5_at 28 = .ok (.ishr, 1) := by decide +kernel
theorem dX5_at_29 : decode cX5_at 29 = .ok (.iconst 1, 1) := by decide +kernel
theorem dX5_at_30 : decode cX5_at 30 = .ok (.iand, 1) := by decide +kernel
theorem dX5_at_31 : decode cX5_at 31 = .ok (.goto 7, 3) := by decide +kernel
theorem dX5_at_34 : decode cX5_at 34 = .ok (.aload_n 0, 1) := by decide +kernel
theorem dX5_at_35 : decode cX5_at 35 = .ok (.invokevirtual 77, 3) := by decide +kernel
theorem dX5_at_38 : decode cX5_at 38 = .ok (.ireturn, 1) := by decide +kernel
theorem dX5_depthOf_0 : decode cX5_depthOf 0 = .ok (.iconst 0, 1) := by decide +kernel
theorem dX5_depthOf_1 : decode cX5_depthOf 1 = .ok (.istore_n 2, 1) := by decide +kernel
theorem dX5_depthOf_2 : decode cX5_depthOf 2 = .ok (.iload_n 2, 1) := by decide +kernel
theorem dX5_depthOf_3 : decode cX5_depthOf 3 = .ok (.iload_n 1, 1) := by decide +kernel
theorem dX5_depthOf_4 : decode cX5_depthOf 4 = .ok (.if_icmp .gt 80, 3) := by decide +kernel
theorem dX5_depthOf_7 : decode cX5_depthOf 7 = .ok (.aload_n 0, 1) := by decide +kernel
theorem dX5_depthOf_8 : decode cX5_depthOf 8 = .ok (.getfield 46, 3) := by decide +kernel
theorem dX5_depthOf_11 : decode cX5_depthOf 11 = .ok (.iload_n 2, 1) := by decide +kernel
theorem dX5_depthOf_12 : decode cX5_depthOf 12 = .ok (.iconst 0, 1) := by decide +kernel
theorem dX5_depthOf_13 : decode cX5_depthOf 13 = .ok (.iastore, 1) := by decide +kernel
theorem dX5_depthOf_14 : decode cX5_depthOf 14 = .ok (.iload_n 2, 1) := by decide +kernel
theorem dX5_depthOf_15 : decode cX5_depthOf 15 = .ok (.aload_n 0, 1) := by decide +kernel
theorem dX5_depthOf_16 : decode cX5_depthOf 16 = .ok (.getfield 7, 3) := by decide +kernel
theorem dX5_depthOf_19 : decode cX5_depthOf 19 = .ok (.iconst 0, 1) := by decide +kernel
theorem dX5_depthOf_20 : decode cX5_depthOf 20 = .ok (.iaload, 1) := by decide +kernel
theorem dX5_depthOf_21 : decode cX5_depthOf 21 = .ok (.if_icmp .le 57, 3) := by decide +kernel
theorem dX5_depthOf_24 : decode cX5_depthOf 24 = .ok (.aload_n 0, 1) := by decide +kernel
theorem dX5_depthOf_25 : decode cX5_depthOf 25 = .ok (.getfield 46, 3) := by decide +kernel
theorem dX5_depthOf_28 : decode cX5_depthOf 28 = .ok (.aload_n 0, 1) := by decide +kernel
theorem dX5_depthOf_29 : decode cX5_depthOf 29 = .ok (.getfield 7, 3) := by decide +kernel
theorem dX5_depthOf_32 : decode cX5_depthOf 32 = .ok (.iconst 2, 1) := by decide +kernel
theorem dX5_depthOf_33 : decode cX5_depthOf 33 = .ok (.iload_n 2, 1) := by decide +kernel
theorem dX5_depthOf_34 : decode cX5_depthOf 34 = .ok (.iadd, 1) := by decide +kernel
theorem dX5_depthOf_35 : decode cX5_depthOf 35 = .ok (.iaload, 1) := by decide +kernel
theorem dX5_depthOf_36 : decode cX5_depthOf 36 = .ok (.iconst 2, 1) := by decide +kernel
theorem dX5_depthOf_37 : decode cX5_depthOf 37 = .ok (.idiv, 1) := by decide +kernel
theorem dX5_depthOf_38 : decode cX5_depthOf 38 = .ok (.iaload, 1) := by decide +kernel
theorem dX5_depthOf_39 : decode cX5_depthOf 39 = .ok (.istore_n 3, 1) := by decide +kernel
theorem dX5_depthOf_40 : decode cX5_depthOf 40 = .ok (.aload_n 0, 1) := by decide +kernel
theorem dX5_depthOf_41 : decode cX5_depthOf 41 = .ok (.getfield 46, 3) := by decide +kernel
theorem dX5_depthOf_44 : decode cX5_depthOf 44 = .ok (.aload_n 0, 1) := by decide +kernel
theorem dX5_depthOf_45 : decode cX5_depthOf 45 = .ok (.getfield 7, 3) := by decide +kernel
theorem dX5_depthOf_48 : decode cX5_depthOf 48 = .ok (.bipush 50, 2) := by decide +kernel
theorem dX5_depthOf_50 : decode cX5_depthOf 50 = .ok (.iload_n 2, 1) := by decide +kernel
theorem dX5_depthOf_51 : decode cX5_depthOf 51 = .ok (.iadd, 1) := by decide +kernel
theorem dX5_depthOf_52 : decode cX5_depthOf 52 = .ok (.iaload, 1) := by decide +kernel
theorem dX5_depthOf_53 : decode cX5_depthOf 53 = .ok (.iconst 2, 1) := by decide +kernel
theorem dX5_depthOf_54 : decode cX5_depthOf 54 = .ok (.idiv, 1) := by decide +kernel
theorem dX5_depthOf_55 : decode cX5_depthOf 55 = .ok (.iaload, 1) := by decide +kernel
theorem dX5_depthOf_56 : decode cX5_depthOf 56 = .ok (.istore 4, 2) := by decide +kernel
theorem dX5_depthOf_58 : decode cX5_depthOf 58 = .ok (.aload_n 0, 1) := by decide +kernel
theorem dX5_depthOf_59 : decode cX5_depthOf 59 = .ok (.getfield 46, 3) := by decide +kernel
theorem dX5_depthOf_62 : decode cX5_depthOf 62 = .ok (.iload_n 2, 1) := by decide +kernel
theorem dX5_depthOf_63 : decode cX5_depthOf 63 = .ok (.iconst 1, 1) := by decide +kernel
theorem dX5_depthOf_64 : decode cX5_depthOf 64 = .ok (.iload_n 3, 1) := by decide +kernel
theorem dX5_depthOf_65 : decode cX5_depthOf 65 = .ok (.iload 4, 2) := by decide +kernel
theorem dX5_depthOf_67 : decode cX5_depthOf 67 = .ok (.if_icmp .le 7, 3) := by decide +kernel
theorem dX5_depthOf_70 : decode cX5_depthOf 70 = .ok (.iload_n 3, 1) := by decide +kernel
theorem dX5_depthOf_71 : decode cX5_depthOf 71 = .ok (.goto 5, 3) := by decide +kernel
theorem dX5_depthOf_74 : decode cX5_depthOf 74 = .ok (.iload 4, 2) := by decide +kernel
theorem dX5_depthOf_76 : decode cX5_depthOf 76 = .ok (.iadd, 1) := by decide +kernel
theorem dX5_depthOf_77 : decode cX5_depthOf 77 = .ok (.iastore, 1) := by decide +kernel
theorem dX5_depthOf_78 : decode cX5_depthOf 78 = .ok (.iinc 2 1, 3) := by decide +kernel
theorem dX5_depthOf_81 : decode cX5_depthOf 81 = .ok (.goto (-79), 3) := by decide +kernel
theorem dX5_depthOf_84 : decode cX5_depthOf 84 = .ok (.aload_n 0, 1) := by decide +kernel
theorem dX5_depthOf_85 : decode cX5_depthOf 85 = .ok (.getfield 46, 3) := by decide +kernel
theorem dX5_depthOf_88 : decode cX5_depthOf 88 = .ok (.iload_n 1, 1) := by decide +kernel
theorem dX5_depthOf_89 : decode cX5_depthOf 89 = .ok (.iaload, 1) := by decide +kernel
theorem dX5_depthOf_90 : decode cX5_depthOf 90 = .ok (.ireturn, 1) := by decide +kernel
theorem dX5_depth_0 : decode cX5_depth 0 = .ok (.aload_n 0, 1) := by decide +kernel
theorem dX5_depth_1 : decode cX5_depth 1 = .ok (.iload_n 1, 1) := by decide +kernel
theorem dX5_depth_2 : decode cX5_depth 2 = .ok (.invokevirtual 80, 3) := by decide +kernel
theorem dX5_depth_5 : decode cX5_depth 5 = .ok (.ifCond .eq 13, 3) := by decide +kernel
theorem dX5_depth_8 : decode cX5_depth 8 = .ok (.aload_n 0, 1) := by decide +kernel
theorem dX5_depth_9 : decode cX5_depth 9 = .ok (.iload_n 1, 1) := by decide +kernel
theorem dX5_depth_10 : decode cX5_depth 10 = .ok (.iconst 2, 1) := by decide +kernel
theorem dX5_depth_11 : decode cX5_depth 11 = .ok (.idiv, 1) := by decide +kernel
theorem dX5_depth_12 : decode cX5_depth 12 = .ok (.invokevirtual 190, 3) := by decide +kernel
theorem dX5_depth_15 : decode cX5_depth 15 = .ok (.goto 7, 3) := by decide +kernel
theorem dX5_depth_18 : decode cX5_depth 18 = .ok (.aload_n 0, 1) := by decide +kernel
theorem dX5_depth_19 : decode cX5_depth 19 = .ok (.invokevirtual 77, 3) := by decide +kernel
theorem dX5_depth_22 : decode cX5_depth 22 = .ok (.ireturn, 1) := by decide +kernel
theorem dX5_coneOf_0 : decode cX5_coneOf 0 = .ok (.lconst 1, 1) := by decide +kernel
theorem dX5_coneOf_1 : decode cX5_coneOf 1 = .ok (.iload_n 1, 1) := by decide +kernel
theorem dX5_coneOf_2 : decode cX5_coneOf 2 = .ok (.lshl, 1) := by decide +kernel
theorem dX5_coneOf_3 : decode cX5_coneOf 3 = .ok (.lstore_n 2, 1) := by decide +kernel
theorem dX5_coneOf_4 : decode cX5_coneOf 4 = .ok (.iconst 0, 1) := by decide +kernel
theorem dX5_coneOf_5 : decode cX5_coneOf 5 = .ok (.istore 4, 2) := by decide +kernel
theorem dX5_coneOf_7 : decode cX5_coneOf 7 = .ok (.iload_n 1, 1) := by decide +kernel
theorem dX5_coneOf_8 : decode cX5_coneOf 8 = .ok (.istore 5, 2) := by decide +kernel
theorem dX5_coneOf_10 : decode cX5_coneOf 10 = .ok (.iload 5, 2) := by decide +kernel
theorem dX5_coneOf_12 : decode cX5_coneOf 12 = .ok (.aload_n 0, 1) := by decide +kernel
theorem dX5_coneOf_13 : decode cX5_coneOf 13 = .ok (.getfield 7, 3) := by decide +kernel
theorem dX5_coneOf_16 : decode cX5_coneOf 16 = .ok (.iconst 0, 1) := by decide +kernel
theorem dX5_coneOf_17 : decode cX5_coneOf 17 = .ok (.iaload, 1) := by decide +kernel
theorem dX5_coneOf_18 : decode cX5_coneOf 18 = .ok (.if_icmp .le 54, 3) := by decide +kernel
theorem dX5_coneOf_21 : decode cX5_coneOf 21 = .ok (.lload_n 2, 1) := by decide +kernel
theorem dX5_coneOf_22 : decode cX5_coneOf 22 = .ok (.iload 5, 2) := by decide +kernel
theorem dX5_coneOf_24 : decode cX5_coneOf 24 = .ok (.lshr, 1) := by decide +kernel
theorem dX5_coneOf_25 : decode cX5_coneOf 25 = .ok (.lconst 1, 1) := by decide +kernel
theorem dX5_coneOf_26 : decode cX5_coneOf 26 = .ok (.land, 1) := by decide +kernel
theorem dX5_coneOf_27 : decode cX5_coneOf 27 = .ok (.lconst 1, 1) := by decide +kernel
theorem dX5_coneOf_28 : decode cX5_coneOf 28 = .ok (.lcmp, 1) := by decide +kernel
theorem dX5_coneOf_29 : decode cX5_coneOf 29 = .ok (.ifCond .ne 37, 3) := by decide +kernel
theorem dX5_coneOf_32 : decode cX5_coneOf 32 = .ok (.iinc 4 1, 3) := by decide +kernel
theorem dX5_coneOf_35 : decode cX5_coneOf 35 = .ok (.lload_n 2, 1) := by decide +kernel
theorem dX5_coneOf_36 : decode cX5_coneOf 36 = .ok (.lconst 1, 1) := by decide +kernel
theorem dX5_coneOf_37 : decode cX5_coneOf 37 = .ok (.aload_n 0, 1) := by decide +kernel
theorem dX5_coneOf_38 : decode cX5_coneOf 38 = .ok (.getfield 7, 3) := by decide +kernel
theorem dX5_coneOf_41 : decode cX5_coneOf 41 = .ok (.iconst 2, 1) := by decide +kernel
theorem dX5_coneOf_42 : decode cX5_coneOf 42 = .ok (.iload 5, 2) := by decide +kernel
theorem dX5_coneOf_44 : decode cX5_coneOf 44 = .ok (.iadd, 1) := by decide +kernel
theorem dX5_coneOf_45 : decode cX5_coneOf 45 = .ok (.iaload, 1) := by decide +kernel
theorem dX5_coneOf_46 : decode cX5_coneOf 46 = .ok (.iconst 2, 1) := by decide +kernel
theorem dX5_coneOf_47 : decode cX5_coneOf 47 = .ok (.idiv, 1) := by decide +kernel
theorem dX5_coneOf_48 : decode cX5_coneOf 48 = .ok (.lshl, 1) := by decide +kernel
theorem dX5_coneOf_49 : decode cX5_coneOf 49 = .ok (.lconst 1, 1) := by decide +kernel
theorem dX5_coneOf_50 : decode cX5_coneOf 50 = .ok (.aload_n 0, 1) := by decide +kernel
theorem dX5_coneOf_51 : decode cX5_coneOf 51 = .ok (.getfield 7, 3) := by decide +kernel
theorem dX5_coneOf_54 : decode cX5_coneOf 54 = .ok (.bipush 50, 2) := by decide +kernel
theorem dX5_coneOf_56 : decode cX5_coneOf 56 = .ok (.iload 5, 2) := by decide +kernel
theorem dX5_coneOf_58 : decode cX5_coneOf 58 = .ok (.iadd, 1) := by decide +kernel
theorem dX5_coneOf_59 : decode cX5_coneOf 59 = .ok (.iaload, 1) := by decide +kernel
theorem dX5_coneOf_60 : decode cX5_coneOf 60 = .ok (.iconst 2, 1) := by decide +kernel
theorem dX5_coneOf_61 : decode cX5_coneOf 61 = .ok (.idiv, 1) := by decide +kernel
theorem dX5_coneOf_62 : decode cX5_coneOf 62 = .ok (.lshl, 1) := by decide +kernel
theorem dX5_coneOf_63 : decode cX5_coneOf 63 = .ok (.lor, 1) := by decide +kernel
theorem dX5_coneOf_64 : decode cX5_coneOf 64 = .ok (.lor, 1) := by decide +kernel
theorem dX5_coneOf_65 : decode cX5_coneOf 65 = .ok (.lstore_n 2, 1) := by decide +kernel
theorem dX5_coneOf_66 : decode cX5_coneOf 66 = .ok (.iinc 5 (-1), 3) := by decide +kernel
theorem dX5_coneOf_69 : decode cX5_coneOf 69 = .ok (.goto (-59), 3) := by decide +kernel
theorem dX5_coneOf_72 : decode cX5_coneOf 72 = .ok (.iload 4, 2) := by decide +kernel
theorem dX5_coneOf_74 : decode cX5_coneOf 74 = .ok (.ireturn, 1) := by decide +kernel
theorem dX5_cone_0 : decode cX5_cone 0 = .ok (.aload_n 0, 1) := by decide +kernel
theorem dX5_cone_1 : decode cX5_cone 1 = .ok (.iload_n 1, 1) := by decide +kernel
theorem dX5_cone_2 : decode cX5_cone 2 = .ok (.invokevirtual 80, 3) := by decide +kernel
theorem dX5_cone_5 : decode cX5_cone 5 = .ok (.ifCond .eq 13, 3) := by decide +kernel
theorem dX5_cone_8 : decode cX5_cone 8 = .ok (.aload_n 0, 1) := by decide +kernel
theorem dX5_cone_9 : decode cX5_cone 9 = .ok (.iload_n 1, 1) := by decide +kernel
theorem dX5_cone_10 : decode cX5_cone 10 = .ok (.iconst 2, 1) := by decide +kernel
theorem dX5_cone_11 : decode cX5_cone 11 = .ok (.idiv, 1) := by decide +kernel
theorem dX5_cone_12 : decode cX5_cone 12 = .ok (.invokevirtual 193, 3) := by decide +kernel
theorem dX5_cone_15 : decode cX5_cone 15 = .ok (.goto 7, 3) := by decide +kernel
theorem dX5_cone_18 : decode cX5_cone 18 = .ok (.aload_n 0, 1) := by decide +kernel
theorem dX5_cone_19 : decode cX5_cone 19 = .ok (.invokevirtual 77, 3) := by decide +kernel
theorem dX5_cone_22 : decode cX5_cone 22 = .ok (.ireturn, 1) := by decide +kernel
theorem dX5_outs_0 : decode cX5_outs 0 = .ok (.iload_n 1, 1) := by decide +kernel
theorem dX5_outs_1 : decode cX5_outs 1 = .ok (.invokestatic 95, 3) := by decide +kernel
theorem dX5_outs_4 : decode cX5_outs 4 = .ok (.ifCond .eq 7, 3) := by decide +kernel
theorem dX5_outs_7 : decode cX5_outs 7 = .ok (.iload_n 2, 1) := by decide +kernel
theorem dX5_outs_8 : decode cX5_outs 8 = .ok (.ifCond .ge 8, 3) := by decide +kernel
theorem dX5_outs_11 : decode cX5_outs 11 = .ok (.aload_n 0, 1) := by decide +kernel
theorem dX5_outs_12 : decode cX5_outs 12 = .ok (.invokevirtual 77, 3) := by decide +kernel
theorem dX5_outs_15 : decode cX5_outs 15 = .ok (.ireturn, 1) := by decide +kernel
theorem dX5_outs_16 : decode cX5_outs 16 = .ok (.iload_n 2, 1) := by decide +kernel
theorem dX5_outs_17 : decode cX5_outs 17 = .ok (.aload_n 0, 1) := by decide +kernel
theorem dX5_outs_18 : decode cX5_outs 18 = .ok (.getfield 7, 3) := by decide +kernel
theorem dX5_outs_21 : decode cX5_outs 21 = .ok (.bipush 98, 2) := by decide +kernel
theorem dX5_outs_23 : decode cX5_outs 23 = .ok (.iload_n 1, 1) := by decide +kernel
theorem dX5_outs_24 : decode cX5_outs 24 = .ok (.iadd, 1) := by decide +kernel
theorem dX5_outs_25 : decode cX5_outs 25 = .ok (.iaload, 1) := by decide +kernel
theorem dX5_outs_26 : decode cX5_outs 26 = .ok (.if_icmp .ge 20, 3) := by decide +kernel
theorem dX5_outs_29 : decode cX5_outs 29 = .ok (.aload_n 0, 1) := by decide +kernel
theorem dX5_outs_30 : decode cX5_outs 30 = .ok (.getfield 7, 3) := by decide +kernel
theorem dX5_outs_33 : decode cX5_outs 33 = .ok (.bipush 100, 2) := by decide +kernel
theorem dX5_outs_35 : decode cX5_outs 35 = .ok (.bipush 6, 2) := by decide +kernel
theorem dX5_outs_37 : decode cX5_outs 37 = .ok (.iload_n 1, 1) := by decide +kernel
theorem dX5_outs_38 : decode cX5_outs 38 = .ok (.imul, 1) := by decide +kernel
theorem dX5_outs_39 : decode cX5_outs 39 = .ok (.iadd, 1) := by decide +kernel
theorem dX5_outs_40 : decode cX5_outs 40 = .ok (.iload_n 2, 1) := by decide +kernel
theorem dX5_outs_41 : decode cX5_outs 41 = .ok (.iadd, 1) := by decide +kernel
theorem dX5_outs_42 : decode cX5_outs 42 = .ok (.iaload, 1) := by decide +kernel
theorem dX5_outs_43 : decode cX5_outs 43 = .ok (.goto 4, 3) := by decide +kernel
theorem dX5_outs_46 : decode cX5_outs 46 = .ok (.iconst (-1), 1) := by decide +kernel
theorem dX5_outs_47 : decode cX5_outs 47 = .ok (.ireturn, 1) := by decide +kernel
theorem dX5_countOf_0 : decode cX5_countOf 0 = .ok (.iload_n 1, 1) := by decide +kernel
theorem dX5_countOf_1 : decode cX5_countOf 1 = .ok (.iconst 2, 1) := by decide +kernel
theorem dX5_countOf_2 : decode cX5_countOf 2 = .ok (.if_icmp .ge 12, 3) := by decide +kernel
theorem dX5_countOf_5 : decode cX5_countOf 5 = .ok (.aload_n 0, 1) := by decide +kernel
theorem dX5_countOf_6 : decode cX5_countOf 6 = .ok (.getfield 7, 3) := by decide +kernel
theorem dX5_countOf_9 : decode cX5_countOf 9 = .ok (.iload_n 1, 1) := by decide +kernel
theorem dX5_countOf_10 : decode cX5_countOf 10 = .ok (.iaload, 1) := by decide +kernel
theorem dX5_countOf_11 : decode cX5_countOf 11 = .ok (.goto 29, 3) := by decide +kernel
theorem dX5_countOf_14 : decode cX5_countOf 14 = .ok (.iload_n 1, 1) := by decide +kernel
theorem dX5_countOf_15 : decode cX5_countOf 15 = .ok (.iconst 4, 1) := by decide +kernel
theorem dX5_countOf_16 : decode cX5_countOf 16 = .ok (.if_icmp .ge 17, 3) := by decide +kernel
theorem dX5_countOf_19 : decode cX5_countOf 19 = .ok (.aload_n 0, 1) := by decide +kernel
theorem dX5_countOf_20 : decode cX5_countOf 20 = .ok (.getfield 7, 3) := by decide +kernel
theorem dX5_countOf_23 : decode cX5_countOf 23 = .ok (.bipush 98, 2) := by decide +kernel
theorem dX5_countOf_25 : decode cX5_countOf 25 = .ok (.iload_n 1, 1) := by decide +kernel
theorem dX5_countOf_26 : decode cX5_countOf 26 = .ok (.iadd, 1) := by decide +kernel
theorem dX5_countOf_27 : decode cX5_countOf 27 = .ok (.iconst 2, 1) := by decide +kernel
theorem dX5_countOf_28 : decode cX5_countOf 28 = .ok (.isub, 1) := by decide +kernel
theorem dX5_countOf_29 : decode cX5_countOf 29 = .ok (.iaload, 1) := by decide +kernel
theorem dX5_countOf_30 : decode cX5_countOf 30 = .ok (.goto 10, 3) := by decide +kernel
theorem dX5_countOf_33 : decode cX5_countOf 33 = .ok (.aload_n 0, 1) := by decide +kernel
theorem dX5_countOf_34 : decode cX5_countOf 34 = .ok (.getfield 7, 3) := by decide +kernel
theorem dX5_countOf_37 : decode cX5_countOf 37 = .ok (.bipush 112, 2) := by decide +kernel
theorem dX5_countOf_39 : decode cX5_countOf 39 = .ok (.iaload, 1) := by decide +kernel
theorem dX5_countOf_40 : decode cX5_countOf 40 = .ok (.ireturn, 1) := by decide +kernel
theorem dX5_count_0 : decode cX5_count 0 = .ok (.iload_n 1, 1) := by decide +kernel
theorem dX5_count_1 : decode cX5_count 1 = .ok (.iconst 0, 1) := by decide +kernel
theorem dX5_count_2 : decode cX5_count 2 = .ok (.iconst 4, 1) := by decide +kernel
theorem dX5_count_3 : decode cX5_count 3 = .ok (.invokestatic 55, 3) := by decide +kernel
theorem dX5_count_6 : decode cX5_count 6 = .ok (.ifCond .eq 11, 3) := by decide +kernel
theorem dX5_count_9 : decode cX5_count 9 = .ok (.aload_n 0, 1) := by decide +kernel
theorem dX5_count_10 : decode cX5_count 10 = .ok (.iload_n 1, 1) := by decide +kernel
theorem dX5_count_11 : decode cX5_count 11 = .ok (.invokevirtual 196, 3) := by decide +kernel
theorem dX5_count_14 : decode cX5_count 14 = .ok (.goto 7, 3) := by decide +kernel
theorem dX5_count_17 : decode cX5_count 17 = .ok (.aload_n 0, 1) := by decide +kernel
theorem dX5_count_18 : decode cX5_count 18 = .ok (.invokevirtual 77, 3) := by decide +kernel
theorem dX5_count_21 : decode cX5_count 21 = .ok (.ireturn, 1) := by decide +kernel
theorem dX5_signOf_0 : decode cX5_signOf 0 = .ok (.aload_n 0, 1) := by decide +kernel
theorem dX5_signOf_1 : decode cX5_signOf 1 = .ok (.getfield 25, 3) := by decide +kernel
theorem dX5_signOf_4 : decode cX5_signOf 4 = .ok (.iload_n 1, 1) := by decide +kernel
theorem dX5_signOf_5 : decode cX5_signOf 5 = .ok (.iaload, 1) := by decide +kernel
theorem dX5_signOf_6 : decode cX5_signOf 6 = .ok (.aload_n 0, 1) := by decide +kernel
theorem dX5_signOf_7 : decode cX5_signOf 7 = .ok (.getfield 7, 3) := by decide +kernel
theorem dX5_signOf_10 : decode cX5_signOf 10 = .ok (.bipush 112, 2) := by decide +kernel
theorem dX5_signOf_12 : decode cX5_signOf 12 = .ok (.iaload, 1) := by decide +kernel
theorem dX5_signOf_13 : decode cX5_signOf 13 = .ok (.bipush 113, 2) := by decide +kernel
theorem dX5_signOf_15 : decode cX5_signOf 15 = .ok (.aload_n 0, 1) := by decide +kernel
theorem dX5_signOf_16 : decode cX5_signOf 16 = .ok (.getfield 7, 3) := by decide +kernel
theorem dX5_signOf_19 : decode cX5_signOf 19 = .ok (.invokestatic 138, 3) := by decide +kernel
theorem dX5_signOf_22 : decode cX5_signOf 22 = .ok (.ireturn, 1) := by decide +kernel
theorem dX5_sign_0 : decode cX5_sign 0 = .ok (.aload_n 0, 1) := by decide +kernel
theorem dX5_sign_1 : decode cX5_sign 1 = .ok (.iload_n 1, 1) := by decide +kernel
theorem dX5_sign_2 : decode cX5_sign 2 = .ok (.invokevirtual 59, 3) := by decide +kernel
theorem dX5_sign_5 : decode cX5_sign 5 = .ok (.ifCond .ne 8, 3) := by decide +kernel
theorem dX5_sign_8 : decode cX5_sign 8 = .ok (.aload_n 0, 1) := by decide +kernel
theorem dX5_sign_9 : decode cX5_sign 9 = .ok (.invokevirtual 77, 3) := by decide +kernel
theorem dX5_sign_12 : decode cX5_sign 12 = .ok (.ireturn, 1) := by decide +kernel
theorem dX5_sign_13 : decode cX5_sign 13 = .ok (.aload_n 0, 1) := by decide +kernel
theorem dX5_sign_14 : decode cX5_sign 14 = .ok (.invokevirtual 132, 3) := by decide +kernel
theorem dX5_sign_17 : decode cX5_sign 17 = .ok (.aload_n 0, 1) := by decide +kernel
theorem dX5_sign_18 : decode cX5_sign 18 = .ok (.iload_n 1, 1) := by decide +kernel
theorem dX5_sign_19 : decode cX5_sign 19 = .ok (.invokevirtual 199, 3) := by decide +kernel
theorem dX5_sign_22 : decode cX5_sign 22 = .ok (.ireturn, 1) := by decide +kernel
theorem dX5_form_0 : decode cX5_form 0 = .ok (.aload_n 0, 1) := by decide +kernel
theorem dX5_form_1 : decode cX5_form 1 = .ok (.iload_n 1, 1) := by decide +kernel
theorem dX5_form_2 : decode cX5_form 2 = .ok (.invokevirtual 59, 3) := by decide +kernel
theorem dX5_form_5 : decode cX5_form 5 = .ok (.ifCond .ne 8, 3) := by decide +kernel
theorem dX5_form_8 : decode cX5_form 8 = .ok (.aload_n 0, 1) := by decide +kernel
theorem dX5_form_9 : decode cX5_form 9 = .ok (.invokevirtual 77, 3) := by decide +kernel
theorem dX5_form_12 : decode cX5_form 12 = .ok (.ireturn, 1) := by decide +kernel
theorem dX5_form_13 : decode cX5_form 13 = .ok (.aload_n 0, 1) := by decide +kernel
theorem dX5_form_14 : decode cX5_form 14 = .ok (.invokevirtual 175, 3) := by decide +kernel
theorem dX5_form_17 : decode cX5_form 17 = .ok (.aload_n 0, 1) := by decide +kernel
theorem dX5_form_18 : decode cX5_form 18 = .ok (.getfield 31, 3) := by decide +kernel
theorem dX5_form_21 : decode cX5_form 21 = .ok (.iload_n 1, 1) := by decide +kernel
theorem dX5_form_22 : decode cX5_form 22 = .ok (.iaload, 1) := by decide +kernel
theorem dX5_form_23 : decode cX5_form 23 = .ok (.ireturn, 1) := by decide +kernel
theorem dX5_lineAt_0 : decode cX5_lineAt 0 = .ok (.iconst 0, 1) := by decide +kernel
theorem dX5_lineAt_1 : decode cX5_lineAt 1 = .ok (.istore_n 2, 1) := by decide +kernel
theorem dX5_lineAt_2 : decode cX5_lineAt 2 = .ok (.aload_n 0, 1) := by decide +kernel
theorem dX5_lineAt_3 : decode cX5_lineAt 3 = .ok (.getfield 7, 3) := by decide +kernel
theorem dX5_lineAt_6 : decode cX5_lineAt 6 = .ok (.iconst 0, 1) := by decide +kernel
theorem dX5_lineAt_7 : decode cX5_lineAt 7 = .ok (.iaload, 1) := by decide +kernel
theorem dX5_lineAt_8 : decode cX5_lineAt 8 = .ok (.iconst 1, 1) := by decide +kernel
theorem dX5_lineAt_9 : decode cX5_lineAt 9 = .ok (.iadd, 1) := by decide +kernel
theorem dX5_lineAt_10 : decode cX5_lineAt 10 = .ok (.istore_n 3, 1) := by decide +kernel
theorem dX5_lineAt_11 : decode cX5_lineAt 11 = .ok (.iload_n 3, 1) := by decide +kernel
theorem dX5_lineAt_12 : decode cX5_lineAt 12 = .ok (.aload_n 0, 1) := by decide +kernel
theorem dX5_lineAt_13 : decode cX5_lineAt 13 = .ok (.getfield 7, 3) := by decide +kernel
theorem dX5_lineAt_16 : decode cX5_lineAt 16 = .ok (.iconst 1, 1) := by decide +kernel
theorem dX5_lineAt_17 : decode cX5_lineAt 17 = .ok (.iaload, 1) := by decide +kernel
theorem dX5_lineAt_18 : decode cX5_lineAt 18 = .ok (.if_icmp .ge 28, 3) := by decide +kernel
theorem dX5_lineAt_21 : decode cX5_lineAt 21 = .ok (.aload_n 0, 1) := by decide +kernel
theorem dX5_lineAt_22 : decode cX5_lineAt 22 = .ok (.getfield 40, 3) := by decide +kernel
theorem dX5_lineAt_25 : decode cX5_lineAt 25 = .ok (.iload_n 3, 1) := by decide +kernel
theorem dX5_lineAt_26 : decode cX5_lineAt 26 = .ok (.iaload, 1) := by decide +kernel
theorem dX5_lineAt_27 : decode cX5_lineAt 27 = .ok (.ifCond .le 13, 3) := by decide +kernel
theorem dX5_lineAt_30 : decode cX5_lineAt 30 = .ok (.iload_n 2, 1) := by decide +kernel
theorem dX5_lineAt_31 : decode cX5_lineAt 31 = .ok (.iload_n 1, 1) := by decide +kernel
theorem dX5_lineAt_32 : decode cX5_lineAt 32 = .ok (.if_icmp .ne 5, 3) := by decide +kernel
theorem dX5_lineAt_35 : decode cX5_lineAt 35 = .ok (.iload_n 3, 1) := by decide +kernel
theorem dX5_lineAt_36 : decode cX5_lineAt 36 = .ok (.ireturn, 1) := by decide +kernel
theorem dX5_lineAt_37 : decode cX5_lineAt 37 = .ok (.iinc 2 1, 3) := by decide +kernel
theorem dX5_lineAt_40 : decode cX5_lineAt 40 = .ok (.iinc 3 1, 3) := by decide +kernel
theorem dX5_lineAt_43 : decode cX5_lineAt 43 = .ok (.goto (-32), 3) := by decide +kernel
theorem dX5_lineAt_46 : decode cX5_lineAt 46 = .ok (.iconst (-1), 1) := by decide +kernel
theorem dX5_lineAt_47 : decode cX5_lineAt 47 = .ok (.ireturn, 1) := by decide +kernel
theorem dX5_lines_0 : decode cX5_lines 0 = .ok (.iload_n 1, 1) := by decide +kernel
theorem dX5_lines_1 : decode cX5_lines 1 = .ok (.iconst (-1), 1) := by decide +kernel
theorem dX5_lines_2 : decode cX5_lines 2 = .ok (.if_icmp .lt 21, 3) := by decide +kernel
theorem dX5_lines_5 : decode cX5_lines 5 = .ok (.iload_n 2, 1) := by decide +kernel
theorem dX5_lines_6 : decode cX5_lines 6 = .ok (.iconst 0, 1) := by decide +kernel
theorem dX5_lines_7 : decode cX5_lines 7 = .ok (.iload_n 1, 1) := by decide +kernel
theorem dX5_lines_8 : decode cX5_lines 8 = .ok (.iconst (-1), 1) := by decide +kernel
theorem dX5_lines_9 : decode cX5_lines 9 = .ok (.if_icmp .ne 7, 3) := by decide +kernel
theorem dX5_lines_12 : decode cX5_lines 12 = .ok (.iconst 0, 1) := by decide +kernel
theorem dX5_lines_13 : decode cX5_lines 13 = .ok (.goto 4, 3) := by decide +kernel
theorem dX5_lines_16 : decode cX5_lines 16 = .ok (.iconst 2, 1) := by decide +kernel
theorem dX5_lines_17 : decode cX5_lines 17 = .ok (.invokestatic 55, 3) := by decide +kernel
theorem dX5_lines_20 : decode cX5_lines 20 = .ok (.ifCond .ne 8, 3) := by decide +kernel
theorem dX5_lines_23 : decode cX5_lines 23 = .ok (.aload_n 0, 1) := by decide +kernel
theorem dX5_lines_24 : decode cX5_lines 24 = .ok (.invokevirtual 77, 3) := by decide +kernel
theorem dX5_lines_27 : decode cX5_lines 27 = .ok (.ireturn, 1) := by decide +kernel
theorem dX5_lines_28 : decode cX5_lines 28 = .ok (.aload_n 0, 1) := by decide +kernel
theorem dX5_lines_29 : decode cX5_lines 29 = .ok (.invokevirtual 175, 3) := by decide +kernel
theorem dX5_lines_32 : decode cX5_lines 32 = .ok (.iload_n 1, 1) := by decide +kernel
theorem dX5_lines_33 : decode cX5_lines 33 = .ok (.iconst (-1), 1) := by decide +kernel
theorem dX5_lines_34 : decode cX5_lines 34 = .ok (.if_icmp .ne 25, 3) := by decide +kernel
theorem dX5_lines_37 : decode cX5_lines 37 = .ok (.aload_n 0, 1) := by decide +kernel
theorem dX5_lines_38 : decode cX5_lines 38 = .ok (.getfield 7, 3) := by decide +kernel
theorem dX5_lines_41 : decode cX5_lines 41 = .ok (.iconst 1, 1) := by decide +kernel
theorem dX5_lines_42 : decode cX5_lines 42 = .ok (.iaload, 1) := by decide +kernel
theorem dX5_lines_43 : decode cX5_lines 43 = .ok (.aload_n 0, 1) := by decide +kernel
theorem dX5_lines_44 : decode cX5_lines 44 = .ok (.getfield 7, 3) := by decide +kernel
theorem dX5_lines_47 : decode cX5_lines 47 = .ok (.iconst 0, 1) := by decide +kernel
theorem dX5_lines_48 : decode cX5_lines 48 = .ok (.iaload, 1) := by decide +kernel
theorem dX5_lines_49 : decode cX5_lines 49 = .ok (.isub, 1) := by decide +kernel
theorem dX5_lines_50 : decode cX5_lines 50 = .ok (.iconst 1, 1) := by decide +kernel
theorem dX5_lines_51 : decode cX5_lines 51 = .ok (.isub, 1) := by decide +kernel
theorem dX5_lines_52 : decode cX5_lines 52 = .ok (.aload_n 0, 1) := by decide +kernel
theorem dX5_lines_53 : decode cX5_lines 53 = .ok (.iconst 0, 1) := by decide +kernel
theorem dX5_lines_54 : decode cX5_lines 54 = .ok (.invokevirtual 202, 3) := by decide +kernel
theorem dX5_lines_57 : decode cX5_lines 57 = .ok (.isub, 1) := by decide +kernel
theorem dX5_lines_58 : decode cX5_lines 58 = .ok (.ireturn, 1) := by decide +kernel
theorem dX5_lines_59 : decode cX5_lines 59 = .ok (.aload_n 0, 1) := by decide +kernel
theorem dX5_lines_60 : decode cX5_lines 60 = .ok (.iload_n 1, 1) := by decide +kernel
theorem dX5_lines_61 : decode cX5_lines 61 = .ok (.invokevirtual 205, 3) := by decide +kernel
theorem dX5_lines_64 : decode cX5_lines 64 = .ok (.istore_n 3, 1) := by decide +kernel
theorem dX5_lines_65 : decode cX5_lines 65 = .ok (.iload_n 3, 1) := by decide +kernel
theorem dX5_lines_66 : decode cX5_lines 66 = .ok (.iconst (-1), 1) := by decide +kernel
theorem dX5_lines_67 : decode cX5_lines 67 = .ok (.if_icmp .ne 8, 3) := by decide +kernel
theorem dX5_lines_70 : decode cX5_lines 70 = .ok (.bipush (-5), 2) := by decide +kernel
theorem dX5_lines_72 : decode cX5_lines 72 = .ok (.goto 31, 3) := by decide +kernel
theorem dX5_lines_75 : decode cX5_lines 75 = .ok (.iload_n 2, 1) := by decide +kernel
theorem dX5_lines_76 : decode cX5_lines 76 = .ok (.ifCond .ne 7, 3) := by decide +kernel
theorem dX5_lines_79 : decode cX5_lines 79 = .ok (.iload_n 3, 1) := by decide +kernel
theorem dX5_lines_80 : decode cX5_lines 80 = .ok (.goto 23, 3) := by decide +kernel
theorem dX5_lines_83 : decode cX5_lines 83 = .ok (.iload_n 2, 1) := by decide +kernel
theorem dX5_lines_84 : decode cX5_lines 84 = .ok (.iconst 1, 1) := by decide +kernel
theorem dX5_lines_85 : decode cX5_lines 85 = .ok (.if_icmp .ne 12, 3) := by decide +kernel
theorem dX5_lines_88 : decode cX5_lines 88 = .ok (.aload_n 0, 1) := by decide +kernel
theorem dX5_lines_89 : decode cX5_lines 89 = .ok (.getfield 31, 3) := by decide +kernel
theorem dX5_lines_92 : decode cX5_lines 92 = .ok (.iload_n 3, 1) := by decide +kernel
theorem dX5_lines_93 : decode cX5_lines 93 = .ok (.iaload, 1) := by decide +kernel
theorem dX5_lines_94 : decode cX5_lines 94 = .ok (.goto 9, 3) := by decide +kernel
theorem dX5_lines_97 : decode cX5_lines 97 = .ok (.aload_n 0, 1) := by decide +kernel
theorem dX5_lines_98 : decode cX5_lines 98 = .ok (.getfield 40, 3) := by decide +kernel
theorem dX5_lines_101 : decode cX5_lines 101 = .ok (.iload_n 3, 1) := by decide +kernel
theorem dX5_lines_102 : decode cX5_lines 102 = .ok (.iaload, 1) := by decide +kernel
theorem dX5_lines_103 : decode cX5_lines 103 = .ok (.ireturn, 1) := by decide +kernel
theorem dX5_sweptOf_0 : decode cX5_sweptOf 0 = .ok (.iload_n 1, 1) := by decide +kernel
theorem dX5_sweptOf_1 : decode cX5_sweptOf 1 = .ok (.iconst 4, 1) := by decide +kernel
theorem dX5_sweptOf_2 : decode cX5_sweptOf 2 = .ok (.if_icmp .ge 11, 3) := by decide +kernel
theorem dX5_sweptOf_5 : decode cX5_sweptOf 5 = .ok (.aload_n 0, 1) := by decide +kernel
theorem dX5_sweptOf_6 : decode cX5_sweptOf 6 = .ok (.iload_n 1, 1) := by decide +kernel
theorem dX5_sweptOf_7 : decode cX5_sweptOf 7 = .ok (.invokevirtual 202, 3) := by decide +kernel
theorem dX5_sweptOf_10 : decode cX5_sweptOf 10 = .ok (.goto 19, 3) := by decide +kernel
theorem dX5_sweptOf_13 : decode cX5_sweptOf 13 = .ok (.iload_n 1, 1) := by decide +kernel
theorem dX5_sweptOf_14 : decode cX5_sweptOf 14 = .ok (.iconst 4, 1) := by decide +kernel
theorem dX5_sweptOf_15 : decode cX5_sweptOf 15 = .ok (.if_icmp .ne 10, 3) := by decide +kernel
theorem dX5_sweptOf_18 : decode cX5_sweptOf 18 = .ok (.aload_n 0, 1) := by decide +kernel
theorem dX5_sweptOf_19 : decode cX5_sweptOf 19 = .ok (.getfield 142, 3) := by decide +kernel
theorem dX5_sweptOf_22 : decode cX5_sweptOf 22 = .ok (.goto 7, 3) := by decide +kernel
theorem dX5_sweptOf_25 : decode cX5_sweptOf 25 = .ok (.aload_n 0, 1) := by decide +kernel
theorem dX5_sweptOf_26 : decode cX5_sweptOf 26 = .ok (.getfield 135, 3) := by decide +kernel
theorem dX5_sweptOf_29 : decode cX5_sweptOf 29 = .ok (.ireturn, 1) := by decide +kernel
theorem dX5_swept_0 : decode cX5_swept 0 = .ok (.iload_n 1, 1) := by decide +kernel
theorem dX5_swept_1 : decode cX5_swept 1 = .ok (.iconst 0, 1) := by decide +kernel
theorem dX5_swept_2 : decode cX5_swept 2 = .ok (.iconst 5, 1) := by decide +kernel
theorem dX5_swept_3 : decode cX5_swept 3 = .ok (.invokestatic 55, 3) := by decide +kernel
theorem dX5_swept_6 : decode cX5_swept 6 = .ok (.ifCond .ne 8, 3) := by decide +kernel
theorem dX5_swept_9 : decode cX5_swept 9 = .ok (.aload_n 0, 1) := by decide +kernel
theorem dX5_swept_10 : decode cX5_swept 10 = .ok (.invokevirtual 77, 3) := by decide +kernel
theorem dX5_swept_13 : decode cX5_swept 13 = .ok (.ireturn, 1) := by decide +kernel
theorem dX5_swept_14 : decode cX5_swept 14 = .ok (.aload_n 0, 1) := by decide +kernel
theorem dX5_swept_15 : decode cX5_swept 15 = .ok (.invokevirtual 175, 3) := by decide +kernel
theorem dX5_swept_18 : decode cX5_swept 18 = .ok (.aload_n 0, 1) := by decide +kernel
theorem dX5_swept_19 : decode cX5_swept 19 = .ok (.iload_n 1, 1) := by decide +kernel
theorem dX5_swept_20 : decode cX5_swept 20 = .ok (.invokevirtual 208, 3) := by decide +kernel
theorem dX5_swept_23 : decode cX5_swept 23 = .ok (.ireturn, 1) := by decide +kernel
theorem dX5_row_0 : decode cX5_row 0 = .ok (.iload_n 1, 1) := by decide +kernel
theorem dX5_row_1 : decode cX5_row 1 = .ok (.ifCond .ge 8, 3) := by decide +kernel
theorem dX5_row_4 : decode cX5_row 4 = .ok (.aload_n 0, 1) := by decide +kernel
theorem dX5_row_5 : decode cX5_row 5 = .ok (.invokevirtual 77, 3) := by decide +kernel
theorem dX5_row_8 : decode cX5_row 8 = .ok (.ireturn, 1) := by decide +kernel
theorem dX5_row_9 : decode cX5_row 9 = .ok (.aload_n 0, 1) := by decide +kernel
theorem dX5_row_10 : decode cX5_row 10 = .ok (.invokevirtual 175, 3) := by decide +kernel
theorem dX5_row_13 : decode cX5_row 13 = .ok (.iload_n 1, 1) := by decide +kernel
theorem dX5_row_14 : decode cX5_row 14 = .ok (.aload_n 0, 1) := by decide +kernel
theorem dX5_row_15 : decode cX5_row 15 = .ok (.getfield 135, 3) := by decide +kernel
theorem dX5_row_18 : decode cX5_row 18 = .ok (.if_icmp .ge 12, 3) := by decide +kernel
theorem dX5_row_21 : decode cX5_row 21 = .ok (.aload_n 0, 1) := by decide +kernel
theorem dX5_row_22 : decode cX5_row 22 = .ok (.getfield 28, 3) := by decide +kernel
theorem dX5_row_25 : decode cX5_row 25 = .ok (.iload_n 1, 1) := by decide +kernel
theorem dX5_row_26 : decode cX5_row 26 = .ok (.iaload, 1) := by decide +kernel
theorem dX5_row_27 : decode cX5_row 27 = .ok (.goto 4, 3) := by decide +kernel
theorem dX5_row_30 : decode cX5_row 30 = .ok (.iconst (-1), 1) := by decide +kernel
theorem dX5_row_31 : decode cX5_row 31 = .ok (.ireturn, 1) := by decide +kernel
theorem dX5_areOuts_0 : decode cX5_areOuts 0 = .ok (.iload_n 1, 1) := by decide +kernel
theorem dX5_areOuts_1 : decode cX5_areOuts 1 = .ok (.ifCond .lt 29, 3) := by decide +kernel
theorem dX5_areOuts_4 : decode cX5_areOuts 4 = .ok (.iload_n 1, 1) := by decide +kernel
theorem dX5_areOuts_5 : decode cX5_areOuts 5 = .ok (.aload_n 0, 1) := by decide +kernel
theorem dX5_areOuts_6 : decode cX5_areOuts 6 = .ok (.getfield 7, 3) := by decide +kernel
theorem dX5_areOuts_9 : decode cX5_areOuts 9 = .ok (.bipush 98, 2) := by decide +kernel
theorem dX5_areOuts_11 : decode cX5_areOuts 11 = .ok (.iaload, 1) := by decide +kernel
theorem dX5_areOuts_12 : decode cX5_areOuts 12 = .ok (.if_icmp .ge 18, 3) := by decide +kernel
theorem dX5_areOuts_15 : decode cX5_areOuts 15 = .ok (.iload_n 1, 1) := by decide +kernel
theorem dX5_areOuts_16 : decode cX5_areOuts 16 = .ok (.aload_n 0, 1) := by decide +kernel
theorem dX5_areOuts_17 : decode cX5_areOuts 17 = .ok (.getfield 7, 3) := by decide +kernel
theorem dX5_areOuts_20 : decode cX5_areOuts 20 = .ok (.bipush 99, 2) := by decide +kernel
theorem dX5_areOuts_22 : decode cX5_areOuts 22 = .ok (.iaload, 1) := by decide +kernel
theorem dX5_areOuts_23 : decode cX5_areOuts 23 = .ok (.if_icmp .ge 7, 3) := by decide +kernel
theorem dX5_areOuts_26 : decode cX5_areOuts 26 = .ok (.iconst 1, 1) := by decide +kernel
theorem dX5_areOuts_27 : decode cX5_areOuts 27 = .ok (.goto 4, 3) := by decide +kernel
theorem dX5_areOuts_30 : decode cX5_areOuts 30 = .ok (.iconst 0, 1) := by decide +kernel
theorem dX5_areOuts_31 : decode cX5_areOuts 31 = .ok (.ireturn, 1) := by decide +kernel
theorem dX5_areAlike_0 : decode cX5_areAlike 0 = .ok (.aload_n 0, 1) := by decide +kernel
theorem dX5_areAlike_1 : decode cX5_areAlike 1 = .ok (.aload_n 0, 1) := by decide +kernel
theorem dX5_areAlike_2 : decode cX5_areAlike 2 = .ok (.getfield 7, 3) := by decide +kernel
theorem dX5_areAlike_5 : decode cX5_areAlike 5 = .ok (.bipush 100, 2) := by decide +kernel
theorem dX5_areAlike_7 : decode cX5_areAlike 7 = .ok (.iload_n 1, 1) := by decide +kernel
theorem dX5_areAlike_8 : decode cX5_areAlike 8 = .ok (.iadd, 1) := by decide +kernel
theorem dX5_areAlike_9 : decode cX5_areAlike 9 = .ok (.iaload, 1) := by decide +kernel
theorem dX5_areAlike_10 : decode cX5_areAlike 10 = .ok (.invokevirtual 159, 3) := by decide +kernel
theorem dX5_areAlike_13 : decode cX5_areAlike 13 = .ok (.aload_n 0, 1) := by decide +kernel
theorem dX5_areAlike_14 : decode cX5_areAlike 14 = .ok (.aload_n 0, 1) := by decide +kernel
theorem dX5_areAlike_15 : decode cX5_areAlike 15 = .ok (.getfield 7, 3) := by decide +kernel
theorem dX5_areAlike_18 : decode cX5_areAlike 18 = .ok (.bipush 106, 2) := by decide +kernel
theorem dX5_areAlike_20 : decode cX5_areAlike 20 = .ok (.iload_n 1, 1) := by decide +kernel
theorem dX5_areAlike_21 : decode cX5_areAlike 21 = .ok (.iadd, 1) := by decide +kernel
theorem dX5_areAlike_22 : decode cX5_areAlike 22 = .ok (.iaload, 1) := by decide +kernel
theorem dX5_areAlike_23 : decode cX5_areAlike 23 = .ok (.invokevirtual 159, 3) := by decide +kernel
theorem dX5_areAlike_26 : decode cX5_areAlike 26 = .ok (.if_icmp .ne 7, 3) := by decide +kernel
theorem dX5_areAlike_29 : decode cX5_areAlike 29 = .ok (.iconst 1, 1) := by decide +kernel
theorem dX5_areAlike_30 : decode cX5_areAlike 30 = .ok (.goto 4, 3) := by decide +kernel
theorem dX5_areAlike_33 : decode cX5_areAlike 33 = .ok (.iconst 0, 1) := by decide +kernel
theorem dX5_areAlike_34 : decode cX5_areAlike 34 = .ok (.ireturn, 1) := by decide +kernel
theorem dX5_alike_0 : decode cX5_alike 0 = .ok (.aload_n 0, 1) := by decide +kernel
theorem dX5_alike_1 : decode cX5_alike 1 = .ok (.iload_n 1, 1) := by decide +kernel
theorem dX5_alike_2 : decode cX5_alike 2 = .ok (.invokevirtual 211, 3) := by decide +kernel
theorem dX5_alike_5 : decode cX5_alike 5 = .ok (.ifCond .ne 8, 3) := by decide +kernel
theorem dX5_alike_8 : decode cX5_alike 8 = .ok (.aload_n 0, 1) := by decide +kernel
theorem dX5_alike_9 : decode cX5_alike 9 = .ok (.invokevirtual 77, 3) := by decide +kernel
theorem dX5_alike_12 : decode cX5_alike 12 = .ok (.ireturn, 1) := by decide +kernel
theorem dX5_alike_13 : decode cX5_alike 13 = .ok (.aload_n 0, 1) := by decide +kernel
theorem dX5_alike_14 : decode cX5_alike 14 = .ok (.invokevirtual 175, 3) := by decide +kernel
theorem dX5_alike_17 : decode cX5_alike 17 = .ok (.aload_n 0, 1) := by decide +kernel
theorem dX5_alike_18 : decode cX5_alike 18 = .ok (.iload_n 1, 1) := by decide +kernel
theorem dX5_alike_19 : decode cX5_alike 19 = .ok (.invokevirtual 214, 3) := by decide +kernel
theorem dX5_alike_22 : decode cX5_alike 22 = .ok (.ifCond .eq 7, 3) := by decide +kernel
theorem dX5_alike_25 : decode cX5_alike 25 = .ok (.iconst 1, 1) := by decide +kernel
theorem dX5_alike_26 : decode cX5_alike 26 = .ok (.goto 4, 3) := by decide +kernel
theorem dX5_alike_29 : decode cX5_alike 29 = .ok (.iconst 0, 1) := by decide +kernel
theorem dX5_alike_30 : decode cX5_alike 30 = .ok (.ireturn, 1) := by decide +kernel
theorem dX5_witness_0 : decode cX5_witness 0 = .ok (.aload_n 0, 1) := by decide +kernel
theorem dX5_witness_1 : decode cX5_witness 1 = .ok (.iload_n 1, 1) := by decide +kernel
theorem dX5_witness_2 : decode cX5_witness 2 = .ok (.invokevirtual 211, 3) := by decide +kernel
theorem dX5_witness_5 : decode cX5_witness 5 = .ok (.ifCond .ne 8, 3) := by decide +kernel
theorem dX5_witness_8 : decode cX5_witness 8 = .ok (.aload_n 0, 1) := by decide +kernel
theorem dX5_witness_9 : decode cX5_witness 9 = .ok (.invokevirtual 77, 3) := by decide +kernel
theorem dX5_witness_12 : decode cX5_witness 12 = .ok (.ireturn, 1) := by decide +kernel
theorem dX5_witness_13 : decode cX5_witness 13 = .ok (.aload_n 0, 1) := by decide +kernel
theorem dX5_witness_14 : decode cX5_witness 14 = .ok (.invokevirtual 132, 3) := by decide +kernel
theorem dX5_witness_17 : decode cX5_witness 17 = .ok (.aload_n 0, 1) := by decide +kernel
theorem dX5_witness_18 : decode cX5_witness 18 = .ok (.aload_n 0, 1) := by decide +kernel
theorem dX5_witness_19 : decode cX5_witness 19 = .ok (.getfield 7, 3) := by decide +kernel
theorem dX5_witness_22 : decode cX5_witness 22 = .ok (.bipush 100, 2) := by decide +kernel
theorem dX5_witness_24 : decode cX5_witness 24 = .ok (.iload_n 1, 1) := by decide +kernel
theorem dX5_witness_25 : decode cX5_witness 25 = .ok (.iadd, 1) := by decide +kernel
theorem dX5_witness_26 : decode cX5_witness 26 = .ok (.iaload, 1) := by decide +kernel
theorem dX5_witness_27 : decode cX5_witness 27 = .ok (.invokevirtual 129, 3) := by decide +kernel
theorem dX5_witness_30 : decode cX5_witness 30 = .ok (.aload_n 0, 1) := by decide +kernel
theorem dX5_witness_31 : decode cX5_witness 31 = .ok (.aload_n 0, 1) := by decide +kernel
theorem dX5_witness_32 : decode cX5_witness 32 = .ok (.getfield 7, 3) := by decide +kernel
theorem dX5_witness_35 : decode cX5_witness 35 = .ok (.bipush 106, 2) := by decide +kernel
theorem dX5_witness_37 : decode cX5_witness 37 = .ok (.iload_n 1, 1) := by decide +kernel
theorem dX5_witness_38 : decode cX5_witness 38 = .ok (.iadd, 1) := by decide +kernel
theorem dX5_witness_39 : decode cX5_witness 39 = .ok (.iaload, 1) := by decide +kernel
theorem dX5_witness_40 : decode cX5_witness 40 = .ok (.invokevirtual 129, 3) := by decide +kernel
theorem dX5_witness_43 : decode cX5_witness 43 = .ok (.ixor, 1) := by decide +kernel
theorem dX5_witness_44 : decode cX5_witness 44 = .ok (.istore_n 2, 1) := by decide +kernel
theorem dX5_witness_45 : decode cX5_witness 45 = .ok (.iconst 0, 1) := by decide +kernel
theorem dX5_witness_46 : decode cX5_witness 46 = .ok (.istore_n 3, 1) := by decide +kernel
theorem dX5_witness_47 : decode cX5_witness 47 = .ok (.iload_n 3, 1) := by decide +kernel
theorem dX5_witness_48 : decode cX5_witness 48 = .ok (.aload_n 0, 1) := by decide +kernel
theorem dX5_witness_49 : decode cX5_witness 49 = .ok (.invokevirtual 98, 3) := by decide +kernel
theorem dX5_witness_52 : decode cX5_witness 52 = .ok (.if_icmp .ge 20, 3) := by decide +kernel
theorem dX5_witness_55 : decode cX5_witness 55 = .ok (.iload_n 2, 1) := by decide +kernel
theorem dX5_witness_56 : decode cX5_witness 56 = .ok (.iload_n 3, 1) := by decide +kernel
theorem dX5_witness_57 : decode cX5_witness 57 = .ok (.ishr, 1) := by decide +kernel
theorem dX5_witness_58 : decode cX5_witness 58 = .ok (.iconst 1, 1) := by decide +kernel
theorem dX5_witness_59 : decode cX5_witness 59 = .ok (.iand, 1) := by decide +kernel
theorem dX5_witness_60 : decode cX5_witness 60 = .ok (.iconst 1, 1) := by decide +kernel
theorem dX5_witness_61 : decode cX5_witness 61 = .ok (.if_icmp .ne 5, 3) := by decide +kernel
theorem dX5_witness_64 : decode cX5_witness 64 = .ok (.iload_n 3, 1) := by decide +kernel
theorem dX5_witness_65 : decode cX5_witness 65 = .ok (.ireturn, 1) := by decide +kernel
theorem dX5_witness_66 : decode cX5_witness 66 = .ok (.iinc 3 1, 3) := by decide +kernel
theorem dX5_witness_69 : decode cX5_witness 69 = .ok (.goto (-22), 3) := by decide +kernel
theorem dX5_witness_72 : decode cX5_witness 72 = .ok (.iconst (-1), 1) := by decide +kernel
theorem dX5_witness_73 : decode cX5_witness 73 = .ok (.ireturn, 1) := by decide +kernel
theorem dX5_verdictNow_0 : decode cX5_verdictNow 0 = .ok (.iconst 1, 1) := by decide +kernel
theorem dX5_verdictNow_1 : decode cX5_verdictNow 1 = .ok (.istore_n 1, 1) := by decide +kernel
theorem dX5_verdictNow_2 : decode cX5_verdictNow 2 = .ok (.iconst 0, 1) := by decide +kernel
theorem dX5_verdictNow_3 : decode cX5_verdictNow 3 = .ok (.istore_n 2, 1) := by decide +kernel
theorem dX5_verdictNow_4 : decode cX5_verdictNow 4 = .ok (.aload_n 0, 1) := by decide +kernel
theorem dX5_verdictNow_5 : decode cX5_verdictNow 5 = .ok (.iload_n 2, 1) := by decide +kernel
theorem dX5_verdictNow_6 : decode cX5_verdictNow 6 = .ok (.invokevirtual 211, 3) := by decide +kernel
theorem dX5_verdictNow_9 : decode cX5_verdictNow 9 = .ok (.ifCond .eq 27, 3) := by decide +kernel
theorem dX5_verdictNow_12 : decode cX5_verdictNow 12 = .ok (.iload_n 1, 1) := by decide +kernel
theorem dX5_verdictNow_13 : decode cX5_verdictNow 13 = .ok (.ifCond .eq 15, 3) := by decide +kernel
theorem dX5_verdictNow_16 : decode cX5_verdictNow 16 = .ok (.aload_n 0, 1) := by decide +kernel
theorem dX5_verdictNow_17 : decode cX5_verdictNow 17 = .ok (.iload_n 2, 1) := by decide +kernel
theorem dX5_verdictNow_18 : decode cX5_verdictNow 18 = .ok (.invokevirtual 214, 3) := by decide +kernel
theorem dX5_verdictNow_21 : decode cX5_verdictNow 21 = .ok (.ifCond .eq 7, 3) := by decide +kernel
theorem dX5_verdictNow_24 : decode cX5_verdictNow 24 = .ok (.iconst 1, 1) := by decide +kernel
theorem dX5_verdictNow_25 : decode cX5_verdictNow 25 = .ok (.goto 4, 3) := by decide +kernel
theorem dX5_verdictNow_28 : decode cX5_verdictNow 28 = .ok (.iconst 0, 1) := by decide +kernel
theorem dX5_verdictNow_29 : decode cX5_verdictNow 29 = .ok (.istore_n 1, 1) := by decide +kernel
theorem dX5_verdictNow_30 : decode cX5_verdictNow 30 = .ok (.iinc 2 1, 3) := by decide +kernel
theorem dX5_verdictNow_33 : decode cX5_verdictNow 33 = .ok (.goto (-29), 3) := by decide +kernel
theorem dX5_verdictNow_36 : decode cX5_verdictNow 36 = .ok (.aload_n 0, 1) := by decide +kernel
theorem dX5_verdictNow_37 : decode cX5_verdictNow 37 = .ok (.getfield 7, 3) := by decide +kernel
theorem dX5_verdictNow_40 : decode cX5_verdictNow 40 = .ok (.bipush 98, 2) := by decide +kernel
theorem dX5_verdictNow_42 : decode cX5_verdictNow 42 = .ok (.iaload, 1) := by decide +kernel
theorem dX5_verdictNow_43 : decode cX5_verdictNow 43 = .ok (.aload_n 0, 1) := by decide +kernel
theorem dX5_verdictNow_44 : decode cX5_verdictNow 44 = .ok (.getfield 7, 3) := by decide +kernel
theorem dX5_verdictNow_47 : decode cX5_verdictNow 47 = .ok (.bipush 99, 2) := by decide +kernel
theorem dX5_verdictNow_49 : decode cX5_verdictNow 49 = .ok (.iaload, 1) := by decide +kernel
theorem dX5_verdictNow_50 : decode cX5_verdictNow 50 = .ok (.if_icmp .eq 7, 3) := by decide +kernel
theorem dX5_verdictNow_53 : decode cX5_verdictNow 53 = .ok (.iconst (-1), 1) := by decide +kernel
theorem dX5_verdictNow_54 : decode cX5_verdictNow 54 = .ok (.goto 12, 3) := by decide +kernel
theorem dX5_verdictNow_57 : decode cX5_verdictNow 57 = .ok (.iload_n 1, 1) := by decide +kernel
theorem dX5_verdictNow_58 : decode cX5_verdictNow 58 = .ok (.ifCond .eq 7, 3) := by decide +kernel
theorem dX5_verdictNow_61 : decode cX5_verdictNow 61 = .ok (.iconst 1, 1) := by decide +kernel
theorem dX5_verdictNow_62 : decode cX5_verdictNow 62 = .ok (.goto 4, 3) := by decide +kernel
theorem dX5_verdictNow_65 : decode cX5_verdictNow 65 = .ok (.iconst 0, 1) := by decide +kernel
theorem dX5_verdictNow_66 : decode cX5_verdictNow 66 = .ok (.ireturn, 1) := by decide +kernel
theorem dX5_verdict_0 : decode cX5_verdict 0 = .ok (.aload_n 0, 1) := by decide +kernel
theorem dX5_verdict_1 : decode cX5_verdict 1 = .ok (.invokevirtual 175, 3) := by decide +kernel
theorem dX5_verdict_4 : decode cX5_verdict 4 = .ok (.aload_n 0, 1) := by decide +kernel
theorem dX5_verdict_5 : decode cX5_verdict 5 = .ok (.invokevirtual 217, 3) := by decide +kernel
theorem dX5_verdict_8 : decode cX5_verdict 8 = .ok (.ireturn, 1) := by decide +kernel
theorem dX5_type_0 : decode cX5_type 0 = .ok (.iload_n 1, 1) := by decide +kernel
theorem dX5_type_1 : decode cX5_type 1 = .ok (.iconst 0, 1) := by decide +kernel
theorem dX5_type_2 : decode cX5_type 2 = .ok (.bipush 127, 2) := by decide +kernel
theorem dX5_type_4 : decode cX5_type 4 = .ok (.invokestatic 55, 3) := by decide +kernel
theorem dX5_type_7 : decode cX5_type 7 = .ok (.ifCond .ne 8, 3) := by decide +kernel
theorem dX5_type_10 : decode cX5_type 10 = .ok (.aload_n 0, 1) := by decide +kernel
theorem dX5_type_11 : decode cX5_type 11 = .ok (.invokevirtual 77, 3) := by decide +kernel
theorem dX5_type_14 : decode cX5_type 14 = .ok (.ireturn, 1) := by decide +kernel
theorem dX5_type_15 : decode cX5_type 15 = .ok (.aload_n 0, 1) := by decide +kernel
theorem dX5_type_16 : decode cX5_type 16 = .ok (.getfield 220, 3) := by decide +kernel
theorem dX5_type_19 : decode cX5_type 19 = .ok (.sipush 150, 3) := by decide +kernel
theorem dX5_type_22 : decode cX5_type 22 = .ok (.if_icmp .ne 8, 3) := by decide +kernel
theorem dX5_type_25 : decode cX5_type 25 = .ok (.aload_n 0, 1) := by decide +kernel
theorem dX5_type_26 : decode cX5_type 26 = .ok (.invokevirtual 74, 3) := by decide +kernel
theorem dX5_type_29 : decode cX5_type 29 = .ok (.ireturn, 1) := by decide +kernel
theorem dX5_type_30 : decode cX5_type 30 = .ok (.aload_n 0, 1) := by decide +kernel
theorem dX5_type_31 : decode cX5_type 31 = .ok (.getfield 22, 3) := by decide +kernel
theorem dX5_type_34 : decode cX5_type 34 = .ok (.aload_n 0, 1) := by decide +kernel
theorem dX5_type_35 : decode cX5_type 35 = .ok (.getfield 220, 3) := by decide +kernel
theorem dX5_type_38 : decode cX5_type 38 = .ok (.iload_n 1, 1) := by decide +kernel
theorem dX5_type_39 : decode cX5_type 39 = .ok (.iastore, 1) := by decide +kernel
theorem dX5_type_40 : decode cX5_type 40 = .ok (.aload_n 0, 1) := by decide +kernel
theorem dX5_type_41 : decode cX5_type 41 = .ok (.dup, 1) := by decide +kernel
theorem dX5_type_42 : decode cX5_type 42 = .ok (.getfield 220, 3) := by decide +kernel
theorem dX5_type_45 : decode cX5_type 45 = .ok (.iconst 1, 1) := by decide +kernel
theorem dX5_type_46 : decode cX5_type 46 = .ok (.iadd, 1) := by decide +kernel
theorem dX5_type_47 : decode cX5_type 47 = .ok (.putfield 220, 3) := by decide +kernel
theorem dX5_type_50 : decode cX5_type 50 = .ok (.aload_n 0, 1) := by decide +kernel
theorem dX5_type_51 : decode cX5_type 51 = .ok (.getfield 220, 3) := by decide +kernel
theorem dX5_type_54 : decode cX5_type 54 = .ok (.ireturn, 1) := by decide +kernel
theorem dX5_clear_0 : decode cX5_clear 0 = .ok (.aload_n 0, 1) := by decide +kernel
theorem dX5_clear_1 : decode cX5_clear 1 = .ok (.getfield 220, 3) := by decide +kernel
theorem dX5_clear_4 : decode cX5_clear 4 = .ok (.istore_n 1, 1) := by decide +kernel
theorem dX5_clear_5 : decode cX5_clear 5 = .ok (.aload_n 0, 1) := by decide +kernel
theorem dX5_clear_6 : decode cX5_clear 6 = .ok (.iconst 0, 1) := by decide +kernel
theorem dX5_clear_7 : decode cX5_clear 7 = .ok (.putfield 220, 3) := by decide +kernel
theorem dX5_clear_10 : decode cX5_clear 10 = .ok (.iload_n 1, 1) := by decide +kernel
theorem dX5_clear_11 : decode cX5_clear 11 = .ok (.ireturn, 1) := by decide +kernel
theorem dX5_isAt_0 : decode cX5_isAt 0 = .ok (.aload_n 0, 1) := by decide +kernel
theorem dX5_isAt_1 : decode cX5_isAt 1 = .ok (.getfield 223, 3) := by decide +kernel
theorem dX5_isAt_4 : decode cX5_isAt 4 = .ok (.aload_n 0, 1) := by decide +kernel
theorem dX5_isAt_5 : decode cX5_isAt 5 = .ok (.getfield 220, 3) := by decide +kernel
theorem dX5_isAt_8 : decode cX5_isAt 8 = .ok (.if_icmp .ge 24, 3) := by decide +kernel
theorem dX5_isAt_11 : decode cX5_isAt 11 = .ok (.aload_n 0, 1) := by decide +kernel
theorem dX5_isAt_12 : decode cX5_isAt 12 = .ok (.getfield 22, 3) := by decide +kernel
theorem dX5_isAt_15 : decode cX5_isAt 15 = .ok (.aload_n 0, 1) := by decide +kernel
theorem dX5_isAt_16 : decode cX5_isAt 16 = .ok (.getfield 223, 3) := by decide +kernel
theorem dX5_isAt_19 : decode cX5_isAt 19 = .ok (.iaload, 1) := by decide +kernel
theorem dX5_isAt_20 : decode cX5_isAt 20 = .ok (.iload_n 1, 1) := by decide +kernel
theorem dX5_isAt_21 : decode cX5_isAt 21 = .ok (.iload_n 2, 1) := by decide +kernel
theorem dX5_isAt_22 : decode cX5_isAt 22 = .ok (.invokestatic 55, 3) := by decide +kernel
theorem dX5_isAt_25 : decode cX5_isAt 25 = .ok (.ifCond .eq 7, 3) := by decide +kernel
theorem dX5_isAt_28 : decode cX5_isAt 28 = .ok (.iconst 1, 1) := by decide +kernel
theorem dX5_isAt_29 : decode cX5_isAt 29 = .ok (.goto 4, 3) := by decide +kernel
theorem dX5_isAt_32 : decode cX5_isAt 32 = .ok (.iconst 0, 1) := by decide +kernel
theorem dX5_isAt_33 : decode cX5_isAt 33 = .ok (.ireturn, 1) := by decide +kernel
theorem dX5_blanks_0 : decode cX5_blanks 0 = .ok (.aload_n 0, 1) := by decide +kernel
theorem dX5_blanks_1 : decode cX5_blanks 1 = .ok (.bipush 32, 2) := by decide +kernel
theorem dX5_blanks_3 : decode cX5_blanks 3 = .ok (.bipush 32, 2) := by decide +kernel
theorem dX5_blanks_5 : decode cX5_blanks 5 = .ok (.invokevirtual 226, 3) := by decide +kernel
theorem dX5_blanks_8 : decode cX5_blanks 8 = .ok (.ifCond .eq 16, 3) := by decide +kernel
theorem dX5_blanks_11 : decode cX5_blanks 11 = .ok (.aload_n 0, 1) := by decide +kernel
theorem dX5_blanks_12 : decode cX5_blanks 12 = .ok (.dup, 1) := by decide +kernel
theorem dX5_blanks_13 : decode cX5_blanks 13 = .ok (.getfield 223, 3) := by decide +kernel
theorem dX5_blanks_16 : decode cX5_blanks 16 = .ok (.iconst 1, 1) := by decide +kernel
theorem dX5_blanks_17 : decode cX5_blanks 17 = .ok (.iadd, 1) := by decide +kernel
theorem dX5_blanks_18 : decode cX5_blanks 18 = .ok (.putfield 223, 3) := by decide +kernel
theorem dX5_blanks_21 : decode cX5_blanks 21 = .ok (.goto (-21), 3) := by decide +kernel
theorem dX5_blanks_24 : decode cX5_blanks 24 = .ok (.return_, 1) := by decide +kernel
theorem dX5_number_0 : decode cX5_number 0 = .ok (.aload_n 0, 1) := by decide +kernel
theorem dX5_number_1 : decode cX5_number 1 = .ok (.invokevirtual 229, 3) := by decide +kernel
theorem dX5_number_4 : decode cX5_number 4 = .ok (.iconst 0, 1) := by decide +kernel
theorem dX5_number_5 : decode cX5_number 5 = .ok (.istore_n 1, 1) := by decide +kernel
theorem dX5_number_6 : decode cX5_number 6 = .ok (.iconst 0, 1) := by decide +kernel
theorem dX5_number_7 : decode cX5_number 7 = .ok (.istore_n 2, 1) := by decide +kernel
theorem dX5_number_8 : decode cX5_number 8 = .ok (.aload_n 0, 1) := by decide +kernel
theorem dX5_number_9 : decode cX5_number 9 = .ok (.aload_n 0, 1) := by decide +kernel
theorem dX5_number_10 : decode cX5_number 10 = .ok (.bipush 48, 2) := by decide +kernel
theorem dX5_number_12 : decode cX5_number 12 = .ok (.bipush 57, 2) := by decide +kernel
theorem dX5_number_14 : decode cX5_number 14 = .ok (.invokevirtual 226, 3) := by decide +kernel
theorem dX5_number_17 : decode cX5_number 17 = .ok (.ifCond .ne 7, 3) := by decide +kernel
theorem dX5_number_20 : decode cX5_number 20 = .ok (.iconst 1, 1) := by decide +kernel
theorem dX5_number_21 : decode cX5_number 21 = .ok (.goto 4, 3) := by decide +kernel
theorem dX5_number_24 : decode cX5_number 24 = .ok (.iconst 0, 1) := by decide +kernel
theorem dX5_number_25 : decode cX5_number 25 = .ok (.putfield 232, 3) := by decide +kernel
theorem dX5_number_28 : decode cX5_number 28 = .ok (.aload_n 0, 1) := by decide +kernel
theorem dX5_number_29 : decode cX5_number 29 = .ok (.getfield 232, 3) := by decide +kernel
theorem dX5_number_32 : decode cX5_number 32 = .ok (.ifCond .ne 84, 3) := by decide +kernel
theorem dX5_number_35 : decode cX5_number 35 = .ok (.aload_n 0, 1) := by decide +kernel
theorem dX5_number_36 : decode cX5_number 36 = .ok (.bipush 48, 2) := by decide +kernel
theorem dX5_number_38 : decode cX5_number 38 = .ok (.bipush 57, 2) := by decide +kernel
theorem dX5_number_40 : decode cX5_number 40 = .ok (.invokevirtual 226, 3) := by decide +kernel
theorem dX5_number_43 : decode cX5_number 43 = .ok (.ifCond .eq 73, 3) := by decide +kernel
theorem dX5_number_46 : decode cX5_number 46 = .ok (.iinc 2 1, 3) := by decide +kernel
theorem dX5_number_49 : decode cX5_number 49 = .ok (.aload_n 0, 1) := by decide +kernel
theorem dX5_number_50 : decode cX5_number 50 = .ok (.iload_n 2, 1) := by decide +kernel
theorem dX5_number_51 : decode cX5_number 51 = .ok (.iconst 2, 1) := by decide +kernel
theorem dX5_number_52 : decode cX5_number 52 = .ok (.if_icmp .le 7, 3) := by decide +kernel
theorem dX5_number_55 : decode cX5_number 55 = .ok (.iconst 1, 1) := by decide +kernel
theorem dX5_number_56 : decode cX5_number 56 = .ok (.goto 4, 3) := by decide +kernel
theorem dX5_number_59 : decode cX5_number 59 = .ok (.iconst 0, 1) := by decide +kernel
theorem dX5_number_60 : decode cX5_number 60 = .ok (.putfield 232, 3) := by decide +kernel
theorem dX5_number_63 : decode cX5_number 63 = .ok (.aload_n 0, 1) := by decide +kernel
theorem dX5_number_64 : decode cX5_number 64 = .ok (.getfield 232, 3) := by decide +kernel
theorem dX5_number_67 : decode cX5_number 67 = .ok (.ifCond .eq 7, 3) := by decide +kernel
theorem dX5_number_70 : decode cX5_number 70 = .ok (.iload_n 1, 1) := by decide +kernel
theorem dX5_number_71 : decode cX5_number 71 = .ok (.goto 20, 3) := by decide +kernel
theorem dX5_number_74 : decode cX5_number 74 = .ok (.bipush 10, 2) := by decide +kernel
theorem dX5_number_76 : decode cX5_number 76 = .ok (.iload_n 1, 1) := by decide +kernel
theorem dX5_number_77 : decode cX5_number 77 = .ok (.imul, 1) := by decide +kernel
theorem dX5_number_78 : decode cX5_number 78 = .ok (.aload_n 0, 1) := by decide +kernel
theorem dX5_number_79 : decode cX5_number 79 = .ok (.getfield 22, 3) := by decide +kernel
theorem dX5_number_82 : decode cX5_number 82 = .ok (.aload_n 0, 1) := by decide +kernel
theorem dX5_number_83 : decode cX5_number 83 = .ok (.getfield 223, 3) := by decide +kernel
theorem dX5_number_86 : decode cX5_number 86 = .ok (.iaload, 1) := by decide +kernel
theorem dX5_number_87 : decode cX5_number 87 = .ok (.iadd, 1) := by decide +kernel
theorem dX5_number_88 : decode cX5_number 88 = .ok (.bipush 48, 2) := by decide +kernel
theorem dX5_number_90 : decode cX5_number 90 = .ok (.isub, 1) := by decide +kernel
theorem dX5_number_91 : decode cX5_number 91 = .ok (.istore_n 1, 1) := by decide +kernel
theorem dX5_number_92 : decode cX5_number 92 = .ok (.aload_n 0, 1) := by decide +kernel
theorem dX5_number_93 : decode cX5_number 93 = .ok (.dup, 1) := by decide +kernel
theorem dX5_number_94 : decode cX5_number 94 = .ok (.getfield 223, 3) := by decide +kernel
theorem dX5_number_97 : decode cX5_number 97 = .ok (.aload_n 0, 1) := by decide +kernel
theorem dX5_number_98 : decode cX5_number 98 = .ok (.getfield 232, 3) := by decide +kernel
theorem dX5_number_101 : decode cX5_number 101 = .ok (.ifCond .eq 7, 3) := by decide +kernel
theorem dX5_number_104 : decode cX5_number 104 = .ok (.iconst 0, 1) := by decide +kernel
theorem dX5_number_105 : decode cX5_number 105 = .ok (.goto 4, 3) := by decide +kernel
theorem dX5_number_108 : decode cX5_number 108 = .ok (.iconst 1, 1) := by decide +kernel
theorem dX5_number_109 : decode cX5_number 109 = .ok (.iadd, 1) := by decide +kernel
theorem dX5_number_110 : decode cX5_number 110 = .ok (.putfield 223, 3) := by decide +kernel
theorem dX5_number_113 : decode cX5_number 113 = .ok (.goto (-85), 3) := by decide +kernel
theorem dX5_number_116 : decode cX5_number 116 = .ok (.iload_n 1, 1) := by decide +kernel
theorem dX5_number_117 : decode cX5_number 117 = .ok (.ireturn, 1) := by decide +kernel
theorem dX5_manyOf_0 : decode cX5_manyOf 0 = .ok (.iload_n 0, 1) := by decide +kernel
theorem dX5_manyOf_1 : decode cX5_manyOf 1 = .ok (.tableswitch 93 103 120 #[89, 93, 87, 93, 93, 93, 91, 93, 89, 87, 93, 93, 93, 93, 93, 93, 93, 89], 87) := by decide +kernel
theorem dX5_manyOf_88 : decode cX5_manyOf 88 = .ok (.iconst 1, 1) := by decide +kernel
theorem dX5_manyOf_89 : decode cX5_manyOf 89 = .ok (.ireturn, 1) := by decide +kernel
theorem dX5_manyOf_90 : decode cX5_manyOf 90 = .ok (.iconst 2, 1) := by decide +kernel
theorem dX5_manyOf_91 : decode cX5_manyOf 91 = .ok (.ireturn, 1) := by decide +kernel
theorem dX5_manyOf_92 : decode cX5_manyOf 92 = .ok (.iconst 3, 1) := by decide +kernel
theorem dX5_manyOf_93 : decode cX5_manyOf 93 = .ok (.ireturn, 1) := by decide +kernel
theorem dX5_manyOf_94 : decode cX5_manyOf 94 = .ok (.iconst 0, 1) := by decide +kernel
theorem dX5_manyOf_95 : decode cX5_manyOf 95 = .ok (.ireturn, 1) := by decide +kernel
theorem dX5_readsOrder_0 : decode cX5_readsOrder 0 = .ok (.aload_n 0, 1) := by decide +kernel
theorem dX5_readsOrder_1 : decode cX5_readsOrder 1 = .ok (.getfield 22, 3) := by decide +kernel
theorem dX5_readsOrder_4 : decode cX5_readsOrder 4 = .ok (.aload_n 0, 1) := by decide +kernel
theorem dX5_readsOrder_5 : decode cX5_readsOrder 5 = .ok (.getfield 223, 3) := by decide +kernel
theorem dX5_readsOrder_8 : decode cX5_readsOrder 8 = .ok (.iaload, 1) := by decide +kernel
theorem dX5_readsOrder_9 : decode cX5_readsOrder 9 = .ok (.istore_n 1, 1) := by decide +kernel
theorem dX5_readsOrder_10 : decode cX5_readsOrder 10 = .ok (.iload_n 1, 1) := by decide +kernel
theorem dX5_readsOrder_11 : decode cX5_readsOrder 11 = .ok (.invokestatic 236, 3) := by decide +kernel
theorem dX5_readsOrder_14 : decode cX5_readsOrder 14 = .ok (.istore_n 2, 1) := by decide +kernel
theorem dX5_readsOrder_15 : decode cX5_readsOrder 15 = .ok (.aload_n 0, 1) := by decide +kernel
theorem dX5_readsOrder_16 : decode cX5_readsOrder 16 = .ok (.iload_n 2, 1) := by decide +kernel
theorem dX5_readsOrder_17 : decode cX5_readsOrder 17 = .ok (.ifCond .ne 7, 3) := by decide +kernel
theorem dX5_readsOrder_20 : decode cX5_readsOrder 20 = .ok (.iconst 1, 1) := by decide +kernel
theorem dX5_readsOrder_21 : decode cX5_readsOrder 21 = .ok (.goto 4, 3) := by decide +kernel
theorem dX5_readsOrder_24 : decode cX5_readsOrder 24 = .ok (.iconst 0, 1) := by decide +kernel
theorem dX5_readsOrder_25 : decode cX5_readsOrder 25 = .ok (.putfield 232, 3) := by decide +kernel
theorem dX5_readsOrder_28 : decode cX5_readsOrder 28 = .ok (.aload_n 0, 1) := by decide +kernel
theorem dX5_readsOrder_29 : decode cX5_readsOrder 29 = .ok (.dup, 1) := by decide +kernel
theorem dX5_readsOrder_30 : decode cX5_readsOrder 30 = .ok (.getfield 223, 3) := by decide +kernel
theorem dX5_readsOrder_33 : decode cX5_readsOrder 33 = .ok (.aload_n 0, 1) := by decide +kernel
theorem dX5_readsOrder_34 : decode cX5_readsOrder 34 = .ok (.getfield 232, 3) := by decide +kernel
theorem dX5_readsOrder_37 : decode cX5_readsOrder 37 = .ok (.ifCond .eq 7, 3) := by decide +kernel
theorem dX5_readsOrder_40 : decode cX5_readsOrder 40 = .ok (.iconst 0, 1) := by decide +kernel
theorem dX5_readsOrder_41 : decode cX5_readsOrder 41 = .ok (.goto 4, 3) := by decide +kernel
theorem dX5_readsOrder_44 : decode cX5_readsOrder 44 = .ok (.iconst 1, 1) := by decide +kernel
theorem dX5_readsOrder_45 : decode cX5_readsOrder 45 = .ok (.iadd, 1) := by decide +kernel
theorem dX5_readsOrder_46 : decode cX5_readsOrder 46 = .ok (.putfield 223, 3) := by decide +kernel
theorem dX5_readsOrder_49 : decode cX5_readsOrder 49 = .ok (.iconst 0, 1) := by decide +kernel
theorem dX5_readsOrder_50 : decode cX5_readsOrder 50 = .ok (.istore_n 3, 1) := by decide +kernel
theorem dX5_readsOrder_51 : decode cX5_readsOrder 51 = .ok (.iload_n 3, 1) := by decide +kernel
theorem dX5_readsOrder_52 : decode cX5_readsOrder 52 = .ok (.iload_n 2, 1) := by decide +kernel
theorem dX5_readsOrder_53 : decode cX5_readsOrder 53 = .ok (.if_icmp .ge 33, 3) := by decide +kernel
theorem dX5_readsOrder_56 : decode cX5_readsOrder 56 = .ok (.aload_n 0, 1) := by decide +kernel
theorem dX5_readsOrder_57 : decode cX5_readsOrder 57 = .ok (.getfield 232, 3) := by decide +kernel
theorem dX5_readsOrder_60 : decode cX5_readsOrder 60 = .ok (.ifCond .ne 26, 3) := by decide +kernel
theorem dX5_readsOrder_63 : decode cX5_readsOrder 63 = .ok (.aload_n 0, 1) := by decide +kernel
theorem dX5_readsOrder_64 : decode cX5_readsOrder 64 = .ok (.getfield 52, 3) := by decide +kernel
theorem dX5_readsOrder_67 : decode cX5_readsOrder 67 = .ok (.iconst 3, 1) := by decide +kernel
theorem dX5_readsOrder_68 : decode cX5_readsOrder 68 = .ok (.aload_n 0, 1) := by decide +kernel
theorem dX5_readsOrder_69 : decode cX5_readsOrder 69 = .ok (.getfield 239, 3) := by decide +kernel
theorem dX5_readsOrder_72 : decode cX5_readsOrder 72 = .ok (.imul, 1) := by decide +kernel
theorem dX5_readsOrder_73 : decode cX5_readsOrder 73 = .ok (.iload_n 3, 1) := by decide +kernel
theorem dX5_readsOrder_74 : decode cX5_readsOrder 74 = .ok (.iadd, 1) := by decide +kernel
theorem dX5_readsOrder_75 : decode cX5_readsOrder 75 = .ok (.aload_n 0, 1) := by decide +kernel
theorem dX5_readsOrder_76 : decode cX5_readsOrder 76 = .ok (.invokevirtual 242, 3) := by decide +kernel
theorem dX5_readsOrder_79 : decode cX5_readsOrder 79 = .ok (.iastore, 1) := by decide +kernel
theorem dX5_readsOrder_80 : decode cX5_readsOrder 80 = .ok (.iinc 3 1, 3) := by decide +kernel
theorem dX5_readsOrder_83 : decode cX5_readsOrder 83 = .ok (.goto (-32), 3) := by decide +kernel
theorem dX5_readsOrder_86 : decode cX5_readsOrder 86 = .ok (.aload_n 0, 1) := by decide +kernel
theorem dX5_readsOrder_87 : decode cX5_readsOrder 87 = .ok (.getfield 232, 3) := by decide +kernel
theorem dX5_readsOrder_90 : decode cX5_readsOrder 90 = .ok (.ifCond .ne 48, 3) := by decide +kernel
theorem dX5_readsOrder_93 : decode cX5_readsOrder 93 = .ok (.aload_n 0, 1) := by decide +kernel
theorem dX5_readsOrder_94 : decode cX5_readsOrder 94 = .ok (.invokevirtual 229, 3) := by decide +kernel
theorem dX5_readsOrder_97 : decode cX5_readsOrder 97 = .ok (.aload_n 0, 1) := by decide +kernel
theorem dX5_readsOrder_98 : decode cX5_readsOrder 98 = .ok (.aload_n 0, 1) := by decide +kernel
theorem dX5_readsOrder_99 : decode cX5_readsOrder 99 = .ok (.bipush 59, 2) := by decide +kernel
theorem dX5_readsOrder_101 : decode cX5_readsOrder 101 = .ok (.bipush 59, 2) := by decide +kernel
theorem dX5_readsOrder_103 : decode cX5_readsOrder 103 = .ok (.invokevirtual 226, 3) := by decide +kernel
theorem dX5_readsOrder_106 : decode cX5_readsOrder 106 = .ok (.ifCond .ne 7, 3) := by decide +kernel
theorem dX5_readsOrder_109 : decode cX5_readsOrder 109 = .ok (.iconst 1, 1) := by decide +kernel
theorem dX5_readsOrder_110 : decode cX5_readsOrder 110 = .ok (.goto 4, 3) := by decide +kernel
theorem dX5_readsOrder_113 : decode cX5_readsOrder 113 = .ok (.iconst 0, 1) := by decide +kernel
theorem dX5_readsOrder_114 : decode cX5_readsOrder 114 = .ok (.putfield 232, 3) := by decide +kernel
theorem dX5_readsOrder_117 : decode cX5_readsOrder 117 = .ok (.aload_n 0, 1) := by decide +kernel
theorem dX5_readsOrder_118 : decode cX5_readsOrder 118 = .ok (.dup, 1) := by decide +kernel
theorem dX5_readsOrder_119 : decode cX5_readsOrder 119 = .ok (.getfield 223, 3) := by decide +kernel
theorem dX5_readsOrder_122 : decode cX5_readsOrder 122 = .ok (.aload_n 0, 1) := by decide +kernel
theorem dX5_readsOrder_123 : decode cX5_readsOrder 123 = .ok (.getfield 232, 3) := by decide +kernel
theorem dX5_readsOrder_126 : decode cX5_readsOrder 126 = .ok (.ifCond .eq 7, 3) := by decide +kernel
theorem dX5_readsOrder_129 : decode cX5_readsOrder 129 = .ok (.iconst 0, 1) := by decide +kernel
theorem dX5_readsOrder_130 : decode cX5_readsOrder 130 = .ok (.goto 4, 3) := by decide +kernel
theorem dX5_readsOrder_133 : decode cX5_readsOrder 133 = .ok (.iconst 1, 1) := by decide +kernel
theorem dX5_readsOrder_134 : decode cX5_readsOrder 134 = .ok (.iadd, 1) := by decide +kernel
theorem dX5_readsOrder_135 : decode cX5_readsOrder 135 = .ok (.putfield 223, 3) := by decide +kernel
theorem dX5_readsOrder_138 : decode cX5_readsOrder 138 = .ok (.aload_n 0, 1) := by decide +kernel
theorem dX5_readsOrder_139 : decode cX5_readsOrder 139 = .ok (.getfield 232, 3) := by decide +kernel
theorem dX5_readsOrder_142 : decode cX5_readsOrder 142 = .ok (.ifCond .ne 23, 3) := by decide +kernel
theorem dX5_readsOrder_145 : decode cX5_readsOrder 145 = .ok (.aload_n 0, 1) := by decide +kernel
theorem dX5_readsOrder_146 : decode cX5_readsOrder 146 = .ok (.getfield 49, 3) := by decide +kernel
theorem dX5_readsOrder_149 : decode cX5_readsOrder 149 = .ok (.aload_n 0, 1) := by decide +kernel
theorem dX5_readsOrder_150 : decode cX5_readsOrder 150 = .ok (.getfield 239, 3) := by decide +kernel
theorem dX5_readsOrder_153 : decode cX5_readsOrder 153 = .ok (.iload_n 1, 1) := by decide +kernel
theorem dX5_readsOrder_154 : decode cX5_readsOrder 154 = .ok (.iastore, 1) := by decide +kernel
theorem dX5_readsOrder_155 : decode cX5_readsOrder 155 = .ok (.aload_n 0, 1) := by decide +kernel
theorem dX5_readsOrder_156 : decode cX5_readsOrder 156 = .ok (.dup, 1) := by decide +kernel
theorem dX5_readsOrder_157 : decode cX5_readsOrder 157 = .ok (.getfield 239, 3) := by decide +kernel
theorem dX5_readsOrder_160 : decode cX5_readsOrder 160 = .ok (.iconst 1, 1) := by decide +kernel
theorem dX5_readsOrder_161 : decode cX5_readsOrder 161 = .ok (.iadd, 1) := by decide +kernel
theorem dX5_readsOrder_162 : decode cX5_readsOrder 162 = .ok (.putfield 239, 3) := by decide +kernel
theorem dX5_readsOrder_165 : decode cX5_readsOrder 165 = .ok (.return_, 1) := by decide +kernel
theorem dX5_reads_0 : decode cX5_reads 0 = .ok (.aload_n 0, 1) := by decide +kernel
theorem dX5_reads_1 : decode cX5_reads 1 = .ok (.iconst 0, 1) := by decide +kernel
theorem dX5_reads_2 : decode cX5_reads 2 = .ok (.putfield 223, 3) := by decide +kernel
theorem dX5_reads_5 : decode cX5_reads 5 = .ok (.aload_n 0, 1) := by decide +kernel
theorem dX5_reads_6 : decode cX5_reads 6 = .ok (.iconst 0, 1) := by decide +kernel
theorem dX5_reads_7 : decode cX5_reads 7 = .ok (.putfield 239, 3) := by decide +kernel
theorem dX5_reads_10 : decode cX5_reads 10 = .ok (.aload_n 0, 1) := by decide +kernel
theorem dX5_reads_11 : decode cX5_reads 11 = .ok (.invokevirtual 229, 3) := by decide +kernel
theorem dX5_reads_14 : decode cX5_reads 14 = .ok (.aload_n 0, 1) := by decide +kernel
theorem dX5_reads_15 : decode cX5_reads 15 = .ok (.aload_n 0, 1) := by decide +kernel
theorem dX5_reads_16 : decode cX5_reads 16 = .ok (.getfield 223, 3) := by decide +kernel
theorem dX5_reads_19 : decode cX5_reads 19 = .ok (.aload_n 0, 1) := by decide +kernel
theorem dX5_reads_20 : decode cX5_reads 20 = .ok (.getfield 220, 3) := by decide +kernel
theorem dX5_reads_23 : decode cX5_reads 23 = .ok (.if_icmp .ne 7, 3) := by decide +kernel
theorem dX5_reads_26 : decode cX5_reads 26 = .ok (.iconst 1, 1) := by decide +kernel
theorem dX5_reads_27 : decode cX5_reads 27 = .ok (.goto 4, 3) := by decide +kernel
theorem dX5_reads_30 : decode cX5_reads 30 = .ok (.iconst 0, 1) := by decide +kernel
theorem dX5_reads_31 : decode cX5_reads 31 = .ok (.putfield 232, 3) := by decide +kernel
theorem dX5_reads_34 : decode cX5_reads 34 = .ok (.aload_n 0, 1) := by decide +kernel
theorem dX5_reads_35 : decode cX5_reads 35 = .ok (.getfield 232, 3) := by decide +kernel
theorem dX5_reads_38 : decode cX5_reads 38 = .ok (.ifCond .ne 32, 3) := by decide +kernel
theorem dX5_reads_41 : decode cX5_reads 41 = .ok (.aload_n 0, 1) := by decide +kernel
theorem dX5_reads_42 : decode cX5_reads 42 = .ok (.getfield 223, 3) := by decide +kernel
theorem dX5_reads_45 : decode cX5_reads 45 = .ok (.aload_n 0, 1) := by decide +kernel
theorem dX5_reads_46 : decode cX5_reads 46 = .ok (.getfield 220, 3) := by decide +kernel
theorem dX5_reads_49 : decode cX5_reads 49 = .ok (.if_icmp .ge 21, 3) := by decide +kernel
theorem dX5_reads_52 : decode cX5_reads 52 = .ok (.aload_n 0, 1) := by decide +kernel
theorem dX5_reads_53 : decode cX5_reads 53 = .ok (.invokevirtual 245, 3) := by decide +kernel
theorem dX5_reads_56 : decode cX5_reads 56 = .ok (.aload_n 0, 1) := by decide +kernel
theorem dX5_reads_57 : decode cX5_reads 57 = .ok (.getfield 232, 3) := by decide +kernel
theorem dX5_reads_60 : decode cX5_reads 60 = .ok (.ifCond .ne (-26), 3) := by decide +kernel
theorem dX5_reads_63 : decode cX5_reads 63 = .ok (.aload_n 0, 1) := by decide +kernel
theorem dX5_reads_64 : decode cX5_reads 64 = .ok (.invokevirtual 229, 3) := by decide +kernel
theorem dX5_reads_67 : decode cX5_reads 67 = .ok (.goto (-33), 3) := by decide +kernel
theorem dX5_reads_70 : decode cX5_reads 70 = .ok (.aload_n 0, 1) := by decide +kernel
theorem dX5_reads_71 : decode cX5_reads 71 = .ok (.getfield 232, 3) := by decide +kernel
theorem dX5_reads_74 : decode cX5_reads 74 = .ok (.ifCond .ne 7, 3) := by decide +kernel
theorem dX5_reads_77 : decode cX5_reads 77 = .ok (.iconst 1, 1) := by decide +kernel
theorem dX5_reads_78 : decode cX5_reads 78 = .ok (.goto 4, 3) := by decide +kernel
theorem dX5_reads_81 : decode cX5_reads 81 = .ok (.iconst 0, 1) := by decide +kernel
theorem dX5_reads_82 : decode cX5_reads 82 = .ok (.ireturn, 1) := by decide +kernel
theorem dX5_doesOrder_0 : decode cX5_doesOrder 0 = .ok (.aload_n 0, 1) := by decide +kernel
theorem dX5_doesOrder_1 : decode cX5_doesOrder 1 = .ok (.getfield 52, 3) := by decide +kernel
theorem dX5_doesOrder_4 : decode cX5_doesOrder 4 = .ok (.iconst 3, 1) := by decide +kernel
theorem dX5_doesOrder_5 : decode cX5_doesOrder 5 = .ok (.iload_n 1, 1) := by decide +kernel
theorem dX5_doesOrder_6 : decode cX5_doesOrder 6 = .ok (.imul, 1) := by decide +kernel
theorem dX5_doesOrder_7 : decode cX5_doesOrder 7 = .ok (.iaload, 1) := by decide +kernel
theorem dX5_doesOrder_8 : decode cX5_doesOrder 8 = .ok (.istore_n 2, 1) := by decide +kernel
theorem dX5_doesOrder_9 : decode cX5_doesOrder 9 = .ok (.aload_n 0, 1) := by decide +kernel
theorem dX5_doesOrder_10 : decode cX5_doesOrder 10 = .ok (.getfield 52, 3) := by decide +kernel
theorem dX5_doesOrder_13 : decode cX5_doesOrder 13 = .ok (.iconst 3, 1) := by decide +kernel
theorem dX5_doesOrder_14 : decode cX5_doesOrder 14 = .ok (.iload_n 1, 1) := by decide +kernel
theorem dX5_doesOrder_15 : decode cX5_doesOrder 15 = .ok (.imul, 1) := by decide +kernel
theorem dX5_doesOrder_16 : decode cX5_doesOrder 16 = .ok (.iconst 1, 1) := by decide +kernel
theorem dX5_doesOrder_17 : decode cX5_doesOrder 17 = .ok (.iadd, 1) := by decide +kernel
theorem dX5_doesOrder_18 : decode cX5_doesOrder 18 = .ok (.iaload, 1) := by decide +kernel
theorem dX5_doesOrder_19 : decode cX5_doesOrder 19 = .ok (.istore_n 3, 1) := by decide +kernel
theorem dX5_doesOrder_20 : decode cX5_doesOrder 20 = .ok (.aload_n 0, 1) := by decide +kernel
theorem dX5_doesOrder_21 : decode cX5_doesOrder 21 = .ok (.getfield 49, 3) := by decide +kernel
theorem dX5_doesOrder_24 : decode cX5_doesOrder 24 = .ok (.iload_n 1, 1) := by decide +kernel
theorem dX5_doesOrder_25 : decode cX5_doesOrder 25 = .ok (.iaload, 1) := by decide +kernel
theorem dX5_doesOrder_26 : decode cX5_doesOrder 26 = .ok (.lookupswitch 94 #[(103, 56), (105, 50), (109, 70), (111, 87), (120, 63)], 50) := by decide +kernel
theorem dX5_doesOrder_76 : decode cX5_doesOrder 76 = .ok (.aload_n 0, 1) := by decide +kernel
theorem dX5_doesOrder_77 : decode cX5_doesOrder 77 = .ok (.iload_n 2, 1) := by decide +kernel
theorem dX5_doesOrder_78 : decode cX5_doesOrder 78 = .ok (.invokevirtual 104, 3) := by decide +kernel
theorem dX5_doesOrder_81 : decode cX5_doesOrder 81 = .ok (.ireturn, 1) := by decide +kernel
theorem dX5_doesOrder_82 : decode cX5_doesOrder 82 = .ok (.aload_n 0, 1) := by decide +kernel
theorem dX5_doesOrder_83 : decode cX5_doesOrder 83 = .ok (.iload_n 2, 1) := by decide +kernel
theorem dX5_doesOrder_84 : decode cX5_doesOrder 84 = .ok (.iload_n 3, 1) := by decide +kernel
theorem dX5_doesOrder_85 : decode cX5_doesOrder 85 = .ok (.invokevirtual 110, 3) := by decide +kernel
theorem dX5_doesOrder_88 : decode cX5_doesOrder 88 = .ok (.ireturn, 1) := by decide +kernel
theorem dX5_doesOrder_89 : decode cX5_doesOrder 89 = .ok (.aload_n 0, 1) := by decide +kernel
theorem dX5_doesOrder_90 : decode cX5_doesOrder 90 = .ok (.iload_n 2, 1) := by decide +kernel
theorem dX5_doesOrder_91 : decode cX5_doesOrder 91 = .ok (.iload_n 3, 1) := by decide +kernel
theorem dX5_doesOrder_92 : decode cX5_doesOrder 92 = .ok (.invokevirtual 113, 3) := by decide +kernel
theorem dX5_doesOrder_95 : decode cX5_doesOrder 95 = .ok (.ireturn, 1) := by decide +kernel
theorem dX5_doesOrder_96 : decode cX5_doesOrder 96 = .ok (.aload_n 0, 1) := by decide +kernel
theorem dX5_doesOrder_97 : decode cX5_doesOrder 97 = .ok (.iload_n 2, 1) := by decide +kernel
theorem dX5_doesOrder_98 : decode cX5_doesOrder 98 = .ok (.iload_n 3, 1) := by decide +kernel
theorem dX5_doesOrder_99 : decode cX5_doesOrder 99 = .ok (.aload_n 0, 1) := by decide +kernel
theorem dX5_doesOrder_100 : decode cX5_doesOrder 100 = .ok (.getfield 52, 3) := by decide +kernel
theorem dX5_doesOrder_103 : decode cX5_doesOrder 103 = .ok (.iconst 3, 1) := by decide +kernel
theorem dX5_doesOrder_104 : decode cX5_doesOrder 104 = .ok (.iload_n 1, 1) := by decide +kernel
theorem dX5_doesOrder_105 : decode cX5_doesOrder 105 = .ok (.imul, 1) := by decide +kernel
theorem dX5_doesOrder_106 : decode cX5_doesOrder 106 = .ok (.iconst 2, 1) := by decide +kernel
theorem dX5_doesOrder_107 : decode cX5_doesOrder 107 = .ok (.iadd, 1) := by decide +kernel
theorem dX5_doesOrder_108 : decode cX5_doesOrder 108 = .ok (.iaload, 1) := by decide +kernel
theorem dX5_doesOrder_109 : decode cX5_doesOrder 109 = .ok (.invokevirtual 116, 3) := by decide +kernel
theorem dX5_doesOrder_112 : decode cX5_doesOrder 112 = .ok (.ireturn, 1) := by decide +kernel
theorem dX5_doesOrder_113 : decode cX5_doesOrder 113 = .ok (.aload_n 0, 1) := by decide +kernel
theorem dX5_doesOrder_114 : decode cX5_doesOrder 114 = .ok (.iload_n 2, 1) := by decide +kernel
theorem dX5_doesOrder_115 : decode cX5_doesOrder 115 = .ok (.iload_n 3, 1) := by decide +kernel
theorem dX5_doesOrder_116 : decode cX5_doesOrder 116 = .ok (.invokevirtual 120, 3) := by decide +kernel
theorem dX5_doesOrder_119 : decode cX5_doesOrder 119 = .ok (.ireturn, 1) := by decide +kernel
theorem dX5_doesOrder_120 : decode cX5_doesOrder 120 = .ok (.aload_n 0, 1) := by decide +kernel
theorem dX5_doesOrder_121 : decode cX5_doesOrder 121 = .ok (.iload_n 2, 1) := by decide +kernel
theorem dX5_doesOrder_122 : decode cX5_doesOrder 122 = .ok (.invokevirtual 123, 3) := by decide +kernel
theorem dX5_doesOrder_125 : decode cX5_doesOrder 125 = .ok (.ireturn, 1) := by decide +kernel
theorem dX5_does_0 : decode cX5_does 0 = .ok (.aload_n 0, 1) := by decide +kernel
theorem dX5_does_1 : decode cX5_does 1 = .ok (.invokevirtual 248, 3) := by decide +kernel
theorem dX5_does_4 : decode cX5_does 4 = .ok (.ifCond .ne 11, 3) := by decide +kernel
theorem dX5_does_7 : decode cX5_does 7 = .ok (.bipush (-10), 2) := by decide +kernel
theorem dX5_does_9 : decode cX5_does 9 = .ok (.aload_n 0, 1) := by decide +kernel
theorem dX5_does_10 : decode cX5_does 10 = .ok (.getfield 223, 3) := by decide +kernel
theorem dX5_does_13 : decode cX5_does 13 = .ok (.isub, 1) := by decide +kernel
theorem dX5_does_14 : decode cX5_does 14 = .ok (.ireturn, 1) := by decide +kernel
theorem dX5_does_15 : decode cX5_does 15 = .ok (.aload_n 0, 1) := by decide +kernel
theorem dX5_does_16 : decode cX5_does 16 = .ok (.invokevirtual 101, 3) := by decide +kernel
theorem dX5_does_19 : decode cX5_does 19 = .ok (.iconst 0, 1) := by decide +kernel
theorem dX5_does_20 : decode cX5_does 20 = .ok (.istore_n 1, 1) := by decide +kernel
theorem dX5_does_21 : decode cX5_does 21 = .ok (.iload_n 1, 1) := by decide +kernel
theorem dX5_does_22 : decode cX5_does 22 = .ok (.aload_n 0, 1) := by decide +kernel
theorem dX5_does_23 : decode cX5_does 23 = .ok (.getfield 239, 3) := by decide +kernel
theorem dX5_does_26 : decode cX5_does 26 = .ok (.if_icmp .ge 49, 3) := by decide +kernel
theorem dX5_does_29 : decode cX5_does 29 = .ok (.aload_n 0, 1) := by decide +kernel
theorem dX5_does_30 : decode cX5_does 30 = .ok (.iload_n 1, 1) := by decide +kernel
theorem dX5_does_31 : decode cX5_does 31 = .ok (.invokevirtual 252, 3) := by decide +kernel
theorem dX5_does_34 : decode cX5_does 34 = .ok (.ifCond .ge 35, 3) := by decide +kernel
theorem dX5_does_37 : decode cX5_does 37 = .ok (.iconst 0, 1) := by decide +kernel
theorem dX5_does_38 : decode cX5_does 38 = .ok (.istore_n 2, 1) := by decide +kernel
theorem dX5_does_39 : decode cX5_does 39 = .ok (.iload_n 2, 1) := by decide +kernel
theorem dX5_does_40 : decode cX5_does 40 = .ok (.bipush 125, 2) := by decide +kernel
theorem dX5_does_42 : decode cX5_does 42 = .ok (.if_icmp .ge 21, 3) := by decide +kernel
theorem dX5_does_45 : decode cX5_does 45 = .ok (.aload_n 0, 1) := by decide +kernel
theorem dX5_does_46 : decode cX5_does 46 = .ok (.getfield 7, 3) := by decide +kernel
theorem dX5_does_49 : decode cX5_does 49 = .ok (.iload_n 2, 1) := by decide +kernel
theorem dX5_does_50 : decode cX5_does 50 = .ok (.aload_n 0, 1) := by decide +kernel
theorem dX5_does_51 : decode cX5_does 51 = .ok (.getfield 13, 3) := by decide +kernel
theorem dX5_does_54 : decode cX5_does 54 = .ok (.iload_n 2, 1) := by decide +kernel
theorem dX5_does_55 : decode cX5_does 55 = .ok (.iaload, 1) := by decide +kernel
theorem dX5_does_56 : decode cX5_does 56 = .ok (.iastore, 1) := by decide +kernel
theorem dX5_does_57 : decode cX5_does 57 = .ok (.iinc 2 1, 3) := by decide +kernel
theorem dX5_does_60 : decode cX5_does 60 = .ok (.goto (-21), 3) := by decide +kernel
theorem dX5_does_63 : decode cX5_does 63 = .ok (.sipush (-1000), 3) := by decide +kernel
theorem dX5_does_66 : decode cX5_does 66 = .ok (.iload_n 1, 1) := by decide +kernel
theorem dX5_does_67 : decode cX5_does 67 = .ok (.isub, 1) := by decide +kernel
theorem dX5_does_68 : decode cX5_does 68 = .ok (.ireturn, 1) := by decide +kernel
theorem dX5_does_69 : decode cX5_does 69 = .ok (.iinc 1 1, 3) := by decide +kernel
theorem dX5_does_72 : decode cX5_does 72 = .ok (.goto (-51), 3) := by decide +kernel
theorem dX5_does_75 : decode cX5_does 75 = .ok (.aload_n 0, 1) := by decide +kernel
theorem dX5_does_76 : decode cX5_does 76 = .ok (.invokevirtual 71, 3) := by decide +kernel
theorem dX5_does_79 : decode cX5_does 79 = .ok (.aload_n 0, 1) := by decide +kernel
theorem dX5_does_80 : decode cX5_does 80 = .ok (.getfield 239, 3) := by decide +kernel
theorem dX5_does_83 : decode cX5_does 83 = .ok (.ireturn, 1) := by decide +kernel
theorem dX5_toldOf_0 : decode cX5_toldOf 0 = .ok (.iload_n 1, 1) := by decide +kernel
theorem dX5_toldOf_1 : decode cX5_toldOf 1 = .ok (.iconst 3, 1) := by decide +kernel
theorem dX5_toldOf_2 : decode cX5_toldOf 2 = .ok (.if_icmp .ge 12, 3) := by decide +kernel
theorem dX5_toldOf_5 : decode cX5_toldOf 5 = .ok (.aload_n 0, 1) := by decide +kernel
theorem dX5_toldOf_6 : decode cX5_toldOf 6 = .ok (.getfield 19, 3) := by decide +kernel
theorem dX5_toldOf_9 : decode cX5_toldOf 9 = .ok (.iload_n 1, 1) := by decide +kernel
theorem dX5_toldOf_10 : decode cX5_toldOf 10 = .ok (.iaload, 1) := by decide +kernel
theorem dX5_toldOf_11 : decode cX5_toldOf 11 = .ok (.goto 19, 3) := by decide +kernel
theorem dX5_toldOf_14 : decode cX5_toldOf 14 = .ok (.iload_n 1, 1) := by decide +kernel
theorem dX5_toldOf_15 : decode cX5_toldOf 15 = .ok (.iconst 3, 1) := by decide +kernel
theorem dX5_toldOf_16 : decode cX5_toldOf 16 = .ok (.if_icmp .ne 10, 3) := by decide +kernel
theorem dX5_toldOf_19 : decode cX5_toldOf 19 = .ok (.aload_n 0, 1) := by decide +kernel
theorem dX5_toldOf_20 : decode cX5_toldOf 20 = .ok (.getfield 220, 3) := by decide +kernel
theorem dX5_toldOf_23 : decode cX5_toldOf 23 = .ok (.goto 7, 3) := by decide +kernel
theorem dX5_toldOf_26 : decode cX5_toldOf 26 = .ok (.aload_n 0, 1) := by decide +kernel
theorem dX5_toldOf_27 : decode cX5_toldOf 27 = .ok (.getfield 63, 3) := by decide +kernel
theorem dX5_toldOf_30 : decode cX5_toldOf 30 = .ok (.ireturn, 1) := by decide +kernel
theorem dX5_told_0 : decode cX5_told 0 = .ok (.iload_n 1, 1) := by decide +kernel
theorem dX5_told_1 : decode cX5_told 1 = .ok (.iconst 0, 1) := by decide +kernel
theorem dX5_told_2 : decode cX5_told 2 = .ok (.iconst 4, 1) := by decide +kernel
theorem dX5_told_3 : decode cX5_told 3 = .ok (.invokestatic 55, 3) := by decide +kernel
theorem dX5_told_6 : decode cX5_told 6 = .ok (.ifCond .eq 11, 3) := by decide +kernel
theorem dX5_told_9 : decode cX5_told 9 = .ok (.aload_n 0, 1) := by decide +kernel
theorem dX5_told_10 : decode cX5_told 10 = .ok (.iload_n 1, 1) := by decide +kernel
theorem dX5_told_11 : decode cX5_told 11 = .ok (.invokevirtual 255, 3) := by decide +kernel
theorem dX5_told_14 : decode cX5_told 14 = .ok (.goto 7, 3) := by decide +kernel
theorem dX5_told_17 : decode cX5_told 17 = .ok (.aload_n 0, 1) := by decide +kernel
theorem dX5_told_18 : decode cX5_told 18 = .ok (.invokevirtual 77, 3) := by decide +kernel
theorem dX5_told_21 : decode cX5_told 21 = .ok (.ireturn, 1) := by decide +kernel
theorem dX5_mix_0 : decode cX5_mix 0 = .ok (.aload_n 0, 1) := by decide +kernel
theorem dX5_mix_1 : decode cX5_mix 1 = .ok (.ldc2_w 258, 3) := by decide +kernel
theorem dX5_mix_4 : decode cX5_mix 4 = .ok (.aload_n 0, 1) := by decide +kernel
theorem dX5_mix_5 : decode cX5_mix 5 = .ok (.getfield 260, 3) := by decide +kernel
theorem dX5_mix_8 : decode cX5_mix 8 = .ok (.lmul, 1) := by decide +kernel
theorem dX5_mix_9 : decode cX5_mix 9 = .ok (.iload_n 1, 1) := by decide +kernel
theorem dX5_mix_10 : decode cX5_mix 10 = .ok (.i2l, 1) := by decide +kernel
theorem dX5_mix_11 : decode cX5_mix 11 = .ok (.ladd, 1) := by decide +kernel
theorem dX5_mix_12 : decode cX5_mix 12 = .ok (.putfield 260, 3) := by decide +kernel
theorem dX5_mix_15 : decode cX5_mix 15 = .ok (.return_, 1) := by decide +kernel
theorem dX5_mixNode_0 : decode cX5_mixNode 0 = .ok (.iload_n 1, 1) := by decide +kernel
theorem dX5_mixNode_1 : decode cX5_mixNode 1 = .ok (.aload_n 0, 1) := by decide +kernel
theorem dX5_mixNode_2 : decode cX5_mixNode 2 = .ok (.getfield 7, 3) := by decide +kernel
theorem dX5_mixNode_5 : decode cX5_mixNode 5 = .ok (.iconst 0, 1) := by decide +kernel
theorem dX5_mixNode_6 : decode cX5_mixNode 6 = .ok (.iaload, 1) := by decide +kernel
theorem dX5_mixNode_7 : decode cX5_mixNode 7 = .ok (.if_icmp .le 28, 3) := by decide +kernel
theorem dX5_mixNode_10 : decode cX5_mixNode 10 = .ok (.aload_n 0, 1) := by decide +kernel
theorem dX5_mixNode_11 : decode cX5_mixNode 11 = .ok (.aload_n 0, 1) := by decide +kernel
theorem dX5_mixNode_12 : decode cX5_mixNode 12 = .ok (.getfield 7, 3) := by decide +kernel
theorem dX5_mixNode_15 : decode cX5_mixNode 15 = .ok (.iconst 2, 1) := by decide +kernel
theorem dX5_mixNode_16 : decode cX5_mixNode 16 = .ok (.iload_n 1, 1) := by decide +kernel
theorem dX5_mixNode_17 : decode cX5_mixNode 17 = .ok (.iadd, 1) := by decide +kernel
theorem dX5_mixNode_18 : decode cX5_mixNode 18 = .ok (.iaload, 1) := by decide +kernel
theorem dX5_mixNode_19 : decode cX5_mixNode 19 = .ok (.invokevirtual 264, 3) := by decide +kernel
theorem dX5_mixNode_22 : decode cX5_mixNode 22 = .ok (.aload_n 0, 1) := by decide +kernel
theorem dX5_mixNode_23 : decode cX5_mixNode 23 = .ok (.aload_n 0, 1) := by decide +kernel
theorem dX5_mixNode_24 : decode cX5_mixNode 24 = .ok (.getfield 7, 3) := by decide +kernel
theorem dX5_mixNode_27 : decode cX5_mixNode 27 = .ok (.bipush 50, 2) := by decide +kernel
theorem dX5_mixNode_29 : decode cX5_mixNode 29 = .ok (.iload_n 1, 1) := by decide +kernel
theorem dX5_mixNode_30 : decode cX5_mixNode 30 = .ok (.iadd, 1) := by decide +kernel
theorem dX5_mixNode_31 : decode cX5_mixNode 31 = .ok (.iaload, 1) := by decide +kernel
theorem dX5_mixNode_32 : decode cX5_mixNode 32 = .ok (.invokevirtual 264, 3) := by decide +kernel
theorem dX5_mixNode_35 : decode cX5_mixNode 35 = .ok (.aload_n 0, 1) := by decide +kernel
theorem dX5_mixNode_36 : decode cX5_mixNode 36 = .ok (.aload_n 0, 1) := by decide +kernel
theorem dX5_mixNode_37 : decode cX5_mixNode 37 = .ok (.getfield 25, 3) := by decide +kernel
theorem dX5_mixNode_40 : decode cX5_mixNode 40 = .ok (.iload_n 1, 1) := by decide +kernel
theorem dX5_mixNode_41 : decode cX5_mixNode 41 = .ok (.iaload, 1) := by decide +kernel
theorem dX5_mixNode_42 : decode cX5_mixNode 42 = .ok (.invokevirtual 264, 3) := by decide +kernel
theorem dX5_mixNode_45 : decode cX5_mixNode 45 = .ok (.aload_n 0, 1) := by decide +kernel
theorem dX5_mixNode_46 : decode cX5_mixNode 46 = .ok (.aload_n 0, 1) := by decide +kernel
theorem dX5_mixNode_47 : decode cX5_mixNode 47 = .ok (.iload_n 1, 1) := by decide +kernel
theorem dX5_mixNode_48 : decode cX5_mixNode 48 = .ok (.invokevirtual 199, 3) := by decide +kernel
theorem dX5_mixNode_51 : decode cX5_mixNode 51 = .ok (.invokevirtual 264, 3) := by decide +kernel
theorem dX5_mixNode_54 : decode cX5_mixNode 54 = .ok (.aload_n 0, 1) := by decide +kernel
theorem dX5_mixNode_55 : decode cX5_mixNode 55 = .ok (.aload_n 0, 1) := by decide +kernel
theorem dX5_mixNode_56 : decode cX5_mixNode 56 = .ok (.getfield 31, 3) := by decide +kernel
theorem dX5_mixNode_59 : decode cX5_mixNode 59 = .ok (.iload_n 1, 1) := by decide +kernel
theorem dX5_mixNode_60 : decode cX5_mixNode 60 = .ok (.iaload, 1) := by decide +kernel
theorem dX5_mixNode_61 : decode cX5_mixNode 61 = .ok (.invokevirtual 264, 3) := by decide +kernel
theorem dX5_mixNode_64 : decode cX5_mixNode 64 = .ok (.return_, 1) := by decide +kernel
theorem dX5_mixOuts_0 : decode cX5_mixOuts 0 = .ok (.iconst 0, 1) := by decide +kernel
theorem dX5_mixOuts_1 : decode cX5_mixOuts 1 = .ok (.istore_n 2, 1) := by decide +kernel
theorem dX5_mixOuts_2 : decode cX5_mixOuts 2 = .ok (.iload_n 2, 1) := by decide +kernel
theorem dX5_mixOuts_3 : decode cX5_mixOuts 3 = .ok (.aload_n 0, 1) := by decide +kernel
theorem dX5_mixOuts_4 : decode cX5_mixOuts 4 = .ok (.getfield 7, 3) := by decide +kernel
theorem dX5_mixOuts_7 : decode cX5_mixOuts 7 = .ok (.bipush 98, 2) := by decide +kernel
theorem dX5_mixOuts_9 : decode cX5_mixOuts 9 = .ok (.iload_n 1, 1) := by decide +kernel
theorem dX5_mixOuts_10 : decode cX5_mixOuts 10 = .ok (.iadd, 1) := by decide +kernel
theorem dX5_mixOuts_11 : decode cX5_mixOuts 11 = .ok (.iaload, 1) := by decide +kernel
theorem dX5_mixOuts_12 : decode cX5_mixOuts 12 = .ok (.if_icmp .ge 27, 3) := by decide +kernel
theorem dX5_mixOuts_15 : decode cX5_mixOuts 15 = .ok (.aload_n 0, 1) := by decide +kernel
theorem dX5_mixOuts_16 : decode cX5_mixOuts 16 = .ok (.aload_n 0, 1) := by decide +kernel
theorem dX5_mixOuts_17 : decode cX5_mixOuts 17 = .ok (.getfield 7, 3) := by decide +kernel
theorem dX5_mixOuts_20 : decode cX5_mixOuts 20 = .ok (.bipush 100, 2) := by decide +kernel
theorem dX5_mixOuts_22 : decode cX5_mixOuts 22 = .ok (.bipush 6, 2) := by decide +kernel
theorem dX5_mixOuts_24 : decode cX5_mixOuts 24 = .ok (.iload_n 1, 1) := by decide +kernel
theorem dX5_mixOuts_25 : decode cX5_mixOuts 25 = .ok (.imul, 1) := by decide +kernel
theorem dX5_mixOuts_26 : decode cX5_mixOuts 26 = .ok (.iadd, 1) := by decide +kernel
theorem dX5_mixOuts_27 : decode cX5_mixOuts 27 = .ok (.iload_n 2, 1) := by decide +kernel
theorem dX5_mixOuts_28 : decode cX5_mixOuts 28 = .ok (.iadd, 1) := by decide +kernel
theorem dX5_mixOuts_29 : decode cX5_mixOuts 29 = .ok (.iaload, 1) := by decide +kernel
theorem dX5_mixOuts_30 : decode cX5_mixOuts 30 = .ok (.invokevirtual 264, 3) := by decide +kernel
theorem dX5_mixOuts_33 : decode cX5_mixOuts 33 = .ok (.iinc 2 1, 3) := by decide +kernel
theorem dX5_mixOuts_36 : decode cX5_mixOuts 36 = .ok (.goto (-34), 3) := by decide +kernel
theorem dX5_mixOuts_39 : decode cX5_mixOuts 39 = .ok (.return_, 1) := by decide +kernel
theorem dX5_digest_0 : decode cX5_digest 0 = .ok (.aload_n 0, 1) := by decide +kernel
theorem dX5_digest_1 : decode cX5_digest 1 = .ok (.ldc2_w 267, 3) := by decide +kernel
theorem dX5_digest_4 : decode cX5_digest 4 = .ok (.putfield 260, 3) := by decide +kernel
theorem dX5_digest_7 : decode cX5_digest 7 = .ok (.iconst 0, 1) := by decide +kernel
theorem dX5_digest_8 : decode cX5_digest 8 = .ok (.istore_n 1, 1) := by decide +kernel
theorem dX5_digest_9 : decode cX5_digest 9 = .ok (.iload_n 1, 1) := by decide +kernel
theorem dX5_digest_10 : decode cX5_digest 10 = .ok (.iconst 5, 1) := by decide +kernel
theorem dX5_digest_11 : decode cX5_digest 11 = .ok (.if_icmp .ge 18, 3) := by decide +kernel
theorem dX5_digest_14 : decode cX5_digest 14 = .ok (.aload_n 0, 1) := by decide +kernel
theorem dX5_digest_15 : decode cX5_digest 15 = .ok (.aload_n 0, 1) := by decide +kernel
theorem dX5_digest_16 : decode cX5_digest 16 = .ok (.iload_n 1, 1) := by decide +kernel
theorem dX5_digest_17 : decode cX5_digest 17 = .ok (.invokevirtual 255, 3) := by decide +kernel
theorem dX5_digest_20 : decode cX5_digest 20 = .ok (.invokevirtual 264, 3) := by decide +kernel
theorem dX5_digest_23 : decode cX5_digest 23 = .ok (.iinc 1 1, 3) := by decide +kernel
theorem dX5_digest_26 : decode cX5_digest 26 = .ok (.goto (-17), 3) := by decide +kernel
theorem dX5_digest_29 : decode cX5_digest 29 = .ok (.iconst 0, 1) := by decide +kernel
theorem dX5_digest_30 : decode cX5_digest 30 = .ok (.istore_n 1, 1) := by decide +kernel
theorem dX5_digest_31 : decode cX5_digest 31 = .ok (.iload_n 1, 1) := by decide +kernel
theorem dX5_digest_32 : decode cX5_digest 32 = .ok (.iconst 5, 1) := by decide +kernel
theorem dX5_digest_33 : decode cX5_digest 33 = .ok (.if_icmp .ge 18, 3) := by decide +kernel
theorem dX5_digest_36 : decode cX5_digest 36 = .ok (.aload_n 0, 1) := by decide +kernel
theorem dX5_digest_37 : decode cX5_digest 37 = .ok (.aload_n 0, 1) := by decide +kernel
theorem dX5_digest_38 : decode cX5_digest 38 = .ok (.iload_n 1, 1) := by decide +kernel
theorem dX5_digest_39 : decode cX5_digest 39 = .ok (.invokevirtual 196, 3) := by decide +kernel
theorem dX5_digest_42 : decode cX5_digest 42 = .ok (.invokevirtual 264, 3) := by decide +kernel
theorem dX5_digest_45 : decode cX5_digest 45 = .ok (.iinc 1 1, 3) := by decide +kernel
theorem dX5_digest_48 : decode cX5_digest 48 = .ok (.goto (-17), 3) := by decide +kernel
theorem dX5_digest_51 : decode cX5_digest 51 = .ok (.aload_n 0, 1) := by decide +kernel
theorem dX5_digest_52 : decode cX5_digest 52 = .ok (.invokevirtual 175, 3) := by decide +kernel
theorem dX5_digest_55 : decode cX5_digest 55 = .ok (.iconst 0, 1) := by decide +kernel
theorem dX5_digest_56 : decode cX5_digest 56 = .ok (.istore_n 1, 1) := by decide +kernel
theorem dX5_digest_57 : decode cX5_digest 57 = .ok (.iload_n 1, 1) := by decide +kernel
theorem dX5_digest_58 : decode cX5_digest 58 = .ok (.aload_n 0, 1) := by decide +kernel
theorem dX5_digest_59 : decode cX5_digest 59 = .ok (.getfield 7, 3) := by decide +kernel
theorem dX5_digest_62 : decode cX5_digest 62 = .ok (.iconst 1, 1) := by decide +kernel
theorem dX5_digest_63 : decode cX5_digest 63 = .ok (.iaload, 1) := by decide +kernel
theorem dX5_digest_64 : decode cX5_digest 64 = .ok (.if_icmp .ge 14, 3) := by decide +kernel
theorem dX5_digest_67 : decode cX5_digest 67 = .ok (.aload_n 0, 1) := by decide +kernel
theorem dX5_digest_68 : decode cX5_digest 68 = .ok (.iload_n 1, 1) := by decide +kernel
theorem dX5_digest_69 : decode cX5_digest 69 = .ok (.invokevirtual 269, 3) := by decide +kernel
theorem dX5_digest_72 : decode cX5_digest 72 = .ok (.iinc 1 1, 3) := by decide +kernel
theorem dX5_digest_75 : decode cX5_digest 75 = .ok (.goto (-18), 3) := by decide +kernel
theorem dX5_digest_78 : decode cX5_digest 78 = .ok (.aload_n 0, 1) := by decide +kernel
theorem dX5_digest_79 : decode cX5_digest 79 = .ok (.iconst 0, 1) := by decide +kernel
theorem dX5_digest_80 : decode cX5_digest 80 = .ok (.invokevirtual 272, 3) := by decide +kernel
theorem dX5_digest_83 : decode cX5_digest 83 = .ok (.aload_n 0, 1) := by decide +kernel
theorem dX5_digest_84 : decode cX5_digest 84 = .ok (.iconst 1, 1) := by decide +kernel
theorem dX5_digest_85 : decode cX5_digest 85 = .ok (.invokevirtual 272, 3) := by decide +kernel
theorem dX5_digest_88 : decode cX5_digest 88 = .ok (.iconst 0, 1) := by decide +kernel
theorem dX5_digest_89 : decode cX5_digest 89 = .ok (.istore_n 1, 1) := by decide +kernel
theorem dX5_digest_90 : decode cX5_digest 90 = .ok (.iload_n 1, 1) := by decide +kernel
theorem dX5_digest_91 : decode cX5_digest 91 = .ok (.aload_n 0, 1) := by decide +kernel
theorem dX5_digest_92 : decode cX5_digest 92 = .ok (.getfield 135, 3) := by decide +kernel
theorem dX5_digest_95 : decode cX5_digest 95 = .ok (.if_icmp .ge 19, 3) := by decide +kernel
theorem dX5_digest_98 : decode cX5_digest 98 = .ok (.aload_n 0, 1) := by decide +kernel
theorem dX5_digest_99 : decode cX5_digest 99 = .ok (.aload_n 0, 1) := by decide +kernel
theorem dX5_digest_100 : decode cX5_digest 100 = .ok (.getfield 28, 3) := by decide +kernel
theorem dX5_digest_103 : decode cX5_digest 103 = .ok (.iload_n 1, 1) := by decide +kernel
theorem dX5_digest_104 : decode cX5_digest 104 = .ok (.iaload, 1) := by decide +kernel
theorem dX5_digest_105 : decode cX5_digest 105 = .ok (.invokevirtual 264, 3) := by decide +kernel
theorem dX5_digest_108 : decode cX5_digest 108 = .ok (.iinc 1 1, 3) := by decide +kernel
theorem dX5_digest_111 : decode cX5_digest 111 = .ok (.goto (-21), 3) := by decide +kernel
theorem dX5_digest_114 : decode cX5_digest 114 = .ok (.iconst 0, 1) := by decide +kernel
theorem dX5_digest_115 : decode cX5_digest 115 = .ok (.istore_n 1, 1) := by decide +kernel
theorem dX5_digest_116 : decode cX5_digest 116 = .ok (.iload_n 1, 1) := by decide +kernel
theorem dX5_digest_117 : decode cX5_digest 117 = .ok (.bipush 6, 2) := by decide +kernel
theorem dX5_digest_119 : decode cX5_digest 119 = .ok (.if_icmp .ge 18, 3) := by decide +kernel
theorem dX5_digest_122 : decode cX5_digest 122 = .ok (.aload_n 0, 1) := by decide +kernel
theorem dX5_digest_123 : decode cX5_digest 123 = .ok (.aload_n 0, 1) := by decide +kernel
theorem dX5_digest_124 : decode cX5_digest 124 = .ok (.iload_n 1, 1) := by decide +kernel
theorem dX5_digest_125 : decode cX5_digest 125 = .ok (.invokevirtual 208, 3) := by decide +kernel
theorem dX5_digest_128 : decode cX5_digest 128 = .ok (.invokevirtual 264, 3) := by decide +kernel
theorem dX5_digest_131 : decode cX5_digest 131 = .ok (.iinc 1 1, 3) := by decide +kernel
theorem dX5_digest_134 : decode cX5_digest 134 = .ok (.goto (-18), 3) := by decide +kernel
theorem dX5_digest_137 : decode cX5_digest 137 = .ok (.aload_n 0, 1) := by decide +kernel
theorem dX5_digest_138 : decode cX5_digest 138 = .ok (.getfield 7, 3) := by decide +kernel
theorem dX5_digest_141 : decode cX5_digest 141 = .ok (.iconst 0, 1) := by decide +kernel
theorem dX5_digest_142 : decode cX5_digest 142 = .ok (.iaload, 1) := by decide +kernel
theorem dX5_digest_143 : decode cX5_digest 143 = .ok (.iconst 1, 1) := by decide +kernel
theorem dX5_digest_144 : decode cX5_digest 144 = .ok (.iadd, 1) := by decide +kernel
theorem dX5_digest_145 : decode cX5_digest 145 = .ok (.istore_n 1, 1) := by decide +kernel
theorem dX5_digest_146 : decode cX5_digest 146 = .ok (.iload_n 1, 1) := by decide +kernel
theorem dX5_digest_147 : decode cX5_digest 147 = .ok (.aload_n 0, 1) := by decide +kernel
theorem dX5_digest_148 : decode cX5_digest 148 = .ok (.getfield 7, 3) := by decide +kernel
theorem dX5_digest_151 : decode cX5_digest 151 = .ok (.iconst 1, 1) := by decide +kernel
theorem dX5_digest_152 : decode cX5_digest 152 = .ok (.iaload, 1) := by decide +kernel
theorem dX5_digest_153 : decode cX5_digest 153 = .ok (.if_icmp .ge 43, 3) := by decide +kernel
theorem dX5_digest_156 : decode cX5_digest 156 = .ok (.aload_n 0, 1) := by decide +kernel
theorem dX5_digest_157 : decode cX5_digest 157 = .ok (.getfield 40, 3) := by decide +kernel
theorem dX5_digest_160 : decode cX5_digest 160 = .ok (.iload_n 1, 1) := by decide +kernel
theorem dX5_digest_161 : decode cX5_digest 161 = .ok (.iaload, 1) := by decide +kernel
theorem dX5_digest_162 : decode cX5_digest 162 = .ok (.ifCond .le 28, 3) := by decide +kernel
theorem dX5_digest_165 : decode cX5_digest 165 = .ok (.aload_n 0, 1) := by decide +kernel
theorem dX5_digest_166 : decode cX5_digest 166 = .ok (.iload_n 1, 1) := by decide +kernel
theorem dX5_digest_167 : decode cX5_digest 167 = .ok (.invokevirtual 264, 3) := by decide +kernel
theorem dX5_digest_170 : decode cX5_digest 170 = .ok (.aload_n 0, 1) := by decide +kernel
theorem dX5_digest_171 : decode cX5_digest 171 = .ok (.aload_n 0, 1) := by decide +kernel
theorem dX5_digest_172 : decode cX5_digest 172 = .ok (.getfield 31, 3) := by decide +kernel
theorem dX5_digest_175 : decode cX5_digest 175 = .ok (.iload_n 1, 1) := by decide +kernel
theorem dX5_digest_176 : decode cX5_digest 176 = .ok (.iaload, 1) := by decide +kernel
theorem dX5_digest_177 : decode cX5_digest 177 = .ok (.invokevirtual 264, 3) := by decide +kernel
theorem dX5_digest_180 : decode cX5_digest 180 = .ok (.aload_n 0, 1) := by decide +kernel
theorem dX5_digest_181 : decode cX5_digest 181 = .ok (.aload_n 0, 1) := by decide +kernel
theorem dX5_digest_182 : decode cX5_digest 182 = .ok (.getfield 40, 3) := by decide +kernel
theorem dX5_digest_185 : decode cX5_digest 185 = .ok (.iload_n 1, 1) := by decide +kernel
theorem dX5_digest_186 : decode cX5_digest 186 = .ok (.iaload, 1) := by decide +kernel
theorem dX5_digest_187 : decode cX5_digest 187 = .ok (.invokevirtual 264, 3) := by decide +kernel
theorem dX5_digest_190 : decode cX5_digest 190 = .ok (.iinc 1 1, 3) := by decide +kernel
theorem dX5_digest_193 : decode cX5_digest 193 = .ok (.goto (-47), 3) := by decide +kernel
theorem dX5_digest_196 : decode cX5_digest 196 = .ok (.aload_n 0, 1) := by decide +kernel
theorem dX5_digest_197 : decode cX5_digest 197 = .ok (.aload_n 0, 1) := by decide +kernel
theorem dX5_digest_198 : decode cX5_digest 198 = .ok (.invokevirtual 217, 3) := by decide +kernel
theorem dX5_digest_201 : decode cX5_digest 201 = .ok (.invokevirtual 264, 3) := by decide +kernel
theorem dX5_digest_204 : decode cX5_digest 204 = .ok (.aload_n 0, 1) := by decide +kernel
theorem dX5_digest_205 : decode cX5_digest 205 = .ok (.getfield 260, 3) := by decide +kernel
theorem dX5_digest_208 : decode cX5_digest 208 = .ok (.lreturn, 1) := by decide +kernel
