theorem dX0_init_0 : decode cX0_init 0 = .ok (.aload_n 0, 1) := by decide +kernel
theorem dX0_init_1 : decode cX0_init 1 = .ok (.invokespecial 3, 3) := by decide +kernel
theorem dX0_init_4 : decode cX0_init 4 = .ok (.aload_n 0, 1) := by decide +kernel
theorem dX0_init_5 : decode cX0_init 5 = .ok (.bipush 48, 2) := by decide +kernel
theorem dX0_init_7 : decode cX0_init 7 = .ok (.newarray .int, 2) := by decide +kernel
theorem dX0_init_9 : decode cX0_init 9 = .ok (.putfield 9, 3) := by decide +kernel
theorem dX0_init_12 : decode cX0_init 12 = .ok (.aload_n 0, 1) := by decide +kernel
theorem dX0_init_13 : decode cX0_init 13 = .ok (.bipush 48, 2) := by decide +kernel
theorem dX0_init_15 : decode cX0_init 15 = .ok (.newarray .int, 2) := by decide +kernel
theorem dX0_init_17 : decode cX0_init 17 = .ok (.putfield 15, 3) := by decide +kernel
theorem dX0_init_20 : decode cX0_init 20 = .ok (.aload_n 0, 1) := by decide +kernel
theorem dX0_init_21 : decode cX0_init 21 = .ok (.bipush 48, 2) := by decide +kernel
theorem dX0_init_23 : decode cX0_init 23 = .ok (.newarray .int, 2) := by decide +kernel
theorem dX0_init_25 : decode cX0_init 25 = .ok (.putfield 18, 3) := by decide +kernel
theorem dX0_init_28 : decode cX0_init 28 = .ok (.aload_n 0, 1) := by decide +kernel
theorem dX0_init_29 : decode cX0_init 29 = .ok (.bipush 48, 2) := by decide +kernel
theorem dX0_init_31 : decode cX0_init 31 = .ok (.newarray .int, 2) := by decide +kernel
theorem dX0_init_33 : decode cX0_init 33 = .ok (.putfield 21, 3) := by decide +kernel
theorem dX0_init_36 : decode cX0_init 36 = .ok (.aload_n 0, 1) := by decide +kernel
theorem dX0_init_37 : decode cX0_init 37 = .ok (.bipush 12, 2) := by decide +kernel
theorem dX0_init_39 : decode cX0_init 39 = .ok (.newarray .int, 2) := by decide +kernel
theorem dX0_init_41 : decode cX0_init 41 = .ok (.putfield 24, 3) := by decide +kernel
theorem dX0_init_44 : decode cX0_init 44 = .ok (.aload_n 0, 1) := by decide +kernel
theorem dX0_init_45 : decode cX0_init 45 = .ok (.iconst 2, 1) := by decide +kernel
theorem dX0_init_46 : decode cX0_init 46 = .ok (.newarray .int, 2) := by decide +kernel
theorem dX0_init_48 : decode cX0_init 48 = .ok (.putfield 27, 3) := by decide +kernel
theorem dX0_init_51 : decode cX0_init 51 = .ok (.aload_n 0, 1) := by decide +kernel
theorem dX0_init_52 : decode cX0_init 52 = .ok (.bipush 12, 2) := by decide +kernel
theorem dX0_init_54 : decode cX0_init 54 = .ok (.newarray .int, 2) := by decide +kernel
theorem dX0_init_56 : decode cX0_init 56 = .ok (.putfield 30, 3) := by decide +kernel
theorem dX0_init_59 : decode cX0_init 59 = .ok (.aload_n 0, 1) := by decide +kernel
theorem dX0_init_60 : decode cX0_init 60 = .ok (.iconst 3, 1) := by decide +kernel
theorem dX0_init_61 : decode cX0_init 61 = .ok (.invokevirtual 33, 3) := by decide +kernel
theorem dX0_init_64 : decode cX0_init 64 = .ok (.return_, 1) := by decide +kernel
theorem dX0_restart_0 : decode cX0_restart 0 = .ok (.aload_n 0, 1) := by decide +kernel
theorem dX0_restart_1 : decode cX0_restart 1 = .ok (.iload_n 1, 1) := by decide +kernel
theorem dX0_restart_2 : decode cX0_restart 2 = .ok (.putfield 37, 3) := by decide +kernel
theorem dX0_restart_5 : decode cX0_restart 5 = .ok (.aload_n 0, 1) := by decide +kernel
theorem dX0_restart_6 : decode cX0_restart 6 = .ok (.iload_n 1, 1) := by decide +kernel
theorem dX0_restart_7 : decode cX0_restart 7 = .ok (.iconst 1, 1) := by decide +kernel
theorem dX0_restart_8 : decode cX0_restart 8 = .ok (.iadd, 1) := by decide +kernel
theorem dX0_restart_9 : decode cX0_restart 9 = .ok (.putfield 41, 3) := by decide +kernel
theorem dX0_restart_12 : decode cX0_restart 12 = .ok (.iconst 1, 1) := by decide +kernel
theorem dX0_restart_13 : decode cX0_restart 13 = .ok (.istore_n 2, 1) := by decide +kernel
theorem dX0_restart_14 : decode cX0_restart 14 = .ok (.iload_n 2, 1) := by decide +kernel
theorem dX0_restart_15 : decode cX0_restart 15 = .ok (.iload_n 1, 1) := by decide +kernel
theorem dX0_restart_16 : decode cX0_restart 16 = .ok (.if_icmp .gt 34, 3) := by decide +kernel
theorem dX0_restart_19 : decode cX0_restart 19 = .ok (.aload_n 0, 1) := by decide +kernel
theorem dX0_restart_20 : decode cX0_restart 20 = .ok (.getfield 18, 3) := by decide +kernel
theorem dX0_restart_23 : decode cX0_restart 23 = .ok (.iload_n 2, 1) := by decide +kernel
theorem dX0_restart_24 : decode cX0_restart 24 = .ok (.getstatic 44, 3) := by decide +kernel
theorem dX0_restart_27 : decode cX0_restart 27 = .ok (.iload_n 2, 1) := by decide +kernel
theorem dX0_restart_28 : decode cX0_restart 28 = .ok (.iconst 1, 1) := by decide +kernel
theorem dX0_restart_29 : decode cX0_restart 29 = .ok (.isub, 1) := by decide +kernel
theorem dX0_restart_30 : decode cX0_restart 30 = .ok (.iaload, 1) := by decide +kernel
theorem dX0_restart_31 : decode cX0_restart 31 = .ok (.aload_n 0, 1) := by decide +kernel
theorem dX0_restart_32 : decode cX0_restart 32 = .ok (.invokevirtual 47, 3) := by decide +kernel
theorem dX0_restart_35 : decode cX0_restart 35 = .ok (.iand, 1) := by decide +kernel
theorem dX0_restart_36 : decode cX0_restart 36 = .ok (.iastore, 1) := by decide +kernel
theorem dX0_restart_37 : decode cX0_restart 37 = .ok (.aload_n 0, 1) := by decide +kernel
theorem dX0_restart_38 : decode cX0_restart 38 = .ok (.getfield 21, 3) := by decide +kernel
theorem dX0_restart_41 : decode cX0_restart 41 = .ok (.iload_n 2, 1) := by decide +kernel
theorem dX0_restart_42 : decode cX0_restart 42 = .ok (.iconst 0, 1) := by decide +kernel
theorem dX0_restart_43 : decode cX0_restart 43 = .ok (.iastore, 1) := by decide +kernel
theorem dX0_restart_44 : decode cX0_restart 44 = .ok (.iinc 2 1, 3) := by decide +kernel
theorem dX0_restart_47 : decode cX0_restart 47 = .ok (.goto (-33), 3) := by decide +kernel
theorem dX0_restart_50 : decode cX0_restart 50 = .ok (.aload_n 0, 1) := by decide +kernel
theorem dX0_restart_51 : decode cX0_restart 51 = .ok (.getfield 27, 3) := by decide +kernel
theorem dX0_restart_54 : decode cX0_restart 54 = .ok (.iconst 0, 1) := by decide +kernel
theorem dX0_restart_55 : decode cX0_restart 55 = .ok (.iconst 0, 1) := by decide +kernel
theorem dX0_restart_56 : decode cX0_restart 56 = .ok (.iastore, 1) := by decide +kernel
theorem dX0_restart_57 : decode cX0_restart 57 = .ok (.aload_n 0, 1) := by decide +kernel
theorem dX0_restart_58 : decode cX0_restart 58 = .ok (.getfield 27, 3) := by decide +kernel
theorem dX0_restart_61 : decode cX0_restart 61 = .ok (.iconst 1, 1) := by decide +kernel
theorem dX0_restart_62 : decode cX0_restart 62 = .ok (.iconst 0, 1) := by decide +kernel
theorem dX0_restart_63 : decode cX0_restart 63 = .ok (.iastore, 1) := by decide +kernel
theorem dX0_restart_64 : decode cX0_restart 64 = .ok (.aload_n 0, 1) := by decide +kernel
theorem dX0_restart_65 : decode cX0_restart 65 = .ok (.iconst 0, 1) := by decide +kernel
theorem dX0_restart_66 : decode cX0_restart 66 = .ok (.putfield 51, 3) := by decide +kernel
theorem dX0_restart_69 : decode cX0_restart 69 = .ok (.return_, 1) := by decide +kernel
theorem dX0_copyFrom_0 : decode cX0_copyFrom 0 = .ok (.aload_n 1, 1) := by decide +kernel
theorem dX0_copyFrom_1 : decode cX0_copyFrom 1 = .ok (.getfield 9, 3) := by decide +kernel
theorem dX0_copyFrom_4 : decode cX0_copyFrom 4 = .ok (.iconst 0, 1) := by decide +kernel
theorem dX0_copyFrom_5 : decode cX0_copyFrom 5 = .ok (.aload_n 0, 1) := by decide +kernel
theorem dX0_copyFrom_6 : decode cX0_copyFrom 6 = .ok (.getfield 9, 3) := by decide +kernel
theorem dX0_copyFrom_9 : decode cX0_copyFrom 9 = .ok (.iconst 0, 1) := by decide +kernel
theorem dX0_copyFrom_10 : decode cX0_copyFrom 10 = .ok (.bipush 48, 2) := by decide +kernel
theorem dX0_copyFrom_12 : decode cX0_copyFrom 12 = .ok (.invokestatic 54, 3) := by decide +kernel
theorem dX0_copyFrom_15 : decode cX0_copyFrom 15 = .ok (.aload_n 1, 1) := by decide +kernel
theorem dX0_copyFrom_16 : decode cX0_copyFrom 16 = .ok (.getfield 15, 3) := by decide +kernel
theorem dX0_copyFrom_19 : decode cX0_copyFrom 19 = .ok (.iconst 0, 1) := by decide +kernel
theorem dX0_copyFrom_20 : decode cX0_copyFrom 20 = .ok (.aload_n 0, 1) := by decide +kernel
theorem dX0_copyFrom_21 : decode cX0_copyFrom 21 = .ok (.getfield 15, 3) := by decide +kernel
theorem dX0_copyFrom_24 : decode cX0_copyFrom 24 = .ok (.iconst 0, 1) := by decide +kernel
theorem dX0_copyFrom_25 : decode cX0_copyFrom 25 = .ok (.bipush 48, 2) := by decide +kernel
theorem dX0_copyFrom_27 : decode cX0_copyFrom 27 = .ok (.invokestatic 54, 3) := by decide +kernel
theorem dX0_copyFrom_30 : decode cX0_copyFrom 30 = .ok (.aload_n 1, 1) := by decide +kernel
theorem dX0_copyFrom_31 : decode cX0_copyFrom 31 = .ok (.getfield 18, 3) := by decide +kernel
theorem dX0_copyFrom_34 : decode cX0_copyFrom 34 = .ok (.iconst 0, 1) := by decide +kernel
theorem dX0_copyFrom_35 : decode cX0_copyFrom 35 = .ok (.aload_n 0, 1) := by decide +kernel
theorem dX0_copyFrom_36 : decode cX0_copyFrom 36 = .ok (.getfield 18, 3) := by decide +kernel
theorem dX0_copyFrom_39 : decode cX0_copyFrom 39 = .ok (.iconst 0, 1) := by decide +kernel
theorem dX0_copyFrom_40 : decode cX0_copyFrom 40 = .ok (.bipush 48, 2) := by decide +kernel
theorem dX0_copyFrom_42 : decode cX0_copyFrom 42 = .ok (.invokestatic 54, 3) := by decide +kernel
theorem dX0_copyFrom_45 : decode cX0_copyFrom 45 = .ok (.aload_n 1, 1) := by decide +kernel
theorem dX0_copyFrom_46 : decode cX0_copyFrom 46 = .ok (.getfield 21, 3) := by decide +kernel
theorem dX0_copyFrom_49 : decode cX0_copyFrom 49 = .ok (.iconst 0, 1) := by decide +kernel
theorem dX0_copyFrom_50 : decode cX0_copyFrom 50 = .ok (.aload_n 0, 1) := by decide +kernel
theorem dX0_copyFrom_51 : decode cX0_copyFrom 51 = .ok (.getfield 21, 3) := by decide +kernel
theorem dX0_copyFrom_54 : decode cX0_copyFrom 54 = .ok (.iconst 0, 1) := by decide +kernel
theorem dX0_copyFrom_55 : decode cX0_copyFrom 55 = .ok (.bipush 48, 2) := by decide +kernel
theorem dX0_copyFrom_57 : decode cX0_copyFrom 57 = .ok (.invokestatic 54, 3) := by decide +kernel
theorem dX0_copyFrom_60 : decode cX0_copyFrom 60 = .ok (.aload_n 1, 1) := by decide +kernel
theorem dX0_copyFrom_61 : decode cX0_copyFrom 61 = .ok (.getfield 24, 3) := by decide +kernel
theorem dX0_copyFrom_64 : decode cX0_copyFrom 64 = .ok (.iconst 0, 1) := by decide +kernel
theorem dX0_copyFrom_65 : decode cX0_copyFrom 65 = .ok (.aload_n 0, 1) := by decide +kernel
theorem dX0_copyFrom_66 : decode cX0_copyFrom 66 = .ok (.getfield 24, 3) := by decide +kernel
theorem dX0_copyFrom_69 : decode cX0_copyFrom 69 = .ok (.iconst 0, 1) := by decide +kernel
theorem dX0_copyFrom_70 : decode cX0_copyFrom 70 = .ok (.bipush 12, 2) := by decide +kernel
theorem dX0_copyFrom_72 : decode cX0_copyFrom 72 = .ok (.invokestatic 54, 3) := by decide +kernel
theorem dX0_copyFrom_75 : decode cX0_copyFrom 75 = .ok (.aload_n 1, 1) := by decide +kernel
theorem dX0_copyFrom_76 : decode cX0_copyFrom 76 = .ok (.getfield 27, 3) := by decide +kernel
theorem dX0_copyFrom_79 : decode cX0_copyFrom 79 = .ok (.iconst 0, 1) := by decide +kernel
theorem dX0_copyFrom_80 : decode cX0_copyFrom 80 = .ok (.aload_n 0, 1) := by decide +kernel
theorem dX0_copyFrom_81 : decode cX0_copyFrom 81 = .ok (.getfield 27, 3) := by decide +kernel
theorem dX0_copyFrom_84 : decode cX0_copyFrom 84 = .ok (.iconst 0, 1) := by decide +kernel
theorem dX0_copyFrom_85 : decode cX0_copyFrom 85 = .ok (.iconst 2, 1) := by decide +kernel
theorem dX0_copyFrom_86 : decode cX0_copyFrom 86 = .ok (.invokestatic 54, 3) := by decide +kernel
theorem dX0_copyFrom_89 : decode cX0_copyFrom 89 = .ok (.aload_n 1, 1) := by decide +kernel
theorem dX0_copyFrom_90 : decode cX0_copyFrom 90 = .ok (.getfield 30, 3) := by decide +kernel
theorem dX0_copyFrom_93 : decode cX0_copyFrom 93 = .ok (.iconst 0, 1) := by decide +kernel
theorem dX0_copyFrom_94 : decode cX0_copyFrom 94 = .ok (.aload_n 0, 1) := by decide +kernel
theorem dX0_copyFrom_95 : decode cX0_copyFrom 95 = .ok (.getfield 30, 3) := by decide +kernel
theorem dX0_copyFrom_98 : decode cX0_copyFrom 98 = .ok (.iconst 0, 1) := by decide +kernel
theorem dX0_copyFrom_99 : decode cX0_copyFrom 99 = .ok (.bipush 12, 2) := by decide +kernel
theorem dX0_copyFrom_101 : decode cX0_copyFrom 101 = .ok (.invokestatic 54, 3) := by decide +kernel
theorem dX0_copyFrom_104 : decode cX0_copyFrom 104 = .ok (.aload_n 0, 1) := by decide +kernel
theorem dX0_copyFrom_105 : decode cX0_copyFrom 105 = .ok (.aload_n 1, 1) := by decide +kernel
theorem dX0_copyFrom_106 : decode cX0_copyFrom 106 = .ok (.getfield 37, 3) := by decide +kernel
theorem dX0_copyFrom_109 : decode cX0_copyFrom 109 = .ok (.putfield 37, 3) := by decide +kernel
theorem dX0_copyFrom_112 : decode cX0_copyFrom 112 = .ok (.aload_n 0, 1) := by decide +kernel
theorem dX0_copyFrom_113 : decode cX0_copyFrom 113 = .ok (.aload_n 1, 1) := by decide +kernel
theorem dX0_copyFrom_114 : decode cX0_copyFrom 114 = .ok (.getfield 41, 3) := by decide +kernel
theorem dX0_copyFrom_117 : decode cX0_copyFrom 117 = .ok (.putfield 41, 3) := by decide +kernel
theorem dX0_copyFrom_120 : decode cX0_copyFrom 120 = .ok (.aload_n 0, 1) := by decide +kernel
theorem dX0_copyFrom_121 : decode cX0_copyFrom 121 = .ok (.aload_n 1, 1) := by decide +kernel
theorem dX0_copyFrom_122 : decode cX0_copyFrom 122 = .ok (.getfield 51, 3) := by decide +kernel
theorem dX0_copyFrom_125 : decode cX0_copyFrom 125 = .ok (.putfield 51, 3) := by decide +kernel
theorem dX0_copyFrom_128 : decode cX0_copyFrom 128 = .ok (.return_, 1) := by decide +kernel
theorem dX0_isNode_0 : decode cX0_isNode 0 = .ok (.iload_n 1, 1) := by decide +kernel
theorem dX0_isNode_1 : decode cX0_isNode 1 = .ok (.ifCond .lt 15, 3) := by decide +kernel
theorem dX0_isNode_4 : decode cX0_isNode 4 = .ok (.iload_n 1, 1) := by decide +kernel
theorem dX0_isNode_5 : decode cX0_isNode 5 = .ok (.aload_n 0, 1) := by decide +kernel
theorem dX0_isNode_6 : decode cX0_isNode 6 = .ok (.getfield 41, 3) := by decide +kernel
theorem dX0_isNode_9 : decode cX0_isNode 9 = .ok (.if_icmp .ge 7, 3) := by decide +kernel
theorem dX0_isNode_12 : decode cX0_isNode 12 = .ok (.iconst 1, 1) := by decide +kernel
theorem dX0_isNode_13 : decode cX0_isNode 13 = .ok (.goto 4, 3) := by decide +kernel
theorem dX0_isNode_16 : decode cX0_isNode 16 = .ok (.iconst 0, 1) := by decide +kernel
theorem dX0_isNode_17 : decode cX0_isNode 17 = .ok (.ireturn, 1) := by decide +kernel
theorem dX0_isGate_0 : decode cX0_isGate 0 = .ok (.iload_n 1, 1) := by decide +kernel
theorem dX0_isGate_1 : decode cX0_isGate 1 = .ok (.aload_n 0, 1) := by decide +kernel
theorem dX0_isGate_2 : decode cX0_isGate 2 = .ok (.getfield 37, 3) := by decide +kernel
theorem dX0_isGate_5 : decode cX0_isGate 5 = .ok (.if_icmp .le 15, 3) := by decide +kernel
theorem dX0_isGate_8 : decode cX0_isGate 8 = .ok (.iload_n 1, 1) := by decide +kernel
theorem dX0_isGate_9 : decode cX0_isGate 9 = .ok (.aload_n 0, 1) := by decide +kernel
theorem dX0_isGate_10 : decode cX0_isGate 10 = .ok (.getfield 41, 3) := by decide +kernel
theorem dX0_isGate_13 : decode cX0_isGate 13 = .ok (.if_icmp .ge 7, 3) := by decide +kernel
theorem dX0_isGate_16 : decode cX0_isGate 16 = .ok (.iconst 1, 1) := by decide +kernel
theorem dX0_isGate_17 : decode cX0_isGate 17 = .ok (.goto 4, 3) := by decide +kernel
theorem dX0_isGate_20 : decode cX0_isGate 20 = .ok (.iconst 0, 1) := by decide +kernel
theorem dX0_isGate_21 : decode cX0_isGate 21 = .ok (.ireturn, 1) := by decide +kernel
theorem dX0_isLiteral_0 : decode cX0_isLiteral 0 = .ok (.iload_n 1, 1) := by decide +kernel
theorem dX0_isLiteral_1 : decode cX0_isLiteral 1 = .ok (.ifCond .lt 17, 3) := by decide +kernel
theorem dX0_isLiteral_4 : decode cX0_isLiteral 4 = .ok (.iload_n 1, 1) := by decide +kernel
theorem dX0_isLiteral_5 : decode cX0_isLiteral 5 = .ok (.iconst 2, 1) := by decide +kernel
theorem dX0_isLiteral_6 : decode cX0_isLiteral 6 = .ok (.aload_n 0, 1) := by decide +kernel
theorem dX0_isLiteral_7 : decode cX0_isLiteral 7 = .ok (.getfield 41, 3) := by decide +kernel
theorem dX0_isLiteral_10 : decode cX0_isLiteral 10 = .ok (.imul, 1) := by decide +kernel
theorem dX0_isLiteral_11 : decode cX0_isLiteral 11 = .ok (.if_icmp .ge 7, 3) := by decide +kernel
theorem dX0_isLiteral_14 : decode cX0_isLiteral 14 = .ok (.iconst 1, 1) := by decide +kernel
theorem dX0_isLiteral_15 : decode cX0_isLiteral 15 = .ok (.goto 4, 3) := by decide +kernel
theorem dX0_isLiteral_18 : decode cX0_isLiteral 18 = .ok (.iconst 0, 1) := by decide +kernel
theorem dX0_isLiteral_19 : decode cX0_isLiteral 19 = .ok (.ireturn, 1) := by decide +kernel
theorem dX0_isSide_0 : decode cX0_isSide 0 = .ok (.iload_n 1, 1) := by decide +kernel
theorem dX0_isSide_1 : decode cX0_isSide 1 = .ok (.ifCond .lt 12, 3) := by decide +kernel
theorem dX0_isSide_4 : decode cX0_isSide 4 = .ok (.iload_n 1, 1) := by decide +kernel
theorem dX0_isSide_5 : decode cX0_isSide 5 = .ok (.iconst 2, 1) := by decide +kernel
theorem dX0_isSide_6 : decode cX0_isSide 6 = .ok (.if_icmp .ge 7, 3) := by decide +kernel
theorem dX0_isSide_9 : decode cX0_isSide 9 = .ok (.iconst 1, 1) := by decide +kernel
theorem dX0_isSide_10 : decode cX0_isSide 10 = .ok (.goto 4, 3) := by decide +kernel
theorem dX0_isSide_13 : decode cX0_isSide 13 = .ok (.iconst 0, 1) := by decide +kernel
theorem dX0_isSide_14 : decode cX0_isSide 14 = .ok (.ireturn, 1) := by decide +kernel
theorem dX0_isRow_0 : decode cX0_isRow 0 = .ok (.iload_n 1, 1) := by decide +kernel
theorem dX0_isRow_1 : decode cX0_isRow 1 = .ok (.ifCond .lt 17, 3) := by decide +kernel
theorem dX0_isRow_4 : decode cX0_isRow 4 = .ok (.iload_n 1, 1) := by decide +kernel
theorem dX0_isRow_5 : decode cX0_isRow 5 = .ok (.iconst 1, 1) := by decide +kernel
theorem dX0_isRow_6 : decode cX0_isRow 6 = .ok (.aload_n 0, 1) := by decide +kernel
theorem dX0_isRow_7 : decode cX0_isRow 7 = .ok (.getfield 37, 3) := by decide +kernel
theorem dX0_isRow_10 : decode cX0_isRow 10 = .ok (.ishl, 1) := by decide +kernel
theorem dX0_isRow_11 : decode cX0_isRow 11 = .ok (.if_icmp .ge 7, 3) := by decide +kernel
theorem dX0_isRow_14 : decode cX0_isRow 14 = .ok (.iconst 1, 1) := by decide +kernel
theorem dX0_isRow_15 : decode cX0_isRow 15 = .ok (.goto 4, 3) := by decide +kernel
theorem dX0_isRow_18 : decode cX0_isRow 18 = .ok (.iconst 0, 1) := by decide +kernel
theorem dX0_isRow_19 : decode cX0_isRow 19 = .ok (.ireturn, 1) := by decide +kernel
theorem dX0_hasOutPair_0 : decode cX0_hasOutPair 0 = .ok (.iload_n 1, 1) := by decide +kernel
theorem dX0_hasOutPair_1 : decode cX0_hasOutPair 1 = .ok (.ifCond .lt 27, 3) := by decide +kernel
theorem dX0_hasOutPair_4 : decode cX0_hasOutPair 4 = .ok (.iload_n 1, 1) := by decide +kernel
theorem dX0_hasOutPair_5 : decode cX0_hasOutPair 5 = .ok (.aload_n 0, 1) := by decide +kernel
theorem dX0_hasOutPair_6 : decode cX0_hasOutPair 6 = .ok (.getfield 27, 3) := by decide +kernel
theorem dX0_hasOutPair_9 : decode cX0_hasOutPair 9 = .ok (.iconst 0, 1) := by decide +kernel
theorem dX0_hasOutPair_10 : decode cX0_hasOutPair 10 = .ok (.iaload, 1) := by decide +kernel
theorem dX0_hasOutPair_11 : decode cX0_hasOutPair 11 = .ok (.if_icmp .ge 17, 3) := by decide +kernel
theorem dX0_hasOutPair_14 : decode cX0_hasOutPair 14 = .ok (.iload_n 1, 1) := by decide +kernel
theorem dX0_hasOutPair_15 : decode cX0_hasOutPair 15 = .ok (.aload_n 0, 1) := by decide +kernel
theorem dX0_hasOutPair_16 : decode cX0_hasOutPair 16 = .ok (.getfield 27, 3) := by decide +kernel
theorem dX0_hasOutPair_19 : decode cX0_hasOutPair 19 = .ok (.iconst 1, 1) := by decide +kernel
theorem dX0_hasOutPair_20 : decode cX0_hasOutPair 20 = .ok (.iaload, 1) := by decide +kernel
theorem dX0_hasOutPair_21 : decode cX0_hasOutPair 21 = .ok (.if_icmp .ge 7, 3) := by decide +kernel
theorem dX0_hasOutPair_24 : decode cX0_hasOutPair 24 = .ok (.iconst 1, 1) := by decide +kernel
theorem dX0_hasOutPair_25 : decode cX0_hasOutPair 25 = .ok (.goto 4, 3) := by decide +kernel
theorem dX0_hasOutPair_28 : decode cX0_hasOutPair 28 = .ok (.iconst 0, 1) := by decide +kernel
theorem dX0_hasOutPair_29 : decode cX0_hasOutPair 29 = .ok (.ireturn, 1) := by decide +kernel
theorem dX0_allRows_0 : decode cX0_allRows 0 = .ok (.aload_n 0, 1) := by decide +kernel
theorem dX0_allRows_1 : decode cX0_allRows 1 = .ok (.getfield 37, 3) := by decide +kernel
theorem dX0_allRows_4 : decode cX0_allRows 4 = .ok (.iconst 5, 1) := by decide +kernel
theorem dX0_allRows_5 : decode cX0_allRows 5 = .ok (.if_icmp .ne 7, 3) := by decide +kernel
theorem dX0_allRows_8 : decode cX0_allRows 8 = .ok (.iconst (-1), 1) := by decide +kernel
theorem dX0_allRows_9 : decode cX0_allRows 9 = .ok (.goto 13, 3) := by decide +kernel
theorem dX0_allRows_12 : decode cX0_allRows 12 = .ok (.iconst 1, 1) := by decide +kernel
theorem dX0_allRows_13 : decode cX0_allRows 13 = .ok (.iconst 1, 1) := by decide +kernel
theorem dX0_allRows_14 : decode cX0_allRows 14 = .ok (.aload_n 0, 1) := by decide +kernel
theorem dX0_allRows_15 : decode cX0_allRows 15 = .ok (.getfield 37, 3) := by decide +kernel
theorem dX0_allRows_18 : decode cX0_allRows 18 = .ok (.ishl, 1) := by decide +kernel
theorem dX0_allRows_19 : decode cX0_allRows 19 = .ok (.ishl, 1) := by decide +kernel
theorem dX0_allRows_20 : decode cX0_allRows 20 = .ok (.iconst 1, 1) := by decide +kernel
theorem dX0_allRows_21 : decode cX0_allRows 21 = .ok (.isub, 1) := by decide +kernel
theorem dX0_allRows_22 : decode cX0_allRows 22 = .ok (.ireturn, 1) := by decide +kernel
theorem dX0_truthOf_0 : decode cX0_truthOf 0 = .ok (.aload_n 0, 1) := by decide +kernel
theorem dX0_truthOf_1 : decode cX0_truthOf 1 = .ok (.getfield 18, 3) := by decide +kernel
theorem dX0_truthOf_4 : decode cX0_truthOf 4 = .ok (.iload_n 1, 1) := by decide +kernel
theorem dX0_truthOf_5 : decode cX0_truthOf 5 = .ok (.iconst 1, 1) := by decide +kernel
theorem dX0_truthOf_6 : decode cX0_truthOf 6 = .ok (.ishr, 1) := by decide +kernel
theorem dX0_truthOf_7 : decode cX0_truthOf 7 = .ok (.iaload, 1) := by decide +kernel
theorem dX0_truthOf_8 : decode cX0_truthOf 8 = .ok (.istore_n 2, 1) := by decide +kernel
theorem dX0_truthOf_9 : decode cX0_truthOf 9 = .ok (.iload_n 1, 1) := by decide +kernel
theorem dX0_truthOf_10 : decode cX0_truthOf 10 = .ok (.iconst 1, 1) := by decide +kernel
theorem dX0_truthOf_11 : decode cX0_truthOf 11 = .ok (.iand, 1) := by decide +kernel
theorem dX0_truthOf_12 : decode cX0_truthOf 12 = .ok (.ifCond .ne 7, 3) := by decide +kernel
theorem dX0_truthOf_15 : decode cX0_truthOf 15 = .ok (.iload_n 2, 1) := by decide +kernel
theorem dX0_truthOf_16 : decode cX0_truthOf 16 = .ok (.goto 11, 3) := by decide +kernel
theorem dX0_truthOf_19 : decode cX0_truthOf 19 = .ok (.iload_n 2, 1) := by decide +kernel
theorem dX0_truthOf_20 : decode cX0_truthOf 20 = .ok (.iconst (-1), 1) := by decide +kernel
theorem dX0_truthOf_21 : decode cX0_truthOf 21 = .ok (.ixor, 1) := by decide +kernel
theorem dX0_truthOf_22 : decode cX0_truthOf 22 = .ok (.aload_n 0, 1) := by decide +kernel
theorem dX0_truthOf_23 : decode cX0_truthOf 23 = .ok (.invokevirtual 47, 3) := by decide +kernel
theorem dX0_truthOf_26 : decode cX0_truthOf 26 = .ok (.iand, 1) := by decide +kernel
theorem dX0_truthOf_27 : decode cX0_truthOf 27 = .ok (.ireturn, 1) := by decide +kernel
theorem dX0_levelOf_0 : decode cX0_levelOf 0 = .ok (.aload_n 0, 1) := by decide +kernel
theorem dX0_levelOf_1 : decode cX0_levelOf 1 = .ok (.getfield 21, 3) := by decide +kernel
theorem dX0_levelOf_4 : decode cX0_levelOf 4 = .ok (.iload_n 1, 1) := by decide +kernel
theorem dX0_levelOf_5 : decode cX0_levelOf 5 = .ok (.iconst 1, 1) := by decide +kernel
theorem dX0_levelOf_6 : decode cX0_levelOf 6 = .ok (.ishr, 1) := by decide +kernel
theorem dX0_levelOf_7 : decode cX0_levelOf 7 = .ok (.iaload, 1) := by decide +kernel
theorem dX0_levelOf_8 : decode cX0_levelOf 8 = .ok (.ireturn, 1) := by decide +kernel
theorem dX0_outOf_0 : decode cX0_outOf 0 = .ok (.aload_n 0, 1) := by decide +kernel
theorem dX0_outOf_1 : decode cX0_outOf 1 = .ok (.getfield 24, 3) := by decide +kernel
theorem dX0_outOf_4 : decode cX0_outOf 4 = .ok (.iload_n 1, 1) := by decide +kernel
theorem dX0_outOf_5 : decode cX0_outOf 5 = .ok (.bipush 6, 2) := by decide +kernel
theorem dX0_outOf_7 : decode cX0_outOf 7 = .ok (.imul, 1) := by decide +kernel
theorem dX0_outOf_8 : decode cX0_outOf 8 = .ok (.iload_n 2, 1) := by decide +kernel
theorem dX0_outOf_9 : decode cX0_outOf 9 = .ok (.iadd, 1) := by decide +kernel
theorem dX0_outOf_10 : decode cX0_outOf 10 = .ok (.iaload, 1) := by decide +kernel
theorem dX0_outOf_11 : decode cX0_outOf 11 = .ok (.ireturn, 1) := by decide +kernel
theorem dX0_pairDifference_0 : decode cX0_pairDifference 0 = .ok (.aload_n 0, 1) := by decide +kernel
theorem dX0_pairDifference_1 : decode cX0_pairDifference 1 = .ok (.aload_n 0, 1) := by decide +kernel
theorem dX0_pairDifference_2 : decode cX0_pairDifference 2 = .ok (.iconst 0, 1) := by decide +kernel
theorem dX0_pairDifference_3 : decode cX0_pairDifference 3 = .ok (.iload_n 1, 1) := by decide +kernel
theorem dX0_pairDifference_4 : decode cX0_pairDifference 4 = .ok (.invokevirtual 60, 3) := by decide +kernel
theorem dX0_pairDifference_7 : decode cX0_pairDifference 7 = .ok (.invokevirtual 64, 3) := by decide +kernel
theorem dX0_pairDifference_10 : decode cX0_pairDifference 10 = .ok (.aload_n 0, 1) := by decide +kernel
theorem dX0_pairDifference_11 : decode cX0_pairDifference 11 = .ok (.aload_n 0, 1) := by decide +kernel
theorem dX0_pairDifference_12 : decode cX0_pairDifference 12 = .ok (.iconst 1, 1) := by decide +kernel
theorem dX0_pairDifference_13 : decode cX0_pairDifference 13 = .ok (.iload_n 1, 1) := by decide +kernel
theorem dX0_pairDifference_14 : decode cX0_pairDifference 14 = .ok (.invokevirtual 60, 3) := by decide +kernel
theorem dX0_pairDifference_17 : decode cX0_pairDifference 17 = .ok (.invokevirtual 64, 3) := by decide +kernel
theorem dX0_pairDifference_20 : decode cX0_pairDifference 20 = .ok (.ixor, 1) := by decide +kernel
theorem dX0_pairDifference_21 : decode cX0_pairDifference 21 = .ok (.ireturn, 1) := by decide +kernel
theorem dX0_pairIsAlikeBy_0 : decode cX0_pairIsAlikeBy 0 = .ok (.aload_n 1, 1) := by decide +kernel
theorem dX0_pairIsAlikeBy_1 : decode cX0_pairIsAlikeBy 1 = .ok (.aload_n 0, 1) := by decide +kernel
theorem dX0_pairIsAlikeBy_2 : decode cX0_pairIsAlikeBy 2 = .ok (.iconst 0, 1) := by decide +kernel
theorem dX0_pairIsAlikeBy_3 : decode cX0_pairIsAlikeBy 3 = .ok (.iload_n 2, 1) := by decide +kernel
theorem dX0_pairIsAlikeBy_4 : decode cX0_pairIsAlikeBy 4 = .ok (.invokevirtual 60, 3) := by decide +kernel
theorem dX0_pairIsAlikeBy_7 : decode cX0_pairIsAlikeBy 7 = .ok (.invokevirtual 68, 3) := by decide +kernel
theorem dX0_pairIsAlikeBy_10 : decode cX0_pairIsAlikeBy 10 = .ok (.aload_n 1, 1) := by decide +kernel
theorem dX0_pairIsAlikeBy_11 : decode cX0_pairIsAlikeBy 11 = .ok (.aload_n 0, 1) := by decide +kernel
theorem dX0_pairIsAlikeBy_12 : decode cX0_pairIsAlikeBy 12 = .ok (.iconst 1, 1) := by decide +kernel
theorem dX0_pairIsAlikeBy_13 : decode cX0_pairIsAlikeBy 13 = .ok (.iload_n 2, 1) := by decide +kernel
theorem dX0_pairIsAlikeBy_14 : decode cX0_pairIsAlikeBy 14 = .ok (.invokevirtual 60, 3) := by decide +kernel
theorem dX0_pairIsAlikeBy_17 : decode cX0_pairIsAlikeBy 17 = .ok (.invokevirtual 68, 3) := by decide +kernel
theorem dX0_pairIsAlikeBy_20 : decode cX0_pairIsAlikeBy 20 = .ok (.if_icmp .ne 7, 3) := by decide +kernel
theorem dX0_pairIsAlikeBy_23 : decode cX0_pairIsAlikeBy 23 = .ok (.iconst 1, 1) := by decide +kernel
theorem dX0_pairIsAlikeBy_24 : decode cX0_pairIsAlikeBy 24 = .ok (.goto 4, 3) := by decide +kernel
theorem dX0_pairIsAlikeBy_27 : decode cX0_pairIsAlikeBy 27 = .ok (.iconst 0, 1) := by decide +kernel
theorem dX0_pairIsAlikeBy_28 : decode cX0_pairIsAlikeBy 28 = .ok (.ireturn, 1) := by decide +kernel
theorem dX0_verdictBy_0 : decode cX0_verdictBy 0 = .ok (.aload_n 0, 1) := by decide +kernel
theorem dX0_verdictBy_1 : decode cX0_verdictBy 1 = .ok (.getfield 27, 3) := by decide +kernel
theorem dX0_verdictBy_4 : decode cX0_verdictBy 4 = .ok (.iconst 0, 1) := by decide +kernel
theorem dX0_verdictBy_5 : decode cX0_verdictBy 5 = .ok (.iaload, 1) := by decide +kernel
theorem dX0_verdictBy_6 : decode cX0_verdictBy 6 = .ok (.aload_n 0, 1) := by decide +kernel
theorem dX0_verdictBy_7 : decode cX0_verdictBy 7 = .ok (.getfield 27, 3) := by decide +kernel
theorem dX0_verdictBy_10 : decode cX0_verdictBy 10 = .ok (.iconst 1, 1) := by decide +kernel
theorem dX0_verdictBy_11 : decode cX0_verdictBy 11 = .ok (.iaload, 1) := by decide +kernel
theorem dX0_verdictBy_12 : decode cX0_verdictBy 12 = .ok (.if_icmp .eq 5, 3) := by decide +kernel
theorem dX0_verdictBy_15 : decode cX0_verdictBy 15 = .ok (.iconst (-1), 1) := by decide +kernel
theorem dX0_verdictBy_16 : decode cX0_verdictBy 16 = .ok (.ireturn, 1) := by decide +kernel
theorem dX0_verdictBy_17 : decode cX0_verdictBy 17 = .ok (.iconst 0, 1) := by decide +kernel
theorem dX0_verdictBy_18 : decode cX0_verdictBy 18 = .ok (.istore_n 2, 1) := by decide +kernel
theorem dX0_verdictBy_19 : decode cX0_verdictBy 19 = .ok (.iload_n 2, 1) := by decide +kernel
theorem dX0_verdictBy_20 : decode cX0_verdictBy 20 = .ok (.aload_n 0, 1) := by decide +kernel
theorem dX0_verdictBy_21 : decode cX0_verdictBy 21 = .ok (.getfield 27, 3) := by decide +kernel
theorem dX0_verdictBy_24 : decode cX0_verdictBy 24 = .ok (.iconst 0, 1) := by decide +kernel
theorem dX0_verdictBy_25 : decode cX0_verdictBy 25 = .ok (.iaload, 1) := by decide +kernel
theorem dX0_verdictBy_26 : decode cX0_verdictBy 26 = .ok (.if_icmp .ge 20, 3) := by decide +kernel
theorem dX0_verdictBy_29 : decode cX0_verdictBy 29 = .ok (.aload_n 0, 1) := by decide +kernel
theorem dX0_verdictBy_30 : decode cX0_verdictBy 30 = .ok (.aload_n 1, 1) := by decide +kernel
theorem dX0_verdictBy_31 : decode cX0_verdictBy 31 = .ok (.iload_n 2, 1) := by decide +kernel
theorem dX0_verdictBy_32 : decode cX0_verdictBy 32 = .ok (.invokevirtual 73, 3) := by decide +kernel
theorem dX0_verdictBy_35 : decode cX0_verdictBy 35 = .ok (.ifCond .ne 5, 3) := by decide +kernel
theorem dX0_verdictBy_38 : decode cX0_verdictBy 38 = .ok (.iconst 0, 1) := by decide +kernel
theorem dX0_verdictBy_39 : decode cX0_verdictBy 39 = .ok (.ireturn, 1) := by decide +kernel
theorem dX0_verdictBy_40 : decode cX0_verdictBy 40 = .ok (.iinc 2 1, 3) := by decide +kernel
theorem dX0_verdictBy_43 : decode cX0_verdictBy 43 = .ok (.goto (-24), 3) := by decide +kernel
theorem dX0_verdictBy_46 : decode cX0_verdictBy 46 = .ok (.iconst 1, 1) := by decide +kernel
theorem dX0_verdictBy_47 : decode cX0_verdictBy 47 = .ok (.ireturn, 1) := by decide +kernel
theorem dX0_countOf_0 : decode cX0_countOf 0 = .ok (.iload_n 1, 1) := by decide +kernel
theorem dX0_countOf_1 : decode cX0_countOf 1 = .ok (.tableswitch 55 0 3 #[31, 36, 41, 48], 31) := by decide +kernel
theorem dX0_countOf_32 : decode cX0_countOf 32 = .ok (.aload_n 0, 1) := by decide +kernel
theorem dX0_countOf_33 : decode cX0_countOf 33 = .ok (.getfield 37, 3) := by decide +kernel
theorem dX0_countOf_36 : decode cX0_countOf 36 = .ok (.ireturn, 1) := by decide +kernel
theorem dX0_countOf_37 : decode cX0_countOf 37 = .ok (.aload_n 0, 1) := by decide +kernel
theorem dX0_countOf_38 : decode cX0_countOf 38 = .ok (.getfield 41, 3) := by decide +kernel
theorem dX0_countOf_41 : decode cX0_countOf 41 = .ok (.ireturn, 1) := by decide +kernel
theorem dX0_countOf_42 : decode cX0_countOf 42 = .ok (.aload_n 0, 1) := by decide +kernel
theorem dX0_countOf_43 : decode cX0_countOf 43 = .ok (.getfield 27, 3) := by decide +kernel
theorem dX0_countOf_46 : decode cX0_countOf 46 = .ok (.iconst 0, 1) := by decide +kernel
theorem dX0_countOf_47 : decode cX0_countOf 47 = .ok (.iaload, 1) := by decide +kernel
theorem dX0_countOf_48 : decode cX0_countOf 48 = .ok (.ireturn, 1) := by decide +kernel
theorem dX0_countOf_49 : decode cX0_countOf 49 = .ok (.aload_n 0, 1) := by decide +kernel
theorem dX0_countOf_50 : decode cX0_countOf 50 = .ok (.getfield 27, 3) := by decide +kernel
theorem dX0_countOf_53 : decode cX0_countOf 53 = .ok (.iconst 1, 1) := by decide +kernel
theorem dX0_countOf_54 : decode cX0_countOf 54 = .ok (.iaload, 1) := by decide +kernel
theorem dX0_countOf_55 : decode cX0_countOf 55 = .ok (.ireturn, 1) := by decide +kernel
theorem dX0_countOf_56 : decode cX0_countOf 56 = .ok (.aload_n 0, 1) := by decide +kernel
theorem dX0_countOf_57 : decode cX0_countOf 57 = .ok (.getfield 51, 3) := by decide +kernel
theorem dX0_countOf_60 : decode cX0_countOf 60 = .ok (.ireturn, 1) := by decide +kernel
theorem dX0_signOf_0 : decode cX0_signOf 0 = .ok (.iconst 0, 1) := by decide +kernel
theorem dX0_signOf_1 : decode cX0_signOf 1 = .ok (.istore_n 2, 1) := by decide +kernel
theorem dX0_signOf_2 : decode cX0_signOf 2 = .ok (.iconst 0, 1) := by decide +kernel
theorem dX0_signOf_3 : decode cX0_signOf 3 = .ok (.istore_n 3, 1) := by decide +kernel
theorem dX0_signOf_4 : decode cX0_signOf 4 = .ok (.iload_n 3, 1) := by decide +kernel
theorem dX0_signOf_5 : decode cX0_signOf 5 = .ok (.aload_n 0, 1) := by decide +kernel
theorem dX0_signOf_6 : decode cX0_signOf 6 = .ok (.getfield 51, 3) := by decide +kernel
theorem dX0_signOf_9 : decode cX0_signOf 9 = .ok (.if_icmp .ge 29, 3) := by decide +kernel
theorem dX0_signOf_12 : decode cX0_signOf 12 = .ok (.iload_n 2, 1) := by decide +kernel
theorem dX0_signOf_13 : decode cX0_signOf 13 = .ok (.aload_n 0, 1) := by decide +kernel
theorem dX0_signOf_14 : decode cX0_signOf 14 = .ok (.getfield 18, 3) := by decide +kernel
theorem dX0_signOf_17 : decode cX0_signOf 17 = .ok (.iload_n 1, 1) := by decide +kernel
theorem dX0_signOf_18 : decode cX0_signOf 18 = .ok (.iaload, 1) := by decide +kernel
theorem dX0_signOf_19 : decode cX0_signOf 19 = .ok (.aload_n 0, 1) := by decide +kernel
theorem dX0_signOf_20 : decode cX0_signOf 20 = .ok (.getfield 30, 3) := by decide +kernel
theorem dX0_signOf_23 : decode cX0_signOf 23 = .ok (.iload_n 3, 1) := by decide +kernel
theorem dX0_signOf_24 : decode cX0_signOf 24 = .ok (.iaload, 1) := by decide +kernel
theorem dX0_signOf_25 : decode cX0_signOf 25 = .ok (.iushr, 1) := by decide +kernel
theorem dX0_signOf_26 : decode cX0_signOf 26 = .ok (.iconst 1, 1) := by decide +kernel
theorem dX0_signOf_27 : decode cX0_signOf 27 = .ok (.iand, 1) := by decide +kernel
theorem dX0_signOf_28 : decode cX0_signOf 28 = .ok (.iload_n 3, 1) := by decide +kernel
theorem dX0_signOf_29 : decode cX0_signOf 29 = .ok (.ishl, 1) := by decide +kernel
theorem dX0_signOf_30 : decode cX0_signOf 30 = .ok (.ior, 1) := by decide +kernel
theorem dX0_signOf_31 : decode cX0_signOf 31 = .ok (.istore_n 2, 1) := by decide +kernel
theorem dX0_signOf_32 : decode cX0_signOf 32 = .ok (.iinc 3 1, 3) := by decide +kernel
theorem dX0_signOf_35 : decode cX0_signOf 35 = .ok (.goto (-31), 3) := by decide +kernel
theorem dX0_signOf_38 : decode cX0_signOf 38 = .ok (.iload_n 2, 1) := by decide +kernel
theorem dX0_signOf_39 : decode cX0_signOf 39 = .ok (.ireturn, 1) := by decide +kernel
theorem dX0_gatesBehind_0 : decode cX0_gatesBehind 0 = .ok (.lconst 1, 1) := by decide +kernel
theorem dX0_gatesBehind_1 : decode cX0_gatesBehind 1 = .ok (.iload_n 1, 1) := by decide +kernel
theorem dX0_gatesBehind_2 : decode cX0_gatesBehind 2 = .ok (.iconst 1, 1) := by decide +kernel
theorem dX0_gatesBehind_3 : decode cX0_gatesBehind 3 = .ok (.ishr, 1) := by decide +kernel
theorem dX0_gatesBehind_4 : decode cX0_gatesBehind 4 = .ok (.lshl, 1) := by decide +kernel
theorem dX0_gatesBehind_5 : decode cX0_gatesBehind 5 = .ok (.lstore_n 2, 1) := by decide +kernel
theorem dX0_gatesBehind_6 : decode cX0_gatesBehind 6 = .ok (.iconst 0, 1) := by decide +kernel
theorem dX0_gatesBehind_7 : decode cX0_gatesBehind 7 = .ok (.istore 4, 2) := by decide +kernel
theorem dX0_gatesBehind_9 : decode cX0_gatesBehind 9 = .ok (.iload_n 1, 1) := by decide +kernel
theorem dX0_gatesBehind_10 : decode cX0_gatesBehind 10 = .ok (.iconst 1, 1) := by decide +kernel
theorem dX0_gatesBehind_11 : decode cX0_gatesBehind 11 = .ok (.ishr, 1) := by decide +kernel
theorem dX0_gatesBehind_12 : decode cX0_gatesBehind 12 = .ok (.istore 5, 2) := by decide +kernel
theorem dX0_gatesBehind_14 : decode cX0_gatesBehind 14 = .ok (.iload 5, 2) := by decide +kernel
theorem dX0_gatesBehind_16 : decode cX0_gatesBehind 16 = .ok (.aload_n 0, 1) := by decide +kernel
theorem dX0_gatesBehind_17 : decode cX0_gatesBehind 17 = .ok (.getfield 37, 3) := by decide +kernel
theorem dX0_gatesBehind_20 : decode cX0_gatesBehind 20 = .ok (.if_icmp .le 49, 3) := by decide +kernel
theorem dX0_gatesBehind_23 : decode cX0_gatesBehind 23 = .ok (.lload_n 2, 1) := by decide +kernel
theorem dX0_gatesBehind_24 : decode cX0_gatesBehind 24 = .ok (.iload 5, 2) := by decide +kernel
theorem dX0_gatesBehind_26 : decode cX0_gatesBehind 26 = .ok (.lushr, 1) := by decide +kernel
theorem dX0_gatesBehind_27 : decode cX0_gatesBehind 27 = .ok (.lconst 1, 1) := by decide +kernel
theorem dX0_gatesBehind_28 : decode cX0_gatesBehind 28 = .ok (.land, 1) := by decide +kernel
theorem dX0_gatesBehind_29 : decode cX0_gatesBehind 29 = .ok (.lconst 1, 1) := by decide +kernel
theorem dX0_gatesBehind_30 : decode cX0_gatesBehind 30 = .ok (.lcmp, 1) := by decide +kernel
theorem dX0_gatesBehind_31 : decode cX0_gatesBehind 31 = .ok (.ifCond .ne 32, 3) := by decide +kernel
theorem dX0_gatesBehind_34 : decode cX0_gatesBehind 34 = .ok (.iinc 4 1, 3) := by decide +kernel
theorem dX0_gatesBehind_37 : decode cX0_gatesBehind 37 = .ok (.lload_n 2, 1) := by decide +kernel
theorem dX0_gatesBehind_38 : decode cX0_gatesBehind 38 = .ok (.lconst 1, 1) := by decide +kernel
theorem dX0_gatesBehind_39 : decode cX0_gatesBehind 39 = .ok (.aload_n 0, 1) := by decide +kernel
theorem dX0_gatesBehind_40 : decode cX0_gatesBehind 40 = .ok (.getfield 9, 3) := by decide +kernel
theorem dX0_gatesBehind_43 : decode cX0_gatesBehind 43 = .ok (.iload 5, 2) := by decide +kernel
theorem dX0_gatesBehind_45 : decode cX0_gatesBehind 45 = .ok (.iaload, 1) := by decide +kernel
theorem dX0_gatesBehind_46 : decode cX0_gatesBehind 46 = .ok (.iconst 1, 1) := by decide +kernel
theorem dX0_gatesBehind_47 : decode cX0_gatesBehind 47 = .ok (.ishr, 1) := by decide +kernel
theorem dX0_gatesBehind_48 : decode cX0_gatesBehind 48 = .ok (.lshl, 1) := by decide +kernel
theorem dX0_gatesBehind_49 : decode cX0_gatesBehind 49 = .ok (.lconst 1, 1) := by decide +kernel
theorem dX0_gatesBehind_50 : decode cX0_gatesBehind 50 = .ok (.aload_n 0, 1) := by decide +kernel
theorem dX0_gatesBehind_51 : decode cX0_gatesBehind 51 = .ok (.getfield 15, 3) := by decide +kernel
theorem dX0_gatesBehind_54 : decode cX0_gatesBehind 54 = .ok (.iload 5, 2) := by decide +kernel
theorem dX0_gatesBehind_56 : decode cX0_gatesBehind 56 = .ok (.iaload, 1) := by decide +kernel
theorem dX0_gatesBehind_57 : decode cX0_gatesBehind 57 = .ok (.iconst 1, 1) := by decide +kernel
theorem dX0_gatesBehind_58 : decode cX0_gatesBehind 58 = .ok (.ishr, 1) := by decide +kernel
theorem dX0_gatesBehind_59 : decode cX0_gatesBehind 59 = .ok (.lshl, 1) := by decide +kernel
theorem dX0_gatesBehind_60 : decode cX0_gatesBehind 60 = .ok (.lor, 1) := by decide +kernel
theorem dX0_gatesBehind_61 : decode cX0_gatesBehind 61 = .ok (.lor, 1) := by decide +kernel
theorem dX0_gatesBehind_62 : decode cX0_gatesBehind 62 = .ok (.lstore_n 2, 1) := by decide +kernel
theorem dX0_gatesBehind_63 : decode cX0_gatesBehind 63 = .ok (.iinc 5 (-1), 3) := by decide +kernel
theorem dX0_gatesBehind_66 : decode cX0_gatesBehind 66 = .ok (.goto (-52), 3) := by decide +kernel
theorem dX0_gatesBehind_69 : decode cX0_gatesBehind 69 = .ok (.iload 4, 2) := by decide +kernel
theorem dX0_gatesBehind_71 : decode cX0_gatesBehind 71 = .ok (.ireturn, 1) := by decide +kernel
theorem dX0_refusalOf_0 : decode cX0_refusalOf 0 = .ok (.iload_n 1, 1) := by decide +kernel
theorem dX0_refusalOf_1 : decode cX0_refusalOf 1 = .ok (.tableswitch 179 0 4 #[35, 52, 79, 106, 142], 35) := by decide +kernel
theorem dX0_refusalOf_36 : decode cX0_refusalOf 36 = .ok (.iload_n 2, 1) := by decide +kernel
theorem dX0_refusalOf_37 : decode cX0_refusalOf 37 = .ok (.iconst 1, 1) := by decide +kernel
theorem dX0_refusalOf_38 : decode cX0_refusalOf 38 = .ok (.if_icmp .lt 12, 3) := by decide +kernel
theorem dX0_refusalOf_41 : decode cX0_refusalOf 41 = .ok (.iload_n 2, 1) := by decide +kernel
theorem dX0_refusalOf_42 : decode cX0_refusalOf 42 = .ok (.iconst 5, 1) := by decide +kernel
theorem dX0_refusalOf_43 : decode cX0_refusalOf 43 = .ok (.if_icmp .gt 7, 3) := by decide +kernel
theorem dX0_refusalOf_46 : decode cX0_refusalOf 46 = .ok (.iconst 0, 1) := by decide +kernel
theorem dX0_refusalOf_47 : decode cX0_refusalOf 47 = .ok (.goto 5, 3) := by decide +kernel
theorem dX0_refusalOf_50 : decode cX0_refusalOf 50 = .ok (.bipush (-2), 2) := by decide +kernel
theorem dX0_refusalOf_52 : decode cX0_refusalOf 52 = .ok (.ireturn, 1) := by decide +kernel
theorem dX0_refusalOf_53 : decode cX0_refusalOf 53 = .ok (.aload_n 0, 1) := by decide +kernel
theorem dX0_refusalOf_54 : decode cX0_refusalOf 54 = .ok (.iload_n 2, 1) := by decide +kernel
theorem dX0_refusalOf_55 : decode cX0_refusalOf 55 = .ok (.invokevirtual 77, 3) := by decide +kernel
theorem dX0_refusalOf_58 : decode cX0_refusalOf 58 = .ok (.ifCond .eq 19, 3) := by decide +kernel
theorem dX0_refusalOf_61 : decode cX0_refusalOf 61 = .ok (.aload_n 0, 1) := by decide +kernel
theorem dX0_refusalOf_62 : decode cX0_refusalOf 62 = .ok (.iload_n 3, 1) := by decide +kernel
theorem dX0_refusalOf_63 : decode cX0_refusalOf 63 = .ok (.invokevirtual 77, 3) := by decide +kernel
theorem dX0_refusalOf_66 : decode cX0_refusalOf 66 = .ok (.ifCond .eq 11, 3) := by decide +kernel
theorem dX0_refusalOf_69 : decode cX0_refusalOf 69 = .ok (.aload_n 0, 1) := by decide +kernel
theorem dX0_refusalOf_70 : decode cX0_refusalOf 70 = .ok (.iconst 1, 1) := by decide +kernel
theorem dX0_refusalOf_71 : decode cX0_refusalOf 71 = .ok (.invokevirtual 81, 3) := by decide +kernel
theorem dX0_refusalOf_74 : decode cX0_refusalOf 74 = .ok (.goto 5, 3) := by decide +kernel
theorem dX0_refusalOf_77 : decode cX0_refusalOf 77 = .ok (.bipush (-2), 2) := by decide +kernel
theorem dX0_refusalOf_79 : decode cX0_refusalOf 79 = .ok (.ireturn, 1) := by decide +kernel
theorem dX0_refusalOf_80 : decode cX0_refusalOf 80 = .ok (.aload_n 0, 1) := by decide +kernel
theorem dX0_refusalOf_81 : decode cX0_refusalOf 81 = .ok (.iload_n 2, 1) := by decide +kernel
theorem dX0_refusalOf_82 : decode cX0_refusalOf 82 = .ok (.invokevirtual 77, 3) := by decide +kernel
theorem dX0_refusalOf_85 : decode cX0_refusalOf 85 = .ok (.ifCond .eq 19, 3) := by decide +kernel
theorem dX0_refusalOf_88 : decode cX0_refusalOf 88 = .ok (.aload_n 0, 1) := by decide +kernel
theorem dX0_refusalOf_89 : decode cX0_refusalOf 89 = .ok (.iload_n 3, 1) := by decide +kernel
theorem dX0_refusalOf_90 : decode cX0_refusalOf 90 = .ok (.invokevirtual 77, 3) := by decide +kernel
theorem dX0_refusalOf_93 : decode cX0_refusalOf 93 = .ok (.ifCond .eq 11, 3) := by decide +kernel
theorem dX0_refusalOf_96 : decode cX0_refusalOf 96 = .ok (.aload_n 0, 1) := by decide +kernel
theorem dX0_refusalOf_97 : decode cX0_refusalOf 97 = .ok (.iconst 3, 1) := by decide +kernel
theorem dX0_refusalOf_98 : decode cX0_refusalOf 98 = .ok (.invokevirtual 81, 3) := by decide +kernel
theorem dX0_refusalOf_101 : decode cX0_refusalOf 101 = .ok (.goto 5, 3) := by decide +kernel
theorem dX0_refusalOf_104 : decode cX0_refusalOf 104 = .ok (.bipush (-2), 2) := by decide +kernel
theorem dX0_refusalOf_106 : decode cX0_refusalOf 106 = .ok (.ireturn, 1) := by decide +kernel
theorem dX0_refusalOf_107 : decode cX0_refusalOf 107 = .ok (.aload_n 0, 1) := by decide +kernel
theorem dX0_refusalOf_108 : decode cX0_refusalOf 108 = .ok (.iload_n 2, 1) := by decide +kernel
theorem dX0_refusalOf_109 : decode cX0_refusalOf 109 = .ok (.invokevirtual 77, 3) := by decide +kernel
theorem dX0_refusalOf_112 : decode cX0_refusalOf 112 = .ok (.ifCond .eq 28, 3) := by decide +kernel
theorem dX0_refusalOf_115 : decode cX0_refusalOf 115 = .ok (.aload_n 0, 1) := by decide +kernel
theorem dX0_refusalOf_116 : decode cX0_refusalOf 116 = .ok (.iload_n 3, 1) := by decide +kernel
theorem dX0_refusalOf_117 : decode cX0_refusalOf 117 = .ok (.invokevirtual 77, 3) := by decide +kernel
theorem dX0_refusalOf_120 : decode cX0_refusalOf 120 = .ok (.ifCond .eq 20, 3) := by decide +kernel
theorem dX0_refusalOf_123 : decode cX0_refusalOf 123 = .ok (.aload_n 0, 1) := by decide +kernel
theorem dX0_refusalOf_124 : decode cX0_refusalOf 124 = .ok (.iload 4, 2) := by decide +kernel
theorem dX0_refusalOf_126 : decode cX0_refusalOf 126 = .ok (.invokevirtual 77, 3) := by decide +kernel
theorem dX0_refusalOf_129 : decode cX0_refusalOf 129 = .ok (.ifCond .eq 11, 3) := by decide +kernel
theorem dX0_refusalOf_132 : decode cX0_refusalOf 132 = .ok (.aload_n 0, 1) := by decide +kernel
theorem dX0_refusalOf_133 : decode cX0_refusalOf 133 = .ok (.iconst 3, 1) := by decide +kernel
theorem dX0_refusalOf_134 : decode cX0_refusalOf 134 = .ok (.invokevirtual 81, 3) := by decide +kernel
theorem dX0_refusalOf_137 : decode cX0_refusalOf 137 = .ok (.goto 5, 3) := by decide +kernel
theorem dX0_refusalOf_140 : decode cX0_refusalOf 140 = .ok (.bipush (-2), 2) := by decide +kernel
theorem dX0_refusalOf_142 : decode cX0_refusalOf 142 = .ok (.ireturn, 1) := by decide +kernel
theorem dX0_refusalOf_143 : decode cX0_refusalOf 143 = .ok (.aload_n 0, 1) := by decide +kernel
theorem dX0_refusalOf_144 : decode cX0_refusalOf 144 = .ok (.iload_n 2, 1) := by decide +kernel
theorem dX0_refusalOf_145 : decode cX0_refusalOf 145 = .ok (.invokevirtual 84, 3) := by decide +kernel
theorem dX0_refusalOf_148 : decode cX0_refusalOf 148 = .ok (.ifCond .eq 11, 3) := by decide +kernel
theorem dX0_refusalOf_151 : decode cX0_refusalOf 151 = .ok (.aload_n 0, 1) := by decide +kernel
theorem dX0_refusalOf_152 : decode cX0_refusalOf 152 = .ok (.iload_n 3, 1) := by decide +kernel
theorem dX0_refusalOf_153 : decode cX0_refusalOf 153 = .ok (.invokevirtual 77, 3) := by decide +kernel
theorem dX0_refusalOf_156 : decode cX0_refusalOf 156 = .ok (.ifCond .ne 6, 3) := by decide +kernel
theorem dX0_refusalOf_159 : decode cX0_refusalOf 159 = .ok (.bipush (-2), 2) := by decide +kernel
theorem dX0_refusalOf_161 : decode cX0_refusalOf 161 = .ok (.ireturn, 1) := by decide +kernel
theorem dX0_refusalOf_162 : decode cX0_refusalOf 162 = .ok (.aload_n 0, 1) := by decide +kernel
theorem dX0_refusalOf_163 : decode cX0_refusalOf 163 = .ok (.getfield 27, 3) := by decide +kernel
theorem dX0_refusalOf_166 : decode cX0_refusalOf 166 = .ok (.iload_n 2, 1) := by decide +kernel
theorem dX0_refusalOf_167 : decode cX0_refusalOf 167 = .ok (.iaload, 1) := by decide +kernel
theorem dX0_refusalOf_168 : decode cX0_refusalOf 168 = .ok (.bipush 6, 2) := by decide +kernel
theorem dX0_refusalOf_170 : decode cX0_refusalOf 170 = .ok (.if_icmp .ge 7, 3) := by decide +kernel
theorem dX0_refusalOf_173 : decode cX0_refusalOf 173 = .ok (.iconst 0, 1) := by decide +kernel
theorem dX0_refusalOf_174 : decode cX0_refusalOf 174 = .ok (.goto 5, 3) := by decide +kernel
theorem dX0_refusalOf_177 : decode cX0_refusalOf 177 = .ok (.bipush (-4), 2) := by decide +kernel
theorem dX0_refusalOf_179 : decode cX0_refusalOf 179 = .ok (.ireturn, 1) := by decide +kernel
theorem dX0_refusalOf_180 : decode cX0_refusalOf 180 = .ok (.aload_n 0, 1) := by decide +kernel
theorem dX0_refusalOf_181 : decode cX0_refusalOf 181 = .ok (.iload_n 2, 1) := by decide +kernel
theorem dX0_refusalOf_182 : decode cX0_refusalOf 182 = .ok (.invokevirtual 87, 3) := by decide +kernel
theorem dX0_refusalOf_185 : decode cX0_refusalOf 185 = .ok (.ifCond .ne 6, 3) := by decide +kernel
theorem dX0_refusalOf_188 : decode cX0_refusalOf 188 = .ok (.bipush (-2), 2) := by decide +kernel
theorem dX0_refusalOf_190 : decode cX0_refusalOf 190 = .ok (.ireturn, 1) := by decide +kernel
theorem dX0_refusalOf_191 : decode cX0_refusalOf 191 = .ok (.aload_n 0, 1) := by decide +kernel
theorem dX0_refusalOf_192 : decode cX0_refusalOf 192 = .ok (.getfield 51, 3) := by decide +kernel
theorem dX0_refusalOf_195 : decode cX0_refusalOf 195 = .ok (.bipush 12, 2) := by decide +kernel
theorem dX0_refusalOf_197 : decode cX0_refusalOf 197 = .ok (.if_icmp .ge 7, 3) := by decide +kernel
theorem dX0_refusalOf_200 : decode cX0_refusalOf 200 = .ok (.iconst 0, 1) := by decide +kernel
theorem dX0_refusalOf_201 : decode cX0_refusalOf 201 = .ok (.goto 5, 3) := by decide +kernel
theorem dX0_refusalOf_204 : decode cX0_refusalOf 204 = .ok (.bipush (-4), 2) := by decide +kernel
theorem dX0_refusalOf_206 : decode cX0_refusalOf 206 = .ok (.ireturn, 1) := by decide +kernel
theorem dX0_roomFor_0 : decode cX0_roomFor 0 = .ok (.aload_n 0, 1) := by decide +kernel
theorem dX0_roomFor_1 : decode cX0_roomFor 1 = .ok (.getfield 41, 3) := by decide +kernel
theorem dX0_roomFor_4 : decode cX0_roomFor 4 = .ok (.iload_n 1, 1) := by decide +kernel
theorem dX0_roomFor_5 : decode cX0_roomFor 5 = .ok (.iadd, 1) := by decide +kernel
theorem dX0_roomFor_6 : decode cX0_roomFor 6 = .ok (.bipush 48, 2) := by decide +kernel
theorem dX0_roomFor_8 : decode cX0_roomFor 8 = .ok (.if_icmp .gt 7, 3) := by decide +kernel
theorem dX0_roomFor_11 : decode cX0_roomFor 11 = .ok (.iconst 0, 1) := by decide +kernel
theorem dX0_roomFor_12 : decode cX0_roomFor 12 = .ok (.goto 5, 3) := by decide +kernel
theorem dX0_roomFor_15 : decode cX0_roomFor 15 = .ok (.bipush (-4), 2) := by decide +kernel
theorem dX0_roomFor_17 : decode cX0_roomFor 17 = .ok (.ireturn, 1) := by decide +kernel
theorem dX0_perform_0 : decode cX0_perform 0 = .ok (.iload_n 1, 1) := by decide +kernel
theorem dX0_perform_1 : decode cX0_perform 1 = .ok (.tableswitch 80 0 4 #[35, 41, 48, 61, 73], 35) := by decide +kernel
theorem dX0_perform_36 : decode cX0_perform 36 = .ok (.aload_n 0, 1) := by decide +kernel
theorem dX0_perform_37 : decode cX0_perform 37 = .ok (.iload_n 2, 1) := by decide +kernel
theorem dX0_perform_38 : decode cX0_perform 38 = .ok (.invokevirtual 90, 3) := by decide +kernel
theorem dX0_perform_41 : decode cX0_perform 41 = .ok (.ireturn, 1) := by decide +kernel
theorem dX0_perform_42 : decode cX0_perform 42 = .ok (.aload_n 0, 1) := by decide +kernel
theorem dX0_perform_43 : decode cX0_perform 43 = .ok (.iload_n 2, 1) := by decide +kernel
theorem dX0_perform_44 : decode cX0_perform 44 = .ok (.iload_n 3, 1) := by decide +kernel
theorem dX0_perform_45 : decode cX0_perform 45 = .ok (.invokevirtual 93, 3) := by decide +kernel
theorem dX0_perform_48 : decode cX0_perform 48 = .ok (.ireturn, 1) := by decide +kernel
theorem dX0_perform_49 : decode cX0_perform 49 = .ok (.aload_n 0, 1) := by decide +kernel
theorem dX0_perform_50 : decode cX0_perform 50 = .ok (.iload_n 2, 1) := by decide +kernel
theorem dX0_perform_51 : decode cX0_perform 51 = .ok (.iload_n 3, 1) := by decide +kernel
theorem dX0_perform_52 : decode cX0_perform 52 = .ok (.iconst 1, 1) := by decide +kernel
theorem dX0_perform_53 : decode cX0_perform 53 = .ok (.ixor, 1) := by decide +kernel
theorem dX0_perform_54 : decode cX0_perform 54 = .ok (.iload_n 2, 1) := by decide +kernel
theorem dX0_perform_55 : decode cX0_perform 55 = .ok (.iconst 1, 1) := by decide +kernel
theorem dX0_perform_56 : decode cX0_perform 56 = .ok (.ixor, 1) := by decide +kernel
theorem dX0_perform_57 : decode cX0_perform 57 = .ok (.iload_n 3, 1) := by decide +kernel
theorem dX0_perform_58 : decode cX0_perform 58 = .ok (.invokevirtual 96, 3) := by decide +kernel
theorem dX0_perform_61 : decode cX0_perform 61 = .ok (.ireturn, 1) := by decide +kernel
theorem dX0_perform_62 : decode cX0_perform 62 = .ok (.aload_n 0, 1) := by decide +kernel
theorem dX0_perform_63 : decode cX0_perform 63 = .ok (.iload_n 2, 1) := by decide +kernel
theorem dX0_perform_64 : decode cX0_perform 64 = .ok (.iload_n 3, 1) := by decide +kernel
theorem dX0_perform_65 : decode cX0_perform 65 = .ok (.iload_n 2, 1) := by decide +kernel
theorem dX0_perform_66 : decode cX0_perform 66 = .ok (.iconst 1, 1) := by decide +kernel
theorem dX0_perform_67 : decode cX0_perform 67 = .ok (.ixor, 1) := by decide +kernel
theorem dX0_perform_68 : decode cX0_perform 68 = .ok (.iload 4, 2) := by decide +kernel
theorem dX0_perform_70 : decode cX0_perform 70 = .ok (.invokevirtual 96, 3) := by decide +kernel
theorem dX0_perform_73 : decode cX0_perform 73 = .ok (.ireturn, 1) := by decide +kernel
theorem dX0_perform_74 : decode cX0_perform 74 = .ok (.aload_n 0, 1) := by decide +kernel
theorem dX0_perform_75 : decode cX0_perform 75 = .ok (.iload_n 2, 1) := by decide +kernel
theorem dX0_perform_76 : decode cX0_perform 76 = .ok (.iload_n 3, 1) := by decide +kernel
theorem dX0_perform_77 : decode cX0_perform 77 = .ok (.invokevirtual 100, 3) := by decide +kernel
theorem dX0_perform_80 : decode cX0_perform 80 = .ok (.ireturn, 1) := by decide +kernel
theorem dX0_perform_81 : decode cX0_perform 81 = .ok (.aload_n 0, 1) := by decide +kernel
theorem dX0_perform_82 : decode cX0_perform 82 = .ok (.iload_n 2, 1) := by decide +kernel
theorem dX0_perform_83 : decode cX0_perform 83 = .ok (.invokevirtual 103, 3) := by decide +kernel
theorem dX0_perform_86 : decode cX0_perform 86 = .ok (.ireturn, 1) := by decide +kernel
theorem dX0_changeInputs_0 : decode cX0_changeInputs 0 = .ok (.aload_n 0, 1) := by decide +kernel
theorem dX0_changeInputs_1 : decode cX0_changeInputs 1 = .ok (.getfield 37, 3) := by decide +kernel
theorem dX0_changeInputs_4 : decode cX0_changeInputs 4 = .ok (.istore_n 2, 1) := by decide +kernel
theorem dX0_changeInputs_5 : decode cX0_changeInputs 5 = .ok (.aload_n 0, 1) := by decide +kernel
theorem dX0_changeInputs_6 : decode cX0_changeInputs 6 = .ok (.iload_n 1, 1) := by decide +kernel
theorem dX0_changeInputs_7 : decode cX0_changeInputs 7 = .ok (.invokevirtual 33, 3) := by decide +kernel
theorem dX0_changeInputs_10 : decode cX0_changeInputs 10 = .ok (.iload_n 2, 1) := by decide +kernel
theorem dX0_changeInputs_11 : decode cX0_changeInputs 11 = .ok (.ireturn, 1) := by decide +kernel
theorem dX0_addGate_0 : decode cX0_addGate 0 = .ok (.aload_n 0, 1) := by decide +kernel
theorem dX0_addGate_1 : decode cX0_addGate 1 = .ok (.getfield 41, 3) := by decide +kernel
theorem dX0_addGate_4 : decode cX0_addGate 4 = .ok (.istore_n 3, 1) := by decide +kernel
theorem dX0_addGate_5 : decode cX0_addGate 5 = .ok (.aload_n 0, 1) := by decide +kernel
theorem dX0_addGate_6 : decode cX0_addGate 6 = .ok (.getfield 9, 3) := by decide +kernel
theorem dX0_addGate_9 : decode cX0_addGate 9 = .ok (.iload_n 3, 1) := by decide +kernel
theorem dX0_addGate_10 : decode cX0_addGate 10 = .ok (.iload_n 1, 1) := by decide +kernel
theorem dX0_addGate_11 : decode cX0_addGate 11 = .ok (.iastore, 1) := by decide +kernel
theorem dX0_addGate_12 : decode cX0_addGate 12 = .ok (.aload_n 0, 1) := by decide +kernel
theorem dX0_addGate_13 : decode cX0_addGate 13 = .ok (.getfield 15, 3) := by decide +kernel
theorem dX0_addGate_16 : decode cX0_addGate 16 = .ok (.iload_n 3, 1) := by decide +kernel
theorem dX0_addGate_17 : decode cX0_addGate 17 = .ok (.iload_n 2, 1) := by decide +kernel
theorem dX0_addGate_18 : decode cX0_addGate 18 = .ok (.iastore, 1) := by decide +kernel
theorem dX0_addGate_19 : decode cX0_addGate 19 = .ok (.aload_n 0, 1) := by decide +kernel
theorem dX0_addGate_20 : decode cX0_addGate 20 = .ok (.getfield 18, 3) := by decide +kernel
theorem dX0_addGate_23 : decode cX0_addGate 23 = .ok (.iload_n 3, 1) := by decide +kernel
theorem dX0_addGate_24 : decode cX0_addGate 24 = .ok (.aload_n 0, 1) := by decide +kernel
theorem dX0_addGate_25 : decode cX0_addGate 25 = .ok (.iload_n 1, 1) := by decide +kernel
theorem dX0_addGate_26 : decode cX0_addGate 26 = .ok (.invokevirtual 64, 3) := by decide +kernel
theorem dX0_addGate_29 : decode cX0_addGate 29 = .ok (.aload_n 0, 1) := by decide +kernel
theorem dX0_addGate_30 : decode cX0_addGate 30 = .ok (.iload_n 2, 1) := by decide +kernel
theorem dX0_addGate_31 : decode cX0_addGate 31 = .ok (.invokevirtual 64, 3) := by decide +kernel
theorem dX0_addGate_34 : decode cX0_addGate 34 = .ok (.iand, 1) := by decide +kernel
theorem dX0_addGate_35 : decode cX0_addGate 35 = .ok (.iastore, 1) := by decide +kernel
theorem dX0_addGate_36 : decode cX0_addGate 36 = .ok (.aload_n 0, 1) := by decide +kernel
theorem dX0_addGate_37 : decode cX0_addGate 37 = .ok (.getfield 21, 3) := by decide +kernel
theorem dX0_addGate_40 : decode cX0_addGate 40 = .ok (.iload_n 3, 1) := by decide +kernel
theorem dX0_addGate_41 : decode cX0_addGate 41 = .ok (.iconst 1, 1) := by decide +kernel
theorem dX0_addGate_42 : decode cX0_addGate 42 = .ok (.aload_n 0, 1) := by decide +kernel
theorem dX0_addGate_43 : decode cX0_addGate 43 = .ok (.iload_n 1, 1) := by decide +kernel
theorem dX0_addGate_44 : decode cX0_addGate 44 = .ok (.invokevirtual 106, 3) := by decide +kernel
theorem dX0_addGate_47 : decode cX0_addGate 47 = .ok (.aload_n 0, 1) := by decide +kernel
theorem dX0_addGate_48 : decode cX0_addGate 48 = .ok (.iload_n 2, 1) := by decide +kernel
theorem dX0_addGate_49 : decode cX0_addGate 49 = .ok (.invokevirtual 106, 3) := by decide +kernel
theorem dX0_addGate_52 : decode cX0_addGate 52 = .ok (.invokestatic 109, 3) := by decide +kernel
theorem dX0_addGate_55 : decode cX0_addGate 55 = .ok (.iadd, 1) := by decide +kernel
theorem dX0_addGate_56 : decode cX0_addGate 56 = .ok (.iastore, 1) := by decide +kernel
theorem dX0_addGate_57 : decode cX0_addGate 57 = .ok (.aload_n 0, 1) := by decide +kernel
theorem dX0_addGate_58 : decode cX0_addGate 58 = .ok (.iload_n 3, 1) := by decide +kernel
theorem dX0_addGate_59 : decode cX0_addGate 59 = .ok (.iconst 1, 1) := by decide +kernel
theorem dX0_addGate_60 : decode cX0_addGate 60 = .ok (.iadd, 1) := by decide +kernel
theorem dX0_addGate_61 : decode cX0_addGate 61 = .ok (.putfield 41, 3) := by decide +kernel
theorem dX0_addGate_64 : decode cX0_addGate 64 = .ok (.iconst 2, 1) := by decide +kernel
theorem dX0_addGate_65 : decode cX0_addGate 65 = .ok (.iload_n 3, 1) := by decide +kernel
theorem dX0_addGate_66 : decode cX0_addGate 66 = .ok (.imul, 1) := by decide +kernel
theorem dX0_addGate_67 : decode cX0_addGate 67 = .ok (.ireturn, 1) := by decide +kernel
theorem dX0_addEither_0 : decode cX0_addEither 0 = .ok (.aload_n 0, 1) := by decide +kernel
theorem dX0_addEither_1 : decode cX0_addEither 1 = .ok (.iload_n 1, 1) := by decide +kernel
theorem dX0_addEither_2 : decode cX0_addEither 2 = .ok (.iload_n 2, 1) := by decide +kernel
theorem dX0_addEither_3 : decode cX0_addEither 3 = .ok (.invokevirtual 93, 3) := by decide +kernel
theorem dX0_addEither_6 : decode cX0_addEither 6 = .ok (.istore 5, 2) := by decide +kernel
theorem dX0_addEither_8 : decode cX0_addEither 8 = .ok (.aload_n 0, 1) := by decide +kernel
theorem dX0_addEither_9 : decode cX0_addEither 9 = .ok (.iload_n 3, 1) := by decide +kernel
theorem dX0_addEither_10 : decode cX0_addEither 10 = .ok (.iload 4, 2) := by decide +kernel
theorem dX0_addEither_12 : decode cX0_addEither 12 = .ok (.invokevirtual 93, 3) := by decide +kernel
theorem dX0_addEither_15 : decode cX0_addEither 15 = .ok (.istore 6, 2) := by decide +kernel
theorem dX0_addEither_17 : decode cX0_addEither 17 = .ok (.aload_n 0, 1) := by decide +kernel
theorem dX0_addEither_18 : decode cX0_addEither 18 = .ok (.iload 5, 2) := by decide +kernel
theorem dX0_addEither_20 : decode cX0_addEither 20 = .ok (.iconst 1, 1) := by decide +kernel
theorem dX0_addEither_21 : decode cX0_addEither 21 = .ok (.ixor, 1) := by decide +kernel
theorem dX0_addEither_22 : decode cX0_addEither 22 = .ok (.iload 6, 2) := by decide +kernel
theorem dX0_addEither_24 : decode cX0_addEither 24 = .ok (.iconst 1, 1) := by decide +kernel
theorem dX0_addEither_25 : decode cX0_addEither 25 = .ok (.ixor, 1) := by decide +kernel
theorem dX0_addEither_26 : decode cX0_addEither 26 = .ok (.invokevirtual 93, 3) := by decide +kernel
theorem dX0_addEither_29 : decode cX0_addEither 29 = .ok (.iconst 1, 1) := by decide +kernel
theorem dX0_addEither_30 : decode cX0_addEither 30 = .ok (.ixor, 1) := by decide +kernel
theorem dX0_addEither_31 : decode cX0_addEither 31 = .ok (.ireturn, 1) := by decide +kernel
theorem dX0_addOut_0 : decode cX0_addOut 0 = .ok (.aload_n 0, 1) := by decide +kernel
theorem dX0_addOut_1 : decode cX0_addOut 1 = .ok (.getfield 27, 3) := by decide +kernel
theorem dX0_addOut_4 : decode cX0_addOut 4 = .ok (.iload_n 1, 1) := by decide +kernel
theorem dX0_addOut_5 : decode cX0_addOut 5 = .ok (.iaload, 1) := by decide +kernel
theorem dX0_addOut_6 : decode cX0_addOut 6 = .ok (.istore_n 3, 1) := by decide +kernel
theorem dX0_addOut_7 : decode cX0_addOut 7 = .ok (.aload_n 0, 1) := by decide +kernel
theorem dX0_addOut_8 : decode cX0_addOut 8 = .ok (.getfield 24, 3) := by decide +kernel
theorem dX0_addOut_11 : decode cX0_addOut 11 = .ok (.iload_n 1, 1) := by decide +kernel
theorem dX0_addOut_12 : decode cX0_addOut 12 = .ok (.bipush 6, 2) := by decide +kernel
theorem dX0_addOut_14 : decode cX0_addOut 14 = .ok (.imul, 1) := by decide +kernel
theorem dX0_addOut_15 : decode cX0_addOut 15 = .ok (.iload_n 3, 1) := by decide +kernel
theorem dX0_addOut_16 : decode cX0_addOut 16 = .ok (.iadd, 1) := by decide +kernel
theorem dX0_addOut_17 : decode cX0_addOut 17 = .ok (.iload_n 2, 1) := by decide +kernel
theorem dX0_addOut_18 : decode cX0_addOut 18 = .ok (.iastore, 1) := by decide +kernel
theorem dX0_addOut_19 : decode cX0_addOut 19 = .ok (.aload_n 0, 1) := by decide +kernel
theorem dX0_addOut_20 : decode cX0_addOut 20 = .ok (.getfield 27, 3) := by decide +kernel
theorem dX0_addOut_23 : decode cX0_addOut 23 = .ok (.iload_n 1, 1) := by decide +kernel
theorem dX0_addOut_24 : decode cX0_addOut 24 = .ok (.iload_n 3, 1) := by decide +kernel
theorem dX0_addOut_25 : decode cX0_addOut 25 = .ok (.iconst 1, 1) := by decide +kernel
theorem dX0_addOut_26 : decode cX0_addOut 26 = .ok (.iadd, 1) := by decide +kernel
theorem dX0_addOut_27 : decode cX0_addOut 27 = .ok (.iastore, 1) := by decide +kernel
theorem dX0_addOut_28 : decode cX0_addOut 28 = .ok (.iload_n 3, 1) := by decide +kernel
theorem dX0_addOut_29 : decode cX0_addOut 29 = .ok (.ireturn, 1) := by decide +kernel
theorem dX0_addPattern_0 : decode cX0_addPattern 0 = .ok (.aload_n 0, 1) := by decide +kernel
theorem dX0_addPattern_1 : decode cX0_addPattern 1 = .ok (.getfield 30, 3) := by decide +kernel
theorem dX0_addPattern_4 : decode cX0_addPattern 4 = .ok (.aload_n 0, 1) := by decide +kernel
theorem dX0_addPattern_5 : decode cX0_addPattern 5 = .ok (.getfield 51, 3) := by decide +kernel
theorem dX0_addPattern_8 : decode cX0_addPattern 8 = .ok (.iload_n 1, 1) := by decide +kernel
theorem dX0_addPattern_9 : decode cX0_addPattern 9 = .ok (.iastore, 1) := by decide +kernel
theorem dX0_addPattern_10 : decode cX0_addPattern 10 = .ok (.aload_n 0, 1) := by decide +kernel
theorem dX0_addPattern_11 : decode cX0_addPattern 11 = .ok (.dup, 1) := by decide +kernel
theorem dX0_addPattern_12 : decode cX0_addPattern 12 = .ok (.getfield 51, 3) := by decide +kernel
theorem dX0_addPattern_15 : decode cX0_addPattern 15 = .ok (.iconst 1, 1) := by decide +kernel
theorem dX0_addPattern_16 : decode cX0_addPattern 16 = .ok (.iadd, 1) := by decide +kernel
theorem dX0_addPattern_17 : decode cX0_addPattern 17 = .ok (.putfield 51, 3) := by decide +kernel
theorem dX0_addPattern_20 : decode cX0_addPattern 20 = .ok (.aload_n 0, 1) := by decide +kernel
theorem dX0_addPattern_21 : decode cX0_addPattern 21 = .ok (.getfield 51, 3) := by decide +kernel
theorem dX0_addPattern_24 : decode cX0_addPattern 24 = .ok (.ireturn, 1) := by decide +kernel
theorem dX0_settleBy_0 : decode cX0_settleBy 0 = .ok (.aload_n 0, 1) := by decide +kernel
theorem dX0_settleBy_1 : decode cX0_settleBy 1 = .ok (.getfield 41, 3) := by decide +kernel
theorem dX0_settleBy_4 : decode cX0_settleBy 4 = .ok (.istore_n 2, 1) := by decide +kernel
theorem dX0_settleBy_5 : decode cX0_settleBy 5 = .ok (.aload_n 1, 1) := by decide +kernel
theorem dX0_settleBy_6 : decode cX0_settleBy 6 = .ok (.iload_n 2, 1) := by decide +kernel
theorem dX0_settleBy_7 : decode cX0_settleBy 7 = .ok (.invokevirtual 114, 3) := by decide +kernel
theorem dX0_settleBy_10 : decode cX0_settleBy 10 = .ok (.aload_n 0, 1) := by decide +kernel
theorem dX0_settleBy_11 : decode cX0_settleBy 11 = .ok (.aload_n 0, 1) := by decide +kernel
theorem dX0_settleBy_12 : decode cX0_settleBy 12 = .ok (.getfield 37, 3) := by decide +kernel
theorem dX0_settleBy_15 : decode cX0_settleBy 15 = .ok (.iconst 1, 1) := by decide +kernel
theorem dX0_settleBy_16 : decode cX0_settleBy 16 = .ok (.iadd, 1) := by decide +kernel
theorem dX0_settleBy_17 : decode cX0_settleBy 17 = .ok (.putfield 41, 3) := by decide +kernel
theorem dX0_settleBy_20 : decode cX0_settleBy 20 = .ok (.aload_n 0, 1) := by decide +kernel
theorem dX0_settleBy_21 : decode cX0_settleBy 21 = .ok (.getfield 37, 3) := by decide +kernel
theorem dX0_settleBy_24 : decode cX0_settleBy 24 = .ok (.iconst 1, 1) := by decide +kernel
theorem dX0_settleBy_25 : decode cX0_settleBy 25 = .ok (.iadd, 1) := by decide +kernel
theorem dX0_settleBy_26 : decode cX0_settleBy 26 = .ok (.istore_n 3, 1) := by decide +kernel
theorem dX0_settleBy_27 : decode cX0_settleBy 27 = .ok (.iload_n 3, 1) := by decide +kernel
theorem dX0_settleBy_28 : decode cX0_settleBy 28 = .ok (.iload_n 2, 1) := by decide +kernel
theorem dX0_settleBy_29 : decode cX0_settleBy 29 = .ok (.if_icmp .ge 43, 3) := by decide +kernel
theorem dX0_settleBy_32 : decode cX0_settleBy 32 = .ok (.aload_n 1, 1) := by decide +kernel
theorem dX0_settleBy_33 : decode cX0_settleBy 33 = .ok (.getfield 117, 3) := by decide +kernel
theorem dX0_settleBy_36 : decode cX0_settleBy 36 = .ok (.iload_n 3, 1) := by decide +kernel
theorem dX0_settleBy_37 : decode cX0_settleBy 37 = .ok (.iaload, 1) := by decide +kernel
theorem dX0_settleBy_38 : decode cX0_settleBy 38 = .ok (.ifCond .ne 28, 3) := by decide +kernel
theorem dX0_settleBy_41 : decode cX0_settleBy 41 = .ok (.aload_n 0, 1) := by decide +kernel
theorem dX0_settleBy_42 : decode cX0_settleBy 42 = .ok (.aload_n 1, 1) := by decide +kernel
theorem dX0_settleBy_43 : decode cX0_settleBy 43 = .ok (.aload_n 1, 1) := by decide +kernel
theorem dX0_settleBy_44 : decode cX0_settleBy 44 = .ok (.getfield 120, 3) := by decide +kernel
theorem dX0_settleBy_47 : decode cX0_settleBy 47 = .ok (.iload_n 3, 1) := by decide +kernel
theorem dX0_settleBy_48 : decode cX0_settleBy 48 = .ok (.iaload, 1) := by decide +kernel
theorem dX0_settleBy_49 : decode cX0_settleBy 49 = .ok (.invokevirtual 123, 3) := by decide +kernel
theorem dX0_settleBy_52 : decode cX0_settleBy 52 = .ok (.aload_n 1, 1) := by decide +kernel
theorem dX0_settleBy_53 : decode cX0_settleBy 53 = .ok (.aload_n 1, 1) := by decide +kernel
theorem dX0_settleBy_54 : decode cX0_settleBy 54 = .ok (.getfield 126, 3) := by decide +kernel
theorem dX0_settleBy_57 : decode cX0_settleBy 57 = .ok (.iload_n 3, 1) := by decide +kernel
theorem dX0_settleBy_58 : decode cX0_settleBy 58 = .ok (.iaload, 1) := by decide +kernel
theorem dX0_settleBy_59 : decode cX0_settleBy 59 = .ok (.invokevirtual 123, 3) := by decide +kernel
theorem dX0_settleBy_62 : decode cX0_settleBy 62 = .ok (.invokevirtual 93, 3) := by decide +kernel
theorem dX0_settleBy_65 : decode cX0_settleBy 65 = .ok (.pop, 1) := by decide +kernel
theorem dX0_settleBy_66 : decode cX0_settleBy 66 = .ok (.iinc 3 1, 3) := by decide +kernel
theorem dX0_settleBy_69 : decode cX0_settleBy 69 = .ok (.goto (-42), 3) := by decide +kernel
theorem dX0_settleBy_72 : decode cX0_settleBy 72 = .ok (.iconst 0, 1) := by decide +kernel
theorem dX0_settleBy_73 : decode cX0_settleBy 73 = .ok (.istore_n 3, 1) := by decide +kernel
theorem dX0_settleBy_74 : decode cX0_settleBy 74 = .ok (.iload_n 3, 1) := by decide +kernel
theorem dX0_settleBy_75 : decode cX0_settleBy 75 = .ok (.iconst 2, 1) := by decide +kernel
theorem dX0_settleBy_76 : decode cX0_settleBy 76 = .ok (.if_icmp .ge 15, 3) := by decide +kernel
theorem dX0_settleBy_79 : decode cX0_settleBy 79 = .ok (.aload_n 0, 1) := by decide +kernel
theorem dX0_settleBy_80 : decode cX0_settleBy 80 = .ok (.iload_n 3, 1) := by decide +kernel
theorem dX0_settleBy_81 : decode cX0_settleBy 81 = .ok (.aload_n 1, 1) := by decide +kernel
theorem dX0_settleBy_82 : decode cX0_settleBy 82 = .ok (.invokevirtual 129, 3) := by decide +kernel
theorem dX0_settleBy_85 : decode cX0_settleBy 85 = .ok (.iinc 3 1, 3) := by decide +kernel
theorem dX0_settleBy_88 : decode cX0_settleBy 88 = .ok (.goto (-14), 3) := by decide +kernel
theorem dX0_settleBy_91 : decode cX0_settleBy 91 = .ok (.iload_n 2, 1) := by decide +kernel
theorem dX0_settleBy_92 : decode cX0_settleBy 92 = .ok (.aload_n 0, 1) := by decide +kernel
theorem dX0_settleBy_93 : decode cX0_settleBy 93 = .ok (.getfield 41, 3) := by decide +kernel
theorem dX0_settleBy_96 : decode cX0_settleBy 96 = .ok (.isub, 1) := by decide +kernel
theorem dX0_settleBy_97 : decode cX0_settleBy 97 = .ok (.ireturn, 1) := by decide +kernel
theorem dX0_settleOuts_0 : decode cX0_settleOuts 0 = .ok (.iconst 0, 1) := by decide +kernel
theorem dX0_settleOuts_1 : decode cX0_settleOuts 1 = .ok (.istore_n 3, 1) := by decide +kernel
theorem dX0_settleOuts_2 : decode cX0_settleOuts 2 = .ok (.iload_n 3, 1) := by decide +kernel
theorem dX0_settleOuts_3 : decode cX0_settleOuts 3 = .ok (.aload_n 0, 1) := by decide +kernel
theorem dX0_settleOuts_4 : decode cX0_settleOuts 4 = .ok (.getfield 27, 3) := by decide +kernel
theorem dX0_settleOuts_7 : decode cX0_settleOuts 7 = .ok (.iload_n 1, 1) := by decide +kernel
theorem dX0_settleOuts_8 : decode cX0_settleOuts 8 = .ok (.iaload, 1) := by decide +kernel
theorem dX0_settleOuts_9 : decode cX0_settleOuts 9 = .ok (.if_icmp .ge 34, 3) := by decide +kernel
theorem dX0_settleOuts_12 : decode cX0_settleOuts 12 = .ok (.aload_n 0, 1) := by decide +kernel
theorem dX0_settleOuts_13 : decode cX0_settleOuts 13 = .ok (.getfield 24, 3) := by decide +kernel
theorem dX0_settleOuts_16 : decode cX0_settleOuts 16 = .ok (.iload_n 1, 1) := by decide +kernel
theorem dX0_settleOuts_17 : decode cX0_settleOuts 17 = .ok (.bipush 6, 2) := by decide +kernel
theorem dX0_settleOuts_19 : decode cX0_settleOuts 19 = .ok (.imul, 1) := by decide +kernel
theorem dX0_settleOuts_20 : decode cX0_settleOuts 20 = .ok (.iload_n 3, 1) := by decide +kernel
theorem dX0_settleOuts_21 : decode cX0_settleOuts 21 = .ok (.iadd, 1) := by decide +kernel
theorem dX0_settleOuts_22 : decode cX0_settleOuts 22 = .ok (.aload_n 2, 1) := by decide +kernel
theorem dX0_settleOuts_23 : decode cX0_settleOuts 23 = .ok (.aload_n 2, 1) := by decide +kernel
theorem dX0_settleOuts_24 : decode cX0_settleOuts 24 = .ok (.aload_n 0, 1) := by decide +kernel
theorem dX0_settleOuts_25 : decode cX0_settleOuts 25 = .ok (.iload_n 1, 1) := by decide +kernel
theorem dX0_settleOuts_26 : decode cX0_settleOuts 26 = .ok (.iload_n 3, 1) := by decide +kernel
theorem dX0_settleOuts_27 : decode cX0_settleOuts 27 = .ok (.invokevirtual 60, 3) := by decide +kernel
theorem dX0_settleOuts_30 : decode cX0_settleOuts 30 = .ok (.invokevirtual 68, 3) := by decide +kernel
theorem dX0_settleOuts_33 : decode cX0_settleOuts 33 = .ok (.invokevirtual 123, 3) := by decide +kernel
theorem dX0_settleOuts_36 : decode cX0_settleOuts 36 = .ok (.iastore, 1) := by decide +kernel
theorem dX0_settleOuts_37 : decode cX0_settleOuts 37 = .ok (.iinc 3 1, 3) := by decide +kernel
theorem dX0_settleOuts_40 : decode cX0_settleOuts 40 = .ok (.goto (-38), 3) := by decide +kernel
theorem dX0_settleOuts_43 : decode cX0_settleOuts 43 = .ok (.return_, 1) := by decide +kernel
theorem dX0_digestCounts_0 : decode cX0_digestCounts 0 = .ok (.iconst 0, 1) := by decide +kernel
theorem dX0_digestCounts_1 : decode cX0_digestCounts 1 = .ok (.istore_n 3, 1) := by decide +kernel
theorem dX0_digestCounts_2 : decode cX0_digestCounts 2 = .ok (.iload_n 3, 1) := by decide +kernel
theorem dX0_digestCounts_3 : decode cX0_digestCounts 3 = .ok (.iconst 4, 1) := by decide +kernel
theorem dX0_digestCounts_4 : decode cX0_digestCounts 4 = .ok (.if_icmp .gt 22, 3) := by decide +kernel
theorem dX0_digestCounts_7 : decode cX0_digestCounts 7 = .ok (.ldc2_w 133, 3) := by decide +kernel
theorem dX0_digestCounts_10 : decode cX0_digestCounts 10 = .ok (.lload_n 1, 1) := by decide +kernel
theorem dX0_digestCounts_11 : decode cX0_digestCounts 11 = .ok (.lmul, 1) := by decide +kernel
theorem dX0_digestCounts_12 : decode cX0_digestCounts 12 = .ok (.aload_n 0, 1) := by decide +kernel
theorem dX0_digestCounts_13 : decode cX0_digestCounts 13 = .ok (.iload_n 3, 1) := by decide +kernel
theorem dX0_digestCounts_14 : decode cX0_digestCounts 14 = .ok (.invokevirtual 135, 3) := by decide +kernel
theorem dX0_digestCounts_17 : decode cX0_digestCounts 17 = .ok (.i2l, 1) := by decide +kernel
theorem dX0_digestCounts_18 : decode cX0_digestCounts 18 = .ok (.ladd, 1) := by decide +kernel
theorem dX0_digestCounts_19 : decode cX0_digestCounts 19 = .ok (.lstore_n 1, 1) := by decide +kernel
theorem dX0_digestCounts_20 : decode cX0_digestCounts 20 = .ok (.iinc 3 1, 3) := by decide +kernel
theorem dX0_digestCounts_23 : decode cX0_digestCounts 23 = .ok (.goto (-21), 3) := by decide +kernel
theorem dX0_digestCounts_26 : decode cX0_digestCounts 26 = .ok (.lload_n 1, 1) := by decide +kernel
theorem dX0_digestCounts_27 : decode cX0_digestCounts 27 = .ok (.lreturn, 1) := by decide +kernel
theorem dX0_digestNode_0 : decode cX0_digestNode 0 = .ok (.aload_n 0, 1) := by decide +kernel
theorem dX0_digestNode_1 : decode cX0_digestNode 1 = .ok (.iload_n 3, 1) := by decide +kernel
theorem dX0_digestNode_2 : decode cX0_digestNode 2 = .ok (.invokevirtual 138, 3) := by decide +kernel
theorem dX0_digestNode_5 : decode cX0_digestNode 5 = .ok (.ifCond .eq 31, 3) := by decide +kernel
theorem dX0_digestNode_8 : decode cX0_digestNode 8 = .ok (.ldc2_w 133, 3) := by decide +kernel
theorem dX0_digestNode_11 : decode cX0_digestNode 11 = .ok (.lload_n 1, 1) := by decide +kernel
theorem dX0_digestNode_12 : decode cX0_digestNode 12 = .ok (.lmul, 1) := by decide +kernel
theorem dX0_digestNode_13 : decode cX0_digestNode 13 = .ok (.aload_n 0, 1) := by decide +kernel
theorem dX0_digestNode_14 : decode cX0_digestNode 14 = .ok (.getfield 9, 3) := by decide +kernel
theorem dX0_digestNode_17 : decode cX0_digestNode 17 = .ok (.iload_n 3, 1) := by decide +kernel
theorem dX0_digestNode_18 : decode cX0_digestNode 18 = .ok (.iaload, 1) := by decide +kernel
theorem dX0_digestNode_19 : decode cX0_digestNode 19 = .ok (.i2l, 1) := by decide +kernel
theorem dX0_digestNode_20 : decode cX0_digestNode 20 = .ok (.ladd, 1) := by decide +kernel
theorem dX0_digestNode_21 : decode cX0_digestNode 21 = .ok (.lstore_n 1, 1) := by decide +kernel
theorem dX0_digestNode_22 : decode cX0_digestNode 22 = .ok (.ldc2_w 133, 3) := by decide +kernel
theorem dX0_digestNode_25 : decode cX0_digestNode 25 = .ok (.lload_n 1, 1) := by decide +kernel
theorem dX0_digestNode_26 : decode cX0_digestNode 26 = .ok (.lmul, 1) := by decide +kernel
theorem dX0_digestNode_27 : decode cX0_digestNode 27 = .ok (.aload_n 0, 1) := by decide +kernel
theorem dX0_digestNode_28 : decode cX0_digestNode 28 = .ok (.getfield 15, 3) := by decide +kernel
theorem dX0_digestNode_31 : decode cX0_digestNode 31 = .ok (.iload_n 3, 1) := by decide +kernel
theorem dX0_digestNode_32 : decode cX0_digestNode 32 = .ok (.iaload, 1) := by decide +kernel
theorem dX0_digestNode_33 : decode cX0_digestNode 33 = .ok (.i2l, 1) := by decide +kernel
theorem dX0_digestNode_34 : decode cX0_digestNode 34 = .ok (.ladd, 1) := by decide +kernel
theorem dX0_digestNode_35 : decode cX0_digestNode 35 = .ok (.lstore_n 1, 1) := by decide +kernel
theorem dX0_digestNode_36 : decode cX0_digestNode 36 = .ok (.ldc2_w 133, 3) := by decide +kernel
theorem dX0_digestNode_39 : decode cX0_digestNode 39 = .ok (.lload_n 1, 1) := by decide +kernel
theorem dX0_digestNode_40 : decode cX0_digestNode 40 = .ok (.lmul, 1) := by decide +kernel
theorem dX0_digestNode_41 : decode cX0_digestNode 41 = .ok (.aload_n 0, 1) := by decide +kernel
theorem dX0_digestNode_42 : decode cX0_digestNode 42 = .ok (.getfield 18, 3) := by decide +kernel
theorem dX0_digestNode_45 : decode cX0_digestNode 45 = .ok (.iload_n 3, 1) := by decide +kernel
theorem dX0_digestNode_46 : decode cX0_digestNode 46 = .ok (.iaload, 1) := by decide +kernel
theorem dX0_digestNode_47 : decode cX0_digestNode 47 = .ok (.i2l, 1) := by decide +kernel
theorem dX0_digestNode_48 : decode cX0_digestNode 48 = .ok (.ladd, 1) := by decide +kernel
theorem dX0_digestNode_49 : decode cX0_digestNode 49 = .ok (.lstore_n 1, 1) := by decide +kernel
theorem dX0_digestNode_50 : decode cX0_digestNode 50 = .ok (.ldc2_w 133, 3) := by decide +kernel
theorem dX0_digestNode_53 : decode cX0_digestNode 53 = .ok (.lload_n 1, 1) := by decide +kernel
theorem dX0_digestNode_54 : decode cX0_digestNode 54 = .ok (.lmul, 1) := by decide +kernel
theorem dX0_digestNode_55 : decode cX0_digestNode 55 = .ok (.aload_n 0, 1) := by decide +kernel
theorem dX0_digestNode_56 : decode cX0_digestNode 56 = .ok (.iload_n 3, 1) := by decide +kernel
theorem dX0_digestNode_57 : decode cX0_digestNode 57 = .ok (.invokevirtual 141, 3) := by decide +kernel
theorem dX0_digestNode_60 : decode cX0_digestNode 60 = .ok (.i2l, 1) := by decide +kernel
theorem dX0_digestNode_61 : decode cX0_digestNode 61 = .ok (.ladd, 1) := by decide +kernel
theorem dX0_digestNode_62 : decode cX0_digestNode 62 = .ok (.lreturn, 1) := by decide +kernel
theorem dX0_digestOuts_0 : decode cX0_digestOuts 0 = .ok (.iconst 0, 1) := by decide +kernel
theorem dX0_digestOuts_1 : decode cX0_digestOuts 1 = .ok (.istore_n 3, 1) := by decide +kernel
theorem dX0_digestOuts_2 : decode cX0_digestOuts 2 = .ok (.iload_n 3, 1) := by decide +kernel
theorem dX0_digestOuts_3 : decode cX0_digestOuts 3 = .ok (.iconst 2, 1) := by decide +kernel
theorem dX0_digestOuts_4 : decode cX0_digestOuts 4 = .ok (.if_icmp .ge 44, 3) := by decide +kernel
theorem dX0_digestOuts_7 : decode cX0_digestOuts 7 = .ok (.iconst 0, 1) := by decide +kernel
theorem dX0_digestOuts_8 : decode cX0_digestOuts 8 = .ok (.istore 4, 2) := by decide +kernel
theorem dX0_digestOuts_10 : decode cX0_digestOuts 10 = .ok (.iload 4, 2) := by decide +kernel
theorem dX0_digestOuts_12 : decode cX0_digestOuts 12 = .ok (.aload_n 0, 1) := by decide +kernel
theorem dX0_digestOuts_13 : decode cX0_digestOuts 13 = .ok (.getfield 27, 3) := by decide +kernel
theorem dX0_digestOuts_16 : decode cX0_digestOuts 16 = .ok (.iload_n 3, 1) := by decide +kernel
theorem dX0_digestOuts_17 : decode cX0_digestOuts 17 = .ok (.iaload, 1) := by decide +kernel
theorem dX0_digestOuts_18 : decode cX0_digestOuts 18 = .ok (.if_icmp .ge 24, 3) := by decide +kernel
theorem dX0_digestOuts_21 : decode cX0_digestOuts 21 = .ok (.ldc2_w 133, 3) := by decide +kernel
theorem dX0_digestOuts_24 : decode cX0_digestOuts 24 = .ok (.lload_n 1, 1) := by decide +kernel
theorem dX0_digestOuts_25 : decode cX0_digestOuts 25 = .ok (.lmul, 1) := by decide +kernel
theorem dX0_digestOuts_26 : decode cX0_digestOuts 26 = .ok (.aload_n 0, 1) := by decide +kernel
theorem dX0_digestOuts_27 : decode cX0_digestOuts 27 = .ok (.iload_n 3, 1) := by decide +kernel
theorem dX0_digestOuts_28 : decode cX0_digestOuts 28 = .ok (.iload 4, 2) := by decide +kernel
theorem dX0_digestOuts_30 : decode cX0_digestOuts 30 = .ok (.invokevirtual 60, 3) := by decide +kernel
theorem dX0_digestOuts_33 : decode cX0_digestOuts 33 = .ok (.i2l, 1) := by decide +kernel
theorem dX0_digestOuts_34 : decode cX0_digestOuts 34 = .ok (.ladd, 1) := by decide +kernel
theorem dX0_digestOuts_35 : decode cX0_digestOuts 35 = .ok (.lstore_n 1, 1) := by decide +kernel
theorem dX0_digestOuts_36 : decode cX0_digestOuts 36 = .ok (.iinc 4 1, 3) := by decide +kernel
theorem dX0_digestOuts_39 : decode cX0_digestOuts 39 = .ok (.goto (-29), 3) := by decide +kernel
theorem dX0_digestOuts_42 : decode cX0_digestOuts 42 = .ok (.iinc 3 1, 3) := by decide +kernel
theorem dX0_digestOuts_45 : decode cX0_digestOuts 45 = .ok (.goto (-43), 3) := by decide +kernel
theorem dX0_digestOuts_48 : decode cX0_digestOuts 48 = .ok (.lload_n 1, 1) := by decide +kernel
theorem dX0_digestOuts_49 : decode cX0_digestOuts 49 = .ok (.lreturn, 1) := by decide +kernel
theorem dX1_init_0 : decode cX1_init 0 = .ok (.aload_n 0, 1) := by decide +kernel
theorem dX1_init_1 : decode cX1_init 1 = .ok (.invokespecial 3, 3) := by decide +kernel
theorem dX1_init_4 : decode cX1_init 4 = .ok (.aload_n 0, 1) := by decide +kernel
theorem dX1_init_5 : decode cX1_init 5 = .ok (.iconst 5, 1) := by decide +kernel
theorem dX1_init_6 : decode cX1_init 6 = .ok (.anewarray 9, 3) := by decide +kernel
theorem dX1_init_9 : decode cX1_init 9 = .ok (.putfield 11, 3) := by decide +kernel
theorem dX1_init_12 : decode cX1_init 12 = .ok (.iconst 0, 1) := by decide +kernel
theorem dX1_init_13 : decode cX1_init 13 = .ok (.istore_n 1, 1) := by decide +kernel
theorem dX1_init_14 : decode cX1_init 14 = .ok (.iload_n 1, 1) := by decide +kernel
theorem dX1_init_15 : decode cX1_init 15 = .ok (.iconst 5, 1) := by decide +kernel
theorem dX1_init_16 : decode cX1_init 16 = .ok (.if_icmp .ge 22, 3) := by decide +kernel
theorem dX1_init_19 : decode cX1_init 19 = .ok (.aload_n 0, 1) := by decide +kernel
theorem dX1_init_20 : decode cX1_init 20 = .ok (.getfield 11, 3) := by decide +kernel
theorem dX1_init_23 : decode cX1_init 23 = .ok (.iload_n 1, 1) := by decide +kernel
theorem dX1_init_24 : decode cX1_init 24 = .ok (.new 9, 3) := by decide +kernel
theorem dX1_init_27 : decode cX1_init 27 = .ok (.dup, 1) := by decide +kernel
theorem dX1_init_28 : decode cX1_init 28 = .ok (.invokespecial 17, 3) := by decide +kernel
theorem dX1_init_31 : decode cX1_init 31 = .ok (.aastore, 1) := by decide +kernel
theorem dX1_init_32 : decode cX1_init 32 = .ok (.iinc 1 1, 3) := by decide +kernel
theorem dX1_init_35 : decode cX1_init 35 = .ok (.goto (-21), 3) := by decide +kernel
theorem dX1_init_38 : decode cX1_init 38 = .ok (.return_, 1) := by decide +kernel
theorem dX1_keep_0 : decode cX1_keep 0 = .ok (.aload_n 0, 1) := by decide +kernel
theorem dX1_keep_1 : decode cX1_keep 1 = .ok (.aload_n 0, 1) := by decide +kernel
theorem dX1_keep_2 : decode cX1_keep 2 = .ok (.getfield 18, 3) := by decide +kernel
theorem dX1_keep_5 : decode cX1_keep 5 = .ok (.iconst 4, 1) := by decide +kernel
theorem dX1_keep_6 : decode cX1_keep 6 = .ok (.if_icmp .ne 7, 3) := by decide +kernel
theorem dX1_keep_9 : decode cX1_keep 9 = .ok (.iconst 0, 1) := by decide +kernel
theorem dX1_keep_10 : decode cX1_keep 10 = .ok (.goto 9, 3) := by decide +kernel
theorem dX1_keep_13 : decode cX1_keep 13 = .ok (.aload_n 0, 1) := by decide +kernel
theorem dX1_keep_14 : decode cX1_keep 14 = .ok (.getfield 18, 3) := by decide +kernel
theorem dX1_keep_17 : decode cX1_keep 17 = .ok (.iconst 1, 1) := by decide +kernel
theorem dX1_keep_18 : decode cX1_keep 18 = .ok (.iadd, 1) := by decide +kernel
theorem dX1_keep_19 : decode cX1_keep 19 = .ok (.putfield 18, 3) := by decide +kernel
theorem dX1_keep_22 : decode cX1_keep 22 = .ok (.aload_n 0, 1) := by decide +kernel
theorem dX1_keep_23 : decode cX1_keep 23 = .ok (.getfield 11, 3) := by decide +kernel
theorem dX1_keep_26 : decode cX1_keep 26 = .ok (.aload_n 0, 1) := by decide +kernel
theorem dX1_keep_27 : decode cX1_keep 27 = .ok (.getfield 18, 3) := by decide +kernel
theorem dX1_keep_30 : decode cX1_keep 30 = .ok (.aaload, 1) := by decide +kernel
theorem dX1_keep_31 : decode cX1_keep 31 = .ok (.aload_n 1, 1) := by decide +kernel
theorem dX1_keep_32 : decode cX1_keep 32 = .ok (.invokevirtual 22, 3) := by decide +kernel
theorem dX1_keep_35 : decode cX1_keep 35 = .ok (.aload_n 0, 1) := by decide +kernel
theorem dX1_keep_36 : decode cX1_keep 36 = .ok (.aload_n 0, 1) := by decide +kernel
theorem dX1_keep_37 : decode cX1_keep 37 = .ok (.getfield 26, 3) := by decide +kernel
theorem dX1_keep_40 : decode cX1_keep 40 = .ok (.iconst 1, 1) := by decide +kernel
theorem dX1_keep_41 : decode cX1_keep 41 = .ok (.iadd, 1) := by decide +kernel
theorem dX1_keep_42 : decode cX1_keep 42 = .ok (.iconst 5, 1) := by decide +kernel
theorem dX1_keep_43 : decode cX1_keep 43 = .ok (.invokestatic 29, 3) := by decide +kernel
theorem dX1_keep_46 : decode cX1_keep 46 = .ok (.putfield 26, 3) := by decide +kernel
theorem dX1_keep_49 : decode cX1_keep 49 = .ok (.return_, 1) := by decide +kernel
theorem dX1_restore_0 : decode cX1_restore 0 = .ok (.aload_n 1, 1) := by decide +kernel
theorem dX1_restore_1 : decode cX1_restore 1 = .ok (.aload_n 0, 1) := by decide +kernel
theorem dX1_restore_2 : decode cX1_restore 2 = .ok (.getfield 11, 3) := by decide +kernel
theorem dX1_restore_5 : decode cX1_restore 5 = .ok (.aload_n 0, 1) := by decide +kernel
theorem dX1_restore_6 : decode cX1_restore 6 = .ok (.getfield 18, 3) := by decide +kernel
theorem dX1_restore_9 : decode cX1_restore 9 = .ok (.aaload, 1) := by decide +kernel
theorem dX1_restore_10 : decode cX1_restore 10 = .ok (.invokevirtual 22, 3) := by decide +kernel
theorem dX1_restore_13 : decode cX1_restore 13 = .ok (.aload_n 0, 1) := by decide +kernel
theorem dX1_restore_14 : decode cX1_restore 14 = .ok (.aload_n 0, 1) := by decide +kernel
theorem dX1_restore_15 : decode cX1_restore 15 = .ok (.getfield 18, 3) := by decide +kernel
theorem dX1_restore_18 : decode cX1_restore 18 = .ok (.ifCond .ne 7, 3) := by decide +kernel
theorem dX1_restore_21 : decode cX1_restore 21 = .ok (.iconst 4, 1) := by decide +kernel
theorem dX1_restore_22 : decode cX1_restore 22 = .ok (.goto 9, 3) := by decide +kernel
theorem dX1_restore_25 : decode cX1_restore 25 = .ok (.aload_n 0, 1) := by decide +kernel
theorem dX1_restore_26 : decode cX1_restore 26 = .ok (.getfield 18, 3) := by decide +kernel
theorem dX1_restore_29 : decode cX1_restore 29 = .ok (.iconst 1, 1) := by decide +kernel
theorem dX1_restore_30 : decode cX1_restore 30 = .ok (.isub, 1) := by decide +kernel
theorem dX1_restore_31 : decode cX1_restore 31 = .ok (.putfield 18, 3) := by decide +kernel
theorem dX1_restore_34 : decode cX1_restore 34 = .ok (.aload_n 0, 1) := by decide +kernel
theorem dX1_restore_35 : decode cX1_restore 35 = .ok (.dup, 1) := by decide +kernel
theorem dX1_restore_36 : decode cX1_restore 36 = .ok (.getfield 26, 3) := by decide +kernel
theorem dX1_restore_39 : decode cX1_restore 39 = .ok (.iconst 1, 1) := by decide +kernel
theorem dX1_restore_40 : decode cX1_restore 40 = .ok (.isub, 1) := by decide +kernel
theorem dX1_restore_41 : decode cX1_restore 41 = .ok (.putfield 26, 3) := by decide +kernel
theorem dX1_restore_44 : decode cX1_restore 44 = .ok (.return_, 1) := by decide +kernel
theorem dX2_init_0 : decode cX2_init 0 = .ok (.aload_n 0, 1) := by decide +kernel
theorem dX2_init_1 : decode cX2_init 1 = .ok (.invokespecial 3, 3) := by decide +kernel
theorem dX2_init_4 : decode cX2_init 4 = .ok (.aload_n 0, 1) := by decide +kernel
theorem dX2_init_5 : decode cX2_init 5 = .ok (.sipush 150, 3) := by decide +kernel
theorem dX2_init_8 : decode cX2_init 8 = .ok (.newarray .int, 2) := by decide +kernel
theorem dX2_init_10 : decode cX2_init 10 = .ok (.putfield 9, 3) := by decide +kernel
theorem dX2_init_13 : decode cX2_init 13 = .ok (.aload_n 0, 1) := by decide +kernel
theorem dX2_init_14 : decode cX2_init 14 = .ok (.bipush 50, 2) := by decide +kernel
theorem dX2_init_16 : decode cX2_init 16 = .ok (.newarray .int, 2) := by decide +kernel
theorem dX2_init_18 : decode cX2_init 18 = .ok (.putfield 15, 3) := by decide +kernel
theorem dX2_init_21 : decode cX2_init 21 = .ok (.aload_n 0, 1) := by decide +kernel
theorem dX2_init_22 : decode cX2_init 22 = .ok (.sipush 150, 3) := by decide +kernel
theorem dX2_init_25 : decode cX2_init 25 = .ok (.newarray .int, 2) := by decide +kernel
theorem dX2_init_27 : decode cX2_init 27 = .ok (.putfield 18, 3) := by decide +kernel
theorem dX2_init_30 : decode cX2_init 30 = .ok (.return_, 1) := by decide +kernel
theorem dX2_append_0 : decode cX2_append 0 = .ok (.aload_n 0, 1) := by decide +kernel
theorem dX2_append_1 : decode cX2_append 1 = .ok (.getfield 9, 3) := by decide +kernel
theorem dX2_append_4 : decode cX2_append 4 = .ok (.aload_n 0, 1) := by decide +kernel
theorem dX2_append_5 : decode cX2_append 5 = .ok (.getfield 21, 3) := by decide +kernel
theorem dX2_append_8 : decode cX2_append 8 = .ok (.iload_n 1, 1) := by decide +kernel
theorem dX2_append_9 : decode cX2_append 9 = .ok (.iastore, 1) := by decide +kernel
theorem dX2_append_10 : decode cX2_append 10 = .ok (.aload_n 0, 1) := by decide +kernel
theorem dX2_append_11 : decode cX2_append 11 = .ok (.dup, 1) := by decide +kernel
theorem dX2_append_12 : decode cX2_append 12 = .ok (.getfield 21, 3) := by decide +kernel
theorem dX2_append_15 : decode cX2_append 15 = .ok (.iconst 1, 1) := by decide +kernel
theorem dX2_append_16 : decode cX2_append 16 = .ok (.iadd, 1) := by decide +kernel
theorem dX2_append_17 : decode cX2_append 17 = .ok (.putfield 21, 3) := by decide +kernel
theorem dX2_append_20 : decode cX2_append 20 = .ok (.aload_n 0, 1) := by decide +kernel
theorem dX2_append_21 : decode cX2_append 21 = .ok (.getfield 21, 3) := by decide +kernel
theorem dX2_append_24 : decode cX2_append 24 = .ok (.ireturn, 1) := by decide +kernel
theorem dX2_numberOf_0 : decode cX2_numberOf 0 = .ok (.aload_n 0, 1) := by decide +kernel
theorem dX2_numberOf_1 : decode cX2_numberOf 1 = .ok (.getfield 18, 3) := by decide +kernel
theorem dX2_numberOf_4 : decode cX2_numberOf 4 = .ok (.iload_n 1, 1) := by decide +kernel
theorem dX2_numberOf_5 : decode cX2_numberOf 5 = .ok (.iconst 3, 1) := by decide +kernel
theorem dX2_numberOf_6 : decode cX2_numberOf 6 = .ok (.imul, 1) := by decide +kernel
theorem dX2_numberOf_7 : decode cX2_numberOf 7 = .ok (.iload_n 2, 1) := by decide +kernel
theorem dX2_numberOf_8 : decode cX2_numberOf 8 = .ok (.iadd, 1) := by decide +kernel
theorem dX2_numberOf_9 : decode cX2_numberOf 9 = .ok (.iaload, 1) := by decide +kernel
theorem dX2_numberOf_10 : decode cX2_numberOf 10 = .ok (.ireturn, 1) := by decide +kernel
theorem dX2_readFault_0 : decode cX2_readFault 0 = .ok (.aload_n 0, 1) := by decide +kernel
theorem dX2_readFault_1 : decode cX2_readFault 1 = .ok (.iconst 0, 1) := by decide +kernel
theorem dX2_readFault_2 : decode cX2_readFault 2 = .ok (.putfield 25, 3) := by decide +kernel
theorem dX2_readFault_5 : decode cX2_readFault 5 = .ok (.aload_n 0, 1) := by decide +kernel
theorem dX2_readFault_6 : decode cX2_readFault 6 = .ok (.iconst (-1), 1) := by decide +kernel
theorem dX2_readFault_7 : decode cX2_readFault 7 = .ok (.putfield 28, 3) := by decide +kernel
theorem dX2_readFault_10 : decode cX2_readFault 10 = .ok (.iconst 0, 1) := by decide +kernel
theorem dX2_readFault_11 : decode cX2_readFault 11 = .ok (.istore_n 1, 1) := by decide +kernel
theorem dX2_readFault_12 : decode cX2_readFault 12 = .ok (.iload_n 1, 1) := by decide +kernel
theorem dX2_readFault_13 : decode cX2_readFault 13 = .ok (.aload_n 0, 1) := by decide +kernel
theorem dX2_readFault_14 : decode cX2_readFault 14 = .ok (.getfield 21, 3) := by decide +kernel
theorem dX2_readFault_17 : decode cX2_readFault 17 = .ok (.if_icmp .ge 24, 3) := by decide +kernel
theorem dX2_readFault_20 : decode cX2_readFault 20 = .ok (.aload_n 0, 1) := by decide +kernel
theorem dX2_readFault_21 : decode cX2_readFault 21 = .ok (.aload_n 0, 1) := by decide +kernel
theorem dX2_readFault_22 : decode cX2_readFault 22 = .ok (.getfield 9, 3) := by decide +kernel
theorem dX2_readFault_25 : decode cX2_readFault 25 = .ok (.iload_n 1, 1) := by decide +kernel
theorem dX2_readFault_26 : decode cX2_readFault 26 = .ok (.iaload, 1) := by decide +kernel
theorem dX2_readFault_27 : decode cX2_readFault 27 = .ok (.invokevirtual 31, 3) := by decide +kernel
theorem dX2_readFault_30 : decode cX2_readFault 30 = .ok (.ifCond .ne 5, 3) := by decide +kernel
theorem dX2_readFault_33 : decode cX2_readFault 33 = .ok (.iload_n 1, 1) := by decide +kernel
theorem dX2_readFault_34 : decode cX2_readFault 34 = .ok (.ireturn, 1) := by decide +kernel
theorem dX2_readFault_35 : decode cX2_readFault 35 = .ok (.iinc 1 1, 3) := by decide +kernel
theorem dX2_readFault_38 : decode cX2_readFault 38 = .ok (.goto (-26), 3) := by decide +kernel
theorem dX2_readFault_41 : decode cX2_readFault 41 = .ok (.aload_n 0, 1) := by decide +kernel
theorem dX2_readFault_42 : decode cX2_readFault 42 = .ok (.getfield 28, 3) := by decide +kernel
theorem dX2_readFault_45 : decode cX2_readFault 45 = .ok (.iconst (-1), 1) := by decide +kernel
theorem dX2_readFault_46 : decode cX2_readFault 46 = .ok (.if_icmp .ne 14, 3) := by decide +kernel
theorem dX2_readFault_49 : decode cX2_readFault 49 = .ok (.aload_n 0, 1) := by decide +kernel
theorem dX2_readFault_50 : decode cX2_readFault 50 = .ok (.getfield 25, 3) := by decide +kernel
theorem dX2_readFault_53 : decode cX2_readFault 53 = .ok (.ifCond .le 7, 3) := by decide +kernel
theorem dX2_readFault_56 : decode cX2_readFault 56 = .ok (.iconst (-1), 1) := by decide +kernel
theorem dX2_readFault_57 : decode cX2_readFault 57 = .ok (.goto 7, 3) := by decide +kernel
theorem dX2_readFault_60 : decode cX2_readFault 60 = .ok (.aload_n 0, 1) := by decide +kernel
theorem dX2_readFault_61 : decode cX2_readFault 61 = .ok (.getfield 21, 3) := by decide +kernel
theorem dX2_readFault_64 : decode cX2_readFault 64 = .ok (.ireturn, 1) := by decide +kernel
theorem dX2_takes_0 : decode cX2_takes 0 = .ok (.iload_n 1, 1) := by decide +kernel
theorem dX2_takes_1 : decode cX2_takes 1 = .ok (.bipush 32, 2) := by decide +kernel
theorem dX2_takes_3 : decode cX2_takes 3 = .ok (.if_icmp .ne 10, 3) := by decide +kernel
theorem dX2_takes_6 : decode cX2_takes 6 = .ok (.aload_n 0, 1) := by decide +kernel
theorem dX2_takes_7 : decode cX2_takes 7 = .ok (.iconst 0, 1) := by decide +kernel
theorem dX2_takes_8 : decode cX2_takes 8 = .ok (.putfield 35, 3) := by decide +kernel
theorem dX2_takes_11 : decode cX2_takes 11 = .ok (.iconst 1, 1) := by decide +kernel
theorem dX2_takes_12 : decode cX2_takes 12 = .ok (.ireturn, 1) := by decide +kernel
theorem dX2_takes_13 : decode cX2_takes 13 = .ok (.aload_n 0, 1) := by decide +kernel
theorem dX2_takes_14 : decode cX2_takes 14 = .ok (.getfield 28, 3) := by decide +kernel
theorem dX2_takes_17 : decode cX2_takes 17 = .ok (.iconst (-1), 1) := by decide +kernel
theorem dX2_takes_18 : decode cX2_takes 18 = .ok (.if_icmp .ne 9, 3) := by decide +kernel
theorem dX2_takes_21 : decode cX2_takes 21 = .ok (.aload_n 0, 1) := by decide +kernel
theorem dX2_takes_22 : decode cX2_takes 22 = .ok (.iload_n 1, 1) := by decide +kernel
theorem dX2_takes_23 : decode cX2_takes 23 = .ok (.invokevirtual 38, 3) := by decide +kernel
theorem dX2_takes_26 : decode cX2_takes 26 = .ok (.ireturn, 1) := by decide +kernel
theorem dX2_takes_27 : decode cX2_takes 27 = .ok (.iload_n 1, 1) := by decide +kernel
theorem dX2_takes_28 : decode cX2_takes 28 = .ok (.bipush 59, 2) := by decide +kernel
theorem dX2_takes_30 : decode cX2_takes 30 = .ok (.if_icmp .ne 8, 3) := by decide +kernel
theorem dX2_takes_33 : decode cX2_takes 33 = .ok (.aload_n 0, 1) := by decide +kernel
theorem dX2_takes_34 : decode cX2_takes 34 = .ok (.invokevirtual 41, 3) := by decide +kernel
theorem dX2_takes_37 : decode cX2_takes 37 = .ok (.ireturn, 1) := by decide +kernel
theorem dX2_takes_38 : decode cX2_takes 38 = .ok (.iload_n 1, 1) := by decide +kernel
theorem dX2_takes_39 : decode cX2_takes 39 = .ok (.bipush 48, 2) := by decide +kernel
theorem dX2_takes_41 : decode cX2_takes 41 = .ok (.if_icmp .lt 24, 3) := by decide +kernel
theorem dX2_takes_44 : decode cX2_takes 44 = .ok (.iload_n 1, 1) := by decide +kernel
theorem dX2_takes_45 : decode cX2_takes 45 = .ok (.bipush 57, 2) := by decide +kernel
theorem dX2_takes_47 : decode cX2_takes 47 = .ok (.if_icmp .gt 18, 3) := by decide +kernel
theorem dX2_takes_50 : decode cX2_takes 50 = .ok (.aload_n 0, 1) := by decide +kernel
theorem dX2_takes_51 : decode cX2_takes 51 = .ok (.iload_n 1, 1) := by decide +kernel
theorem dX2_takes_52 : decode cX2_takes 52 = .ok (.bipush 48, 2) := by decide +kernel
theorem dX2_takes_54 : decode cX2_takes 54 = .ok (.isub, 1) := by decide +kernel
theorem dX2_takes_55 : decode cX2_takes 55 = .ok (.invokevirtual 45, 3) := by decide +kernel
theorem dX2_takes_58 : decode cX2_takes 58 = .ok (.ifCond .eq 7, 3) := by decide +kernel
theorem dX2_takes_61 : decode cX2_takes 61 = .ok (.iconst 1, 1) := by decide +kernel
theorem dX2_takes_62 : decode cX2_takes 62 = .ok (.goto 4, 3) := by decide +kernel
theorem dX2_takes_65 : decode cX2_takes 65 = .ok (.iconst 0, 1) := by decide +kernel
theorem dX2_takes_66 : decode cX2_takes 66 = .ok (.ireturn, 1) := by decide +kernel
theorem dX2_opensOrder_0 : decode cX2_opensOrder 0 = .ok (.ldc 48, 2) := by decide +kernel
theorem dX2_opensOrder_2 : decode cX2_opensOrder 2 = .ok (.iload_n 1, 1) := by decide +kernel
theorem dX2_opensOrder_3 : decode cX2_opensOrder 3 = .ok (.i2c, 1) := by decide +kernel
theorem dX2_opensOrder_4 : decode cX2_opensOrder 4 = .ok (.invokevirtual 50, 3) := by decide +kernel
theorem dX2_opensOrder_7 : decode cX2_opensOrder 7 = .ok (.istore_n 2, 1) := by decide +kernel
theorem dX2_opensOrder_8 : decode cX2_opensOrder 8 = .ok (.iload_n 2, 1) := by decide +kernel
theorem dX2_opensOrder_9 : decode cX2_opensOrder 9 = .ok (.ifCond .lt 12, 3) := by decide +kernel
theorem dX2_opensOrder_12 : decode cX2_opensOrder 12 = .ok (.aload_n 0, 1) := by decide +kernel
theorem dX2_opensOrder_13 : decode cX2_opensOrder 13 = .ok (.getfield 25, 3) := by decide +kernel
theorem dX2_opensOrder_16 : decode cX2_opensOrder 16 = .ok (.bipush 50, 2) := by decide +kernel
theorem dX2_opensOrder_18 : decode cX2_opensOrder 18 = .ok (.if_icmp .lt 5, 3) := by decide +kernel
theorem dX2_opensOrder_21 : decode cX2_opensOrder 21 = .ok (.iconst 0, 1) := by decide +kernel
theorem dX2_opensOrder_22 : decode cX2_opensOrder 22 = .ok (.ireturn, 1) := by decide +kernel
theorem dX2_opensOrder_23 : decode cX2_opensOrder 23 = .ok (.aload_n 0, 1) := by decide +kernel
theorem dX2_opensOrder_24 : decode cX2_opensOrder 24 = .ok (.iload_n 2, 1) := by decide +kernel
theorem dX2_opensOrder_25 : decode cX2_opensOrder 25 = .ok (.putfield 28, 3) := by decide +kernel
theorem dX2_opensOrder_28 : decode cX2_opensOrder 28 = .ok (.aload_n 0, 1) := by decide +kernel
theorem dX2_opensOrder_29 : decode cX2_opensOrder 29 = .ok (.iconst 0, 1) := by decide +kernel
theorem dX2_opensOrder_30 : decode cX2_opensOrder 30 = .ok (.putfield 56, 3) := by decide +kernel
theorem dX2_opensOrder_33 : decode cX2_opensOrder 33 = .ok (.aload_n 0, 1) := by decide +kernel
theorem dX2_opensOrder_34 : decode cX2_opensOrder 34 = .ok (.iconst 0, 1) := by decide +kernel
theorem dX2_opensOrder_35 : decode cX2_opensOrder 35 = .ok (.putfield 35, 3) := by decide +kernel
theorem dX2_opensOrder_38 : decode cX2_opensOrder 38 = .ok (.iconst 1, 1) := by decide +kernel
theorem dX2_opensOrder_39 : decode cX2_opensOrder 39 = .ok (.ireturn, 1) := by decide +kernel
theorem dX2_endsOrder_0 : decode cX2_endsOrder 0 = .ok (.aload_n 0, 1) := by decide +kernel
theorem dX2_endsOrder_1 : decode cX2_endsOrder 1 = .ok (.getfield 56, 3) := by decide +kernel
theorem dX2_endsOrder_4 : decode cX2_endsOrder 4 = .ok (.getstatic 59, 3) := by decide +kernel
theorem dX2_endsOrder_7 : decode cX2_endsOrder 7 = .ok (.aload_n 0, 1) := by decide +kernel
theorem dX2_endsOrder_8 : decode cX2_endsOrder 8 = .ok (.getfield 28, 3) := by decide +kernel
theorem dX2_endsOrder_11 : decode cX2_endsOrder 11 = .ok (.iaload, 1) := by decide +kernel
theorem dX2_endsOrder_12 : decode cX2_endsOrder 12 = .ok (.if_icmp .ge 5, 3) := by decide +kernel
theorem dX2_endsOrder_15 : decode cX2_endsOrder 15 = .ok (.iconst 0, 1) := by decide +kernel
theorem dX2_endsOrder_16 : decode cX2_endsOrder 16 = .ok (.ireturn, 1) := by decide +kernel
theorem dX2_endsOrder_17 : decode cX2_endsOrder 17 = .ok (.aload_n 0, 1) := by decide +kernel
theorem dX2_endsOrder_18 : decode cX2_endsOrder 18 = .ok (.getfield 15, 3) := by decide +kernel
theorem dX2_endsOrder_21 : decode cX2_endsOrder 21 = .ok (.aload_n 0, 1) := by decide +kernel
theorem dX2_endsOrder_22 : decode cX2_endsOrder 22 = .ok (.getfield 25, 3) := by decide +kernel
theorem dX2_endsOrder_25 : decode cX2_endsOrder 25 = .ok (.aload_n 0, 1) := by decide +kernel
theorem dX2_endsOrder_26 : decode cX2_endsOrder 26 = .ok (.getfield 28, 3) := by decide +kernel
theorem dX2_endsOrder_29 : decode cX2_endsOrder 29 = .ok (.iastore, 1) := by decide +kernel
theorem dX2_endsOrder_30 : decode cX2_endsOrder 30 = .ok (.aload_n 0, 1) := by decide +kernel
theorem dX2_endsOrder_31 : decode cX2_endsOrder 31 = .ok (.dup, 1) := by decide +kernel
theorem dX2_endsOrder_32 : decode cX2_endsOrder 32 = .ok (.getfield 25, 3) := by decide +kernel
theorem dX2_endsOrder_35 : decode cX2_endsOrder 35 = .ok (.iconst 1, 1) := by decide +kernel
theorem dX2_endsOrder_36 : decode cX2_endsOrder 36 = .ok (.iadd, 1) := by decide +kernel
theorem dX2_endsOrder_37 : decode cX2_endsOrder 37 = .ok (.putfield 25, 3) := by decide +kernel
theorem dX2_endsOrder_40 : decode cX2_endsOrder 40 = .ok (.aload_n 0, 1) := by decide +kernel
theorem dX2_endsOrder_41 : decode cX2_endsOrder 41 = .ok (.iconst (-1), 1) := by decide +kernel
theorem dX2_endsOrder_42 : decode cX2_endsOrder 42 = .ok (.putfield 28, 3) := by decide +kernel
theorem dX2_endsOrder_45 : decode cX2_endsOrder 45 = .ok (.iconst 1, 1) := by decide +kernel
theorem dX2_endsOrder_46 : decode cX2_endsOrder 46 = .ok (.ireturn, 1) := by decide +kernel
theorem dX2_takesFigure_0 : decode cX2_takesFigure 0 = .ok (.aload_n 0, 1) := by decide +kernel
theorem dX2_takesFigure_1 : decode cX2_takesFigure 1 = .ok (.getfield 25, 3) := by decide +kernel
theorem dX2_takesFigure_4 : decode cX2_takesFigure 4 = .ok (.iconst 3, 1) := by decide +kernel
theorem dX2_takesFigure_5 : decode cX2_takesFigure 5 = .ok (.imul, 1) := by decide +kernel
theorem dX2_takesFigure_6 : decode cX2_takesFigure 6 = .ok (.aload_n 0, 1) := by decide +kernel
theorem dX2_takesFigure_7 : decode cX2_takesFigure 7 = .ok (.getfield 56, 3) := by decide +kernel
theorem dX2_takesFigure_10 : decode cX2_takesFigure 10 = .ok (.iadd, 1) := by decide +kernel
theorem dX2_takesFigure_11 : decode cX2_takesFigure 11 = .ok (.istore_n 2, 1) := by decide +kernel
theorem dX2_takesFigure_12 : decode cX2_takesFigure 12 = .ok (.aload_n 0, 1) := by decide +kernel
theorem dX2_takesFigure_13 : decode cX2_takesFigure 13 = .ok (.getfield 35, 3) := by decide +kernel
theorem dX2_takesFigure_16 : decode cX2_takesFigure 16 = .ok (.ifCond .ne 42, 3) := by decide +kernel
theorem dX2_takesFigure_19 : decode cX2_takesFigure 19 = .ok (.aload_n 0, 1) := by decide +kernel
theorem dX2_takesFigure_20 : decode cX2_takesFigure 20 = .ok (.getfield 56, 3) := by decide +kernel
theorem dX2_takesFigure_23 : decode cX2_takesFigure 23 = .ok (.getstatic 59, 3) := by decide +kernel
theorem dX2_takesFigure_26 : decode cX2_takesFigure 26 = .ok (.aload_n 0, 1) := by decide +kernel
theorem dX2_takesFigure_27 : decode cX2_takesFigure 27 = .ok (.getfield 28, 3) := by decide +kernel
theorem dX2_takesFigure_30 : decode cX2_takesFigure 30 = .ok (.iaload, 1) := by decide +kernel
theorem dX2_takesFigure_31 : decode cX2_takesFigure 31 = .ok (.if_icmp .ge 27, 3) := by decide +kernel
theorem dX2_takesFigure_34 : decode cX2_takesFigure 34 = .ok (.aload_n 0, 1) := by decide +kernel
theorem dX2_takesFigure_35 : decode cX2_takesFigure 35 = .ok (.getfield 18, 3) := by decide +kernel
theorem dX2_takesFigure_38 : decode cX2_takesFigure 38 = .ok (.iload_n 2, 1) := by decide +kernel
theorem dX2_takesFigure_39 : decode cX2_takesFigure 39 = .ok (.iload_n 1, 1) := by decide +kernel
theorem dX2_takesFigure_40 : decode cX2_takesFigure 40 = .ok (.iastore, 1) := by decide +kernel
theorem dX2_takesFigure_41 : decode cX2_takesFigure 41 = .ok (.aload_n 0, 1) := by decide +kernel
theorem dX2_takesFigure_42 : decode cX2_takesFigure 42 = .ok (.dup, 1) := by decide +kernel
theorem dX2_takesFigure_43 : decode cX2_takesFigure 43 = .ok (.getfield 56, 3) := by decide +kernel
theorem dX2_takesFigure_46 : decode cX2_takesFigure 46 = .ok (.iconst 1, 1) := by decide +kernel
theorem dX2_takesFigure_47 : decode cX2_takesFigure 47 = .ok (.iadd, 1) := by decide +kernel
theorem dX2_takesFigure_48 : decode cX2_takesFigure 48 = .ok (.putfield 56, 3) := by decide +kernel
theorem dX2_takesFigure_51 : decode cX2_takesFigure 51 = .ok (.aload_n 0, 1) := by decide +kernel
theorem dX2_takesFigure_52 : decode cX2_takesFigure 52 = .ok (.iconst 1, 1) := by decide +kernel
theorem dX2_takesFigure_53 : decode cX2_takesFigure 53 = .ok (.putfield 35, 3) := by decide +kernel
theorem dX2_takesFigure_56 : decode cX2_takesFigure 56 = .ok (.iconst 1, 1) := by decide +kernel
theorem dX2_takesFigure_57 : decode cX2_takesFigure 57 = .ok (.ireturn, 1) := by decide +kernel
theorem dX2_takesFigure_58 : decode cX2_takesFigure 58 = .ok (.aload_n 0, 1) := by decide +kernel
theorem dX2_takesFigure_59 : decode cX2_takesFigure 59 = .ok (.getfield 35, 3) := by decide +kernel
theorem dX2_takesFigure_62 : decode cX2_takesFigure 62 = .ok (.iconst 1, 1) := by decide +kernel
theorem dX2_takesFigure_63 : decode cX2_takesFigure 63 = .ok (.if_icmp .ne 31, 3) := by decide +kernel
theorem dX2_takesFigure_66 : decode cX2_takesFigure 66 = .ok (.aload_n 0, 1) := by decide +kernel
theorem dX2_takesFigure_67 : decode cX2_takesFigure 67 = .ok (.getfield 18, 3) := by decide +kernel
theorem dX2_takesFigure_70 : decode cX2_takesFigure 70 = .ok (.iload_n 2, 1) := by decide +kernel
theorem dX2_takesFigure_71 : decode cX2_takesFigure 71 = .ok (.iconst 1, 1) := by decide +kernel
theorem dX2_takesFigure_72 : decode cX2_takesFigure 72 = .ok (.isub, 1) := by decide +kernel
theorem dX2_takesFigure_73 : decode cX2_takesFigure 73 = .ok (.bipush 10, 2) := by decide +kernel
theorem dX2_takesFigure_75 : decode cX2_takesFigure 75 = .ok (.aload_n 0, 1) := by decide +kernel
theorem dX2_takesFigure_76 : decode cX2_takesFigure 76 = .ok (.getfield 18, 3) := by decide +kernel
theorem dX2_takesFigure_79 : decode cX2_takesFigure 79 = .ok (.iload_n 2, 1) := by decide +kernel
theorem dX2_takesFigure_80 : decode cX2_takesFigure 80 = .ok (.iconst 1, 1) := by decide +kernel
theorem dX2_takesFigure_81 : decode cX2_takesFigure 81 = .ok (.isub, 1) := by decide +kernel
theorem dX2_takesFigure_82 : decode cX2_takesFigure 82 = .ok (.iaload, 1) := by decide +kernel
theorem dX2_takesFigure_83 : decode cX2_takesFigure 83 = .ok (.imul, 1) := by decide +kernel
theorem dX2_takesFigure_84 : decode cX2_takesFigure 84 = .ok (.iload_n 1, 1) := by decide +kernel
theorem dX2_takesFigure_85 : decode cX2_takesFigure 85 = .ok (.iadd, 1) := by decide +kernel
theorem dX2_takesFigure_86 : decode cX2_takesFigure 86 = .ok (.iastore, 1) := by decide +kernel
theorem dX2_takesFigure_87 : decode cX2_takesFigure 87 = .ok (.aload_n 0, 1) := by decide +kernel
theorem dX2_takesFigure_88 : decode cX2_takesFigure 88 = .ok (.iconst 2, 1) := by decide +kernel
theorem dX2_takesFigure_89 : decode cX2_takesFigure 89 = .ok (.putfield 35, 3) := by decide +kernel
theorem dX2_takesFigure_92 : decode cX2_takesFigure 92 = .ok (.iconst 1, 1) := by decide +kernel
theorem dX2_takesFigure_93 : decode cX2_takesFigure 93 = .ok (.ireturn, 1) := by decide +kernel
theorem dX2_takesFigure_94 : decode cX2_takesFigure 94 = .ok (.iconst 0, 1) := by decide +kernel
theorem dX2_takesFigure_95 : decode cX2_takesFigure 95 = .ok (.ireturn, 1) := by decide +kernel
theorem dX3_init_0 : decode cX3_init 0 = .ok (.aload_n 0, 1) := by decide +kernel
theorem dX3_init_1 : decode cX3_init 1 = .ok (.invokespecial 3, 3) := by decide +kernel
theorem dX3_init_4 : decode cX3_init 4 = .ok (.aload_n 0, 1) := by decide +kernel
theorem dX3_init_5 : decode cX3_init 5 = .ok (.bipush 48, 2) := by decide +kernel
theorem dX3_init_7 : decode cX3_init 7 = .ok (.newarray .int, 2) := by decide +kernel
theorem dX3_init_9 : decode cX3_init 9 = .ok (.putfield 9, 3) := by decide +kernel
theorem dX3_init_12 : decode cX3_init 12 = .ok (.aload_n 0, 1) := by decide +kernel
theorem dX3_init_13 : decode cX3_init 13 = .ok (.bipush 48, 2) := by decide +kernel
theorem dX3_init_15 : decode cX3_init 15 = .ok (.newarray .int, 2) := by decide +kernel
theorem dX3_init_17 : decode cX3_init 17 = .ok (.putfield 15, 3) := by decide +kernel
theorem dX3_init_20 : decode cX3_init 20 = .ok (.aload_n 0, 1) := by decide +kernel
theorem dX3_init_21 : decode cX3_init 21 = .ok (.bipush 48, 2) := by decide +kernel
theorem dX3_init_23 : decode cX3_init 23 = .ok (.newarray .int, 2) := by decide +kernel
theorem dX3_init_25 : decode cX3_init 25 = .ok (.putfield 18, 3) := by decide +kernel
theorem dX3_init_28 : decode cX3_init 28 = .ok (.aload_n 0, 1) := by decide +kernel
theorem dX3_init_29 : decode cX3_init 29 = .ok (.bipush 48, 2) := by decide +kernel
theorem dX3_init_31 : decode cX3_init 31 = .ok (.newarray .int, 2) := by decide +kernel
theorem dX3_init_33 : decode cX3_init 33 = .ok (.putfield 21, 3) := by decide +kernel
theorem dX3_init_36 : decode cX3_init 36 = .ok (.aload_n 0, 1) := by decide +kernel
theorem dX3_init_37 : decode cX3_init 37 = .ok (.bipush 48, 2) := by decide +kernel
theorem dX3_init_39 : decode cX3_init 39 = .ok (.newarray .int, 2) := by decide +kernel
theorem dX3_init_41 : decode cX3_init 41 = .ok (.putfield 24, 3) := by decide +kernel
theorem dX3_init_44 : decode cX3_init 44 = .ok (.aload_n 0, 1) := by decide +kernel
theorem dX3_init_45 : decode cX3_init 45 = .ok (.bipush 48, 2) := by decide +kernel
theorem dX3_init_47 : decode cX3_init 47 = .ok (.newarray .int, 2) := by decide +kernel
theorem dX3_init_49 : decode cX3_init 49 = .ok (.putfield 27, 3) := by decide +kernel
theorem dX3_init_52 : decode cX3_init 52 = .ok (.aload_n 0, 1) := by decide +kernel
theorem dX3_init_53 : decode cX3_init 53 = .ok (.bipush 12, 2) := by decide +kernel
theorem dX3_init_55 : decode cX3_init 55 = .ok (.newarray .int, 2) := by decide +kernel
theorem dX3_init_57 : decode cX3_init 57 = .ok (.putfield 30, 3) := by decide +kernel
theorem dX3_init_60 : decode cX3_init 60 = .ok (.aload_n 0, 1) := by decide +kernel
theorem dX3_init_61 : decode cX3_init 61 = .ok (.iconst 4, 1) := by decide +kernel
theorem dX3_init_62 : decode cX3_init 62 = .ok (.newarray .int, 2) := by decide +kernel
theorem dX3_init_64 : decode cX3_init 64 = .ok (.putfield 33, 3) := by decide +kernel
theorem dX3_init_67 : decode cX3_init 67 = .ok (.return_, 1) := by decide +kernel
theorem dX3_run_0 : decode cX3_run 0 = .ok (.aload_n 0, 1) := by decide +kernel
theorem dX3_run_1 : decode cX3_run 1 = .ok (.aload_n 1, 1) := by decide +kernel
theorem dX3_run_2 : decode cX3_run 2 = .ok (.invokevirtual 36, 3) := by decide +kernel
theorem dX3_run_5 : decode cX3_run 5 = .ok (.aload_n 1, 1) := by decide +kernel
theorem dX3_run_6 : decode cX3_run 6 = .ok (.getfield 40, 3) := by decide +kernel
theorem dX3_run_9 : decode cX3_run 9 = .ok (.iconst 1, 1) := by decide +kernel
theorem dX3_run_10 : decode cX3_run 10 = .ok (.iadd, 1) := by decide +kernel
theorem dX3_run_11 : decode cX3_run 11 = .ok (.istore_n 2, 1) := by decide +kernel
theorem dX3_run_12 : decode cX3_run 12 = .ok (.iload_n 2, 1) := by decide +kernel
theorem dX3_run_13 : decode cX3_run 13 = .ok (.aload_n 1, 1) := by decide +kernel
theorem dX3_run_14 : decode cX3_run 14 = .ok (.getfield 46, 3) := by decide +kernel
theorem dX3_run_17 : decode cX3_run 17 = .ok (.if_icmp .ge 106, 3) := by decide +kernel
theorem dX3_run_20 : decode cX3_run 20 = .ok (.aload_n 0, 1) := by decide +kernel
theorem dX3_run_21 : decode cX3_run 21 = .ok (.aload_n 1, 1) := by decide +kernel
theorem dX3_run_22 : decode cX3_run 22 = .ok (.getfield 49, 3) := by decide +kernel
theorem dX3_run_25 : decode cX3_run 25 = .ok (.iload_n 2, 1) := by decide +kernel
theorem dX3_run_26 : decode cX3_run 26 = .ok (.iaload, 1) := by decide +kernel
theorem dX3_run_27 : decode cX3_run 27 = .ok (.invokevirtual 52, 3) := by decide +kernel
theorem dX3_run_30 : decode cX3_run 30 = .ok (.istore_n 3, 1) := by decide +kernel
theorem dX3_run_31 : decode cX3_run 31 = .ok (.aload_n 0, 1) := by decide +kernel
theorem dX3_run_32 : decode cX3_run 32 = .ok (.aload_n 1, 1) := by decide +kernel
theorem dX3_run_33 : decode cX3_run 33 = .ok (.getfield 56, 3) := by decide +kernel
theorem dX3_run_36 : decode cX3_run 36 = .ok (.iload_n 2, 1) := by decide +kernel
theorem dX3_run_37 : decode cX3_run 37 = .ok (.iaload, 1) := by decide +kernel
theorem dX3_run_38 : decode cX3_run 38 = .ok (.invokevirtual 52, 3) := by decide +kernel
theorem dX3_run_41 : decode cX3_run 41 = .ok (.istore 4, 2) := by decide +kernel
theorem dX3_run_43 : decode cX3_run 43 = .ok (.aload_n 0, 1) := by decide +kernel
theorem dX3_run_44 : decode cX3_run 44 = .ok (.getfield 18, 3) := by decide +kernel
theorem dX3_run_47 : decode cX3_run 47 = .ok (.iload_n 2, 1) := by decide +kernel
theorem dX3_run_48 : decode cX3_run 48 = .ok (.iload_n 3, 1) := by decide +kernel
theorem dX3_run_49 : decode cX3_run 49 = .ok (.iload 4, 2) := by decide +kernel
theorem dX3_run_51 : decode cX3_run 51 = .ok (.invokestatic 59, 3) := by decide +kernel
theorem dX3_run_54 : decode cX3_run 54 = .ok (.iastore, 1) := by decide +kernel
theorem dX3_run_55 : decode cX3_run 55 = .ok (.aload_n 0, 1) := by decide +kernel
theorem dX3_run_56 : decode cX3_run 56 = .ok (.getfield 21, 3) := by decide +kernel
theorem dX3_run_59 : decode cX3_run 59 = .ok (.iload_n 2, 1) := by decide +kernel
theorem dX3_run_60 : decode cX3_run 60 = .ok (.iload_n 3, 1) := by decide +kernel
theorem dX3_run_61 : decode cX3_run 61 = .ok (.iload 4, 2) := by decide +kernel
theorem dX3_run_63 : decode cX3_run 63 = .ok (.invokestatic 65, 3) := by decide +kernel
theorem dX3_run_66 : decode cX3_run 66 = .ok (.iastore, 1) := by decide +kernel
theorem dX3_run_67 : decode cX3_run 67 = .ok (.aload_n 0, 1) := by decide +kernel
theorem dX3_run_68 : decode cX3_run 68 = .ok (.iload_n 2, 1) := by decide +kernel
theorem dX3_run_69 : decode cX3_run 69 = .ok (.aload_n 1, 1) := by decide +kernel
theorem dX3_run_70 : decode cX3_run 70 = .ok (.invokevirtual 68, 3) := by decide +kernel
theorem dX3_run_73 : decode cX3_run 73 = .ok (.aload_n 0, 1) := by decide +kernel
theorem dX3_run_74 : decode cX3_run 74 = .ok (.getfield 33, 3) := by decide +kernel
theorem dX3_run_77 : decode cX3_run 77 = .ok (.aload_n 0, 1) := by decide +kernel
theorem dX3_run_78 : decode cX3_run 78 = .ok (.getfield 15, 3) := by decide +kernel
theorem dX3_run_81 : decode cX3_run 81 = .ok (.iload_n 2, 1) := by decide +kernel
theorem dX3_run_82 : decode cX3_run 82 = .ok (.iaload, 1) := by decide +kernel
theorem dX3_run_83 : decode cX3_run 83 = .ok (.dup2, 1) := by decide +kernel
theorem dX3_run_84 : decode cX3_run 84 = .ok (.iaload, 1) := by decide +kernel
theorem dX3_run_85 : decode cX3_run 85 = .ok (.iconst 1, 1) := by decide +kernel
theorem dX3_run_86 : decode cX3_run 86 = .ok (.iadd, 1) := by decide +kernel
theorem dX3_run_87 : decode cX3_run 87 = .ok (.iastore, 1) := by decide +kernel
theorem dX3_run_88 : decode cX3_run 88 = .ok (.aload_n 0, 1) := by decide +kernel
theorem dX3_run_89 : decode cX3_run 89 = .ok (.getfield 15, 3) := by decide +kernel
theorem dX3_run_92 : decode cX3_run 92 = .ok (.iload_n 2, 1) := by decide +kernel
theorem dX3_run_93 : decode cX3_run 93 = .ok (.iaload, 1) := by decide +kernel
theorem dX3_run_94 : decode cX3_run 94 = .ok (.ifCond .eq 23, 3) := by decide +kernel
theorem dX3_run_97 : decode cX3_run 97 = .ok (.aload_n 0, 1) := by decide +kernel
theorem dX3_run_98 : decode cX3_run 98 = .ok (.getfield 24, 3) := by decide +kernel
theorem dX3_run_101 : decode cX3_run 101 = .ok (.aload_n 0, 1) := by decide +kernel
theorem dX3_run_102 : decode cX3_run 102 = .ok (.getfield 72, 3) := by decide +kernel
theorem dX3_run_105 : decode cX3_run 105 = .ok (.iload_n 2, 1) := by decide +kernel
theorem dX3_run_106 : decode cX3_run 106 = .ok (.iastore, 1) := by decide +kernel
theorem dX3_run_107 : decode cX3_run 107 = .ok (.aload_n 0, 1) := by decide +kernel
theorem dX3_run_108 : decode cX3_run 108 = .ok (.dup, 1) := by decide +kernel
theorem dX3_run_109 : decode cX3_run 109 = .ok (.getfield 72, 3) := by decide +kernel
theorem dX3_run_112 : decode cX3_run 112 = .ok (.iconst 1, 1) := by decide +kernel
theorem dX3_run_113 : decode cX3_run 113 = .ok (.iadd, 1) := by decide +kernel
theorem dX3_run_114 : decode cX3_run 114 = .ok (.putfield 72, 3) := by decide +kernel
theorem dX3_run_117 : decode cX3_run 117 = .ok (.iinc 2 1, 3) := by decide +kernel
theorem dX3_run_120 : decode cX3_run 120 = .ok (.goto (-108), 3) := by decide +kernel
theorem dX3_run_123 : decode cX3_run 123 = .ok (.return_, 1) := by decide +kernel
theorem dX3_begin_0 : decode cX3_begin 0 = .ok (.aload_n 0, 1) := by decide +kernel
theorem dX3_begin_1 : decode cX3_begin 1 = .ok (.iconst 0, 1) := by decide +kernel
theorem dX3_begin_2 : decode cX3_begin 2 = .ok (.putfield 72, 3) := by decide +kernel
theorem dX3_begin_5 : decode cX3_begin 5 = .ok (.aload_n 0, 1) := by decide +kernel
theorem dX3_begin_6 : decode cX3_begin 6 = .ok (.iconst 0, 1) := by decide +kernel
theorem dX3_begin_7 : decode cX3_begin 7 = .ok (.putfield 75, 3) := by decide +kernel
theorem dX3_begin_10 : decode cX3_begin 10 = .ok (.aload_n 0, 1) := by decide +kernel
theorem dX3_begin_11 : decode cX3_begin 11 = .ok (.aload_n 1, 1) := by decide +kernel
theorem dX3_begin_12 : decode cX3_begin 12 = .ok (.invokevirtual 78, 3) := by decide +kernel
theorem dX3_begin_15 : decode cX3_begin 15 = .ok (.putfield 82, 3) := by decide +kernel
theorem dX3_begin_18 : decode cX3_begin 18 = .ok (.iconst 0, 1) := by decide +kernel
theorem dX3_begin_19 : decode cX3_begin 19 = .ok (.istore_n 2, 1) := by decide +kernel
theorem dX3_begin_20 : decode cX3_begin 20 = .ok (.iload_n 2, 1) := by decide +kernel
theorem dX3_begin_21 : decode cX3_begin 21 = .ok (.iconst 3, 1) := by decide +kernel
theorem dX3_begin_22 : decode cX3_begin 22 = .ok (.if_icmp .gt 16, 3) := by decide +kernel
theorem dX3_begin_25 : decode cX3_begin 25 = .ok (.aload_n 0, 1) := by decide +kernel
theorem dX3_begin_26 : decode cX3_begin 26 = .ok (.getfield 33, 3) := by decide +kernel
theorem dX3_begin_29 : decode cX3_begin 29 = .ok (.iload_n 2, 1) := by decide +kernel
theorem dX3_begin_30 : decode cX3_begin 30 = .ok (.iconst 0, 1) := by decide +kernel
theorem dX3_begin_31 : decode cX3_begin 31 = .ok (.iastore, 1) := by decide +kernel
theorem dX3_begin_32 : decode cX3_begin 32 = .ok (.iinc 2 1, 3) := by decide +kernel
theorem dX3_begin_35 : decode cX3_begin 35 = .ok (.goto (-15), 3) := by decide +kernel
theorem dX3_begin_38 : decode cX3_begin 38 = .ok (.iconst 0, 1) := by decide +kernel
theorem dX3_begin_39 : decode cX3_begin 39 = .ok (.istore_n 2, 1) := by decide +kernel
theorem dX3_begin_40 : decode cX3_begin 40 = .ok (.iload_n 2, 1) := by decide +kernel
theorem dX3_begin_41 : decode cX3_begin 41 = .ok (.aload_n 1, 1) := by decide +kernel
theorem dX3_begin_42 : decode cX3_begin 42 = .ok (.getfield 40, 3) := by decide +kernel
theorem dX3_begin_45 : decode cX3_begin 45 = .ok (.if_icmp .gt 18, 3) := by decide +kernel
theorem dX3_begin_48 : decode cX3_begin 48 = .ok (.aload_n 0, 1) := by decide +kernel
theorem dX3_begin_49 : decode cX3_begin 49 = .ok (.iload_n 2, 1) := by decide +kernel
theorem dX3_begin_50 : decode cX3_begin 50 = .ok (.iconst 2, 1) := by decide +kernel
theorem dX3_begin_51 : decode cX3_begin 51 = .ok (.iload_n 2, 1) := by decide +kernel
theorem dX3_begin_52 : decode cX3_begin 52 = .ok (.imul, 1) := by decide +kernel
theorem dX3_begin_53 : decode cX3_begin 53 = .ok (.iconst 0, 1) := by decide +kernel
theorem dX3_begin_54 : decode cX3_begin 54 = .ok (.invokevirtual 84, 3) := by decide +kernel
theorem dX3_begin_57 : decode cX3_begin 57 = .ok (.iinc 2 1, 3) := by decide +kernel
theorem dX3_begin_60 : decode cX3_begin 60 = .ok (.goto (-20), 3) := by decide +kernel
theorem dX3_begin_63 : decode cX3_begin 63 = .ok (.aload_n 0, 1) := by decide +kernel
theorem dX3_begin_64 : decode cX3_begin 64 = .ok (.iconst 0, 1) := by decide +kernel
theorem dX3_begin_65 : decode cX3_begin 65 = .ok (.putfield 88, 3) := by decide +kernel
theorem dX3_begin_68 : decode cX3_begin 68 = .ok (.aload_n 0, 1) := by decide +kernel
theorem dX3_begin_69 : decode cX3_begin 69 = .ok (.iconst 0, 1) := by decide +kernel
theorem dX3_begin_70 : decode cX3_begin 70 = .ok (.putfield 91, 3) := by decide +kernel
theorem dX3_begin_73 : decode cX3_begin 73 = .ok (.iconst 0, 1) := by decide +kernel
theorem dX3_begin_74 : decode cX3_begin 74 = .ok (.istore_n 2, 1) := by decide +kernel
theorem dX3_begin_75 : decode cX3_begin 75 = .ok (.iload_n 2, 1) := by decide +kernel
theorem dX3_begin_76 : decode cX3_begin 76 = .ok (.aload_n 1, 1) := by decide +kernel
theorem dX3_begin_77 : decode cX3_begin 77 = .ok (.getfield 94, 3) := by decide +kernel
theorem dX3_begin_80 : decode cX3_begin 80 = .ok (.if_icmp .ge 19, 3) := by decide +kernel
theorem dX3_begin_83 : decode cX3_begin 83 = .ok (.aload_n 0, 1) := by decide +kernel
theorem dX3_begin_84 : decode cX3_begin 84 = .ok (.aload_n 1, 1) := by decide +kernel
theorem dX3_begin_85 : decode cX3_begin 85 = .ok (.getfield 97, 3) := by decide +kernel
theorem dX3_begin_88 : decode cX3_begin 88 = .ok (.iload_n 2, 1) := by decide +kernel
theorem dX3_begin_89 : decode cX3_begin 89 = .ok (.iaload, 1) := by decide +kernel
theorem dX3_begin_90 : decode cX3_begin 90 = .ok (.invokevirtual 100, 3) := by decide +kernel
theorem dX3_begin_93 : decode cX3_begin 93 = .ok (.iinc 2 1, 3) := by decide +kernel
theorem dX3_begin_96 : decode cX3_begin 96 = .ok (.goto (-21), 3) := by decide +kernel
theorem dX3_begin_99 : decode cX3_begin 99 = .ok (.return_, 1) := by decide +kernel
theorem dX3_merge_0 : decode cX3_merge 0 = .ok (.aload_n 0, 1) := by decide +kernel
theorem dX3_merge_1 : decode cX3_merge 1 = .ok (.getfield 9, 3) := by decide +kernel
theorem dX3_merge_4 : decode cX3_merge 4 = .ok (.iload_n 1, 1) := by decide +kernel
theorem dX3_merge_5 : decode cX3_merge 5 = .ok (.iload_n 2, 1) := by decide +kernel
theorem dX3_merge_6 : decode cX3_merge 6 = .ok (.iastore, 1) := by decide +kernel
theorem dX3_merge_7 : decode cX3_merge 7 = .ok (.aload_n 0, 1) := by decide +kernel
theorem dX3_merge_8 : decode cX3_merge 8 = .ok (.getfield 15, 3) := by decide +kernel
theorem dX3_merge_11 : decode cX3_merge 11 = .ok (.iload_n 1, 1) := by decide +kernel
theorem dX3_merge_12 : decode cX3_merge 12 = .ok (.iload_n 3, 1) := by decide +kernel
theorem dX3_merge_13 : decode cX3_merge 13 = .ok (.iastore, 1) := by decide +kernel
theorem dX3_merge_14 : decode cX3_merge 14 = .ok (.return_, 1) := by decide +kernel
theorem dX3_addRow_0 : decode cX3_addRow 0 = .ok (.aload_n 0, 1) := by decide +kernel
theorem dX3_addRow_1 : decode cX3_addRow 1 = .ok (.getfield 88, 3) := by decide +kernel
theorem dX3_addRow_4 : decode cX3_addRow 4 = .ok (.bipush 12, 2) := by decide +kernel
theorem dX3_addRow_6 : decode cX3_addRow 6 = .ok (.if_icmp .ge 35, 3) := by decide +kernel
theorem dX3_addRow_9 : decode cX3_addRow 9 = .ok (.aload_n 0, 1) := by decide +kernel
theorem dX3_addRow_10 : decode cX3_addRow 10 = .ok (.getfield 30, 3) := by decide +kernel
theorem dX3_addRow_13 : decode cX3_addRow 13 = .ok (.aload_n 0, 1) := by decide +kernel
theorem dX3_addRow_14 : decode cX3_addRow 14 = .ok (.getfield 88, 3) := by decide +kernel
theorem dX3_addRow_17 : decode cX3_addRow 17 = .ok (.iload_n 1, 1) := by decide +kernel
theorem dX3_addRow_18 : decode cX3_addRow 18 = .ok (.iastore, 1) := by decide +kernel
theorem dX3_addRow_19 : decode cX3_addRow 19 = .ok (.aload_n 0, 1) := by decide +kernel
theorem dX3_addRow_20 : decode cX3_addRow 20 = .ok (.dup, 1) := by decide +kernel
theorem dX3_addRow_21 : decode cX3_addRow 21 = .ok (.getfield 88, 3) := by decide +kernel
theorem dX3_addRow_24 : decode cX3_addRow 24 = .ok (.iconst 1, 1) := by decide +kernel
theorem dX3_addRow_25 : decode cX3_addRow 25 = .ok (.iadd, 1) := by decide +kernel
theorem dX3_addRow_26 : decode cX3_addRow 26 = .ok (.putfield 88, 3) := by decide +kernel
theorem dX3_addRow_29 : decode cX3_addRow 29 = .ok (.aload_n 0, 1) := by decide +kernel
theorem dX3_addRow_30 : decode cX3_addRow 30 = .ok (.dup, 1) := by decide +kernel
theorem dX3_addRow_31 : decode cX3_addRow 31 = .ok (.getfield 91, 3) := by decide +kernel
theorem dX3_addRow_34 : decode cX3_addRow 34 = .ok (.iconst 1, 1) := by decide +kernel
theorem dX3_addRow_35 : decode cX3_addRow 35 = .ok (.iload_n 1, 1) := by decide +kernel
theorem dX3_addRow_36 : decode cX3_addRow 36 = .ok (.ishl, 1) := by decide +kernel
theorem dX3_addRow_37 : decode cX3_addRow 37 = .ok (.ior, 1) := by decide +kernel
theorem dX3_addRow_38 : decode cX3_addRow 38 = .ok (.putfield 91, 3) := by decide +kernel
theorem dX3_addRow_41 : decode cX3_addRow 41 = .ok (.return_, 1) := by decide +kernel
theorem dX3_sweepGate_0 : decode cX3_sweepGate 0 = .ok (.aload_n 0, 1) := by decide +kernel
theorem dX3_sweepGate_1 : decode cX3_sweepGate 1 = .ok (.aload_n 0, 1) := by decide +kernel
theorem dX3_sweepGate_2 : decode cX3_sweepGate 2 = .ok (.getfield 18, 3) := by decide +kernel
theorem dX3_sweepGate_5 : decode cX3_sweepGate 5 = .ok (.iload_n 1, 1) := by decide +kernel
theorem dX3_sweepGate_6 : decode cX3_sweepGate 6 = .ok (.iaload, 1) := by decide +kernel
theorem dX3_sweepGate_7 : decode cX3_sweepGate 7 = .ok (.aload_n 0, 1) := by decide +kernel
theorem dX3_sweepGate_8 : decode cX3_sweepGate 8 = .ok (.getfield 21, 3) := by decide +kernel
theorem dX3_sweepGate_11 : decode cX3_sweepGate 11 = .ok (.iload_n 1, 1) := by decide +kernel
theorem dX3_sweepGate_12 : decode cX3_sweepGate 12 = .ok (.iaload, 1) := by decide +kernel
theorem dX3_sweepGate_13 : decode cX3_sweepGate 13 = .ok (.invokevirtual 104, 3) := by decide +kernel
theorem dX3_sweepGate_16 : decode cX3_sweepGate 16 = .ok (.istore_n 3, 1) := by decide +kernel
theorem dX3_sweepGate_17 : decode cX3_sweepGate 17 = .ok (.iload_n 3, 1) := by decide +kernel
theorem dX3_sweepGate_18 : decode cX3_sweepGate 18 = .ok (.iconst (-1), 1) := by decide +kernel
theorem dX3_sweepGate_19 : decode cX3_sweepGate 19 = .ok (.if_icmp .eq 11, 3) := by decide +kernel
theorem dX3_sweepGate_22 : decode cX3_sweepGate 22 = .ok (.aload_n 0, 1) := by decide +kernel
theorem dX3_sweepGate_23 : decode cX3_sweepGate 23 = .ok (.iload_n 1, 1) := by decide +kernel
theorem dX3_sweepGate_24 : decode cX3_sweepGate 24 = .ok (.iload_n 3, 1) := by decide +kernel
theorem dX3_sweepGate_25 : decode cX3_sweepGate 25 = .ok (.iconst 1, 1) := by decide +kernel
theorem dX3_sweepGate_26 : decode cX3_sweepGate 26 = .ok (.invokevirtual 84, 3) := by decide +kernel
theorem dX3_sweepGate_29 : decode cX3_sweepGate 29 = .ok (.return_, 1) := by decide +kernel
theorem dX3_sweepGate_30 : decode cX3_sweepGate 30 = .ok (.aload_n 0, 1) := by decide +kernel
theorem dX3_sweepGate_31 : decode cX3_sweepGate 31 = .ok (.iload_n 1, 1) := by decide +kernel
theorem dX3_sweepGate_32 : decode cX3_sweepGate 32 = .ok (.aload_n 2, 1) := by decide +kernel
theorem dX3_sweepGate_33 : decode cX3_sweepGate 33 = .ok (.getfield 40, 3) := by decide +kernel
theorem dX3_sweepGate_36 : decode cX3_sweepGate 36 = .ok (.invokevirtual 107, 3) := by decide +kernel
theorem dX3_sweepGate_39 : decode cX3_sweepGate 39 = .ok (.istore 4, 2) := by decide +kernel
theorem dX3_sweepGate_41 : decode cX3_sweepGate 41 = .ok (.iload 4, 2) := by decide +kernel
theorem dX3_sweepGate_43 : decode cX3_sweepGate 43 = .ok (.iconst (-1), 1) := by decide +kernel
theorem dX3_sweepGate_44 : decode cX3_sweepGate 44 = .ok (.if_icmp .eq 14, 3) := by decide +kernel
theorem dX3_sweepGate_47 : decode cX3_sweepGate 47 = .ok (.aload_n 0, 1) := by decide +kernel
theorem dX3_sweepGate_48 : decode cX3_sweepGate 48 = .ok (.iload_n 1, 1) := by decide +kernel
theorem dX3_sweepGate_49 : decode cX3_sweepGate 49 = .ok (.iconst 2, 1) := by decide +kernel
theorem dX3_sweepGate_50 : decode cX3_sweepGate 50 = .ok (.iload 4, 2) := by decide +kernel
theorem dX3_sweepGate_52 : decode cX3_sweepGate 52 = .ok (.imul, 1) := by decide +kernel
theorem dX3_sweepGate_53 : decode cX3_sweepGate 53 = .ok (.iconst 2, 1) := by decide +kernel
theorem dX3_sweepGate_54 : decode cX3_sweepGate 54 = .ok (.invokevirtual 84, 3) := by decide +kernel
theorem dX3_sweepGate_57 : decode cX3_sweepGate 57 = .ok (.return_, 1) := by decide +kernel
theorem dX3_sweepGate_58 : decode cX3_sweepGate 58 = .ok (.aload_n 0, 1) := by decide +kernel
theorem dX3_sweepGate_59 : decode cX3_sweepGate 59 = .ok (.iload_n 1, 1) := by decide +kernel
theorem dX3_sweepGate_60 : decode cX3_sweepGate 60 = .ok (.aload_n 2, 1) := by decide +kernel
theorem dX3_sweepGate_61 : decode cX3_sweepGate 61 = .ok (.invokevirtual 110, 3) := by decide +kernel
theorem dX3_sweepGate_64 : decode cX3_sweepGate 64 = .ok (.istore 5, 2) := by decide +kernel
theorem dX3_sweepGate_66 : decode cX3_sweepGate 66 = .ok (.iload 5, 2) := by decide +kernel
theorem dX3_sweepGate_68 : decode cX3_sweepGate 68 = .ok (.iconst (-1), 1) := by decide +kernel
theorem dX3_sweepGate_69 : decode cX3_sweepGate 69 = .ok (.if_icmp .eq 12, 3) := by decide +kernel
theorem dX3_sweepGate_72 : decode cX3_sweepGate 72 = .ok (.aload_n 0, 1) := by decide +kernel
theorem dX3_sweepGate_73 : decode cX3_sweepGate 73 = .ok (.iload_n 1, 1) := by decide +kernel
theorem dX3_sweepGate_74 : decode cX3_sweepGate 74 = .ok (.iload 5, 2) := by decide +kernel
theorem dX3_sweepGate_76 : decode cX3_sweepGate 76 = .ok (.iconst 3, 1) := by decide +kernel
theorem dX3_sweepGate_77 : decode cX3_sweepGate 77 = .ok (.invokevirtual 84, 3) := by decide +kernel
theorem dX3_sweepGate_80 : decode cX3_sweepGate 80 = .ok (.return_, 1) := by decide +kernel
theorem dX3_sweepGate_81 : decode cX3_sweepGate 81 = .ok (.aload_n 0, 1) := by decide +kernel
theorem dX3_sweepGate_82 : decode cX3_sweepGate 82 = .ok (.iload_n 1, 1) := by decide +kernel
theorem dX3_sweepGate_83 : decode cX3_sweepGate 83 = .ok (.iconst 2, 1) := by decide +kernel
theorem dX3_sweepGate_84 : decode cX3_sweepGate 84 = .ok (.iload_n 1, 1) := by decide +kernel
theorem dX3_sweepGate_85 : decode cX3_sweepGate 85 = .ok (.imul, 1) := by decide +kernel
theorem dX3_sweepGate_86 : decode cX3_sweepGate 86 = .ok (.iconst 0, 1) := by decide +kernel
theorem dX3_sweepGate_87 : decode cX3_sweepGate 87 = .ok (.invokevirtual 84, 3) := by decide +kernel
theorem dX3_sweepGate_90 : decode cX3_sweepGate 90 = .ok (.return_, 1) := by decide +kernel
theorem dX3_formByRule_0 : decode cX3_formByRule 0 = .ok (.iload_n 1, 1) := by decide +kernel
theorem dX3_formByRule_1 : decode cX3_formByRule 1 = .ok (.ifCond .ne 5, 3) := by decide +kernel
theorem dX3_formByRule_4 : decode cX3_formByRule 4 = .ok (.iconst 0, 1) := by decide +kernel
theorem dX3_formByRule_5 : decode cX3_formByRule 5 = .ok (.ireturn, 1) := by decide +kernel
theorem dX3_formByRule_6 : decode cX3_formByRule 6 = .ok (.iload_n 1, 1) := by decide +kernel
theorem dX3_formByRule_7 : decode cX3_formByRule 7 = .ok (.iconst 1, 1) := by decide +kernel
theorem dX3_formByRule_8 : decode cX3_formByRule 8 = .ok (.if_icmp .ne 5, 3) := by decide +kernel
theorem dX3_formByRule_11 : decode cX3_formByRule 11 = .ok (.iload_n 2, 1) := by decide +kernel
theorem dX3_formByRule_12 : decode cX3_formByRule 12 = .ok (.ireturn, 1) := by decide +kernel
theorem dX3_formByRule_13 : decode cX3_formByRule 13 = .ok (.iload_n 1, 1) := by decide +kernel
theorem dX3_formByRule_14 : decode cX3_formByRule 14 = .ok (.iload_n 2, 1) := by decide +kernel
theorem dX3_formByRule_15 : decode cX3_formByRule 15 = .ok (.if_icmp .ne 5, 3) := by decide +kernel
theorem dX3_formByRule_18 : decode cX3_formByRule 18 = .ok (.iload_n 1, 1) := by decide +kernel
theorem dX3_formByRule_19 : decode cX3_formByRule 19 = .ok (.ireturn, 1) := by decide +kernel
theorem dX3_formByRule_20 : decode cX3_formByRule 20 = .ok (.iload_n 2, 1) := by decide +kernel
theorem dX3_formByRule_21 : decode cX3_formByRule 21 = .ok (.iload_n 1, 1) := by decide +kernel
theorem dX3_formByRule_22 : decode cX3_formByRule 22 = .ok (.iconst 1, 1) := by decide +kernel
theorem dX3_formByRule_23 : decode cX3_formByRule 23 = .ok (.ixor, 1) := by decide +kernel
theorem dX3_formByRule_24 : decode cX3_formByRule 24 = .ok (.if_icmp .ne 7, 3) := by decide +kernel
theorem dX3_formByRule_27 : decode cX3_formByRule 27 = .ok (.iconst 0, 1) := by decide +kernel
theorem dX3_formByRule_28 : decode cX3_formByRule 28 = .ok (.goto 4, 3) := by decide +kernel
theorem dX3_formByRule_31 : decode cX3_formByRule 31 = .ok (.iconst (-1), 1) := by decide +kernel
theorem dX3_formByRule_32 : decode cX3_formByRule 32 = .ok (.ireturn, 1) := by decide +kernel
theorem dX3_sameGate_0 : decode cX3_sameGate 0 = .ok (.iload_n 2, 1) := by decide +kernel
theorem dX3_sameGate_1 : decode cX3_sameGate 1 = .ok (.iconst 1, 1) := by decide +kernel
theorem dX3_sameGate_2 : decode cX3_sameGate 2 = .ok (.iadd, 1) := by decide +kernel
theorem dX3_sameGate_3 : decode cX3_sameGate 3 = .ok (.istore_n 3, 1) := by decide +kernel
theorem dX3_sameGate_4 : decode cX3_sameGate 4 = .ok (.iload_n 3, 1) := by decide +kernel
theorem dX3_sameGate_5 : decode cX3_sameGate 5 = .ok (.iload_n 1, 1) := by decide +kernel
theorem dX3_sameGate_6 : decode cX3_sameGate 6 = .ok (.if_icmp .ge 50, 3) := by decide +kernel
theorem dX3_sameGate_9 : decode cX3_sameGate 9 = .ok (.aload_n 0, 1) := by decide +kernel
theorem dX3_sameGate_10 : decode cX3_sameGate 10 = .ok (.getfield 15, 3) := by decide +kernel
theorem dX3_sameGate_13 : decode cX3_sameGate 13 = .ok (.iload_n 3, 1) := by decide +kernel
theorem dX3_sameGate_14 : decode cX3_sameGate 14 = .ok (.iaload, 1) := by decide +kernel
theorem dX3_sameGate_15 : decode cX3_sameGate 15 = .ok (.ifCond .ne 35, 3) := by decide +kernel
theorem dX3_sameGate_18 : decode cX3_sameGate 18 = .ok (.aload_n 0, 1) := by decide +kernel
theorem dX3_sameGate_19 : decode cX3_sameGate 19 = .ok (.getfield 18, 3) := by decide +kernel
theorem dX3_sameGate_22 : decode cX3_sameGate 22 = .ok (.iload_n 3, 1) := by decide +kernel
theorem dX3_sameGate_23 : decode cX3_sameGate 23 = .ok (.iaload, 1) := by decide +kernel
theorem dX3_sameGate_24 : decode cX3_sameGate 24 = .ok (.aload_n 0, 1) := by decide +kernel
theorem dX3_sameGate_25 : decode cX3_sameGate 25 = .ok (.getfield 18, 3) := by decide +kernel
theorem dX3_sameGate_28 : decode cX3_sameGate 28 = .ok (.iload_n 1, 1) := by decide +kernel
theorem dX3_sameGate_29 : decode cX3_sameGate 29 = .ok (.iaload, 1) := by decide +kernel
theorem dX3_sameGate_30 : decode cX3_sameGate 30 = .ok (.if_icmp .ne 20, 3) := by decide +kernel
theorem dX3_sameGate_33 : decode cX3_sameGate 33 = .ok (.aload_n 0, 1) := by decide +kernel
theorem dX3_sameGate_34 : decode cX3_sameGate 34 = .ok (.getfield 21, 3) := by decide +kernel
theorem dX3_sameGate_37 : decode cX3_sameGate 37 = .ok (.iload_n 3, 1) := by decide +kernel
theorem dX3_sameGate_38 : decode cX3_sameGate 38 = .ok (.iaload, 1) := by decide +kernel
theorem dX3_sameGate_39 : decode cX3_sameGate 39 = .ok (.aload_n 0, 1) := by decide +kernel
theorem dX3_sameGate_40 : decode cX3_sameGate 40 = .ok (.getfield 21, 3) := by decide +kernel
theorem dX3_sameGate_43 : decode cX3_sameGate 43 = .ok (.iload_n 1, 1) := by decide +kernel
theorem dX3_sameGate_44 : decode cX3_sameGate 44 = .ok (.iaload, 1) := by decide +kernel
theorem dX3_sameGate_45 : decode cX3_sameGate 45 = .ok (.if_icmp .ne 5, 3) := by decide +kernel
theorem dX3_sameGate_48 : decode cX3_sameGate 48 = .ok (.iload_n 3, 1) := by decide +kernel
theorem dX3_sameGate_49 : decode cX3_sameGate 49 = .ok (.ireturn, 1) := by decide +kernel
theorem dX3_sameGate_50 : decode cX3_sameGate 50 = .ok (.iinc 3 1, 3) := by decide +kernel
theorem dX3_sameGate_53 : decode cX3_sameGate 53 = .ok (.goto (-49), 3) := by decide +kernel
theorem dX3_sameGate_56 : decode cX3_sameGate 56 = .ok (.iconst (-1), 1) := by decide +kernel
theorem dX3_sameGate_57 : decode cX3_sameGate 57 = .ok (.ireturn, 1) := by decide +kernel
theorem dX3_formByChecks_0 : decode cX3_formByChecks 0 = .ok (.iconst 0, 1) := by decide +kernel
theorem dX3_formByChecks_1 : decode cX3_formByChecks 1 = .ok (.istore_n 3, 1) := by decide +kernel
theorem dX3_formByChecks_2 : decode cX3_formByChecks 2 = .ok (.iload_n 3, 1) := by decide +kernel
theorem dX3_formByChecks_3 : decode cX3_formByChecks 3 = .ok (.iload_n 1, 1) := by decide +kernel
theorem dX3_formByChecks_4 : decode cX3_formByChecks 4 = .ok (.if_icmp .ge 95, 3) := by decide +kernel
theorem dX3_formByChecks_7 : decode cX3_formByChecks 7 = .ok (.aload_n 0, 1) := by decide +kernel
theorem dX3_formByChecks_8 : decode cX3_formByChecks 8 = .ok (.getfield 15, 3) := by decide +kernel
theorem dX3_formByChecks_11 : decode cX3_formByChecks 11 = .ok (.iload_n 3, 1) := by decide +kernel
theorem dX3_formByChecks_12 : decode cX3_formByChecks 12 = .ok (.iaload, 1) := by decide +kernel
theorem dX3_formByChecks_13 : decode cX3_formByChecks 13 = .ok (.ifCond .eq 6, 3) := by decide +kernel
theorem dX3_formByChecks_16 : decode cX3_formByChecks 16 = .ok (.goto 77, 3) := by decide +kernel
theorem dX3_formByChecks_19 : decode cX3_formByChecks 19 = .ok (.aload_n 2, 1) := by decide +kernel
theorem dX3_formByChecks_20 : decode cX3_formByChecks 20 = .ok (.getfield 114, 3) := by decide +kernel
theorem dX3_formByChecks_23 : decode cX3_formByChecks 23 = .ok (.iload_n 1, 1) := by decide +kernel
theorem dX3_formByChecks_24 : decode cX3_formByChecks 24 = .ok (.iaload, 1) := by decide +kernel
theorem dX3_formByChecks_25 : decode cX3_formByChecks 25 = .ok (.aload_n 2, 1) := by decide +kernel
theorem dX3_formByChecks_26 : decode cX3_formByChecks 26 = .ok (.getfield 114, 3) := by decide +kernel
theorem dX3_formByChecks_29 : decode cX3_formByChecks 29 = .ok (.iload_n 3, 1) := by decide +kernel
theorem dX3_formByChecks_30 : decode cX3_formByChecks 30 = .ok (.iaload, 1) := by decide +kernel
theorem dX3_formByChecks_31 : decode cX3_formByChecks 31 = .ok (.ixor, 1) := by decide +kernel
theorem dX3_formByChecks_32 : decode cX3_formByChecks 32 = .ok (.istore 4, 2) := by decide +kernel
theorem dX3_formByChecks_34 : decode cX3_formByChecks 34 = .ok (.iload 4, 2) := by decide +kernel
theorem dX3_formByChecks_36 : decode cX3_formByChecks 36 = .ok (.aload_n 0, 1) := by decide +kernel
theorem dX3_formByChecks_37 : decode cX3_formByChecks 37 = .ok (.getfield 91, 3) := by decide +kernel
theorem dX3_formByChecks_40 : decode cX3_formByChecks 40 = .ok (.iand, 1) := by decide +kernel
theorem dX3_formByChecks_41 : decode cX3_formByChecks 41 = .ok (.ifCond .ne 16, 3) := by decide +kernel
theorem dX3_formByChecks_44 : decode cX3_formByChecks 44 = .ok (.aload_n 0, 1) := by decide +kernel
theorem dX3_formByChecks_45 : decode cX3_formByChecks 45 = .ok (.iload 4, 2) := by decide +kernel
theorem dX3_formByChecks_47 : decode cX3_formByChecks 47 = .ok (.invokevirtual 117, 3) := by decide +kernel
theorem dX3_formByChecks_50 : decode cX3_formByChecks 50 = .ok (.ifCond .eq 7, 3) := by decide +kernel
theorem dX3_formByChecks_53 : decode cX3_formByChecks 53 = .ok (.iconst 2, 1) := by decide +kernel
theorem dX3_formByChecks_54 : decode cX3_formByChecks 54 = .ok (.iload_n 3, 1) := by decide +kernel
theorem dX3_formByChecks_55 : decode cX3_formByChecks 55 = .ok (.imul, 1) := by decide +kernel
theorem dX3_formByChecks_56 : decode cX3_formByChecks 56 = .ok (.ireturn, 1) := by decide +kernel
theorem dX3_formByChecks_57 : decode cX3_formByChecks 57 = .ok (.iload 4, 2) := by decide +kernel
theorem dX3_formByChecks_59 : decode cX3_formByChecks 59 = .ok (.aload_n 0, 1) := by decide +kernel
theorem dX3_formByChecks_60 : decode cX3_formByChecks 60 = .ok (.getfield 91, 3) := by decide +kernel
theorem dX3_formByChecks_63 : decode cX3_formByChecks 63 = .ok (.iand, 1) := by decide +kernel
theorem dX3_formByChecks_64 : decode cX3_formByChecks 64 = .ok (.aload_n 0, 1) := by decide +kernel
theorem dX3_formByChecks_65 : decode cX3_formByChecks 65 = .ok (.getfield 91, 3) := by decide +kernel
theorem dX3_formByChecks_68 : decode cX3_formByChecks 68 = .ok (.if_icmp .ne 25, 3) := by decide +kernel
theorem dX3_formByChecks_71 : decode cX3_formByChecks 71 = .ok (.aload_n 0, 1) := by decide +kernel
theorem dX3_formByChecks_72 : decode cX3_formByChecks 72 = .ok (.iload 4, 2) := by decide +kernel
theorem dX3_formByChecks_74 : decode cX3_formByChecks 74 = .ok (.iconst (-1), 1) := by decide +kernel
theorem dX3_formByChecks_75 : decode cX3_formByChecks 75 = .ok (.ixor, 1) := by decide +kernel
theorem dX3_formByChecks_76 : decode cX3_formByChecks 76 = .ok (.aload_n 0, 1) := by decide +kernel
theorem dX3_formByChecks_77 : decode cX3_formByChecks 77 = .ok (.getfield 82, 3) := by decide +kernel
theorem dX3_formByChecks_80 : decode cX3_formByChecks 80 = .ok (.iand, 1) := by decide +kernel
theorem dX3_formByChecks_81 : decode cX3_formByChecks 81 = .ok (.invokevirtual 117, 3) := by decide +kernel
theorem dX3_formByChecks_84 : decode cX3_formByChecks 84 = .ok (.ifCond .eq 9, 3) := by decide +kernel
theorem dX3_formByChecks_87 : decode cX3_formByChecks 87 = .ok (.iconst 2, 1) := by decide +kernel
theorem dX3_formByChecks_88 : decode cX3_formByChecks 88 = .ok (.iload_n 3, 1) := by decide +kernel
theorem dX3_formByChecks_89 : decode cX3_formByChecks 89 = .ok (.imul, 1) := by decide +kernel
theorem dX3_formByChecks_90 : decode cX3_formByChecks 90 = .ok (.iconst 1, 1) := by decide +kernel
theorem dX3_formByChecks_91 : decode cX3_formByChecks 91 = .ok (.iadd, 1) := by decide +kernel
theorem dX3_formByChecks_92 : decode cX3_formByChecks 92 = .ok (.ireturn, 1) := by decide +kernel
theorem dX3_formByChecks_93 : decode cX3_formByChecks 93 = .ok (.iinc 3 1, 3) := by decide +kernel
theorem dX3_formByChecks_96 : decode cX3_formByChecks 96 = .ok (.goto (-94), 3) := by decide +kernel
theorem dX3_formByChecks_99 : decode cX3_formByChecks 99 = .ok (.iconst (-1), 1) := by decide +kernel
theorem dX3_formByChecks_100 : decode cX3_formByChecks 100 = .ok (.ireturn, 1) := by decide +kernel
theorem dX3_checkHolds_0 : decode cX3_checkHolds 0 = .ok (.aload_n 0, 1) := by decide +kernel
theorem dX3_checkHolds_1 : decode cX3_checkHolds 1 = .ok (.dup, 1) := by decide +kernel
theorem dX3_checkHolds_2 : decode cX3_checkHolds 2 = .ok (.getfield 75, 3) := by decide +kernel
theorem dX3_checkHolds_5 : decode cX3_checkHolds 5 = .ok (.iconst 1, 1) := by decide +kernel
theorem dX3_checkHolds_6 : decode cX3_checkHolds 6 = .ok (.iadd, 1) := by decide +kernel
theorem dX3_checkHolds_7 : decode cX3_checkHolds 7 = .ok (.putfield 75, 3) := by decide +kernel
theorem dX3_checkHolds_10 : decode cX3_checkHolds 10 = .ok (.iload_n 1, 1) := by decide +kernel
theorem dX3_checkHolds_11 : decode cX3_checkHolds 11 = .ok (.ifCond .ne 5, 3) := by decide +kernel
theorem dX3_checkHolds_14 : decode cX3_checkHolds 14 = .ok (.iconst 1, 1) := by decide +kernel
theorem dX3_checkHolds_15 : decode cX3_checkHolds 15 = .ok (.ireturn, 1) := by decide +kernel
theorem dX3_checkHolds_16 : decode cX3_checkHolds 16 = .ok (.aload_n 0, 1) := by decide +kernel
theorem dX3_checkHolds_17 : decode cX3_checkHolds 17 = .ok (.iload_n 1, 1) := by decide +kernel
theorem dX3_checkHolds_18 : decode cX3_checkHolds 18 = .ok (.invokestatic 121, 3) := by decide +kernel
theorem dX3_checkHolds_21 : decode cX3_checkHolds 21 = .ok (.invokevirtual 100, 3) := by decide +kernel
theorem dX3_checkHolds_24 : decode cX3_checkHolds 24 = .ok (.iconst 0, 1) := by decide +kernel
theorem dX3_checkHolds_25 : decode cX3_checkHolds 25 = .ok (.ireturn, 1) := by decide +kernel
theorem dX3_formOf_0 : decode cX3_formOf 0 = .ok (.aload_n 0, 1) := by decide +kernel
theorem dX3_formOf_1 : decode cX3_formOf 1 = .ok (.getfield 9, 3) := by decide +kernel
theorem dX3_formOf_4 : decode cX3_formOf 4 = .ok (.iload_n 1, 1) := by decide +kernel
theorem dX3_formOf_5 : decode cX3_formOf 5 = .ok (.iconst 1, 1) := by decide +kernel
theorem dX3_formOf_6 : decode cX3_formOf 6 = .ok (.ishr, 1) := by decide +kernel
theorem dX3_formOf_7 : decode cX3_formOf 7 = .ok (.iaload, 1) := by decide +kernel
theorem dX3_formOf_8 : decode cX3_formOf 8 = .ok (.iload_n 1, 1) := by decide +kernel
theorem dX3_formOf_9 : decode cX3_formOf 9 = .ok (.iconst 1, 1) := by decide +kernel
theorem dX3_formOf_10 : decode cX3_formOf 10 = .ok (.iand, 1) := by decide +kernel
theorem dX3_formOf_11 : decode cX3_formOf 11 = .ok (.ixor, 1) := by decide +kernel
theorem dX3_formOf_12 : decode cX3_formOf 12 = .ok (.ireturn, 1) := by decide +kernel
theorem dX3_lineOf_0 : decode cX3_lineOf 0 = .ok (.aload_n 0, 1) := by decide +kernel
theorem dX3_lineOf_1 : decode cX3_lineOf 1 = .ok (.getfield 24, 3) := by decide +kernel
theorem dX3_lineOf_4 : decode cX3_lineOf 4 = .ok (.iload_n 1, 1) := by decide +kernel
theorem dX3_lineOf_5 : decode cX3_lineOf 5 = .ok (.iaload, 1) := by decide +kernel
theorem dX3_lineOf_6 : decode cX3_lineOf 6 = .ok (.istore_n 3, 1) := by decide +kernel
theorem dX3_lineOf_7 : decode cX3_lineOf 7 = .ok (.iload_n 2, 1) := by decide +kernel
theorem dX3_lineOf_8 : decode cX3_lineOf 8 = .ok (.lookupswitch 37 #[(0, 28), (1, 30)], 28) := by decide +kernel
theorem dX3_lineOf_36 : decode cX3_lineOf 36 = .ok (.iload_n 3, 1) := by decide +kernel
theorem dX3_lineOf_37 : decode cX3_lineOf 37 = .ok (.ireturn, 1) := by decide +kernel
theorem dX3_lineOf_38 : decode cX3_lineOf 38 = .ok (.aload_n 0, 1) := by decide +kernel
theorem dX3_lineOf_39 : decode cX3_lineOf 39 = .ok (.getfield 9, 3) := by decide +kernel
theorem dX3_lineOf_42 : decode cX3_lineOf 42 = .ok (.iload_n 3, 1) := by decide +kernel
theorem dX3_lineOf_43 : decode cX3_lineOf 43 = .ok (.iaload, 1) := by decide +kernel
theorem dX3_lineOf_44 : decode cX3_lineOf 44 = .ok (.ireturn, 1) := by decide +kernel
theorem dX3_lineOf_45 : decode cX3_lineOf 45 = .ok (.aload_n 0, 1) := by decide +kernel
theorem dX3_lineOf_46 : decode cX3_lineOf 46 = .ok (.getfield 15, 3) := by decide +kernel
theorem dX3_lineOf_49 : decode cX3_lineOf 49 = .ok (.iload_n 3, 1) := by decide +kernel
theorem dX3_lineOf_50 : decode cX3_lineOf 50 = .ok (.iaload, 1) := by decide +kernel
theorem dX3_lineOf_51 : decode cX3_lineOf 51 = .ok (.ireturn, 1) := by decide +kernel
theorem dX3_tallyOf_0 : decode cX3_tallyOf 0 = .ok (.iload_n 1, 1) := by decide +kernel
theorem dX3_tallyOf_1 : decode cX3_tallyOf 1 = .ok (.lookupswitch 37 #[(4, 27), (5, 32)], 27) := by decide +kernel
theorem dX3_tallyOf_28 : decode cX3_tallyOf 28 = .ok (.aload_n 0, 1) := by decide +kernel
theorem dX3_tallyOf_29 : decode cX3_tallyOf 29 = .ok (.getfield 75, 3) := by decide +kernel
theorem dX3_tallyOf_32 : decode cX3_tallyOf 32 = .ok (.ireturn, 1) := by decide +kernel
theorem dX3_tallyOf_33 : decode cX3_tallyOf 33 = .ok (.aload_n 0, 1) := by decide +kernel
theorem dX3_tallyOf_34 : decode cX3_tallyOf 34 = .ok (.getfield 88, 3) := by decide +kernel
theorem dX3_tallyOf_37 : decode cX3_tallyOf 37 = .ok (.ireturn, 1) := by decide +kernel
theorem dX3_tallyOf_38 : decode cX3_tallyOf 38 = .ok (.aload_n 0, 1) := by decide +kernel
theorem dX3_tallyOf_39 : decode cX3_tallyOf 39 = .ok (.getfield 33, 3) := by decide +kernel
theorem dX3_tallyOf_42 : decode cX3_tallyOf 42 = .ok (.iload_n 1, 1) := by decide +kernel
theorem dX3_tallyOf_43 : decode cX3_tallyOf 43 = .ok (.iaload, 1) := by decide +kernel
theorem dX3_tallyOf_44 : decode cX3_tallyOf 44 = .ok (.ireturn, 1) := by decide +kernel
theorem dX3_numberKept_0 : decode cX3_numberKept 0 = .ok (.iconst 0, 1) := by decide +kernel
theorem dX3_numberKept_1 : decode cX3_numberKept 1 = .ok (.istore_n 2, 1) := by decide +kernel
theorem dX3_numberKept_2 : decode cX3_numberKept 2 = .ok (.iconst 0, 1) := by decide +kernel
theorem dX3_numberKept_3 : decode cX3_numberKept 3 = .ok (.istore_n 3, 1) := by decide +kernel
theorem dX3_numberKept_4 : decode cX3_numberKept 4 = .ok (.iload_n 3, 1) := by decide +kernel
theorem dX3_numberKept_5 : decode cX3_numberKept 5 = .ok (.iload_n 1, 1) := by decide +kernel
theorem dX3_numberKept_6 : decode cX3_numberKept 6 = .ok (.if_icmp .ge 28, 3) := by decide +kernel
theorem dX3_numberKept_9 : decode cX3_numberKept 9 = .ok (.aload_n 0, 1) := by decide +kernel
theorem dX3_numberKept_10 : decode cX3_numberKept 10 = .ok (.getfield 15, 3) := by decide +kernel
theorem dX3_numberKept_13 : decode cX3_numberKept 13 = .ok (.iload_n 3, 1) := by decide +kernel
theorem dX3_numberKept_14 : decode cX3_numberKept 14 = .ok (.iaload, 1) := by decide +kernel
theorem dX3_numberKept_15 : decode cX3_numberKept 15 = .ok (.ifCond .ne 13, 3) := by decide +kernel
theorem dX3_numberKept_18 : decode cX3_numberKept 18 = .ok (.aload_n 0, 1) := by decide +kernel
theorem dX3_numberKept_19 : decode cX3_numberKept 19 = .ok (.getfield 27, 3) := by decide +kernel
theorem dX3_numberKept_22 : decode cX3_numberKept 22 = .ok (.iload_n 3, 1) := by decide +kernel
theorem dX3_numberKept_23 : decode cX3_numberKept 23 = .ok (.iload_n 2, 1) := by decide +kernel
theorem dX3_numberKept_24 : decode cX3_numberKept 24 = .ok (.iastore, 1) := by decide +kernel
theorem dX3_numberKept_25 : decode cX3_numberKept 25 = .ok (.iinc 2 1, 3) := by decide +kernel
theorem dX3_numberKept_28 : decode cX3_numberKept 28 = .ok (.iinc 3 1, 3) := by decide +kernel
theorem dX3_numberKept_31 : decode cX3_numberKept 31 = .ok (.goto (-27), 3) := by decide +kernel
theorem dX3_numberKept_34 : decode cX3_numberKept 34 = .ok (.return_, 1) := by decide +kernel
theorem dX3_numbered_0 : decode cX3_numbered 0 = .ok (.iconst 2, 1) := by decide +kernel
theorem dX3_numbered_1 : decode cX3_numbered 1 = .ok (.aload_n 0, 1) := by decide +kernel
theorem dX3_numbered_2 : decode cX3_numbered 2 = .ok (.getfield 27, 3) := by decide +kernel
theorem dX3_numbered_5 : decode cX3_numbered 5 = .ok (.iload_n 1, 1) := by decide +kernel
theorem dX3_numbered_6 : decode cX3_numbered 6 = .ok (.iconst 1, 1) := by decide +kernel
theorem dX3_numbered_7 : decode cX3_numbered 7 = .ok (.ishr, 1) := by decide +kernel
theorem dX3_numbered_8 : decode cX3_numbered 8 = .ok (.iaload, 1) := by decide +kernel
theorem dX3_numbered_9 : decode cX3_numbered 9 = .ok (.imul, 1) := by decide +kernel
theorem dX3_numbered_10 : decode cX3_numbered 10 = .ok (.iload_n 1, 1) := by decide +kernel
theorem dX3_numbered_11 : decode cX3_numbered 11 = .ok (.iconst 1, 1) := by decide +kernel
theorem dX3_numbered_12 : decode cX3_numbered 12 = .ok (.iand, 1) := by decide +kernel
theorem dX3_numbered_13 : decode cX3_numbered 13 = .ok (.iadd, 1) := by decide +kernel
theorem dX3_numbered_14 : decode cX3_numbered 14 = .ok (.ireturn, 1) := by decide +kernel
theorem dX3_digestOn_0 : decode cX3_digestOn 0 = .ok (.iconst 0, 1) := by decide +kernel
theorem dX3_digestOn_1 : decode cX3_digestOn 1 = .ok (.istore_n 3, 1) := by decide +kernel
theorem dX3_digestOn_2 : decode cX3_digestOn 2 = .ok (.iload_n 3, 1) := by decide +kernel
theorem dX3_digestOn_3 : decode cX3_digestOn 3 = .ok (.aload_n 0, 1) := by decide +kernel
theorem dX3_digestOn_4 : decode cX3_digestOn 4 = .ok (.getfield 88, 3) := by decide +kernel
theorem dX3_digestOn_7 : decode cX3_digestOn 7 = .ok (.if_icmp .ge 23, 3) := by decide +kernel
theorem dX3_digestOn_10 : decode cX3_digestOn 10 = .ok (.ldc2_w 124, 3) := by decide +kernel
theorem dX3_digestOn_13 : decode cX3_digestOn 13 = .ok (.lload_n 1, 1) := by decide +kernel
theorem dX3_digestOn_14 : decode cX3_digestOn 14 = .ok (.lmul, 1) := by decide +kernel
theorem dX3_digestOn_15 : decode cX3_digestOn 15 = .ok (.aload_n 0, 1) := by decide +kernel
theorem dX3_digestOn_16 : decode cX3_digestOn 16 = .ok (.getfield 30, 3) := by decide +kernel
theorem dX3_digestOn_19 : decode cX3_digestOn 19 = .ok (.iload_n 3, 1) := by decide +kernel
theorem dX3_digestOn_20 : decode cX3_digestOn 20 = .ok (.iaload, 1) := by decide +kernel
theorem dX3_digestOn_21 : decode cX3_digestOn 21 = .ok (.i2l, 1) := by decide +kernel
theorem dX3_digestOn_22 : decode cX3_digestOn 22 = .ok (.ladd, 1) := by decide +kernel
theorem dX3_digestOn_23 : decode cX3_digestOn 23 = .ok (.lstore_n 1, 1) := by decide +kernel
theorem dX3_digestOn_24 : decode cX3_digestOn 24 = .ok (.iinc 3 1, 3) := by decide +kernel
theorem dX3_digestOn_27 : decode cX3_digestOn 27 = .ok (.goto (-25), 3) := by decide +kernel
theorem dX3_digestOn_30 : decode cX3_digestOn 30 = .ok (.iconst 0, 1) := by decide +kernel
theorem dX3_digestOn_31 : decode cX3_digestOn 31 = .ok (.istore_n 3, 1) := by decide +kernel
theorem dX3_digestOn_32 : decode cX3_digestOn 32 = .ok (.iload_n 3, 1) := by decide +kernel
theorem dX3_digestOn_33 : decode cX3_digestOn 33 = .ok (.iconst 5, 1) := by decide +kernel
theorem dX3_digestOn_34 : decode cX3_digestOn 34 = .ok (.if_icmp .gt 22, 3) := by decide +kernel
theorem dX3_digestOn_37 : decode cX3_digestOn 37 = .ok (.ldc2_w 124, 3) := by decide +kernel
theorem dX3_digestOn_40 : decode cX3_digestOn 40 = .ok (.lload_n 1, 1) := by decide +kernel
theorem dX3_digestOn_41 : decode cX3_digestOn 41 = .ok (.lmul, 1) := by decide +kernel
theorem dX3_digestOn_42 : decode cX3_digestOn 42 = .ok (.aload_n 0, 1) := by decide +kernel
theorem dX3_digestOn_43 : decode cX3_digestOn 43 = .ok (.iload_n 3, 1) := by decide +kernel
theorem dX3_digestOn_44 : decode cX3_digestOn 44 = .ok (.invokevirtual 126, 3) := by decide +kernel
theorem dX3_digestOn_47 : decode cX3_digestOn 47 = .ok (.i2l, 1) := by decide +kernel
theorem dX3_digestOn_48 : decode cX3_digestOn 48 = .ok (.ladd, 1) := by decide +kernel
theorem dX3_digestOn_49 : decode cX3_digestOn 49 = .ok (.lstore_n 1, 1) := by decide +kernel
theorem dX3_digestOn_50 : decode cX3_digestOn 50 = .ok (.iinc 3 1, 3) := by decide +kernel
theorem dX3_digestOn_53 : decode cX3_digestOn 53 = .ok (.goto (-21), 3) := by decide +kernel
theorem dX3_digestOn_56 : decode cX3_digestOn 56 = .ok (.iconst 0, 1) := by decide +kernel
theorem dX3_digestOn_57 : decode cX3_digestOn 57 = .ok (.istore_n 3, 1) := by decide +kernel
theorem dX3_digestOn_58 : decode cX3_digestOn 58 = .ok (.iload_n 3, 1) := by decide +kernel
theorem dX3_digestOn_59 : decode cX3_digestOn 59 = .ok (.aload_n 0, 1) := by decide +kernel
theorem dX3_digestOn_60 : decode cX3_digestOn 60 = .ok (.getfield 72, 3) := by decide +kernel
theorem dX3_digestOn_63 : decode cX3_digestOn 63 = .ok (.if_icmp .ge 39, 3) := by decide +kernel
theorem dX3_digestOn_66 : decode cX3_digestOn 66 = .ok (.iconst 0, 1) := by decide +kernel
theorem dX3_digestOn_67 : decode cX3_digestOn 67 = .ok (.istore 4, 2) := by decide +kernel
theorem dX3_digestOn_69 : decode cX3_digestOn 69 = .ok (.iload 4, 2) := by decide +kernel
theorem dX3_digestOn_71 : decode cX3_digestOn 71 = .ok (.iconst 2, 1) := by decide +kernel
theorem dX3_digestOn_72 : decode cX3_digestOn 72 = .ok (.if_icmp .gt 24, 3) := by decide +kernel
theorem dX3_digestOn_75 : decode cX3_digestOn 75 = .ok (.ldc2_w 124, 3) := by decide +kernel
theorem dX3_digestOn_78 : decode cX3_digestOn 78 = .ok (.lload_n 1, 1) := by decide +kernel
theorem dX3_digestOn_79 : decode cX3_digestOn 79 = .ok (.lmul, 1) := by decide +kernel
theorem dX3_digestOn_80 : decode cX3_digestOn 80 = .ok (.aload_n 0, 1) := by decide +kernel
theorem dX3_digestOn_81 : decode cX3_digestOn 81 = .ok (.iload_n 3, 1) := by decide +kernel
theorem dX3_digestOn_82 : decode cX3_digestOn 82 = .ok (.iload 4, 2) := by decide +kernel
theorem dX3_digestOn_84 : decode cX3_digestOn 84 = .ok (.invokevirtual 129, 3) := by decide +kernel
theorem dX3_digestOn_87 : decode cX3_digestOn 87 = .ok (.i2l, 1) := by decide +kernel
theorem dX3_digestOn_88 : decode cX3_digestOn 88 = .ok (.ladd, 1) := by decide +kernel
theorem dX3_digestOn_89 : decode cX3_digestOn 89 = .ok (.lstore_n 1, 1) := by decide +kernel
theorem dX3_digestOn_90 : decode cX3_digestOn 90 = .ok (.iinc 4 1, 3) := by decide +kernel
theorem dX3_digestOn_93 : decode cX3_digestOn 93 = .ok (.goto (-24), 3) := by decide +kernel
theorem dX3_digestOn_96 : decode cX3_digestOn 96 = .ok (.iinc 3 1, 3) := by decide +kernel
theorem dX3_digestOn_99 : decode cX3_digestOn 99 = .ok (.goto (-41), 3) := by decide +kernel
theorem dX3_digestOn_102 : decode cX3_digestOn 102 = .ok (.lload_n 1, 1) := by decide +kernel
theorem dX3_digestOn_103 : decode cX3_digestOn 103 = .ok (.lreturn, 1) := by decide +kernel
theorem dX4_init_0 : decode cX4_init 0 = .ok (.aload_n 0, 1) := by decide +kernel
theorem dX4_init_1 : decode cX4_init 1 = .ok (.invokespecial 3, 3) := by decide +kernel
theorem dX4_init_4 : decode cX4_init 4 = .ok (.aload_n 0, 1) := by decide +kernel
theorem dX4_init_5 : decode cX4_init 5 = .ok (.new 9, 3) := by decide +kernel
theorem dX4_init_8 : decode cX4_init 8 = .ok (.dup, 1) := by decide +kernel
theorem dX4_init_9 : decode cX4_init 9 = .ok (.invokespecial 11, 3) := by decide +kernel
theorem dX4_init_12 : decode cX4_init 12 = .ok (.putfield 12, 3) := by decide +kernel
theorem dX4_init_15 : decode cX4_init 15 = .ok (.aload_n 0, 1) := by decide +kernel
theorem dX4_init_16 : decode cX4_init 16 = .ok (.new 9, 3) := by decide +kernel
theorem dX4_init_19 : decode cX4_init 19 = .ok (.dup, 1) := by decide +kernel
theorem dX4_init_20 : decode cX4_init 20 = .ok (.invokespecial 11, 3) := by decide +kernel
theorem dX4_init_23 : decode cX4_init 23 = .ok (.putfield 16, 3) := by decide +kernel
theorem dX4_init_26 : decode cX4_init 26 = .ok (.aload_n 0, 1) := by decide +kernel
theorem dX4_init_27 : decode cX4_init 27 = .ok (.new 19, 3) := by decide +kernel
theorem dX4_init_30 : decode cX4_init 30 = .ok (.dup, 1) := by decide +kernel
theorem dX4_init_31 : decode cX4_init 31 = .ok (.invokespecial 21, 3) := by decide +kernel
theorem dX4_init_34 : decode cX4_init 34 = .ok (.putfield 22, 3) := by decide +kernel
theorem dX4_init_37 : decode cX4_init 37 = .ok (.aload_n 0, 1) := by decide +kernel
theorem dX4_init_38 : decode cX4_init 38 = .ok (.new 26, 3) := by decide +kernel
theorem dX4_init_41 : decode cX4_init 41 = .ok (.dup, 1) := by decide +kernel
theorem dX4_init_42 : decode cX4_init 42 = .ok (.invokespecial 28, 3) := by decide +kernel
theorem dX4_init_45 : decode cX4_init 45 = .ok (.putfield 29, 3) := by decide +kernel
theorem dX4_init_48 : decode cX4_init 48 = .ok (.aload_n 0, 1) := by decide +kernel
theorem dX4_init_49 : decode cX4_init 49 = .ok (.new 33, 3) := by decide +kernel
theorem dX4_init_52 : decode cX4_init 52 = .ok (.dup, 1) := by decide +kernel
theorem dX4_init_53 : decode cX4_init 53 = .ok (.invokespecial 35, 3) := by decide +kernel
theorem dX4_init_56 : decode cX4_init 56 = .ok (.putfield 36, 3) := by decide +kernel
theorem dX4_init_59 : decode cX4_init 59 = .ok (.aload_n 0, 1) := by decide +kernel
theorem dX4_init_60 : decode cX4_init 60 = .ok (.iconst 1, 1) := by decide +kernel
theorem dX4_init_61 : decode cX4_init 61 = .ok (.putfield 40, 3) := by decide +kernel
theorem dX4_init_64 : decode cX4_init 64 = .ok (.return_, 1) := by decide +kernel
theorem dX4_inputs_0 : decode cX4_inputs 0 = .ok (.aload_n 0, 1) := by decide +kernel
theorem dX4_inputs_1 : decode cX4_inputs 1 = .ok (.iconst 0, 1) := by decide +kernel
theorem dX4_inputs_2 : decode cX4_inputs 2 = .ok (.iload_n 1, 1) := by decide +kernel
theorem dX4_inputs_3 : decode cX4_inputs 3 = .ok (.iconst 0, 1) := by decide +kernel
theorem dX4_inputs_4 : decode cX4_inputs 4 = .ok (.iconst 0, 1) := by decide +kernel
theorem dX4_inputs_5 : decode cX4_inputs 5 = .ok (.invokevirtual 44, 3) := by decide +kernel
theorem dX4_inputs_8 : decode cX4_inputs 8 = .ok (.ireturn, 1) := by decide +kernel
theorem dX4_gate_0 : decode cX4_gate 0 = .ok (.aload_n 0, 1) := by decide +kernel
theorem dX4_gate_1 : decode cX4_gate 1 = .ok (.iconst 1, 1) := by decide +kernel
theorem dX4_gate_2 : decode cX4_gate 2 = .ok (.iload_n 1, 1) := by decide +kernel
theorem dX4_gate_3 : decode cX4_gate 3 = .ok (.iload_n 2, 1) := by decide +kernel
theorem dX4_gate_4 : decode cX4_gate 4 = .ok (.iconst 0, 1) := by decide +kernel
theorem dX4_gate_5 : decode cX4_gate 5 = .ok (.invokevirtual 44, 3) := by decide +kernel
theorem dX4_gate_8 : decode cX4_gate 8 = .ok (.ireturn, 1) := by decide +kernel
theorem dX4_xor_0 : decode cX4_xor 0 = .ok (.aload_n 0, 1) := by decide +kernel
theorem dX4_xor_1 : decode cX4_xor 1 = .ok (.iconst 2, 1) := by decide +kernel
theorem dX4_xor_2 : decode cX4_xor 2 = .ok (.iload_n 1, 1) := by decide +kernel
theorem dX4_xor_3 : decode cX4_xor 3 = .ok (.iload_n 2, 1) := by decide +kernel
theorem dX4_xor_4 : decode cX4_xor 4 = .ok (.iconst 0, 1) := by decide +kernel
theorem dX4_xor_5 : decode cX4_xor 5 = .ok (.invokevirtual 44, 3) := by decide +kernel
theorem dX4_xor_8 : decode cX4_xor 8 = .ok (.ireturn, 1) := by decide +kernel
theorem dX4_mux_0 : decode cX4_mux 0 = .ok (.aload_n 0, 1) := by decide +kernel
theorem dX4_mux_1 : decode cX4_mux 1 = .ok (.iconst 3, 1) := by decide +kernel
theorem dX4_mux_2 : decode cX4_mux 2 = .ok (.iload_n 1, 1) := by decide +kernel
theorem dX4_mux_3 : decode cX4_mux 3 = .ok (.iload_n 2, 1) := by decide +kernel
theorem dX4_mux_4 : decode cX4_mux 4 = .ok (.iload_n 3, 1) := by decide +kernel
theorem dX4_mux_5 : decode cX4_mux 5 = .ok (.invokevirtual 44, 3) := by decide +kernel
theorem dX4_mux_8 : decode cX4_mux 8 = .ok (.ireturn, 1) := by decide +kernel
theorem dX4_out_0 : decode cX4_out 0 = .ok (.aload_n 0, 1) := by decide +kernel
theorem dX4_out_1 : decode cX4_out 1 = .ok (.iconst 4, 1) := by decide +kernel
theorem dX4_out_2 : decode cX4_out 2 = .ok (.iload_n 1, 1) := by decide +kernel
theorem dX4_out_3 : decode cX4_out 3 = .ok (.iload_n 2, 1) := by decide +kernel
theorem dX4_out_4 : decode cX4_out 4 = .ok (.iconst 0, 1) := by decide +kernel
theorem dX4_out_5 : decode cX4_out 5 = .ok (.invokevirtual 44, 3) := by decide +kernel
theorem dX4_out_8 : decode cX4_out 8 = .ok (.ireturn, 1) := by decide +kernel
theorem dX4_pattern_0 : decode cX4_pattern 0 = .ok (.aload_n 0, 1) := by decide +kernel
theorem dX4_pattern_1 : decode cX4_pattern 1 = .ok (.iconst 5, 1) := by decide +kernel
theorem dX4_pattern_2 : decode cX4_pattern 2 = .ok (.iload_n 1, 1) := by decide +kernel
theorem dX4_pattern_3 : decode cX4_pattern 3 = .ok (.iconst 0, 1) := by decide +kernel
theorem dX4_pattern_4 : decode cX4_pattern 4 = .ok (.iconst 0, 1) := by decide +kernel
theorem dX4_pattern_5 : decode cX4_pattern 5 = .ok (.invokevirtual 44, 3) := by decide +kernel
theorem dX4_pattern_8 : decode cX4_pattern 8 = .ok (.ireturn, 1) := by decide +kernel
theorem dX4_settles_0 : decode cX4_settles 0 = .ok (.aload_n 0, 1) := by decide +kernel
theorem dX4_settles_1 : decode cX4_settles 1 = .ok (.invokevirtual 48, 3) := by decide +kernel
theorem dX4_settles_4 : decode cX4_settles 4 = .ok (.astore_n 1, 1) := by decide +kernel
theorem dX4_settles_5 : decode cX4_settles 5 = .ok (.aload_n 0, 1) := by decide +kernel
theorem dX4_settles_6 : decode cX4_settles 6 = .ok (.getfield 29, 3) := by decide +kernel
theorem dX4_settles_9 : decode cX4_settles 9 = .ok (.aload_n 0, 1) := by decide +kernel
theorem dX4_settles_10 : decode cX4_settles 10 = .ok (.getfield 12, 3) := by decide +kernel
theorem dX4_settles_13 : decode cX4_settles 13 = .ok (.invokevirtual 52, 3) := by decide +kernel
theorem dX4_settles_16 : decode cX4_settles 16 = .ok (.aload_n 0, 1) := by decide +kernel
theorem dX4_settles_17 : decode cX4_settles 17 = .ok (.iconst 1, 1) := by decide +kernel
theorem dX4_settles_18 : decode cX4_settles 18 = .ok (.putfield 40, 3) := by decide +kernel
theorem dX4_settles_21 : decode cX4_settles 21 = .ok (.aload_n 0, 1) := by decide +kernel
theorem dX4_settles_22 : decode cX4_settles 22 = .ok (.getfield 12, 3) := by decide +kernel
theorem dX4_settles_25 : decode cX4_settles 25 = .ok (.aload_n 1, 1) := by decide +kernel
theorem dX4_settles_26 : decode cX4_settles 26 = .ok (.invokevirtual 56, 3) := by decide +kernel
theorem dX4_settles_29 : decode cX4_settles 29 = .ok (.ireturn, 1) := by decide +kernel
theorem dX4_of_0 : decode cX4_of 0 = .ok (.aload_n 0, 1) := by decide +kernel
theorem dX4_of_1 : decode cX4_of 1 = .ok (.getfield 12, 3) := by decide +kernel
theorem dX4_of_4 : decode cX4_of 4 = .ok (.iload_n 1, 1) := by decide +kernel
theorem dX4_of_5 : decode cX4_of 5 = .ok (.invokevirtual 60, 3) := by decide +kernel
theorem dX4_of_8 : decode cX4_of 8 = .ok (.ifCond .eq 12, 3) := by decide +kernel
theorem dX4_of_11 : decode cX4_of 11 = .ok (.iload_n 2, 1) := by decide +kernel
theorem dX4_of_12 : decode cX4_of 12 = .ok (.ifCond .lt 8, 3) := by decide +kernel
theorem dX4_of_15 : decode cX4_of 15 = .ok (.iload_n 2, 1) := by decide +kernel
theorem dX4_of_16 : decode cX4_of 16 = .ok (.iconst 1, 1) := by decide +kernel
theorem dX4_of_17 : decode cX4_of 17 = .ok (.if_icmp .le 10, 3) := by decide +kernel
theorem dX4_of_20 : decode cX4_of 20 = .ok (.aload_n 0, 1) := by decide +kernel
theorem dX4_of_21 : decode cX4_of 21 = .ok (.bipush (-2), 2) := by decide +kernel
theorem dX4_of_23 : decode cX4_of 23 = .ok (.invokevirtual 64, 3) := by decide +kernel
theorem dX4_of_26 : decode cX4_of 26 = .ok (.ireturn, 1) := by decide +kernel
theorem dX4_of_27 : decode cX4_of 27 = .ok (.iload_n 2, 1) := by decide +kernel
theorem dX4_of_28 : decode cX4_of 28 = .ok (.ifCond .ne 15, 3) := by decide +kernel
theorem dX4_of_31 : decode cX4_of 31 = .ok (.aload_n 0, 1) := by decide +kernel
theorem dX4_of_32 : decode cX4_of 32 = .ok (.getfield 12, 3) := by decide +kernel
theorem dX4_of_35 : decode cX4_of 35 = .ok (.getfield 68, 3) := by decide +kernel
theorem dX4_of_38 : decode cX4_of 38 = .ok (.iload_n 1, 1) := by decide +kernel
theorem dX4_of_39 : decode cX4_of 39 = .ok (.iaload, 1) := by decide +kernel
theorem dX4_of_40 : decode cX4_of 40 = .ok (.goto 12, 3) := by decide +kernel
theorem dX4_of_43 : decode cX4_of 43 = .ok (.aload_n 0, 1) := by decide +kernel
theorem dX4_of_44 : decode cX4_of 44 = .ok (.getfield 12, 3) := by decide +kernel
theorem dX4_of_47 : decode cX4_of 47 = .ok (.getfield 72, 3) := by decide +kernel
theorem dX4_of_50 : decode cX4_of 50 = .ok (.iload_n 1, 1) := by decide +kernel
theorem dX4_of_51 : decode cX4_of 51 = .ok (.iaload, 1) := by decide +kernel
theorem dX4_of_52 : decode cX4_of 52 = .ok (.ireturn, 1) := by decide +kernel
theorem dX4_table_0 : decode cX4_table 0 = .ok (.aload_n 0, 1) := by decide +kernel
theorem dX4_table_1 : decode cX4_table 1 = .ok (.getfield 12, 3) := by decide +kernel
theorem dX4_table_4 : decode cX4_table 4 = .ok (.iload_n 1, 1) := by decide +kernel
theorem dX4_table_5 : decode cX4_table 5 = .ok (.invokevirtual 75, 3) := by decide +kernel
theorem dX4_table_8 : decode cX4_table 8 = .ok (.ifCond .eq 14, 3) := by decide +kernel
theorem dX4_table_11 : decode cX4_table 11 = .ok (.aload_n 0, 1) := by decide +kernel
theorem dX4_table_12 : decode cX4_table 12 = .ok (.getfield 12, 3) := by decide +kernel
theorem dX4_table_15 : decode cX4_table 15 = .ok (.iload_n 1, 1) := by decide +kernel
theorem dX4_table_16 : decode cX4_table 16 = .ok (.invokevirtual 78, 3) := by decide +kernel
theorem dX4_table_19 : decode cX4_table 19 = .ok (.goto 9, 3) := by decide +kernel
theorem dX4_table_22 : decode cX4_table 22 = .ok (.aload_n 0, 1) := by decide +kernel
theorem dX4_table_23 : decode cX4_table 23 = .ok (.bipush (-2), 2) := by decide +kernel
theorem dX4_table_25 : decode cX4_table 25 = .ok (.invokevirtual 64, 3) := by decide +kernel
theorem dX4_table_28 : decode cX4_table 28 = .ok (.ireturn, 1) := by decide +kernel
theorem dX4_at_0 : decode cX4_at 0 = .ok (.aload_n 0, 1) := by decide +kernel
theorem dX4_at_1 : decode cX4_at 1 = .ok (.getfield 12, 3) := by decide +kernel
theorem dX4_at_4 : decode cX4_at 4 = .ok (.iload_n 1, 1) := by decide +kernel
theorem dX4_at_5 : decode cX4_at 5 = .ok (.invokevirtual 75, 3) := by decide +kernel
theorem dX4_at_8 : decode cX4_at 8 = .ok (.ifCond .eq 14, 3) := by decide +kernel
theorem dX4_at_11 : decode cX4_at 11 = .ok (.aload_n 0, 1) := by decide +kernel
theorem dX4_at_12 : decode cX4_at 12 = .ok (.getfield 12, 3) := by decide +kernel
theorem dX4_at_15 : decode cX4_at 15 = .ok (.iload_n 2, 1) := by decide +kernel
theorem dX4_at_16 : decode cX4_at 16 = .ok (.invokevirtual 81, 3) := by decide +kernel
theorem dX4_at_19 : decode cX4_at 19 = .ok (.ifCond .ne 10, 3) := by decide +kernel
theorem dX4_at_22 : decode cX4_at 22 = .ok (.aload_n 0, 1) := by decide +kernel
theorem dX4_at_23 : decode cX4_at 23 = .ok (.bipush (-2), 2) := by decide +kernel
theorem dX4_at_25 : decode cX4_at 25 = .ok (.invokevirtual 64, 3) := by decide +kernel
theorem dX4_at_28 : decode cX4_at 28 = .ok (.ireturn, 1) := by decide +kernel
theorem dX4_at_29 : decode cX4_at 29 = .ok (.aload_n 0, 1) := by decide +kernel
theorem dX4_at_30 : decode cX4_at 30 = .ok (.getfield 12, 3) := by decide +kernel
theorem dX4_at_33 : decode cX4_at 33 = .ok (.iload_n 1, 1) := by decide +kernel
theorem dX4_at_34 : decode cX4_at 34 = .ok (.invokevirtual 78, 3) := by decide +kernel
theorem dX4_at_37 : decode cX4_at 37 = .ok (.iload_n 2, 1) := by decide +kernel
theorem dX4_at_38 : decode cX4_at 38 = .ok (.iushr, 1) := by decide +kernel
theorem dX4_at_39 : decode cX4_at 39 = .ok (.iconst 1, 1) := by decide +kernel
theorem dX4_at_40 : decode cX4_at 40 = .ok (.iand, 1) := by decide +kernel
theorem dX4_at_41 : decode cX4_at 41 = .ok (.ireturn, 1) := by decide +kernel
theorem dX4_depth_0 : decode cX4_depth 0 = .ok (.aload_n 0, 1) := by decide +kernel
theorem dX4_depth_1 : decode cX4_depth 1 = .ok (.getfield 12, 3) := by decide +kernel
theorem dX4_depth_4 : decode cX4_depth 4 = .ok (.iload_n 1, 1) := by decide +kernel
theorem dX4_depth_5 : decode cX4_depth 5 = .ok (.invokevirtual 75, 3) := by decide +kernel
theorem dX4_depth_8 : decode cX4_depth 8 = .ok (.ifCond .eq 14, 3) := by decide +kernel
theorem dX4_depth_11 : decode cX4_depth 11 = .ok (.aload_n 0, 1) := by decide +kernel
theorem dX4_depth_12 : decode cX4_depth 12 = .ok (.getfield 12, 3) := by decide +kernel
theorem dX4_depth_15 : decode cX4_depth 15 = .ok (.iload_n 1, 1) := by decide +kernel
theorem dX4_depth_16 : decode cX4_depth 16 = .ok (.invokevirtual 84, 3) := by decide +kernel
theorem dX4_depth_19 : decode cX4_depth 19 = .ok (.goto 9, 3) := by decide +kernel
theorem dX4_depth_22 : decode cX4_depth 22 = .ok (.aload_n 0, 1) := by decide +kernel
theorem dX4_depth_23 : decode cX4_depth 23 = .ok (.bipush (-2), 2) := by decide +kernel
theorem dX4_depth_25 : decode cX4_depth 25 = .ok (.invokevirtual 64, 3) := by decide +kernel
theorem dX4_depth_28 : decode cX4_depth 28 = .ok (.ireturn, 1) := by decide +kernel
theorem dX4_cone_0 : decode cX4_cone 0 = .ok (.aload_n 0, 1) := by decide +kernel
theorem dX4_cone_1 : decode cX4_cone 1 = .ok (.getfield 12, 3) := by decide +kernel
theorem dX4_cone_4 : decode cX4_cone 4 = .ok (.iload_n 1, 1) := by decide +kernel
theorem dX4_cone_5 : decode cX4_cone 5 = .ok (.invokevirtual 75, 3) := by decide +kernel
theorem dX4_cone_8 : decode cX4_cone 8 = .ok (.ifCond .eq 14, 3) := by decide +kernel
theorem dX4_cone_11 : decode cX4_cone 11 = .ok (.aload_n 0, 1) := by decide +kernel
theorem dX4_cone_12 : decode cX4_cone 12 = .ok (.getfield 12, 3) := by decide +kernel
theorem dX4_cone_15 : decode cX4_cone 15 = .ok (.iload_n 1, 1) := by decide +kernel
theorem dX4_cone_16 : decode cX4_cone 16 = .ok (.invokevirtual 87, 3) := by decide +kernel
theorem dX4_cone_19 : decode cX4_cone 19 = .ok (.goto 9, 3) := by decide +kernel
theorem dX4_cone_22 : decode cX4_cone 22 = .ok (.aload_n 0, 1) := by decide +kernel
theorem dX4_cone_23 : decode cX4_cone 23 = .ok (.bipush (-2), 2) := by decide +kernel
theorem dX4_cone_25 : decode cX4_cone 25 = .ok (.invokevirtual 64, 3) := by decide +kernel
theorem dX4_cone_28 : decode cX4_cone 28 = .ok (.ireturn, 1) := by decide +kernel
theorem dX4_outs_0 : decode cX4_outs 0 = .ok (.aload_n 0, 1) := by decide +kernel
theorem dX4_outs_1 : decode cX4_outs 1 = .ok (.getfield 12, 3) := by decide +kernel
theorem dX4_outs_4 : decode cX4_outs 4 = .ok (.iload_n 1, 1) := by decide +kernel
theorem dX4_outs_5 : decode cX4_outs 5 = .ok (.invokevirtual 90, 3) := by decide +kernel
theorem dX4_outs_8 : decode cX4_outs 8 = .ok (.ifCond .eq 7, 3) := by decide +kernel
theorem dX4_outs_11 : decode cX4_outs 11 = .ok (.iload_n 2, 1) := by decide +kernel
theorem dX4_outs_12 : decode cX4_outs 12 = .ok (.ifCond .ge 10, 3) := by decide +kernel
theorem dX4_outs_15 : decode cX4_outs 15 = .ok (.aload_n 0, 1) := by decide +kernel
theorem dX4_outs_16 : decode cX4_outs 16 = .ok (.bipush (-2), 2) := by decide +kernel
theorem dX4_outs_18 : decode cX4_outs 18 = .ok (.invokevirtual 64, 3) := by decide +kernel
theorem dX4_outs_21 : decode cX4_outs 21 = .ok (.ireturn, 1) := by decide +kernel
theorem dX4_outs_22 : decode cX4_outs 22 = .ok (.iload_n 2, 1) := by decide +kernel
theorem dX4_outs_23 : decode cX4_outs 23 = .ok (.aload_n 0, 1) := by decide +kernel
theorem dX4_outs_24 : decode cX4_outs 24 = .ok (.getfield 12, 3) := by decide +kernel
theorem dX4_outs_27 : decode cX4_outs 27 = .ok (.getfield 93, 3) := by decide +kernel
theorem dX4_outs_30 : decode cX4_outs 30 = .ok (.iload_n 1, 1) := by decide +kernel
theorem dX4_outs_31 : decode cX4_outs 31 = .ok (.iaload, 1) := by decide +kernel
theorem dX4_outs_32 : decode cX4_outs 32 = .ok (.if_icmp .ge 15, 3) := by decide +kernel
theorem dX4_outs_35 : decode cX4_outs 35 = .ok (.aload_n 0, 1) := by decide +kernel
theorem dX4_outs_36 : decode cX4_outs 36 = .ok (.getfield 12, 3) := by decide +kernel
theorem dX4_outs_39 : decode cX4_outs 39 = .ok (.iload_n 1, 1) := by decide +kernel
theorem dX4_outs_40 : decode cX4_outs 40 = .ok (.iload_n 2, 1) := by decide +kernel
theorem dX4_outs_41 : decode cX4_outs 41 = .ok (.invokevirtual 96, 3) := by decide +kernel
theorem dX4_outs_44 : decode cX4_outs 44 = .ok (.goto 4, 3) := by decide +kernel
theorem dX4_outs_47 : decode cX4_outs 47 = .ok (.iconst (-1), 1) := by decide +kernel
theorem dX4_outs_48 : decode cX4_outs 48 = .ok (.ireturn, 1) := by decide +kernel
theorem dX4_count_0 : decode cX4_count 0 = .ok (.iload_n 1, 1) := by decide +kernel
theorem dX4_count_1 : decode cX4_count 1 = .ok (.ifCond .lt 8, 3) := by decide +kernel
theorem dX4_count_4 : decode cX4_count 4 = .ok (.iload_n 1, 1) := by decide +kernel
theorem dX4_count_5 : decode cX4_count 5 = .ok (.iconst 4, 1) := by decide +kernel
theorem dX4_count_6 : decode cX4_count 6 = .ok (.if_icmp .le 12, 3) := by decide +kernel
theorem dX4_count_9 : decode cX4_count 9 = .ok (.aload_n 0, 1) := by decide +kernel
theorem dX4_count_10 : decode cX4_count 10 = .ok (.bipush (-2), 2) := by decide +kernel
theorem dX4_count_12 : decode cX4_count 12 = .ok (.invokevirtual 64, 3) := by decide +kernel
theorem dX4_count_15 : decode cX4_count 15 = .ok (.goto 11, 3) := by decide +kernel
theorem dX4_count_18 : decode cX4_count 18 = .ok (.aload_n 0, 1) := by decide +kernel
theorem dX4_count_19 : decode cX4_count 19 = .ok (.getfield 12, 3) := by decide +kernel
theorem dX4_count_22 : decode cX4_count 22 = .ok (.iload_n 1, 1) := by decide +kernel
theorem dX4_count_23 : decode cX4_count 23 = .ok (.invokevirtual 100, 3) := by decide +kernel
theorem dX4_count_26 : decode cX4_count 26 = .ok (.ireturn, 1) := by decide +kernel
theorem dX4_sign_0 : decode cX4_sign 0 = .ok (.aload_n 0, 1) := by decide +kernel
theorem dX4_sign_1 : decode cX4_sign 1 = .ok (.getfield 12, 3) := by decide +kernel
theorem dX4_sign_4 : decode cX4_sign 4 = .ok (.iload_n 1, 1) := by decide +kernel
theorem dX4_sign_5 : decode cX4_sign 5 = .ok (.invokevirtual 103, 3) := by decide +kernel
theorem dX4_sign_8 : decode cX4_sign 8 = .ok (.ifCond .eq 14, 3) := by decide +kernel
theorem dX4_sign_11 : decode cX4_sign 11 = .ok (.aload_n 0, 1) := by decide +kernel
theorem dX4_sign_12 : decode cX4_sign 12 = .ok (.getfield 12, 3) := by decide +kernel
theorem dX4_sign_15 : decode cX4_sign 15 = .ok (.iload_n 1, 1) := by decide +kernel
theorem dX4_sign_16 : decode cX4_sign 16 = .ok (.invokevirtual 106, 3) := by decide +kernel
theorem dX4_sign_19 : decode cX4_sign 19 = .ok (.goto 9, 3) := by decide +kernel
theorem dX4_sign_22 : decode cX4_sign 22 = .ok (.aload_n 0, 1) := by decide +kernel
theorem dX4_sign_23 : decode cX4_sign 23 = .ok (.bipush (-2), 2) := by decide +kernel
theorem dX4_sign_25 : decode cX4_sign 25 = .ok (.invokevirtual 64, 3) := by decide +kernel
theorem dX4_sign_28 : decode cX4_sign 28 = .ok (.ireturn, 1) := by decide +kernel
theorem dX4_form_0 : decode cX4_form 0 = .ok (.aload_n 0, 1) := by decide +kernel
theorem dX4_form_1 : decode cX4_form 1 = .ok (.getfield 12, 3) := by decide +kernel
theorem dX4_form_4 : decode cX4_form 4 = .ok (.iload_n 1, 1) := by decide +kernel
theorem dX4_form_5 : decode cX4_form 5 = .ok (.invokevirtual 103, 3) := by decide +kernel
theorem dX4_form_8 : decode cX4_form 8 = .ok (.ifCond .eq 15, 3) := by decide +kernel
theorem dX4_form_11 : decode cX4_form 11 = .ok (.aload_n 0, 1) := by decide +kernel
theorem dX4_form_12 : decode cX4_form 12 = .ok (.invokevirtual 48, 3) := by decide +kernel
theorem dX4_form_15 : decode cX4_form 15 = .ok (.getfield 109, 3) := by decide +kernel
theorem dX4_form_18 : decode cX4_form 18 = .ok (.iload_n 1, 1) := by decide +kernel
theorem dX4_form_19 : decode cX4_form 19 = .ok (.iaload, 1) := by decide +kernel
theorem dX4_form_20 : decode cX4_form 20 = .ok (.goto 9, 3) := by decide +kernel
theorem dX4_form_23 : decode cX4_form 23 = .ok (.aload_n 0, 1) := by decide +kernel
theorem dX4_form_24 : decode cX4_form 24 = .ok (.bipush (-2), 2) := by decide +kernel
theorem dX4_form_26 : decode cX4_form 26 = .ok (.invokevirtual 64, 3) := by decide +kernel
theorem dX4_form_29 : decode cX4_form 29 = .ok (.ireturn, 1) := by decide +kernel
theorem dX4_lines_0 : decode cX4_lines 0 = .ok (.iload_n 1, 1) := by decide +kernel
theorem dX4_lines_1 : decode cX4_lines 1 = .ok (.iconst (-1), 1) := by decide +kernel
theorem dX4_lines_2 : decode cX4_lines 2 = .ok (.if_icmp .lt 21, 3) := by decide +kernel
theorem dX4_lines_5 : decode cX4_lines 5 = .ok (.iload_n 2, 1) := by decide +kernel
theorem dX4_lines_6 : decode cX4_lines 6 = .ok (.ifCond .lt 17, 3) := by decide +kernel
theorem dX4_lines_9 : decode cX4_lines 9 = .ok (.iload_n 2, 1) := by decide +kernel
theorem dX4_lines_10 : decode cX4_lines 10 = .ok (.iconst 2, 1) := by decide +kernel
theorem dX4_lines_11 : decode cX4_lines 11 = .ok (.if_icmp .gt 12, 3) := by decide +kernel
theorem dX4_lines_14 : decode cX4_lines 14 = .ok (.iload_n 1, 1) := by decide +kernel
theorem dX4_lines_15 : decode cX4_lines 15 = .ok (.iconst (-1), 1) := by decide +kernel
theorem dX4_lines_16 : decode cX4_lines 16 = .ok (.if_icmp .ne 14, 3) := by decide +kernel
theorem dX4_lines_19 : decode cX4_lines 19 = .ok (.iload_n 2, 1) := by decide +kernel
theorem dX4_lines_20 : decode cX4_lines 20 = .ok (.ifCond .eq 10, 3) := by decide +kernel
theorem dX4_lines_23 : decode cX4_lines 23 = .ok (.aload_n 0, 1) := by decide +kernel
theorem dX4_lines_24 : decode cX4_lines 24 = .ok (.bipush (-2), 2) := by decide +kernel
theorem dX4_lines_26 : decode cX4_lines 26 = .ok (.invokevirtual 64, 3) := by decide +kernel
theorem dX4_lines_29 : decode cX4_lines 29 = .ok (.ireturn, 1) := by decide +kernel
theorem dX4_lines_30 : decode cX4_lines 30 = .ok (.aload_n 0, 1) := by decide +kernel
theorem dX4_lines_31 : decode cX4_lines 31 = .ok (.invokevirtual 48, 3) := by decide +kernel
theorem dX4_lines_34 : decode cX4_lines 34 = .ok (.astore_n 3, 1) := by decide +kernel
theorem dX4_lines_35 : decode cX4_lines 35 = .ok (.iload_n 1, 1) := by decide +kernel
theorem dX4_lines_36 : decode cX4_lines 36 = .ok (.iconst (-1), 1) := by decide +kernel
theorem dX4_lines_37 : decode cX4_lines 37 = .ok (.if_icmp .ne 8, 3) := by decide +kernel
theorem dX4_lines_40 : decode cX4_lines 40 = .ok (.aload_n 3, 1) := by decide +kernel
theorem dX4_lines_41 : decode cX4_lines 41 = .ok (.getfield 112, 3) := by decide +kernel
theorem dX4_lines_44 : decode cX4_lines 44 = .ok (.ireturn, 1) := by decide +kernel
theorem dX4_lines_45 : decode cX4_lines 45 = .ok (.iload_n 1, 1) := by decide +kernel
theorem dX4_lines_46 : decode cX4_lines 46 = .ok (.aload_n 3, 1) := by decide +kernel
theorem dX4_lines_47 : decode cX4_lines 47 = .ok (.getfield 112, 3) := by decide +kernel
theorem dX4_lines_50 : decode cX4_lines 50 = .ok (.if_icmp .ge 12, 3) := by decide +kernel
theorem dX4_lines_53 : decode cX4_lines 53 = .ok (.aload_n 3, 1) := by decide +kernel
theorem dX4_lines_54 : decode cX4_lines 54 = .ok (.iload_n 1, 1) := by decide +kernel
theorem dX4_lines_55 : decode cX4_lines 55 = .ok (.iload_n 2, 1) := by decide +kernel
theorem dX4_lines_56 : decode cX4_lines 56 = .ok (.invokevirtual 116, 3) := by decide +kernel
theorem dX4_lines_59 : decode cX4_lines 59 = .ok (.goto 5, 3) := by decide +kernel
theorem dX4_lines_62 : decode cX4_lines 62 = .ok (.bipush (-5), 2) := by decide +kernel
theorem dX4_lines_64 : decode cX4_lines 64 = .ok (.ireturn, 1) := by decide +kernel
theorem dX4_swept_0 : decode cX4_swept 0 = .ok (.iload_n 1, 1) := by decide +kernel
theorem dX4_swept_1 : decode cX4_swept 1 = .ok (.ifCond .lt 8, 3) := by decide +kernel
theorem dX4_swept_4 : decode cX4_swept 4 = .ok (.iload_n 1, 1) := by decide +kernel
theorem dX4_swept_5 : decode cX4_swept 5 = .ok (.iconst 5, 1) := by decide +kernel
theorem dX4_swept_6 : decode cX4_swept 6 = .ok (.if_icmp .le 12, 3) := by decide +kernel
theorem dX4_swept_9 : decode cX4_swept 9 = .ok (.aload_n 0, 1) := by decide +kernel
theorem dX4_swept_10 : decode cX4_swept 10 = .ok (.bipush (-2), 2) := by decide +kernel
theorem dX4_swept_12 : decode cX4_swept 12 = .ok (.invokevirtual 64, 3) := by decide +kernel
theorem dX4_swept_15 : decode cX4_swept 15 = .ok (.goto 11, 3) := by decide +kernel
theorem dX4_swept_18 : decode cX4_swept 18 = .ok (.aload_n 0, 1) := by decide +kernel
theorem dX4_swept_19 : decode cX4_swept 19 = .ok (.invokevirtual 48, 3) := by decide +kernel
theorem dX4_swept_22 : decode cX4_swept 22 = .ok (.iload_n 1, 1) := by decide +kernel
theorem dX4_swept_23 : decode cX4_swept 23 = .ok (.invokevirtual 119, 3) := by decide +kernel
theorem dX4_swept_26 : decode cX4_swept 26 = .ok (.ireturn, 1) := by decide +kernel
theorem dX4_row_0 : decode cX4_row 0 = .ok (.iload_n 1, 1) := by decide +kernel
theorem dX4_row_1 : decode cX4_row 1 = .ok (.ifCond .ge 10, 3) := by decide +kernel
theorem dX4_row_4 : decode cX4_row 4 = .ok (.aload_n 0, 1) := by decide +kernel
theorem dX4_row_5 : decode cX4_row 5 = .ok (.bipush (-2), 2) := by decide +kernel
theorem dX4_row_7 : decode cX4_row 7 = .ok (.invokevirtual 64, 3) := by decide +kernel
theorem dX4_row_10 : decode cX4_row 10 = .ok (.ireturn, 1) := by decide +kernel
theorem dX4_row_11 : decode cX4_row 11 = .ok (.aload_n 0, 1) := by decide +kernel
theorem dX4_row_12 : decode cX4_row 12 = .ok (.invokevirtual 48, 3) := by decide +kernel
theorem dX4_row_15 : decode cX4_row 15 = .ok (.astore_n 2, 1) := by decide +kernel
theorem dX4_row_16 : decode cX4_row 16 = .ok (.iload_n 1, 1) := by decide +kernel
theorem dX4_row_17 : decode cX4_row 17 = .ok (.aload_n 2, 1) := by decide +kernel
theorem dX4_row_18 : decode cX4_row 18 = .ok (.getfield 122, 3) := by decide +kernel
theorem dX4_row_21 : decode cX4_row 21 = .ok (.if_icmp .ge 12, 3) := by decide +kernel
theorem dX4_row_24 : decode cX4_row 24 = .ok (.aload_n 2, 1) := by decide +kernel
theorem dX4_row_25 : decode cX4_row 25 = .ok (.getfield 125, 3) := by decide +kernel
theorem dX4_row_28 : decode cX4_row 28 = .ok (.iload_n 1, 1) := by decide +kernel
theorem dX4_row_29 : decode cX4_row 29 = .ok (.iaload, 1) := by decide +kernel
theorem dX4_row_30 : decode cX4_row 30 = .ok (.goto 4, 3) := by decide +kernel
theorem dX4_row_33 : decode cX4_row 33 = .ok (.iconst (-1), 1) := by decide +kernel
theorem dX4_row_34 : decode cX4_row 34 = .ok (.ireturn, 1) := by decide +kernel
theorem dX4_alike_0 : decode cX4_alike 0 = .ok (.aload_n 0, 1) := by decide +kernel
theorem dX4_alike_1 : decode cX4_alike 1 = .ok (.getfield 12, 3) := by decide +kernel
theorem dX4_alike_4 : decode cX4_alike 4 = .ok (.iload_n 1, 1) := by decide +kernel
theorem dX4_alike_5 : decode cX4_alike 5 = .ok (.invokevirtual 128, 3) := by decide +kernel
theorem dX4_alike_8 : decode cX4_alike 8 = .ok (.ifCond .ne 10, 3) := by decide +kernel
theorem dX4_alike_11 : decode cX4_alike 11 = .ok (.aload_n 0, 1) := by decide +kernel
theorem dX4_alike_12 : decode cX4_alike 12 = .ok (.bipush (-2), 2) := by decide +kernel
theorem dX4_alike_14 : decode cX4_alike 14 = .ok (.invokevirtual 64, 3) := by decide +kernel
theorem dX4_alike_17 : decode cX4_alike 17 = .ok (.ireturn, 1) := by decide +kernel
theorem dX4_alike_18 : decode cX4_alike 18 = .ok (.aload_n 0, 1) := by decide +kernel
theorem dX4_alike_19 : decode cX4_alike 19 = .ok (.getfield 12, 3) := by decide +kernel
theorem dX4_alike_22 : decode cX4_alike 22 = .ok (.aload_n 0, 1) := by decide +kernel
theorem dX4_alike_23 : decode cX4_alike 23 = .ok (.invokevirtual 48, 3) := by decide +kernel
theorem dX4_alike_26 : decode cX4_alike 26 = .ok (.iload_n 1, 1) := by decide +kernel
theorem dX4_alike_27 : decode cX4_alike 27 = .ok (.invokevirtual 131, 3) := by decide +kernel
theorem dX4_alike_30 : decode cX4_alike 30 = .ok (.ifCond .eq 7, 3) := by decide +kernel
theorem dX4_alike_33 : decode cX4_alike 33 = .ok (.iconst 1, 1) := by decide +kernel
theorem dX4_alike_34 : decode cX4_alike 34 = .ok (.goto 4, 3) := by decide +kernel
theorem dX4_alike_37 : decode cX4_alike 37 = .ok (.iconst 0, 1) := by decide +kernel
theorem dX4_alike_38 : decode cX4_alike 38 = .ok (.ireturn, 1) := by decide +kernel
theorem dX4_witness_0 : decode cX4_witness 0 = .ok (.aload_n 0, 1) := by decide +kernel
theorem dX4_witness_1 : decode cX4_witness 1 = .ok (.getfield 12, 3) := by decide +kernel
theorem dX4_witness_4 : decode cX4_witness 4 = .ok (.iload_n 1, 1) := by decide +kernel
theorem dX4_witness_5 : decode cX4_witness 5 = .ok (.invokevirtual 128, 3) := by decide +kernel
theorem dX4_witness_8 : decode cX4_witness 8 = .ok (.ifCond .ne 10, 3) := by decide +kernel
theorem dX4_witness_11 : decode cX4_witness 11 = .ok (.aload_n 0, 1) := by decide +kernel
theorem dX4_witness_12 : decode cX4_witness 12 = .ok (.bipush (-2), 2) := by decide +kernel
theorem dX4_witness_14 : decode cX4_witness 14 = .ok (.invokevirtual 64, 3) := by decide +kernel
theorem dX4_witness_17 : decode cX4_witness 17 = .ok (.ireturn, 1) := by decide +kernel
theorem dX4_witness_18 : decode cX4_witness 18 = .ok (.aload_n 0, 1) := by decide +kernel
theorem dX4_witness_19 : decode cX4_witness 19 = .ok (.getfield 12, 3) := by decide +kernel
theorem dX4_witness_22 : decode cX4_witness 22 = .ok (.aload_n 0, 1) := by decide +kernel
theorem dX4_witness_23 : decode cX4_witness 23 = .ok (.invokevirtual 48, 3) := by decide +kernel
theorem dX4_witness_26 : decode cX4_witness 26 = .ok (.iload_n 1, 1) := by decide +kernel
theorem dX4_witness_27 : decode cX4_witness 27 = .ok (.invokevirtual 131, 3) := by decide +kernel
theorem dX4_witness_30 : decode cX4_witness 30 = .ok (.ifCond .eq 7, 3) := by decide +kernel
theorem dX4_witness_33 : decode cX4_witness 33 = .ok (.iconst (-1), 1) := by decide +kernel
theorem dX4_witness_34 : decode cX4_witness 34 = .ok (.goto 14, 3) := by decide +kernel
theorem dX4_witness_37 : decode cX4_witness 37 = .ok (.aload_n 0, 1) := by decide +kernel
theorem dX4_witness_38 : decode cX4_witness 38 = .ok (.getfield 12, 3) := by decide +kernel
theorem dX4_witness_41 : decode cX4_witness 41 = .ok (.iload_n 1, 1) := by decide +kernel
theorem dX4_witness_42 : decode cX4_witness 42 = .ok (.invokevirtual 135, 3) := by decide +kernel
theorem dX4_witness_45 : decode cX4_witness 45 = .ok (.invokestatic 138, 3) := by decide +kernel
theorem dX4_witness_48 : decode cX4_witness 48 = .ok (.ireturn, 1) := by decide +kernel
theorem dX4_verdict_0 : decode cX4_verdict 0 = .ok (.aload_n 0, 1) := by decide +kernel
theorem dX4_verdict_1 : decode cX4_verdict 1 = .ok (.getfield 12, 3) := by decide +kernel
theorem dX4_verdict_4 : decode cX4_verdict 4 = .ok (.aload_n 0, 1) := by decide +kernel
theorem dX4_verdict_5 : decode cX4_verdict 5 = .ok (.invokevirtual 48, 3) := by decide +kernel
theorem dX4_verdict_8 : decode cX4_verdict 8 = .ok (.invokevirtual 141, 3) := by decide +kernel
theorem dX4_verdict_11 : decode cX4_verdict 11 = .ok (.ireturn, 1) := by decide +kernel
theorem dX4_type_0 : decode cX4_type 0 = .ok (.iload_n 1, 1) := by decide +kernel
theorem dX4_type_1 : decode cX4_type 1 = .ok (.ifCond .lt 10, 3) := by decide +kernel
theorem dX4_type_4 : decode cX4_type 4 = .ok (.iload_n 1, 1) := by decide +kernel
theorem dX4_type_5 : decode cX4_type 5 = .ok (.sipush 128, 3) := by decide +kernel
theorem dX4_type_8 : decode cX4_type 8 = .ok (.if_icmp .lt 10, 3) := by decide +kernel
theorem dX4_type_11 : decode cX4_type 11 = .ok (.aload_n 0, 1) := by decide +kernel
theorem dX4_type_12 : decode cX4_type 12 = .ok (.bipush (-2), 2) := by decide +kernel
theorem dX4_type_14 : decode cX4_type 14 = .ok (.invokevirtual 64, 3) := by decide +kernel
theorem dX4_type_17 : decode cX4_type 17 = .ok (.ireturn, 1) := by decide +kernel
theorem dX4_type_18 : decode cX4_type 18 = .ok (.aload_n 0, 1) := by decide +kernel
theorem dX4_type_19 : decode cX4_type 19 = .ok (.getfield 36, 3) := by decide +kernel
theorem dX4_type_22 : decode cX4_type 22 = .ok (.getfield 144, 3) := by decide +kernel
theorem dX4_type_25 : decode cX4_type 25 = .ok (.sipush 150, 3) := by decide +kernel
theorem dX4_type_28 : decode cX4_type 28 = .ok (.if_icmp .ge 14, 3) := by decide +kernel
theorem dX4_type_31 : decode cX4_type 31 = .ok (.aload_n 0, 1) := by decide +kernel
theorem dX4_type_32 : decode cX4_type 32 = .ok (.getfield 36, 3) := by decide +kernel
theorem dX4_type_35 : decode cX4_type 35 = .ok (.iload_n 1, 1) := by decide +kernel
theorem dX4_type_36 : decode cX4_type 36 = .ok (.invokevirtual 147, 3) := by decide +kernel
theorem dX4_type_39 : decode cX4_type 39 = .ok (.goto 9, 3) := by decide +kernel
theorem dX4_type_42 : decode cX4_type 42 = .ok (.aload_n 0, 1) := by decide +kernel
theorem dX4_type_43 : decode cX4_type 43 = .ok (.bipush (-4), 2) := by decide +kernel
theorem dX4_type_45 : decode cX4_type 45 = .ok (.invokevirtual 64, 3) := by decide +kernel
theorem dX4_type_48 : decode cX4_type 48 = .ok (.ireturn, 1) := by decide +kernel
theorem dX4_clear_0 : decode cX4_clear 0 = .ok (.aload_n 0, 1) := by decide +kernel
theorem dX4_clear_1 : decode cX4_clear 1 = .ok (.getfield 36, 3) := by decide +kernel
theorem dX4_clear_4 : decode cX4_clear 4 = .ok (.getfield 144, 3) := by decide +kernel
theorem dX4_clear_7 : decode cX4_clear 7 = .ok (.istore_n 1, 1) := by decide +kernel
theorem dX4_clear_8 : decode cX4_clear 8 = .ok (.aload_n 0, 1) := by decide +kernel
theorem dX4_clear_9 : decode cX4_clear 9 = .ok (.getfield 36, 3) := by decide +kernel
theorem dX4_clear_12 : decode cX4_clear 12 = .ok (.iconst 0, 1) := by decide +kernel
theorem dX4_clear_13 : decode cX4_clear 13 = .ok (.putfield 144, 3) := by decide +kernel
theorem dX4_clear_16 : decode cX4_clear 16 = .ok (.iload_n 1, 1) := by decide +kernel
theorem dX4_clear_17 : decode cX4_clear 17 = .ok (.ireturn, 1) := by decide +kernel
theorem dX4_does_0 : decode cX4_does 0 = .ok (.aload_n 0, 1) := by decide +kernel
theorem dX4_does_1 : decode cX4_does 1 = .ok (.getfield 36, 3) := by decide +kernel
theorem dX4_does_4 : decode cX4_does 4 = .ok (.invokevirtual 150, 3) := by decide +kernel
theorem dX4_does_7 : decode cX4_does 7 = .ok (.istore_n 1, 1) := by decide +kernel
theorem dX4_does_8 : decode cX4_does 8 = .ok (.iload_n 1, 1) := by decide +kernel
theorem dX4_does_9 : decode cX4_does 9 = .ok (.iconst (-1), 1) := by decide +kernel
theorem dX4_does_10 : decode cX4_does 10 = .ok (.if_icmp .eq 8, 3) := by decide +kernel
theorem dX4_does_13 : decode cX4_does 13 = .ok (.bipush (-10), 2) := by decide +kernel
theorem dX4_does_15 : decode cX4_does 15 = .ok (.iload_n 1, 1) := by decide +kernel
theorem dX4_does_16 : decode cX4_does 16 = .ok (.isub, 1) := by decide +kernel
theorem dX4_does_17 : decode cX4_does 17 = .ok (.ireturn, 1) := by decide +kernel
theorem dX4_does_18 : decode cX4_does 18 = .ok (.aload_n 0, 1) := by decide +kernel
theorem dX4_does_19 : decode cX4_does 19 = .ok (.getfield 16, 3) := by decide +kernel
theorem dX4_does_22 : decode cX4_does 22 = .ok (.aload_n 0, 1) := by decide +kernel
theorem dX4_does_23 : decode cX4_does 23 = .ok (.getfield 12, 3) := by decide +kernel
theorem dX4_does_26 : decode cX4_does 26 = .ok (.invokevirtual 154, 3) := by decide +kernel
theorem dX4_does_29 : decode cX4_does 29 = .ok (.iconst 0, 1) := by decide +kernel
theorem dX4_does_30 : decode cX4_does 30 = .ok (.istore_n 2, 1) := by decide +kernel
theorem dX4_does_31 : decode cX4_does 31 = .ok (.iload_n 2, 1) := by decide +kernel
theorem dX4_does_32 : decode cX4_does 32 = .ok (.aload_n 0, 1) := by decide +kernel
theorem dX4_does_33 : decode cX4_does 33 = .ok (.getfield 36, 3) := by decide +kernel
theorem dX4_does_36 : decode cX4_does 36 = .ok (.getfield 157, 3) := by decide +kernel
theorem dX4_does_39 : decode cX4_does 39 = .ok (.if_icmp .ge 34, 3) := by decide +kernel
theorem dX4_does_42 : decode cX4_does 42 = .ok (.aload_n 0, 1) := by decide +kernel
theorem dX4_does_43 : decode cX4_does 43 = .ok (.iload_n 2, 1) := by decide +kernel
theorem dX4_does_44 : decode cX4_does 44 = .ok (.invokevirtual 160, 3) := by decide +kernel
theorem dX4_does_47 : decode cX4_does 47 = .ok (.ifCond .ne 20, 3) := by decide +kernel
theorem dX4_does_50 : decode cX4_does 50 = .ok (.aload_n 0, 1) := by decide +kernel
theorem dX4_does_51 : decode cX4_does 51 = .ok (.getfield 12, 3) := by decide +kernel
theorem dX4_does_54 : decode cX4_does 54 = .ok (.aload_n 0, 1) := by decide +kernel
theorem dX4_does_55 : decode cX4_does 55 = .ok (.getfield 16, 3) := by decide +kernel
theorem dX4_does_58 : decode cX4_does 58 = .ok (.invokevirtual 154, 3) := by decide +kernel
theorem dX4_does_61 : decode cX4_does 61 = .ok (.sipush (-1000), 3) := by decide +kernel
theorem dX4_does_64 : decode cX4_does 64 = .ok (.iload_n 2, 1) := by decide +kernel
theorem dX4_does_65 : decode cX4_does 65 = .ok (.isub, 1) := by decide +kernel
theorem dX4_does_66 : decode cX4_does 66 = .ok (.ireturn, 1) := by decide +kernel
theorem dX4_does_67 : decode cX4_does 67 = .ok (.iinc 2 1, 3) := by decide +kernel
theorem dX4_does_70 : decode cX4_does 70 = .ok (.goto (-39), 3) := by decide +kernel
theorem dX4_does_73 : decode cX4_does 73 = .ok (.aload_n 0, 1) := by decide +kernel
theorem dX4_does_74 : decode cX4_does 74 = .ok (.getfield 29, 3) := by decide +kernel
theorem dX4_does_77 : decode cX4_does 77 = .ok (.aload_n 0, 1) := by decide +kernel
theorem dX4_does_78 : decode cX4_does 78 = .ok (.getfield 16, 3) := by decide +kernel
theorem dX4_does_81 : decode cX4_does 81 = .ok (.invokevirtual 52, 3) := by decide +kernel
theorem dX4_does_84 : decode cX4_does 84 = .ok (.aload_n 0, 1) := by decide +kernel
theorem dX4_does_85 : decode cX4_does 85 = .ok (.iconst 1, 1) := by decide +kernel
theorem dX4_does_86 : decode cX4_does 86 = .ok (.putfield 40, 3) := by decide +kernel
theorem dX4_does_89 : decode cX4_does 89 = .ok (.aload_n 0, 1) := by decide +kernel
theorem dX4_does_90 : decode cX4_does 90 = .ok (.getfield 36, 3) := by decide +kernel
theorem dX4_does_93 : decode cX4_does 93 = .ok (.getfield 157, 3) := by decide +kernel
theorem dX4_does_96 : decode cX4_does 96 = .ok (.ireturn, 1) := by decide +kernel
theorem dX4_back_0 : decode cX4_back 0 = .ok (.aload_n 0, 1) := by decide +kernel
theorem dX4_back_1 : decode cX4_back 1 = .ok (.getfield 29, 3) := by decide +kernel
theorem dX4_back_4 : decode cX4_back 4 = .ok (.getfield 163, 3) := by decide +kernel
theorem dX4_back_7 : decode cX4_back 7 = .ok (.ifCond .ne 10, 3) := by decide +kernel
theorem dX4_back_10 : decode cX4_back 10 = .ok (.aload_n 0, 1) := by decide +kernel
theorem dX4_back_11 : decode cX4_back 11 = .ok (.bipush (-3), 2) := by decide +kernel
theorem dX4_back_13 : decode cX4_back 13 = .ok (.invokevirtual 64, 3) := by decide +kernel
theorem dX4_back_16 : decode cX4_back 16 = .ok (.ireturn, 1) := by decide +kernel
theorem dX4_back_17 : decode cX4_back 17 = .ok (.aload_n 0, 1) := by decide +kernel
theorem dX4_back_18 : decode cX4_back 18 = .ok (.getfield 29, 3) := by decide +kernel
theorem dX4_back_21 : decode cX4_back 21 = .ok (.aload_n 0, 1) := by decide +kernel
theorem dX4_back_22 : decode cX4_back 22 = .ok (.getfield 12, 3) := by decide +kernel
theorem dX4_back_25 : decode cX4_back 25 = .ok (.invokevirtual 166, 3) := by decide +kernel
theorem dX4_back_28 : decode cX4_back 28 = .ok (.aload_n 0, 1) := by decide +kernel
theorem dX4_back_29 : decode cX4_back 29 = .ok (.iconst 1, 1) := by decide +kernel
theorem dX4_back_30 : decode cX4_back 30 = .ok (.putfield 40, 3) := by decide +kernel
theorem dX4_back_33 : decode cX4_back 33 = .ok (.aload_n 0, 1) := by decide +kernel
theorem dX4_back_34 : decode cX4_back 34 = .ok (.getfield 29, 3) := by decide +kernel
theorem dX4_back_37 : decode cX4_back 37 = .ok (.getfield 163, 3) := by decide +kernel
theorem dX4_back_40 : decode cX4_back 40 = .ok (.ireturn, 1) := by decide +kernel
theorem dX4_told_0 : decode cX4_told 0 = .ok (.iload_n 1, 1) := by decide +kernel
theorem dX4_told_1 : decode cX4_told 1 = .ok (.ifCond .lt 8, 3) := by decide +kernel
theorem dX4_told_4 : decode cX4_told 4 = .ok (.iload_n 1, 1) := by decide +kernel
theorem dX4_told_5 : decode cX4_told 5 = .ok (.iconst 4, 1) := by decide +kernel
theorem dX4_told_6 : decode cX4_told 6 = .ok (.if_icmp .le 12, 3) := by decide +kernel
theorem dX4_told_9 : decode cX4_told 9 = .ok (.aload_n 0, 1) := by decide +kernel
theorem dX4_told_10 : decode cX4_told 10 = .ok (.bipush (-2), 2) := by decide +kernel
theorem dX4_told_12 : decode cX4_told 12 = .ok (.invokevirtual 64, 3) := by decide +kernel
theorem dX4_told_15 : decode cX4_told 15 = .ok (.goto 8, 3) := by decide +kernel
theorem dX4_told_18 : decode cX4_told 18 = .ok (.aload_n 0, 1) := by decide +kernel
theorem dX4_told_19 : decode cX4_told 19 = .ok (.iload_n 1, 1) := by decide +kernel
theorem dX4_told_20 : decode cX4_told 20 = .ok (.invokevirtual 169, 3) := by decide +kernel
theorem dX4_told_23 : decode cX4_told 23 = .ok (.ireturn, 1) := by decide +kernel
theorem dX4_digest_0 : decode cX4_digest 0 = .ok (.aload_n 0, 1) := by decide +kernel
theorem dX4_digest_1 : decode cX4_digest 1 = .ok (.invokevirtual 48, 3) := by decide +kernel
theorem dX4_digest_4 : decode cX4_digest 4 = .ok (.astore_n 1, 1) := by decide +kernel
theorem dX4_digest_5 : decode cX4_digest 5 = .ok (.ldc2_w 172, 3) := by decide +kernel
theorem dX4_digest_8 : decode cX4_digest 8 = .ok (.lstore_n 2, 1) := by decide +kernel
theorem dX4_digest_9 : decode cX4_digest 9 = .ok (.iconst 0, 1) := by decide +kernel
theorem dX4_digest_10 : decode cX4_digest 10 = .ok (.istore 4, 2) := by decide +kernel
theorem dX4_digest_12 : decode cX4_digest 12 = .ok (.iload 4, 2) := by decide +kernel
theorem dX4_digest_14 : decode cX4_digest 14 = .ok (.iconst 4, 1) := by decide +kernel
theorem dX4_digest_15 : decode cX4_digest 15 = .ok (.if_icmp .gt 23, 3) := by decide +kernel
theorem dX4_digest_18 : decode cX4_digest 18 = .ok (.ldc2_w 174, 3) := by decide +kernel
theorem dX4_digest_21 : decode cX4_digest 21 = .ok (.lload_n 2, 1) := by decide +kernel
theorem dX4_digest_22 : decode cX4_digest 22 = .ok (.lmul, 1) := by decide +kernel
theorem dX4_digest_23 : decode cX4_digest 23 = .ok (.aload_n 0, 1) := by decide +kernel
theorem dX4_digest_24 : decode cX4_digest 24 = .ok (.iload 4, 2) := by decide +kernel
theorem dX4_digest_26 : decode cX4_digest 26 = .ok (.invokevirtual 169, 3) := by decide +kernel
theorem dX4_digest_29 : decode cX4_digest 29 = .ok (.i2l, 1) := by decide +kernel
theorem dX4_digest_30 : decode cX4_digest 30 = .ok (.ladd, 1) := by decide +kernel
theorem dX4_digest_31 : decode cX4_digest 31 = .ok (.lstore_n 2, 1) := by decide +kernel
theorem dX4_digest_32 : decode cX4_digest 32 = .ok (.iinc 4 1, 3) := by decide +kernel
theorem dX4_digest_35 : decode cX4_digest 35 = .ok (.goto (-23), 3) := by decide +kernel
theorem dX4_digest_38 : decode cX4_digest 38 = .ok (.aload_n 0, 1) := by decide +kernel
theorem dX4_digest_39 : decode cX4_digest 39 = .ok (.getfield 12, 3) := by decide +kernel
theorem dX4_digest_42 : decode cX4_digest 42 = .ok (.lload_n 2, 1) := by decide +kernel
theorem dX4_digest_43 : decode cX4_digest 43 = .ok (.invokevirtual 176, 3) := by decide +kernel
theorem dX4_digest_46 : decode cX4_digest 46 = .ok (.lstore_n 2, 1) := by decide +kernel
theorem dX4_digest_47 : decode cX4_digest 47 = .ok (.iconst 0, 1) := by decide +kernel
theorem dX4_digest_48 : decode cX4_digest 48 = .ok (.istore 4, 2) := by decide +kernel
theorem dX4_digest_50 : decode cX4_digest 50 = .ok (.iload 4, 2) := by decide +kernel
theorem dX4_digest_52 : decode cX4_digest 52 = .ok (.aload_n 0, 1) := by decide +kernel
theorem dX4_digest_53 : decode cX4_digest 53 = .ok (.getfield 12, 3) := by decide +kernel
theorem dX4_digest_56 : decode cX4_digest 56 = .ok (.getfield 180, 3) := by decide +kernel
theorem dX4_digest_59 : decode cX4_digest 59 = .ok (.if_icmp .ge 33, 3) := by decide +kernel
theorem dX4_digest_62 : decode cX4_digest 62 = .ok (.ldc2_w 174, 3) := by decide +kernel
theorem dX4_digest_65 : decode cX4_digest 65 = .ok (.aload_n 0, 1) := by decide +kernel
theorem dX4_digest_66 : decode cX4_digest 66 = .ok (.getfield 12, 3) := by decide +kernel
theorem dX4_digest_69 : decode cX4_digest 69 = .ok (.lload_n 2, 1) := by decide +kernel
theorem dX4_digest_70 : decode cX4_digest 70 = .ok (.iload 4, 2) := by decide +kernel
theorem dX4_digest_72 : decode cX4_digest 72 = .ok (.invokevirtual 183, 3) := by decide +kernel
theorem dX4_digest_75 : decode cX4_digest 75 = .ok (.lmul, 1) := by decide +kernel
theorem dX4_digest_76 : decode cX4_digest 76 = .ok (.aload_n 1, 1) := by decide +kernel
theorem dX4_digest_77 : decode cX4_digest 77 = .ok (.getfield 109, 3) := by decide +kernel
theorem dX4_digest_80 : decode cX4_digest 80 = .ok (.iload 4, 2) := by decide +kernel
theorem dX4_digest_82 : decode cX4_digest 82 = .ok (.iaload, 1) := by decide +kernel
theorem dX4_digest_83 : decode cX4_digest 83 = .ok (.i2l, 1) := by decide +kernel
theorem dX4_digest_84 : decode cX4_digest 84 = .ok (.ladd, 1) := by decide +kernel
theorem dX4_digest_85 : decode cX4_digest 85 = .ok (.lstore_n 2, 1) := by decide +kernel
theorem dX4_digest_86 : decode cX4_digest 86 = .ok (.iinc 4 1, 3) := by decide +kernel
theorem dX4_digest_89 : decode cX4_digest 89 = .ok (.goto (-39), 3) := by decide +kernel
theorem dX4_digest_92 : decode cX4_digest 92 = .ok (.aload_n 0, 1) := by decide +kernel
theorem dX4_digest_93 : decode cX4_digest 93 = .ok (.getfield 12, 3) := by decide +kernel
theorem dX4_digest_96 : decode cX4_digest 96 = .ok (.lload_n 2, 1) := by decide +kernel
theorem dX4_digest_97 : decode cX4_digest 97 = .ok (.invokevirtual 187, 3) := by decide +kernel
theorem dX4_digest_100 : decode cX4_digest 100 = .ok (.lstore_n 2, 1) := by decide +kernel
theorem dX4_digest_101 : decode cX4_digest 101 = .ok (.ldc2_w 174, 3) := by decide +kernel
theorem dX4_digest_104 : decode cX4_digest 104 = .ok (.aload_n 1, 1) := by decide +kernel
theorem dX4_digest_105 : decode cX4_digest 105 = .ok (.lload_n 2, 1) := by decide +kernel
theorem dX4_digest_106 : decode cX4_digest 106 = .ok (.invokevirtual 190, 3) := by decide +kernel
theorem dX4_digest_109 : decode cX4_digest 109 = .ok (.lmul, 1) := by decide +kernel
theorem dX4_digest_110 : decode cX4_digest 110 = .ok (.aload_n 0, 1) := by decide +kernel
theorem dX4_digest_111 : decode cX4_digest 111 = .ok (.getfield 12, 3) := by decide +kernel
theorem dX4_digest_114 : decode cX4_digest 114 = .ok (.aload_n 1, 1) := by decide +kernel
theorem dX4_digest_115 : decode cX4_digest 115 = .ok (.invokevirtual 141, 3) := by decide +kernel
theorem dX4_digest_118 : decode cX4_digest 118 = .ok (.i2l, 1) := by decide +kernel
theorem dX4_digest_119 : decode cX4_digest 119 = .ok (.ladd, 1) := by decide +kernel
theorem dX4_digest_120 : decode cX4_digest 120 = .ok (.lreturn, 1) := by decide +kernel
theorem dX4_refuse_0 : decode cX4_refuse 0 = .ok (.iload_n 1, 1) := by decide +kernel
theorem dX4_refuse_1 : decode cX4_refuse 1 = .ok (.bipush (-2), 2) := by decide +kernel
theorem dX4_refuse_3 : decode cX4_refuse 3 = .ok (.if_icmp .ne 16, 3) := by decide +kernel
theorem dX4_refuse_6 : decode cX4_refuse 6 = .ok (.aload_n 0, 1) := by decide +kernel
theorem dX4_refuse_7 : decode cX4_refuse 7 = .ok (.dup, 1) := by decide +kernel
theorem dX4_refuse_8 : decode cX4_refuse 8 = .ok (.getfield 193, 3) := by decide +kernel
theorem dX4_refuse_11 : decode cX4_refuse 11 = .ok (.iconst 1, 1) := by decide +kernel
theorem dX4_refuse_12 : decode cX4_refuse 12 = .ok (.iadd, 1) := by decide +kernel
theorem dX4_refuse_13 : decode cX4_refuse 13 = .ok (.putfield 193, 3) := by decide +kernel
theorem dX4_refuse_16 : decode cX4_refuse 16 = .ok (.goto 32, 3) := by decide +kernel
theorem dX4_refuse_19 : decode cX4_refuse 19 = .ok (.iload_n 1, 1) := by decide +kernel
theorem dX4_refuse_20 : decode cX4_refuse 20 = .ok (.bipush (-3), 2) := by decide +kernel
theorem dX4_refuse_22 : decode cX4_refuse 22 = .ok (.if_icmp .ne 16, 3) := by decide +kernel
theorem dX4_refuse_25 : decode cX4_refuse 25 = .ok (.aload_n 0, 1) := by decide +kernel
theorem dX4_refuse_26 : decode cX4_refuse 26 = .ok (.dup, 1) := by decide +kernel
theorem dX4_refuse_27 : decode cX4_refuse 27 = .ok (.getfield 196, 3) := by decide +kernel
theorem dX4_refuse_30 : decode cX4_refuse 30 = .ok (.iconst 1, 1) := by decide +kernel
theorem dX4_refuse_31 : decode cX4_refuse 31 = .ok (.iadd, 1) := by decide +kernel
theorem dX4_refuse_32 : decode cX4_refuse 32 = .ok (.putfield 196, 3) := by decide +kernel
theorem dX4_refuse_35 : decode cX4_refuse 35 = .ok (.goto 13, 3) := by decide +kernel
theorem dX4_refuse_38 : decode cX4_refuse 38 = .ok (.aload_n 0, 1) := by decide +kernel
theorem dX4_refuse_39 : decode cX4_refuse 39 = .ok (.dup, 1) := by decide +kernel
theorem dX4_refuse_40 : decode cX4_refuse 40 = .ok (.getfield 199, 3) := by decide +kernel
theorem dX4_refuse_43 : decode cX4_refuse 43 = .ok (.iconst 1, 1) := by decide +kernel
theorem dX4_refuse_44 : decode cX4_refuse 44 = .ok (.iadd, 1) := by decide +kernel
theorem dX4_refuse_45 : decode cX4_refuse 45 = .ok (.putfield 199, 3) := by decide +kernel
theorem dX4_refuse_48 : decode cX4_refuse 48 = .ok (.iload_n 1, 1) := by decide +kernel
theorem dX4_refuse_49 : decode cX4_refuse 49 = .ok (.ireturn, 1) := by decide +kernel
theorem dX4_order_0 : decode cX4_order 0 = .ok (.aload_n 0, 1) := by decide +kernel
theorem dX4_order_1 : decode cX4_order 1 = .ok (.getfield 12, 3) := by decide +kernel
theorem dX4_order_4 : decode cX4_order 4 = .ok (.iload_n 1, 1) := by decide +kernel
theorem dX4_order_5 : decode cX4_order 5 = .ok (.iload_n 2, 1) := by decide +kernel
theorem dX4_order_6 : decode cX4_order 6 = .ok (.iload_n 3, 1) := by decide +kernel
theorem dX4_order_7 : decode cX4_order 7 = .ok (.iload 4, 2) := by decide +kernel
theorem dX4_order_9 : decode cX4_order 9 = .ok (.invokevirtual 202, 3) := by decide +kernel
theorem dX4_order_12 : decode cX4_order 12 = .ok (.istore 5, 2) := by decide +kernel
theorem dX4_order_14 : decode cX4_order 14 = .ok (.iload 5, 2) := by decide +kernel
theorem dX4_order_16 : decode cX4_order 16 = .ok (.ifCond .eq 10, 3) := by decide +kernel
theorem dX4_order_19 : decode cX4_order 19 = .ok (.aload_n 0, 1) := by decide +kernel
theorem dX4_order_20 : decode cX4_order 20 = .ok (.iload 5, 2) := by decide +kernel
theorem dX4_order_22 : decode cX4_order 22 = .ok (.invokevirtual 64, 3) := by decide +kernel
theorem dX4_order_25 : decode cX4_order 25 = .ok (.ireturn, 1) := by decide +kernel
theorem dX4_order_26 : decode cX4_order 26 = .ok (.aload_n 0, 1) := by decide +kernel
theorem dX4_order_27 : decode cX4_order 27 = .ok (.getfield 29, 3) := by decide +kernel
theorem dX4_order_30 : decode cX4_order 30 = .ok (.aload_n 0, 1) := by decide +kernel
theorem dX4_order_31 : decode cX4_order 31 = .ok (.getfield 12, 3) := by decide +kernel
theorem dX4_order_34 : decode cX4_order 34 = .ok (.invokevirtual 52, 3) := by decide +kernel
theorem dX4_order_37 : decode cX4_order 37 = .ok (.aload_n 0, 1) := by decide +kernel
theorem dX4_order_38 : decode cX4_order 38 = .ok (.iconst 1, 1) := by decide +kernel
theorem dX4_order_39 : decode cX4_order 39 = .ok (.putfield 40, 3) := by decide +kernel
theorem dX4_order_42 : decode cX4_order 42 = .ok (.aload_n 0, 1) := by decide +kernel
theorem dX4_order_43 : decode cX4_order 43 = .ok (.getfield 12, 3) := by decide +kernel
theorem dX4_order_46 : decode cX4_order 46 = .ok (.iload_n 1, 1) := by decide +kernel
theorem dX4_order_47 : decode cX4_order 47 = .ok (.iload_n 2, 1) := by decide +kernel
theorem dX4_order_48 : decode cX4_order 48 = .ok (.iload_n 3, 1) := by decide +kernel
theorem dX4_order_49 : decode cX4_order 49 = .ok (.iload 4, 2) := by decide +kernel
theorem dX4_order_51 : decode cX4_order 51 = .ok (.invokevirtual 205, 3) := by decide +kernel
theorem dX4_order_54 : decode cX4_order 54 = .ok (.ireturn, 1) := by decide +kernel
theorem dX4_orderIsDone_0 : decode cX4_orderIsDone 0 = .ok (.aload_n 0, 1) := by decide +kernel
theorem dX4_orderIsDone_1 : decode cX4_orderIsDone 1 = .ok (.getfield 36, 3) := by decide +kernel
theorem dX4_orderIsDone_4 : decode cX4_orderIsDone 4 = .ok (.getfield 208, 3) := by decide +kernel
theorem dX4_orderIsDone_7 : decode cX4_orderIsDone 7 = .ok (.iload_n 1, 1) := by decide +kernel
theorem dX4_orderIsDone_8 : decode cX4_orderIsDone 8 = .ok (.iaload, 1) := by decide +kernel
theorem dX4_orderIsDone_9 : decode cX4_orderIsDone 9 = .ok (.istore_n 2, 1) := by decide +kernel
theorem dX4_orderIsDone_10 : decode cX4_orderIsDone 10 = .ok (.aload_n 0, 1) := by decide +kernel
theorem dX4_orderIsDone_11 : decode cX4_orderIsDone 11 = .ok (.getfield 36, 3) := by decide +kernel
theorem dX4_orderIsDone_14 : decode cX4_orderIsDone 14 = .ok (.iload_n 1, 1) := by decide +kernel
theorem dX4_orderIsDone_15 : decode cX4_orderIsDone 15 = .ok (.iconst 0, 1) := by decide +kernel
theorem dX4_orderIsDone_16 : decode cX4_orderIsDone 16 = .ok (.invokevirtual 211, 3) := by decide +kernel
theorem dX4_orderIsDone_19 : decode cX4_orderIsDone 19 = .ok (.istore_n 3, 1) := by decide +kernel
theorem dX4_orderIsDone_20 : decode cX4_orderIsDone 20 = .ok (.aload_n 0, 1) := by decide +kernel
theorem dX4_orderIsDone_21 : decode cX4_orderIsDone 21 = .ok (.getfield 36, 3) := by decide +kernel
theorem dX4_orderIsDone_24 : decode cX4_orderIsDone 24 = .ok (.iload_n 1, 1) := by decide +kernel
theorem dX4_orderIsDone_25 : decode cX4_orderIsDone 25 = .ok (.iconst 1, 1) := by decide +kernel
theorem dX4_orderIsDone_26 : decode cX4_orderIsDone 26 = .ok (.invokevirtual 211, 3) := by decide +kernel
theorem dX4_orderIsDone_29 : decode cX4_orderIsDone 29 = .ok (.istore 4, 2) := by decide +kernel
theorem dX4_orderIsDone_31 : decode cX4_orderIsDone 31 = .ok (.aload_n 0, 1) := by decide +kernel
theorem dX4_orderIsDone_32 : decode cX4_orderIsDone 32 = .ok (.getfield 36, 3) := by decide +kernel
theorem dX4_orderIsDone_35 : decode cX4_orderIsDone 35 = .ok (.iload_n 1, 1) := by decide +kernel
theorem dX4_orderIsDone_36 : decode cX4_orderIsDone 36 = .ok (.iconst 2, 1) := by decide +kernel
theorem dX4_orderIsDone_37 : decode cX4_orderIsDone 37 = .ok (.invokevirtual 211, 3) := by decide +kernel
theorem dX4_orderIsDone_40 : decode cX4_orderIsDone 40 = .ok (.istore 5, 2) := by decide +kernel
theorem dX4_orderIsDone_42 : decode cX4_orderIsDone 42 = .ok (.aload_n 0, 1) := by decide +kernel
theorem dX4_orderIsDone_43 : decode cX4_orderIsDone 43 = .ok (.getfield 12, 3) := by decide +kernel
theorem dX4_orderIsDone_46 : decode cX4_orderIsDone 46 = .ok (.iload_n 2, 1) := by decide +kernel
theorem dX4_orderIsDone_47 : decode cX4_orderIsDone 47 = .ok (.iload_n 3, 1) := by decide +kernel
theorem dX4_orderIsDone_48 : decode cX4_orderIsDone 48 = .ok (.iload 4, 2) := by decide +kernel
theorem dX4_orderIsDone_50 : decode cX4_orderIsDone 50 = .ok (.iload 5, 2) := by decide +kernel
theorem dX4_orderIsDone_52 : decode cX4_orderIsDone 52 = .ok (.invokevirtual 202, 3) := by decide +kernel
theorem dX4_orderIsDone_55 : decode cX4_orderIsDone 55 = .ok (.ifCond .eq 5, 3) := by decide +kernel
theorem dX4_orderIsDone_58 : decode cX4_orderIsDone 58 = .ok (.iconst 0, 1) := by decide +kernel
theorem dX4_orderIsDone_59 : decode cX4_orderIsDone 59 = .ok (.ireturn, 1) := by decide +kernel
theorem dX4_orderIsDone_60 : decode cX4_orderIsDone 60 = .ok (.aload_n 0, 1) := by decide +kernel
theorem dX4_orderIsDone_61 : decode cX4_orderIsDone 61 = .ok (.getfield 12, 3) := by decide +kernel
theorem dX4_orderIsDone_64 : decode cX4_orderIsDone 64 = .ok (.iload_n 2, 1) := by decide +kernel
theorem dX4_orderIsDone_65 : decode cX4_orderIsDone 65 = .ok (.iload_n 3, 1) := by decide +kernel
theorem dX4_orderIsDone_66 : decode cX4_orderIsDone 66 = .ok (.iload 4, 2) := by decide +kernel
theorem dX4_orderIsDone_68 : decode cX4_orderIsDone 68 = .ok (.iload 5, 2) := by decide +kernel
theorem dX4_orderIsDone_70 : decode cX4_orderIsDone 70 = .ok (.invokevirtual 205, 3) := by decide +kernel
theorem dX4_orderIsDone_73 : decode cX4_orderIsDone 73 = .ok (.pop, 1) := by decide +kernel
theorem dX4_orderIsDone_74 : decode cX4_orderIsDone 74 = .ok (.iconst 1, 1) := by decide +kernel
theorem dX4_orderIsDone_75 : decode cX4_orderIsDone 75 = .ok (.ireturn, 1) := by decide +kernel
theorem dX4_sweepNow_0 : decode cX4_sweepNow 0 = .ok (.aload_n 0, 1) := by decide +kernel
theorem dX4_sweepNow_1 : decode cX4_sweepNow 1 = .ok (.getfield 40, 3) := by decide +kernel
theorem dX4_sweepNow_4 : decode cX4_sweepNow 4 = .ok (.ifCond .eq 19, 3) := by decide +kernel
theorem dX4_sweepNow_7 : decode cX4_sweepNow 7 = .ok (.aload_n 0, 1) := by decide +kernel
theorem dX4_sweepNow_8 : decode cX4_sweepNow 8 = .ok (.getfield 22, 3) := by decide +kernel
theorem dX4_sweepNow_11 : decode cX4_sweepNow 11 = .ok (.aload_n 0, 1) := by decide +kernel
theorem dX4_sweepNow_12 : decode cX4_sweepNow 12 = .ok (.getfield 12, 3) := by decide +kernel
theorem dX4_sweepNow_15 : decode cX4_sweepNow 15 = .ok (.invokevirtual 214, 3) := by decide +kernel
theorem dX4_sweepNow_18 : decode cX4_sweepNow 18 = .ok (.aload_n 0, 1) := by decide +kernel
theorem dX4_sweepNow_19 : decode cX4_sweepNow 19 = .ok (.iconst 0, 1) := by decide +kernel
theorem dX4_sweepNow_20 : decode cX4_sweepNow 20 = .ok (.putfield 40, 3) := by decide +kernel
theorem dX4_sweepNow_23 : decode cX4_sweepNow 23 = .ok (.aload_n 0, 1) := by decide +kernel
theorem dX4_sweepNow_24 : decode cX4_sweepNow 24 = .ok (.getfield 22, 3) := by decide +kernel
theorem dX4_sweepNow_27 : decode cX4_sweepNow 27 = .ok (.areturn, 1) := by decide +kernel
theorem dX4_toldOf_0 : decode cX4_toldOf 0 = .ok (.iload_n 1, 1) := by decide +kernel
theorem dX4_toldOf_1 : decode cX4_toldOf 1 = .ok (.tableswitch 54 0 3 #[31, 36, 41, 46], 31) := by decide +kernel
theorem dX4_toldOf_32 : decode cX4_toldOf 32 = .ok (.aload_n 0, 1) := by decide +kernel
theorem dX4_toldOf_33 : decode cX4_toldOf 33 = .ok (.getfield 193, 3) := by decide +kernel
theorem dX4_toldOf_36 : decode cX4_toldOf 36 = .ok (.ireturn, 1) := by decide +kernel
theorem dX4_toldOf_37 : decode cX4_toldOf 37 = .ok (.aload_n 0, 1) := by decide +kernel
theorem dX4_toldOf_38 : decode cX4_toldOf 38 = .ok (.getfield 196, 3) := by decide +kernel
theorem dX4_toldOf_41 : decode cX4_toldOf 41 = .ok (.ireturn, 1) := by decide +kernel
theorem dX4_toldOf_42 : decode cX4_toldOf 42 = .ok (.aload_n 0, 1) := by decide +kernel
theorem dX4_toldOf_43 : decode cX4_toldOf 43 = .ok (.getfield 199, 3) := by decide +kernel
theorem dX4_toldOf_46 : decode cX4_toldOf 46 = .ok (.ireturn, 1) := by decide +kernel
theorem dX4_toldOf_47 : decode cX4_toldOf 47 = .ok (.aload_n 0, 1) := by decide +kernel
theorem dX4_toldOf_48 : decode cX4_toldOf 48 = .ok (.getfield 36, 3) := by decide +kernel
theorem dX4_toldOf_51 : decode cX4_toldOf 51 = .ok (.getfield 144, 3) := by decide +kernel
theorem dX4_toldOf_54 : decode cX4_toldOf 54 = .ok (.ireturn, 1) := by decide +kernel
theorem dX4_toldOf_55 : decode cX4_toldOf 55 = .ok (.aload_n 0, 1) := by decide +kernel
theorem dX4_toldOf_56 : decode cX4_toldOf 56 = .ok (.getfield 29, 3) := by decide +kernel
theorem dX4_toldOf_59 : decode cX4_toldOf 59 = .ok (.getfield 163, 3) := by decide +kernel
theorem dX4_toldOf_62 : decode cX4_toldOf 62 = .ok (.ireturn, 1) := by decide +kernel
theorem dX4_leastRow_0 : decode cX4_leastRow 0 = .ok (.iconst 0, 1) := by decide +kernel
theorem dX4_leastRow_1 : decode cX4_leastRow 1 = .ok (.istore_n 1, 1) := by decide +kernel
theorem dX4_leastRow_2 : decode cX4_leastRow 2 = .ok (.iload_n 1, 1) := by decide +kernel
theorem dX4_leastRow_3 : decode cX4_leastRow 3 = .ok (.bipush 31, 2) := by decide +kernel
theorem dX4_leastRow_5 : decode cX4_leastRow 5 = .ok (.if_icmp .ge 20, 3) := by decide +kernel
theorem dX4_leastRow_8 : decode cX4_leastRow 8 = .ok (.iload_n 0, 1) := by decide +kernel
theorem dX4_leastRow_9 : decode cX4_leastRow 9 = .ok (.iload_n 1, 1) := by decide +kernel
theorem dX4_leastRow_10 : decode cX4_leastRow 10 = .ok (.iushr, 1) := by decide +kernel
theorem dX4_leastRow_11 : decode cX4_leastRow 11 = .ok (.iconst 1, 1) := by decide +kernel
theorem dX4_leastRow_12 : decode cX4_leastRow 12 = .ok (.iand, 1) := by decide +kernel
theorem dX4_leastRow_13 : decode cX4_leastRow 13 = .ok (.iconst 1, 1) := by decide +kernel
theorem dX4_leastRow_14 : decode cX4_leastRow 14 = .ok (.if_icmp .ne 5, 3) := by decide +kernel
theorem dX4_leastRow_17 : decode cX4_leastRow 17 = .ok (.iload_n 1, 1) := by decide +kernel
theorem dX4_leastRow_18 : decode cX4_leastRow 18 = .ok (.ireturn, 1) := by decide +kernel
theorem dX4_leastRow_19 : decode cX4_leastRow 19 = .ok (.iinc 1 1, 3) := by decide +kernel
theorem dX4_leastRow_22 : decode cX4_leastRow 22 = .ok (.goto (-20), 3) := by decide +kernel
theorem dX4_leastRow_25 : decode cX4_leastRow 25 = .ok (.bipush 31, 2) := by decide +kernel
theorem dX4_leastRow_27 : decode cX4_leastRow 27 = .ok (.ireturn, 1) := by decide +kernel
