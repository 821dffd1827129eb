theorem dX0_init_0 : decode cX0_init 0 = .ok (.aload_n 0, 1) := by decide +kernel
theorem dX0_init_1 : decode cX0_init 1 = .ok (.invokespecial 3, 3) := by decide +kernel
theorem dX0_init_4 : decode cX0_init 4 = .ok (.aload_n 0, 1) := by decide +kernel
theorem dX0_init_5 : decode cX0_init 5 = .ok (.bipush 12, 2) := by decide +kernel
theorem dX0_init_7 : decode cX0_init 7 = .ok (.newarray .int, 2) := by decide +kernel
theorem dX0_init_9 : decode cX0_init 9 = .ok (.putfield 9, 3) := by decide +kernel
theorem dX0_init_12 : decode cX0_init 12 = .ok (.aload_n 0, 1) := by decide +kernel
theorem dX0_init_13 : decode cX0_init 13 = .ok (.bipush 12, 2) := by decide +kernel
theorem dX0_init_15 : decode cX0_init 15 = .ok (.newarray .int, 2) := by decide +kernel
theorem dX0_init_17 : decode cX0_init 17 = .ok (.putfield 15, 3) := by decide +kernel
theorem dX0_init_20 : decode cX0_init 20 = .ok (.return_, 1) := by decide +kernel
theorem dX0_blowAt_0 : decode cX0_blowAt 0 = .ok (.iload_n 1, 1) := by decide +kernel
theorem dX0_blowAt_1 : decode cX0_blowAt 1 = .ok (.ifCond .lt 23, 3) := by decide +kernel
theorem dX0_blowAt_4 : decode cX0_blowAt 4 = .ok (.iload_n 1, 1) := by decide +kernel
theorem dX0_blowAt_5 : decode cX0_blowAt 5 = .ok (.bipush 12, 2) := by decide +kernel
theorem dX0_blowAt_7 : decode cX0_blowAt 7 = .ok (.if_icmp .ge 17, 3) := by decide +kernel
theorem dX0_blowAt_10 : decode cX0_blowAt 10 = .ok (.aload_n 0, 1) := by decide +kernel
theorem dX0_blowAt_11 : decode cX0_blowAt 11 = .ok (.getfield 9, 3) := by decide +kernel
theorem dX0_blowAt_14 : decode cX0_blowAt 14 = .ok (.iload_n 1, 1) := by decide +kernel
theorem dX0_blowAt_15 : decode cX0_blowAt 15 = .ok (.iload_n 2, 1) := by decide +kernel
theorem dX0_blowAt_16 : decode cX0_blowAt 16 = .ok (.iastore, 1) := by decide +kernel
theorem dX0_blowAt_17 : decode cX0_blowAt 17 = .ok (.aload_n 0, 1) := by decide +kernel
theorem dX0_blowAt_18 : decode cX0_blowAt 18 = .ok (.getfield 15, 3) := by decide +kernel
theorem dX0_blowAt_21 : decode cX0_blowAt 21 = .ok (.iload_n 1, 1) := by decide +kernel
theorem dX0_blowAt_22 : decode cX0_blowAt 22 = .ok (.iload_n 3, 1) := by decide +kernel
theorem dX0_blowAt_23 : decode cX0_blowAt 23 = .ok (.iastore, 1) := by decide +kernel
theorem dX0_blowAt_24 : decode cX0_blowAt 24 = .ok (.return_, 1) := by decide +kernel
theorem dX0_blowAs_0 : decode cX0_blowAs 0 = .ok (.iconst 0, 1) := by decide +kernel
theorem dX0_blowAs_1 : decode cX0_blowAs 1 = .ok (.istore_n 2, 1) := by decide +kernel
theorem dX0_blowAs_2 : decode cX0_blowAs 2 = .ok (.iload_n 2, 1) := by decide +kernel
theorem dX0_blowAs_3 : decode cX0_blowAs 3 = .ok (.bipush 12, 2) := by decide +kernel
theorem dX0_blowAs_5 : decode cX0_blowAs 5 = .ok (.if_icmp .ge 33, 3) := by decide +kernel
theorem dX0_blowAs_8 : decode cX0_blowAs 8 = .ok (.aload_n 0, 1) := by decide +kernel
theorem dX0_blowAs_9 : decode cX0_blowAs 9 = .ok (.getfield 9, 3) := by decide +kernel
theorem dX0_blowAs_12 : decode cX0_blowAs 12 = .ok (.iload_n 2, 1) := by decide +kernel
theorem dX0_blowAs_13 : decode cX0_blowAs 13 = .ok (.aload_n 1, 1) := by decide +kernel
theorem dX0_blowAs_14 : decode cX0_blowAs 14 = .ok (.getfield 9, 3) := by decide +kernel
theorem dX0_blowAs_17 : decode cX0_blowAs 17 = .ok (.iload_n 2, 1) := by decide +kernel
theorem dX0_blowAs_18 : decode cX0_blowAs 18 = .ok (.iaload, 1) := by decide +kernel
theorem dX0_blowAs_19 : decode cX0_blowAs 19 = .ok (.iastore, 1) := by decide +kernel
theorem dX0_blowAs_20 : decode cX0_blowAs 20 = .ok (.aload_n 0, 1) := by decide +kernel
theorem dX0_blowAs_21 : decode cX0_blowAs 21 = .ok (.getfield 15, 3) := by decide +kernel
theorem dX0_blowAs_24 : decode cX0_blowAs 24 = .ok (.iload_n 2, 1) := by decide +kernel
theorem dX0_blowAs_25 : decode cX0_blowAs 25 = .ok (.aload_n 1, 1) := by decide +kernel
theorem dX0_blowAs_26 : decode cX0_blowAs 26 = .ok (.getfield 15, 3) := by decide +kernel
theorem dX0_blowAs_29 : decode cX0_blowAs 29 = .ok (.iload_n 2, 1) := by decide +kernel
theorem dX0_blowAs_30 : decode cX0_blowAs 30 = .ok (.iaload, 1) := by decide +kernel
theorem dX0_blowAs_31 : decode cX0_blowAs 31 = .ok (.iastore, 1) := by decide +kernel
theorem dX0_blowAs_32 : decode cX0_blowAs 32 = .ok (.iinc 2 1, 3) := by decide +kernel
theorem dX0_blowAs_35 : decode cX0_blowAs 35 = .ok (.goto (-33), 3) := by decide +kernel
theorem dX0_blowAs_38 : decode cX0_blowAs 38 = .ok (.return_, 1) := by decide +kernel
theorem dX0_alongX_0 : decode cX0_alongX 0 = .ok (.iload_n 1, 1) := by decide +kernel
theorem dX0_alongX_1 : decode cX0_alongX 1 = .ok (.ifCond .lt 18, 3) := by decide +kernel
theorem dX0_alongX_4 : decode cX0_alongX 4 = .ok (.iload_n 1, 1) := by decide +kernel
theorem dX0_alongX_5 : decode cX0_alongX 5 = .ok (.bipush 12, 2) := by decide +kernel
theorem dX0_alongX_7 : decode cX0_alongX 7 = .ok (.if_icmp .ge 12, 3) := by decide +kernel
theorem dX0_alongX_10 : decode cX0_alongX 10 = .ok (.aload_n 0, 1) := by decide +kernel
theorem dX0_alongX_11 : decode cX0_alongX 11 = .ok (.getfield 9, 3) := by decide +kernel
theorem dX0_alongX_14 : decode cX0_alongX 14 = .ok (.iload_n 1, 1) := by decide +kernel
theorem dX0_alongX_15 : decode cX0_alongX 15 = .ok (.iaload, 1) := by decide +kernel
theorem dX0_alongX_16 : decode cX0_alongX 16 = .ok (.goto 4, 3) := by decide +kernel
theorem dX0_alongX_19 : decode cX0_alongX 19 = .ok (.iconst 0, 1) := by decide +kernel
theorem dX0_alongX_20 : decode cX0_alongX 20 = .ok (.ireturn, 1) := by decide +kernel
theorem dX0_alongY_0 : decode cX0_alongY 0 = .ok (.iload_n 1, 1) := by decide +kernel
theorem dX0_alongY_1 : decode cX0_alongY 1 = .ok (.ifCond .lt 18, 3) := by decide +kernel
theorem dX0_alongY_4 : decode cX0_alongY 4 = .ok (.iload_n 1, 1) := by decide +kernel
theorem dX0_alongY_5 : decode cX0_alongY 5 = .ok (.bipush 12, 2) := by decide +kernel
theorem dX0_alongY_7 : decode cX0_alongY 7 = .ok (.if_icmp .ge 12, 3) := by decide +kernel
theorem dX0_alongY_10 : decode cX0_alongY 10 = .ok (.aload_n 0, 1) := by decide +kernel
theorem dX0_alongY_11 : decode cX0_alongY 11 = .ok (.getfield 15, 3) := by decide +kernel
theorem dX0_alongY_14 : decode cX0_alongY 14 = .ok (.iload_n 1, 1) := by decide +kernel
theorem dX0_alongY_15 : decode cX0_alongY 15 = .ok (.iaload, 1) := by decide +kernel
theorem dX0_alongY_16 : decode cX0_alongY 16 = .ok (.goto 4, 3) := by decide +kernel
theorem dX0_alongY_19 : decode cX0_alongY 19 = .ok (.iconst 0, 1) := by decide +kernel
theorem dX0_alongY_20 : decode cX0_alongY 20 = .ok (.ireturn, 1) := by decide +kernel
theorem dX0_squareOnGround_0 : decode cX0_squareOnGround 0 = .ok (.aload_n 0, 1) := by decide +kernel
theorem dX0_squareOnGround_1 : decode cX0_squareOnGround 1 = .ok (.getfield 9, 3) := by decide +kernel
theorem dX0_squareOnGround_4 : decode cX0_squareOnGround 4 = .ok (.iconst 0, 1) := by decide +kernel
theorem dX0_squareOnGround_5 : decode cX0_squareOnGround 5 = .ok (.iaload, 1) := by decide +kernel
theorem dX0_squareOnGround_6 : decode cX0_squareOnGround 6 = .ok (.aload_n 0, 1) := by decide +kernel
theorem dX0_squareOnGround_7 : decode cX0_squareOnGround 7 = .ok (.getfield 9, 3) := by decide +kernel
theorem dX0_squareOnGround_10 : decode cX0_squareOnGround 10 = .ok (.iconst 0, 1) := by decide +kernel
theorem dX0_squareOnGround_11 : decode cX0_squareOnGround 11 = .ok (.iaload, 1) := by decide +kernel
theorem dX0_squareOnGround_12 : decode cX0_squareOnGround 12 = .ok (.imul, 1) := by decide +kernel
theorem dX0_squareOnGround_13 : decode cX0_squareOnGround 13 = .ok (.aload_n 0, 1) := by decide +kernel
theorem dX0_squareOnGround_14 : decode cX0_squareOnGround 14 = .ok (.getfield 15, 3) := by decide +kernel
theorem dX0_squareOnGround_17 : decode cX0_squareOnGround 17 = .ok (.iconst 0, 1) := by decide +kernel
theorem dX0_squareOnGround_18 : decode cX0_squareOnGround 18 = .ok (.iaload, 1) := by decide +kernel
theorem dX0_squareOnGround_19 : decode cX0_squareOnGround 19 = .ok (.aload_n 0, 1) := by decide +kernel
theorem dX0_squareOnGround_20 : decode cX0_squareOnGround 20 = .ok (.getfield 15, 3) := by decide +kernel
theorem dX0_squareOnGround_23 : decode cX0_squareOnGround 23 = .ok (.iconst 0, 1) := by decide +kernel
theorem dX0_squareOnGround_24 : decode cX0_squareOnGround 24 = .ok (.iaload, 1) := by decide +kernel
theorem dX0_squareOnGround_25 : decode cX0_squareOnGround 25 = .ok (.imul, 1) := by decide +kernel
theorem dX0_squareOnGround_26 : decode cX0_squareOnGround 26 = .ok (.iadd, 1) := by decide +kernel
theorem dX0_squareOnGround_27 : decode cX0_squareOnGround 27 = .ok (.ireturn, 1) := by decide +kernel
theorem dX1_init_0 : decode cX1_init 0 = .ok (.aload_n 0, 1) := by decide +kernel
theorem dX1_init_1 : decode cX1_init 1 = .ok (.invokespecial 3, 3) := by decide +kernel
theorem dX1_init_4 : decode cX1_init 4 = .ok (.aload_n 0, 1) := by decide +kernel
theorem dX1_init_5 : decode cX1_init 5 = .ok (.sipush 1001, 3) := by decide +kernel
theorem dX1_init_8 : decode cX1_init 8 = .ok (.newarray .int, 2) := by decide +kernel
theorem dX1_init_10 : decode cX1_init 10 = .ok (.putfield 9, 3) := by decide +kernel
theorem dX1_init_13 : decode cX1_init 13 = .ok (.aload_n 0, 1) := by decide +kernel
theorem dX1_init_14 : decode cX1_init 14 = .ok (.sipush 1001, 3) := by decide +kernel
theorem dX1_init_17 : decode cX1_init 17 = .ok (.newarray .int, 2) := by decide +kernel
theorem dX1_init_19 : decode cX1_init 19 = .ok (.putfield 15, 3) := by decide +kernel
theorem dX1_init_22 : decode cX1_init 22 = .ok (.aload_n 0, 1) := by decide +kernel
theorem dX1_init_23 : decode cX1_init 23 = .ok (.sipush 1001, 3) := by decide +kernel
theorem dX1_init_26 : decode cX1_init 26 = .ok (.newarray .int, 2) := by decide +kernel
theorem dX1_init_28 : decode cX1_init 28 = .ok (.putfield 18, 3) := by decide +kernel
theorem dX1_init_31 : decode cX1_init 31 = .ok (.aload_n 0, 1) := by decide +kernel
theorem dX1_init_32 : decode cX1_init 32 = .ok (.iconst 0, 1) := by decide +kernel
theorem dX1_init_33 : decode cX1_init 33 = .ok (.putfield 21, 3) := by decide +kernel
theorem dX1_init_36 : decode cX1_init 36 = .ok (.aload_n 0, 1) := by decide +kernel
theorem dX1_init_37 : decode cX1_init 37 = .ok (.iconst 0, 1) := by decide +kernel
theorem dX1_init_38 : decode cX1_init 38 = .ok (.putfield 25, 3) := by decide +kernel
theorem dX1_init_41 : decode cX1_init 41 = .ok (.return_, 1) := by decide +kernel
theorem dX1_follow_0 : decode cX1_follow 0 = .ok (.aload_n 0, 1) := by decide +kernel
theorem dX1_follow_1 : decode cX1_follow 1 = .ok (.getfield 9, 3) := by decide +kernel
theorem dX1_follow_4 : decode cX1_follow 4 = .ok (.iconst 0, 1) := by decide +kernel
theorem dX1_follow_5 : decode cX1_follow 5 = .ok (.iconst 0, 1) := by decide +kernel
theorem dX1_follow_6 : decode cX1_follow 6 = .ok (.iastore, 1) := by decide +kernel
theorem dX1_follow_7 : decode cX1_follow 7 = .ok (.aload_n 0, 1) := by decide +kernel
theorem dX1_follow_8 : decode cX1_follow 8 = .ok (.getfield 15, 3) := by decide +kernel
theorem dX1_follow_11 : decode cX1_follow 11 = .ok (.iconst 0, 1) := by decide +kernel
theorem dX1_follow_12 : decode cX1_follow 12 = .ok (.iconst 0, 1) := by decide +kernel
theorem dX1_follow_13 : decode cX1_follow 13 = .ok (.iastore, 1) := by decide +kernel
theorem dX1_follow_14 : decode cX1_follow 14 = .ok (.aload_n 0, 1) := by decide +kernel
theorem dX1_follow_15 : decode cX1_follow 15 = .ok (.getfield 18, 3) := by decide +kernel
theorem dX1_follow_18 : decode cX1_follow 18 = .ok (.iconst 0, 1) := by decide +kernel
theorem dX1_follow_19 : decode cX1_follow 19 = .ok (.aload_n 2, 1) := by decide +kernel
theorem dX1_follow_20 : decode cX1_follow 20 = .ok (.getfield 28, 3) := by decide +kernel
theorem dX1_follow_23 : decode cX1_follow 23 = .ok (.iastore, 1) := by decide +kernel
theorem dX1_follow_24 : decode cX1_follow 24 = .ok (.aload_n 0, 1) := by decide +kernel
theorem dX1_follow_25 : decode cX1_follow 25 = .ok (.sipush 1000, 3) := by decide +kernel
theorem dX1_follow_28 : decode cX1_follow 28 = .ok (.putfield 21, 3) := by decide +kernel
theorem dX1_follow_31 : decode cX1_follow 31 = .ok (.aload_n 0, 1) := by decide +kernel
theorem dX1_follow_32 : decode cX1_follow 32 = .ok (.sipush 1000, 3) := by decide +kernel
theorem dX1_follow_35 : decode cX1_follow 35 = .ok (.putfield 25, 3) := by decide +kernel
theorem dX1_follow_38 : decode cX1_follow 38 = .ok (.iconst 0, 1) := by decide +kernel
theorem dX1_follow_39 : decode cX1_follow 39 = .ok (.istore 4, 2) := by decide +kernel
theorem dX1_follow_41 : decode cX1_follow 41 = .ok (.iload 4, 2) := by decide +kernel
theorem dX1_follow_43 : decode cX1_follow 43 = .ok (.sipush 1000, 3) := by decide +kernel
theorem dX1_follow_46 : decode cX1_follow 46 = .ok (.if_icmp .ge 83, 3) := by decide +kernel
theorem dX1_follow_49 : decode cX1_follow 49 = .ok (.aload_n 0, 1) := by decide +kernel
theorem dX1_follow_50 : decode cX1_follow 50 = .ok (.iload 4, 2) := by decide +kernel
theorem dX1_follow_52 : decode cX1_follow 52 = .ok (.aload_n 3, 1) := by decide +kernel
theorem dX1_follow_53 : decode cX1_follow 53 = .ok (.invokevirtual 32, 3) := by decide +kernel
theorem dX1_follow_56 : decode cX1_follow 56 = .ok (.iload 4, 2) := by decide +kernel
theorem dX1_follow_58 : decode cX1_follow 58 = .ok (.aload_n 0, 1) := by decide +kernel
theorem dX1_follow_59 : decode cX1_follow 59 = .ok (.getfield 21, 3) := by decide +kernel
theorem dX1_follow_62 : decode cX1_follow 62 = .ok (.if_icmp .lt 29, 3) := by decide +kernel
theorem dX1_follow_65 : decode cX1_follow 65 = .ok (.aload_n 0, 1) := by decide +kernel
theorem dX1_follow_66 : decode cX1_follow 66 = .ok (.getfield 18, 3) := by decide +kernel
theorem dX1_follow_69 : decode cX1_follow 69 = .ok (.iload 4, 2) := by decide +kernel
theorem dX1_follow_71 : decode cX1_follow 71 = .ok (.iconst 1, 1) := by decide +kernel
theorem dX1_follow_72 : decode cX1_follow 72 = .ok (.iadd, 1) := by decide +kernel
theorem dX1_follow_73 : decode cX1_follow 73 = .ok (.aload_n 0, 1) := by decide +kernel
theorem dX1_follow_74 : decode cX1_follow 74 = .ok (.getfield 18, 3) := by decide +kernel
theorem dX1_follow_77 : decode cX1_follow 77 = .ok (.iload 4, 2) := by decide +kernel
theorem dX1_follow_79 : decode cX1_follow 79 = .ok (.iaload, 1) := by decide +kernel
theorem dX1_follow_80 : decode cX1_follow 80 = .ok (.bipush 50, 2) := by decide +kernel
theorem dX1_follow_82 : decode cX1_follow 82 = .ok (.isub, 1) := by decide +kernel
theorem dX1_follow_83 : decode cX1_follow 83 = .ok (.iconst 0, 1) := by decide +kernel
theorem dX1_follow_84 : decode cX1_follow 84 = .ok (.invokestatic 36, 3) := by decide +kernel
theorem dX1_follow_87 : decode cX1_follow 87 = .ok (.iastore, 1) := by decide +kernel
theorem dX1_follow_88 : decode cX1_follow 88 = .ok (.goto 14, 3) := by decide +kernel
theorem dX1_follow_91 : decode cX1_follow 91 = .ok (.aload_n 0, 1) := by decide +kernel
theorem dX1_follow_92 : decode cX1_follow 92 = .ok (.iload 4, 2) := by decide +kernel
theorem dX1_follow_94 : decode cX1_follow 94 = .ok (.aload_n 1, 1) := by decide +kernel
theorem dX1_follow_95 : decode cX1_follow 95 = .ok (.aload_n 2, 1) := by decide +kernel
theorem dX1_follow_96 : decode cX1_follow 96 = .ok (.getfield 42, 3) := by decide +kernel
theorem dX1_follow_99 : decode cX1_follow 99 = .ok (.invokevirtual 45, 3) := by decide +kernel
theorem dX1_follow_102 : decode cX1_follow 102 = .ok (.aload_n 0, 1) := by decide +kernel
theorem dX1_follow_103 : decode cX1_follow 103 = .ok (.getfield 18, 3) := by decide +kernel
theorem dX1_follow_106 : decode cX1_follow 106 = .ok (.iload 4, 2) := by decide +kernel
theorem dX1_follow_108 : decode cX1_follow 108 = .ok (.iconst 1, 1) := by decide +kernel
theorem dX1_follow_109 : decode cX1_follow 109 = .ok (.iadd, 1) := by decide +kernel
theorem dX1_follow_110 : decode cX1_follow 110 = .ok (.iaload, 1) := by decide +kernel
theorem dX1_follow_111 : decode cX1_follow 111 = .ok (.ifCond .ne 12, 3) := by decide +kernel
theorem dX1_follow_114 : decode cX1_follow 114 = .ok (.aload_n 0, 1) := by decide +kernel
theorem dX1_follow_115 : decode cX1_follow 115 = .ok (.iload 4, 2) := by decide +kernel
theorem dX1_follow_117 : decode cX1_follow 117 = .ok (.iconst 1, 1) := by decide +kernel
theorem dX1_follow_118 : decode cX1_follow 118 = .ok (.iadd, 1) := by decide +kernel
theorem dX1_follow_119 : decode cX1_follow 119 = .ok (.putfield 25, 3) := by decide +kernel
theorem dX1_follow_122 : decode cX1_follow 122 = .ok (.return_, 1) := by decide +kernel
theorem dX1_follow_123 : decode cX1_follow 123 = .ok (.iinc 4 1, 3) := by decide +kernel
theorem dX1_follow_126 : decode cX1_follow 126 = .ok (.goto (-85), 3) := by decide +kernel
theorem dX1_follow_129 : decode cX1_follow 129 = .ok (.return_, 1) := by decide +kernel
theorem dX1_drift_0 : decode cX1_drift 0 = .ok (.aload_n 0, 1) := by decide +kernel
theorem dX1_drift_1 : decode cX1_drift 1 = .ok (.getfield 18, 3) := by decide +kernel
theorem dX1_drift_4 : decode cX1_drift 4 = .ok (.iload_n 1, 1) := by decide +kernel
theorem dX1_drift_5 : decode cX1_drift 5 = .ok (.iaload, 1) := by decide +kernel
theorem dX1_drift_6 : decode cX1_drift 6 = .ok (.sipush 4000, 3) := by decide +kernel
theorem dX1_drift_9 : decode cX1_drift 9 = .ok (.idiv, 1) := by decide +kernel
theorem dX1_drift_10 : decode cX1_drift 10 = .ok (.istore_n 3, 1) := by decide +kernel
theorem dX1_drift_11 : decode cX1_drift 11 = .ok (.aload_n 0, 1) := by decide +kernel
theorem dX1_drift_12 : decode cX1_drift 12 = .ok (.getfield 9, 3) := by decide +kernel
theorem dX1_drift_15 : decode cX1_drift 15 = .ok (.iload_n 1, 1) := by decide +kernel
theorem dX1_drift_16 : decode cX1_drift 16 = .ok (.iconst 1, 1) := by decide +kernel
theorem dX1_drift_17 : decode cX1_drift 17 = .ok (.iadd, 1) := by decide +kernel
theorem dX1_drift_18 : decode cX1_drift 18 = .ok (.aload_n 0, 1) := by decide +kernel
theorem dX1_drift_19 : decode cX1_drift 19 = .ok (.getfield 9, 3) := by decide +kernel
theorem dX1_drift_22 : decode cX1_drift 22 = .ok (.iload_n 1, 1) := by decide +kernel
theorem dX1_drift_23 : decode cX1_drift 23 = .ok (.iaload, 1) := by decide +kernel
theorem dX1_drift_24 : decode cX1_drift 24 = .ok (.aload_n 2, 1) := by decide +kernel
theorem dX1_drift_25 : decode cX1_drift 25 = .ok (.iload_n 3, 1) := by decide +kernel
theorem dX1_drift_26 : decode cX1_drift 26 = .ok (.invokevirtual 49, 3) := by decide +kernel
theorem dX1_drift_29 : decode cX1_drift 29 = .ok (.iadd, 1) := by decide +kernel
theorem dX1_drift_30 : decode cX1_drift 30 = .ok (.iastore, 1) := by decide +kernel
theorem dX1_drift_31 : decode cX1_drift 31 = .ok (.aload_n 0, 1) := by decide +kernel
theorem dX1_drift_32 : decode cX1_drift 32 = .ok (.getfield 15, 3) := by decide +kernel
theorem dX1_drift_35 : decode cX1_drift 35 = .ok (.iload_n 1, 1) := by decide +kernel
theorem dX1_drift_36 : decode cX1_drift 36 = .ok (.iconst 1, 1) := by decide +kernel
theorem dX1_drift_37 : decode cX1_drift 37 = .ok (.iadd, 1) := by decide +kernel
theorem dX1_drift_38 : decode cX1_drift 38 = .ok (.aload_n 0, 1) := by decide +kernel
theorem dX1_drift_39 : decode cX1_drift 39 = .ok (.getfield 15, 3) := by decide +kernel
theorem dX1_drift_42 : decode cX1_drift 42 = .ok (.iload_n 1, 1) := by decide +kernel
theorem dX1_drift_43 : decode cX1_drift 43 = .ok (.iaload, 1) := by decide +kernel
theorem dX1_drift_44 : decode cX1_drift 44 = .ok (.aload_n 2, 1) := by decide +kernel
theorem dX1_drift_45 : decode cX1_drift 45 = .ok (.iload_n 3, 1) := by decide +kernel
theorem dX1_drift_46 : decode cX1_drift 46 = .ok (.invokevirtual 55, 3) := by decide +kernel
theorem dX1_drift_49 : decode cX1_drift 49 = .ok (.iadd, 1) := by decide +kernel
theorem dX1_drift_50 : decode cX1_drift 50 = .ok (.iastore, 1) := by decide +kernel
theorem dX1_drift_51 : decode cX1_drift 51 = .ok (.return_, 1) := by decide +kernel
theorem dX1_fall_0 : decode cX1_fall 0 = .ok (.iload_n 1, 1) := by decide +kernel
theorem dX1_fall_1 : decode cX1_fall 1 = .ok (.bipush 20, 2) := by decide +kernel
theorem dX1_fall_3 : decode cX1_fall 3 = .ok (.if_icmp .gt 19, 3) := by decide +kernel
theorem dX1_fall_6 : decode cX1_fall 6 = .ok (.aload_n 0, 1) := by decide +kernel
theorem dX1_fall_7 : decode cX1_fall 7 = .ok (.getfield 9, 3) := by decide +kernel
theorem dX1_fall_10 : decode cX1_fall 10 = .ok (.iload_n 1, 1) := by decide +kernel
theorem dX1_fall_11 : decode cX1_fall 11 = .ok (.iconst 1, 1) := by decide +kernel
theorem dX1_fall_12 : decode cX1_fall 12 = .ok (.iadd, 1) := by decide +kernel
theorem dX1_fall_13 : decode cX1_fall 13 = .ok (.dup2, 1) := by decide +kernel
theorem dX1_fall_14 : decode cX1_fall 14 = .ok (.iaload, 1) := by decide +kernel
theorem dX1_fall_15 : decode cX1_fall 15 = .ok (.iload_n 3, 1) := by decide +kernel
theorem dX1_fall_16 : decode cX1_fall 16 = .ok (.iload_n 1, 1) := by decide +kernel
theorem dX1_fall_17 : decode cX1_fall 17 = .ok (.iconst 1, 1) := by decide +kernel
theorem dX1_fall_18 : decode cX1_fall 18 = .ok (.iadd, 1) := by decide +kernel
theorem dX1_fall_19 : decode cX1_fall 19 = .ok (.ishr, 1) := by decide +kernel
theorem dX1_fall_20 : decode cX1_fall 20 = .ok (.iadd, 1) := by decide +kernel
theorem dX1_fall_21 : decode cX1_fall 21 = .ok (.iastore, 1) := by decide +kernel
theorem dX1_fall_22 : decode cX1_fall 22 = .ok (.aload_n 2, 1) := by decide +kernel
theorem dX1_fall_23 : decode cX1_fall 23 = .ok (.getfield 58, 3) := by decide +kernel
theorem dX1_fall_26 : decode cX1_fall 26 = .ok (.iconst 2, 1) := by decide +kernel
theorem dX1_fall_27 : decode cX1_fall 27 = .ok (.if_icmp .ne 17, 3) := by decide +kernel
theorem dX1_fall_30 : decode cX1_fall 30 = .ok (.iload_n 1, 1) := by decide +kernel
theorem dX1_fall_31 : decode cX1_fall 31 = .ok (.iconst 5, 1) := by decide +kernel
theorem dX1_fall_32 : decode cX1_fall 32 = .ok (.if_icmp .lt 12, 3) := by decide +kernel
theorem dX1_fall_35 : decode cX1_fall 35 = .ok (.aload_n 0, 1) := by decide +kernel
theorem dX1_fall_36 : decode cX1_fall 36 = .ok (.iload_n 1, 1) := by decide +kernel
theorem dX1_fall_37 : decode cX1_fall 37 = .ok (.aload_n 2, 1) := by decide +kernel
theorem dX1_fall_38 : decode cX1_fall 38 = .ok (.getfield 63, 3) := by decide +kernel
theorem dX1_fall_41 : decode cX1_fall 41 = .ok (.invokevirtual 66, 3) := by decide +kernel
theorem dX1_fall_44 : decode cX1_fall 44 = .ok (.aload_n 0, 1) := by decide +kernel
theorem dX1_fall_45 : decode cX1_fall 45 = .ok (.getfield 18, 3) := by decide +kernel
theorem dX1_fall_48 : decode cX1_fall 48 = .ok (.iload_n 1, 1) := by decide +kernel
theorem dX1_fall_49 : decode cX1_fall 49 = .ok (.iconst 1, 1) := by decide +kernel
theorem dX1_fall_50 : decode cX1_fall 50 = .ok (.iadd, 1) := by decide +kernel
theorem dX1_fall_51 : decode cX1_fall 51 = .ok (.aload_n 0, 1) := by decide +kernel
theorem dX1_fall_52 : decode cX1_fall 52 = .ok (.getfield 18, 3) := by decide +kernel
theorem dX1_fall_55 : decode cX1_fall 55 = .ok (.iload_n 1, 1) := by decide +kernel
theorem dX1_fall_56 : decode cX1_fall 56 = .ok (.iaload, 1) := by decide +kernel
theorem dX1_fall_57 : decode cX1_fall 57 = .ok (.aload_n 2, 1) := by decide +kernel
theorem dX1_fall_58 : decode cX1_fall 58 = .ok (.iload_n 1, 1) := by decide +kernel
theorem dX1_fall_59 : decode cX1_fall 59 = .ok (.invokevirtual 70, 3) := by decide +kernel
theorem dX1_fall_62 : decode cX1_fall 62 = .ok (.isub, 1) := by decide +kernel
theorem dX1_fall_63 : decode cX1_fall 63 = .ok (.iastore, 1) := by decide +kernel
theorem dX1_fall_64 : decode cX1_fall 64 = .ok (.aload_n 2, 1) := by decide +kernel
theorem dX1_fall_65 : decode cX1_fall 65 = .ok (.iload_n 1, 1) := by decide +kernel
theorem dX1_fall_66 : decode cX1_fall 66 = .ok (.aload_n 0, 1) := by decide +kernel
theorem dX1_fall_67 : decode cX1_fall 67 = .ok (.getfield 18, 3) := by decide +kernel
theorem dX1_fall_70 : decode cX1_fall 70 = .ok (.iload_n 1, 1) := by decide +kernel
theorem dX1_fall_71 : decode cX1_fall 71 = .ok (.iconst 1, 1) := by decide +kernel
theorem dX1_fall_72 : decode cX1_fall 72 = .ok (.iadd, 1) := by decide +kernel
theorem dX1_fall_73 : decode cX1_fall 73 = .ok (.iaload, 1) := by decide +kernel
theorem dX1_fall_74 : decode cX1_fall 74 = .ok (.invokevirtual 73, 3) := by decide +kernel
theorem dX1_fall_77 : decode cX1_fall 77 = .ok (.ifCond .eq 10, 3) := by decide +kernel
theorem dX1_fall_80 : decode cX1_fall 80 = .ok (.aload_n 0, 1) := by decide +kernel
theorem dX1_fall_81 : decode cX1_fall 81 = .ok (.iload_n 1, 1) := by decide +kernel
theorem dX1_fall_82 : decode cX1_fall 82 = .ok (.iconst 1, 1) := by decide +kernel
theorem dX1_fall_83 : decode cX1_fall 83 = .ok (.iadd, 1) := by decide +kernel
theorem dX1_fall_84 : decode cX1_fall 84 = .ok (.putfield 21, 3) := by decide +kernel
theorem dX1_fall_87 : decode cX1_fall 87 = .ok (.return_, 1) := by decide +kernel
theorem dX1_track_0 : decode cX1_track 0 = .ok (.iload_n 2, 1) := by decide +kernel
theorem dX1_track_1 : decode cX1_track 1 = .ok (.tableswitch 75 0 2 #[27, 43, 59], 27) := by decide +kernel
theorem dX1_track_28 : decode cX1_track 28 = .ok (.aload_n 0, 1) := by decide +kernel
theorem dX1_track_29 : decode cX1_track 29 = .ok (.getfield 9, 3) := by decide +kernel
theorem dX1_track_32 : decode cX1_track 32 = .ok (.iload_n 1, 1) := by decide +kernel
theorem dX1_track_33 : decode cX1_track 33 = .ok (.iconst 1, 1) := by decide +kernel
theorem dX1_track_34 : decode cX1_track 34 = .ok (.iadd, 1) := by decide +kernel
theorem dX1_track_35 : decode cX1_track 35 = .ok (.dup2, 1) := by decide +kernel
theorem dX1_track_36 : decode cX1_track 36 = .ok (.iaload, 1) := by decide +kernel
theorem dX1_track_37 : decode cX1_track 37 = .ok (.bipush 80, 2) := by decide +kernel
theorem dX1_track_39 : decode cX1_track 39 = .ok (.iadd, 1) := by decide +kernel
theorem dX1_track_40 : decode cX1_track 40 = .ok (.iastore, 1) := by decide +kernel
theorem dX1_track_41 : decode cX1_track 41 = .ok (.goto 48, 3) := by decide +kernel
theorem dX1_track_44 : decode cX1_track 44 = .ok (.aload_n 0, 1) := by decide +kernel
theorem dX1_track_45 : decode cX1_track 45 = .ok (.getfield 15, 3) := by decide +kernel
theorem dX1_track_48 : decode cX1_track 48 = .ok (.iload_n 1, 1) := by decide +kernel
theorem dX1_track_49 : decode cX1_track 49 = .ok (.iconst 1, 1) := by decide +kernel
theorem dX1_track_50 : decode cX1_track 50 = .ok (.iadd, 1) := by decide +kernel
theorem dX1_track_51 : decode cX1_track 51 = .ok (.dup2, 1) := by decide +kernel
theorem dX1_track_52 : decode cX1_track 52 = .ok (.iaload, 1) := by decide +kernel
theorem dX1_track_53 : decode cX1_track 53 = .ok (.bipush 80, 2) := by decide +kernel
theorem dX1_track_55 : decode cX1_track 55 = .ok (.iadd, 1) := by decide +kernel
theorem dX1_track_56 : decode cX1_track 56 = .ok (.iastore, 1) := by decide +kernel
theorem dX1_track_57 : decode cX1_track 57 = .ok (.goto 32, 3) := by decide +kernel
theorem dX1_track_60 : decode cX1_track 60 = .ok (.aload_n 0, 1) := by decide +kernel
theorem dX1_track_61 : decode cX1_track 61 = .ok (.getfield 9, 3) := by decide +kernel
theorem dX1_track_64 : decode cX1_track 64 = .ok (.iload_n 1, 1) := by decide +kernel
theorem dX1_track_65 : decode cX1_track 65 = .ok (.iconst 1, 1) := by decide +kernel
theorem dX1_track_66 : decode cX1_track 66 = .ok (.iadd, 1) := by decide +kernel
theorem dX1_track_67 : decode cX1_track 67 = .ok (.dup2, 1) := by decide +kernel
theorem dX1_track_68 : decode cX1_track 68 = .ok (.iaload, 1) := by decide +kernel
theorem dX1_track_69 : decode cX1_track 69 = .ok (.bipush 80, 2) := by decide +kernel
theorem dX1_track_71 : decode cX1_track 71 = .ok (.isub, 1) := by decide +kernel
theorem dX1_track_72 : decode cX1_track 72 = .ok (.iastore, 1) := by decide +kernel
theorem dX1_track_73 : decode cX1_track 73 = .ok (.goto 16, 3) := by decide +kernel
theorem dX1_track_76 : decode cX1_track 76 = .ok (.aload_n 0, 1) := by decide +kernel
theorem dX1_track_77 : decode cX1_track 77 = .ok (.getfield 15, 3) := by decide +kernel
theorem dX1_track_80 : decode cX1_track 80 = .ok (.iload_n 1, 1) := by decide +kernel
theorem dX1_track_81 : decode cX1_track 81 = .ok (.iconst 1, 1) := by decide +kernel
theorem dX1_track_82 : decode cX1_track 82 = .ok (.iadd, 1) := by decide +kernel
theorem dX1_track_83 : decode cX1_track 83 = .ok (.dup2, 1) := by decide +kernel
theorem dX1_track_84 : decode cX1_track 84 = .ok (.iaload, 1) := by decide +kernel
theorem dX1_track_85 : decode cX1_track 85 = .ok (.bipush 80, 2) := by decide +kernel
theorem dX1_track_87 : decode cX1_track 87 = .ok (.isub, 1) := by decide +kernel
theorem dX1_track_88 : decode cX1_track 88 = .ok (.iastore, 1) := by decide +kernel
theorem dX1_track_89 : decode cX1_track 89 = .ok (.return_, 1) := by decide +kernel
theorem dX1_stateAt_0 : decode cX1_stateAt 0 = .ok (.iload_n 1, 1) := by decide +kernel
theorem dX1_stateAt_1 : decode cX1_stateAt 1 = .ok (.aload_n 0, 1) := by decide +kernel
theorem dX1_stateAt_2 : decode cX1_stateAt 2 = .ok (.getfield 25, 3) := by decide +kernel
theorem dX1_stateAt_5 : decode cX1_stateAt 5 = .ok (.if_icmp .lt 5, 3) := by decide +kernel
theorem dX1_stateAt_8 : decode cX1_stateAt 8 = .ok (.iconst 3, 1) := by decide +kernel
theorem dX1_stateAt_9 : decode cX1_stateAt 9 = .ok (.ireturn, 1) := by decide +kernel
theorem dX1_stateAt_10 : decode cX1_stateAt 10 = .ok (.iload_n 1, 1) := by decide +kernel
theorem dX1_stateAt_11 : decode cX1_stateAt 11 = .ok (.aload_n 0, 1) := by decide +kernel
theorem dX1_stateAt_12 : decode cX1_stateAt 12 = .ok (.getfield 21, 3) := by decide +kernel
theorem dX1_stateAt_15 : decode cX1_stateAt 15 = .ok (.if_icmp .lt 7, 3) := by decide +kernel
theorem dX1_stateAt_18 : decode cX1_stateAt 18 = .ok (.iconst 2, 1) := by decide +kernel
theorem dX1_stateAt_19 : decode cX1_stateAt 19 = .ok (.goto 4, 3) := by decide +kernel
theorem dX1_stateAt_22 : decode cX1_stateAt 22 = .ok (.iconst 1, 1) := by decide +kernel
theorem dX1_stateAt_23 : decode cX1_stateAt 23 = .ok (.ireturn, 1) := by decide +kernel
theorem dX1_secondsOpen_0 : decode cX1_secondsOpen 0 = .ok (.aload_n 0, 1) := by decide +kernel
theorem dX1_secondsOpen_1 : decode cX1_secondsOpen 1 = .ok (.getfield 25, 3) := by decide +kernel
theorem dX1_secondsOpen_4 : decode cX1_secondsOpen 4 = .ok (.aload_n 0, 1) := by decide +kernel
theorem dX1_secondsOpen_5 : decode cX1_secondsOpen 5 = .ok (.getfield 21, 3) := by decide +kernel
theorem dX1_secondsOpen_8 : decode cX1_secondsOpen 8 = .ok (.isub, 1) := by decide +kernel
theorem dX1_secondsOpen_9 : decode cX1_secondsOpen 9 = .ok (.ireturn, 1) := by decide +kernel
theorem dX1_downX_0 : decode cX1_downX 0 = .ok (.aload_n 0, 1) := by decide +kernel
theorem dX1_downX_1 : decode cX1_downX 1 = .ok (.getfield 9, 3) := by decide +kernel
theorem dX1_downX_4 : decode cX1_downX 4 = .ok (.aload_n 0, 1) := by decide +kernel
theorem dX1_downX_5 : decode cX1_downX 5 = .ok (.getfield 25, 3) := by decide +kernel
theorem dX1_downX_8 : decode cX1_downX 8 = .ok (.iaload, 1) := by decide +kernel
theorem dX1_downX_9 : decode cX1_downX 9 = .ok (.ireturn, 1) := by decide +kernel
theorem dX1_downY_0 : decode cX1_downY 0 = .ok (.aload_n 0, 1) := by decide +kernel
theorem dX1_downY_1 : decode cX1_downY 1 = .ok (.getfield 15, 3) := by decide +kernel
theorem dX1_downY_4 : decode cX1_downY 4 = .ok (.aload_n 0, 1) := by decide +kernel
theorem dX1_downY_5 : decode cX1_downY 5 = .ok (.getfield 25, 3) := by decide +kernel
theorem dX1_downY_8 : decode cX1_downY 8 = .ok (.iaload, 1) := by decide +kernel
theorem dX1_downY_9 : decode cX1_downY 9 = .ok (.ireturn, 1) := by decide +kernel
theorem dX1_nearTo_0 : decode cX1_nearTo 0 = .ok (.ldc2_w 77, 3) := by decide +kernel
theorem dX1_nearTo_3 : decode cX1_nearTo 3 = .ok (.lstore 6, 2) := by decide +kernel
theorem dX1_nearTo_5 : decode cX1_nearTo 5 = .ok (.iload_n 3, 1) := by decide +kernel
theorem dX1_nearTo_6 : decode cX1_nearTo 6 = .ok (.i2l, 1) := by decide +kernel
theorem dX1_nearTo_7 : decode cX1_nearTo 7 = .ok (.iload_n 2, 1) := by decide +kernel
theorem dX1_nearTo_8 : decode cX1_nearTo 8 = .ok (.i2l, 1) := by decide +kernel
theorem dX1_nearTo_9 : decode cX1_nearTo 9 = .ok (.lmul, 1) := by decide +kernel
theorem dX1_nearTo_10 : decode cX1_nearTo 10 = .ok (.lstore 8, 2) := by decide +kernel
theorem dX1_nearTo_12 : decode cX1_nearTo 12 = .ok (.aload_n 0, 1) := by decide +kernel
theorem dX1_nearTo_13 : decode cX1_nearTo 13 = .ok (.getfield 25, 3) := by decide +kernel
theorem dX1_nearTo_16 : decode cX1_nearTo 16 = .ok (.iload_n 2, 1) := by decide +kernel
theorem dX1_nearTo_17 : decode cX1_nearTo 17 = .ok (.isub, 1) := by decide +kernel
theorem dX1_nearTo_18 : decode cX1_nearTo 18 = .ok (.aload_n 1, 1) := by decide +kernel
theorem dX1_nearTo_19 : decode cX1_nearTo 19 = .ok (.getfield 25, 3) := by decide +kernel
theorem dX1_nearTo_22 : decode cX1_nearTo 22 = .ok (.invokestatic 79, 3) := by decide +kernel
theorem dX1_nearTo_25 : decode cX1_nearTo 25 = .ok (.istore 10, 2) := by decide +kernel
theorem dX1_nearTo_27 : decode cX1_nearTo 27 = .ok (.iconst 0, 1) := by decide +kernel
theorem dX1_nearTo_28 : decode cX1_nearTo 28 = .ok (.istore 11, 2) := by decide +kernel
theorem dX1_nearTo_30 : decode cX1_nearTo 30 = .ok (.iload 11, 2) := by decide +kernel
theorem dX1_nearTo_32 : decode cX1_nearTo 32 = .ok (.iload 10, 2) := by decide +kernel
theorem dX1_nearTo_34 : decode cX1_nearTo 34 = .ok (.if_icmp .ge 109, 3) := by decide +kernel
theorem dX1_nearTo_37 : decode cX1_nearTo 37 = .ok (.iload_n 2, 1) := by decide +kernel
theorem dX1_nearTo_38 : decode cX1_nearTo 38 = .ok (.ifCond .lt 105, 3) := by decide +kernel
theorem dX1_nearTo_41 : decode cX1_nearTo 41 = .ok (.lload 6, 2) := by decide +kernel
theorem dX1_nearTo_43 : decode cX1_nearTo 43 = .ok (.lload 4, 2) := by decide +kernel
theorem dX1_nearTo_45 : decode cX1_nearTo 45 = .ok (.lcmp, 1) := by decide +kernel
theorem dX1_nearTo_46 : decode cX1_nearTo 46 = .ok (.ifCond .lt 97, 3) := by decide +kernel
theorem dX1_nearTo_49 : decode cX1_nearTo 49 = .ok (.lload 8, 2) := by decide +kernel
theorem dX1_nearTo_51 : decode cX1_nearTo 51 = .ok (.aload_n 1, 1) := by decide +kernel
theorem dX1_nearTo_52 : decode cX1_nearTo 52 = .ok (.getfield 9, 3) := by decide +kernel
theorem dX1_nearTo_55 : decode cX1_nearTo 55 = .ok (.iload 11, 2) := by decide +kernel
theorem dX1_nearTo_57 : decode cX1_nearTo 57 = .ok (.iaload, 1) := by decide +kernel
theorem dX1_nearTo_58 : decode cX1_nearTo 58 = .ok (.i2l, 1) := by decide +kernel
theorem dX1_nearTo_59 : decode cX1_nearTo 59 = .ok (.ladd, 1) := by decide +kernel
theorem dX1_nearTo_60 : decode cX1_nearTo 60 = .ok (.aload_n 0, 1) := by decide +kernel
theorem dX1_nearTo_61 : decode cX1_nearTo 61 = .ok (.getfield 9, 3) := by decide +kernel
theorem dX1_nearTo_64 : decode cX1_nearTo 64 = .ok (.iload 11, 2) := by decide +kernel
theorem dX1_nearTo_66 : decode cX1_nearTo 66 = .ok (.iload_n 2, 1) := by decide +kernel
theorem dX1_nearTo_67 : decode cX1_nearTo 67 = .ok (.iadd, 1) := by decide +kernel
theorem dX1_nearTo_68 : decode cX1_nearTo 68 = .ok (.iaload, 1) := by decide +kernel
theorem dX1_nearTo_69 : decode cX1_nearTo 69 = .ok (.i2l, 1) := by decide +kernel
theorem dX1_nearTo_70 : decode cX1_nearTo 70 = .ok (.lsub, 1) := by decide +kernel
theorem dX1_nearTo_71 : decode cX1_nearTo 71 = .ok (.lstore 12, 2) := by decide +kernel
theorem dX1_nearTo_73 : decode cX1_nearTo 73 = .ok (.aload_n 1, 1) := by decide +kernel
theorem dX1_nearTo_74 : decode cX1_nearTo 74 = .ok (.getfield 15, 3) := by decide +kernel
theorem dX1_nearTo_77 : decode cX1_nearTo 77 = .ok (.iload 11, 2) := by decide +kernel
theorem dX1_nearTo_79 : decode cX1_nearTo 79 = .ok (.iaload, 1) := by decide +kernel
theorem dX1_nearTo_80 : decode cX1_nearTo 80 = .ok (.aload_n 0, 1) := by decide +kernel
theorem dX1_nearTo_81 : decode cX1_nearTo 81 = .ok (.getfield 15, 3) := by decide +kernel
theorem dX1_nearTo_84 : decode cX1_nearTo 84 = .ok (.iload 11, 2) := by decide +kernel
theorem dX1_nearTo_86 : decode cX1_nearTo 86 = .ok (.iload_n 2, 1) := by decide +kernel
theorem dX1_nearTo_87 : decode cX1_nearTo 87 = .ok (.iadd, 1) := by decide +kernel
theorem dX1_nearTo_88 : decode cX1_nearTo 88 = .ok (.iaload, 1) := by decide +kernel
theorem dX1_nearTo_89 : decode cX1_nearTo 89 = .ok (.isub, 1) := by decide +kernel
theorem dX1_nearTo_90 : decode cX1_nearTo 90 = .ok (.i2l, 1) := by decide +kernel
theorem dX1_nearTo_91 : decode cX1_nearTo 91 = .ok (.lstore 14, 2) := by decide +kernel
theorem dX1_nearTo_93 : decode cX1_nearTo 93 = .ok (.aload_n 1, 1) := by decide +kernel
theorem dX1_nearTo_94 : decode cX1_nearTo 94 = .ok (.getfield 18, 3) := by decide +kernel
theorem dX1_nearTo_97 : decode cX1_nearTo 97 = .ok (.iload 11, 2) := by decide +kernel
theorem dX1_nearTo_99 : decode cX1_nearTo 99 = .ok (.iaload, 1) := by decide +kernel
theorem dX1_nearTo_100 : decode cX1_nearTo 100 = .ok (.aload_n 0, 1) := by decide +kernel
theorem dX1_nearTo_101 : decode cX1_nearTo 101 = .ok (.getfield 18, 3) := by decide +kernel
theorem dX1_nearTo_104 : decode cX1_nearTo 104 = .ok (.iload 11, 2) := by decide +kernel
theorem dX1_nearTo_106 : decode cX1_nearTo 106 = .ok (.iload_n 2, 1) := by decide +kernel
theorem dX1_nearTo_107 : decode cX1_nearTo 107 = .ok (.iadd, 1) := by decide +kernel
theorem dX1_nearTo_108 : decode cX1_nearTo 108 = .ok (.iaload, 1) := by decide +kernel
theorem dX1_nearTo_109 : decode cX1_nearTo 109 = .ok (.isub, 1) := by decide +kernel
theorem dX1_nearTo_110 : decode cX1_nearTo 110 = .ok (.i2l, 1) := by decide +kernel
theorem dX1_nearTo_111 : decode cX1_nearTo 111 = .ok (.lstore 16, 2) := by decide +kernel
theorem dX1_nearTo_113 : decode cX1_nearTo 113 = .ok (.lload 6, 2) := by decide +kernel
theorem dX1_nearTo_115 : decode cX1_nearTo 115 = .ok (.lload 12, 2) := by decide +kernel
theorem dX1_nearTo_117 : decode cX1_nearTo 117 = .ok (.lload 12, 2) := by decide +kernel
theorem dX1_nearTo_119 : decode cX1_nearTo 119 = .ok (.lmul, 1) := by decide +kernel
theorem dX1_nearTo_120 : decode cX1_nearTo 120 = .ok (.lload 14, 2) := by decide +kernel
theorem dX1_nearTo_122 : decode cX1_nearTo 122 = .ok (.lload 14, 2) := by decide +kernel
theorem dX1_nearTo_124 : decode cX1_nearTo 124 = .ok (.lmul, 1) := by decide +kernel
theorem dX1_nearTo_125 : decode cX1_nearTo 125 = .ok (.ladd, 1) := by decide +kernel
theorem dX1_nearTo_126 : decode cX1_nearTo 126 = .ok (.lload 16, 2) := by decide +kernel
theorem dX1_nearTo_128 : decode cX1_nearTo 128 = .ok (.lload 16, 2) := by decide +kernel
theorem dX1_nearTo_130 : decode cX1_nearTo 130 = .ok (.lmul, 1) := by decide +kernel
theorem dX1_nearTo_131 : decode cX1_nearTo 131 = .ok (.ladd, 1) := by decide +kernel
theorem dX1_nearTo_132 : decode cX1_nearTo 132 = .ok (.invokestatic 82, 3) := by decide +kernel
theorem dX1_nearTo_135 : decode cX1_nearTo 135 = .ok (.lstore 6, 2) := by decide +kernel
theorem dX1_nearTo_137 : decode cX1_nearTo 137 = .ok (.iinc 11 1, 3) := by decide +kernel
theorem dX1_nearTo_140 : decode cX1_nearTo 140 = .ok (.goto (-110), 3) := by decide +kernel
theorem dX1_nearTo_143 : decode cX1_nearTo 143 = .ok (.lload 6, 2) := by decide +kernel
theorem dX1_nearTo_145 : decode cX1_nearTo 145 = .ok (.lreturn, 1) := by decide +kernel
theorem dX2_init_0 : decode cX2_init 0 = .ok (.aload_n 0, 1) := by decide +kernel
theorem dX2_init_1 : decode cX2_init 1 = .ok (.invokespecial 3, 3) := by decide +kernel
theorem dX2_init_4 : decode cX2_init 4 = .ok (.aload_n 0, 1) := by decide +kernel
theorem dX2_init_5 : decode cX2_init 5 = .ok (.iconst 4, 1) := by decide +kernel
theorem dX2_init_6 : decode cX2_init 6 = .ok (.anewarray 9, 3) := by decide +kernel
theorem dX2_init_9 : decode cX2_init 9 = .ok (.putfield 11, 3) := by decide +kernel
theorem dX2_init_12 : decode cX2_init 12 = .ok (.aload_n 0, 1) := by decide +kernel
theorem dX2_init_13 : decode cX2_init 13 = .ok (.iconst 0, 1) := by decide +kernel
theorem dX2_init_14 : decode cX2_init 14 = .ok (.putfield 17, 3) := by decide +kernel
theorem dX2_init_17 : decode cX2_init 17 = .ok (.aload_n 0, 1) := by decide +kernel
theorem dX2_init_18 : decode cX2_init 18 = .ok (.iconst 0, 1) := by decide +kernel
theorem dX2_init_19 : decode cX2_init 19 = .ok (.putfield 21, 3) := by decide +kernel
theorem dX2_init_22 : decode cX2_init 22 = .ok (.aload_n 0, 1) := by decide +kernel
theorem dX2_init_23 : decode cX2_init 23 = .ok (.iconst 0, 1) := by decide +kernel
theorem dX2_init_24 : decode cX2_init 24 = .ok (.putfield 24, 3) := by decide +kernel
theorem dX2_init_27 : decode cX2_init 27 = .ok (.aload_n 0, 1) := by decide +kernel
theorem dX2_init_28 : decode cX2_init 28 = .ok (.iconst 0, 1) := by decide +kernel
theorem dX2_init_29 : decode cX2_init 29 = .ok (.putfield 27, 3) := by decide +kernel
theorem dX2_init_32 : decode cX2_init 32 = .ok (.aload_n 0, 1) := by decide +kernel
theorem dX2_init_33 : decode cX2_init 33 = .ok (.iconst 0, 1) := by decide +kernel
theorem dX2_init_34 : decode cX2_init 34 = .ok (.putfield 30, 3) := by decide +kernel
theorem dX2_init_37 : decode cX2_init 37 = .ok (.aload_n 0, 1) := by decide +kernel
theorem dX2_init_38 : decode cX2_init 38 = .ok (.iload_n 1, 1) := by decide +kernel
theorem dX2_init_39 : decode cX2_init 39 = .ok (.putfield 33, 3) := by decide +kernel
theorem dX2_init_42 : decode cX2_init 42 = .ok (.return_, 1) := by decide +kernel
theorem dX2_become_0 : decode cX2_become 0 = .ok (.aload_n 0, 1) := by decide +kernel
theorem dX2_become_1 : decode cX2_become 1 = .ok (.iload_n 1, 1) := by decide +kernel
theorem dX2_become_2 : decode cX2_become 2 = .ok (.putfield 21, 3) := by decide +kernel
theorem dX2_become_5 : decode cX2_become 5 = .ok (.aload_n 0, 1) := by decide +kernel
theorem dX2_become_6 : decode cX2_become 6 = .ok (.iload_n 2, 1) := by decide +kernel
theorem dX2_become_7 : decode cX2_become 7 = .ok (.putfield 24, 3) := by decide +kernel
theorem dX2_become_10 : decode cX2_become 10 = .ok (.aload_n 0, 1) := by decide +kernel
theorem dX2_become_11 : decode cX2_become 11 = .ok (.iload_n 3, 1) := by decide +kernel
theorem dX2_become_12 : decode cX2_become 12 = .ok (.putfield 27, 3) := by decide +kernel
theorem dX2_become_15 : decode cX2_become 15 = .ok (.aload_n 0, 1) := by decide +kernel
theorem dX2_become_16 : decode cX2_become 16 = .ok (.iload 4, 2) := by decide +kernel
theorem dX2_become_18 : decode cX2_become 18 = .ok (.putfield 30, 3) := by decide +kernel
theorem dX2_become_21 : decode cX2_become 21 = .ok (.return_, 1) := by decide +kernel
theorem dX2_holds_0 : decode cX2_holds 0 = .ok (.iconst 0, 1) := by decide +kernel
theorem dX2_holds_1 : decode cX2_holds 1 = .ok (.istore_n 2, 1) := by decide +kernel
theorem dX2_holds_2 : decode cX2_holds 2 = .ok (.iload_n 2, 1) := by decide +kernel
theorem dX2_holds_3 : decode cX2_holds 3 = .ok (.aload_n 0, 1) := by decide +kernel
theorem dX2_holds_4 : decode cX2_holds 4 = .ok (.getfield 17, 3) := by decide +kernel
theorem dX2_holds_7 : decode cX2_holds 7 = .ok (.if_icmp .ge 21, 3) := by decide +kernel
theorem dX2_holds_10 : decode cX2_holds 10 = .ok (.aload_n 0, 1) := by decide +kernel
theorem dX2_holds_11 : decode cX2_holds 11 = .ok (.getfield 11, 3) := by decide +kernel
theorem dX2_holds_14 : decode cX2_holds 14 = .ok (.iload_n 2, 1) := by decide +kernel
theorem dX2_holds_15 : decode cX2_holds 15 = .ok (.aaload, 1) := by decide +kernel
theorem dX2_holds_16 : decode cX2_holds 16 = .ok (.aload_n 1, 1) := by decide +kernel
theorem dX2_holds_17 : decode cX2_holds 17 = .ok (.if_acmp .ne 5, 3) := by decide +kernel
theorem dX2_holds_20 : decode cX2_holds 20 = .ok (.iconst 1, 1) := by decide +kernel
theorem dX2_holds_21 : decode cX2_holds 21 = .ok (.ireturn, 1) := by decide +kernel
theorem dX2_holds_22 : decode cX2_holds 22 = .ok (.iinc 2 1, 3) := by decide +kernel
theorem dX2_holds_25 : decode cX2_holds 25 = .ok (.goto (-23), 3) := by decide +kernel
theorem dX2_holds_28 : decode cX2_holds 28 = .ok (.iconst 0, 1) := by decide +kernel
theorem dX2_holds_29 : decode cX2_holds 29 = .ok (.ireturn, 1) := by decide +kernel
theorem dX2_add_0 : decode cX2_add 0 = .ok (.aload_n 0, 1) := by decide +kernel
theorem dX2_add_1 : decode cX2_add 1 = .ok (.getfield 17, 3) := by decide +kernel
theorem dX2_add_4 : decode cX2_add 4 = .ok (.aload_n 0, 1) := by decide +kernel
theorem dX2_add_5 : decode cX2_add 5 = .ok (.getfield 11, 3) := by decide +kernel
theorem dX2_add_8 : decode cX2_add 8 = .ok (.arraylength, 1) := by decide +kernel
theorem dX2_add_9 : decode cX2_add 9 = .ok (.if_icmp .ge 23, 3) := by decide +kernel
theorem dX2_add_12 : decode cX2_add 12 = .ok (.aload_n 0, 1) := by decide +kernel
theorem dX2_add_13 : decode cX2_add 13 = .ok (.getfield 11, 3) := by decide +kernel
theorem dX2_add_16 : decode cX2_add 16 = .ok (.aload_n 0, 1) := by decide +kernel
theorem dX2_add_17 : decode cX2_add 17 = .ok (.getfield 17, 3) := by decide +kernel
theorem dX2_add_20 : decode cX2_add 20 = .ok (.aload_n 1, 1) := by decide +kernel
theorem dX2_add_21 : decode cX2_add 21 = .ok (.aastore, 1) := by decide +kernel
theorem dX2_add_22 : decode cX2_add 22 = .ok (.aload_n 0, 1) := by decide +kernel
theorem dX2_add_23 : decode cX2_add 23 = .ok (.dup, 1) := by decide +kernel
theorem dX2_add_24 : decode cX2_add 24 = .ok (.getfield 17, 3) := by decide +kernel
theorem dX2_add_27 : decode cX2_add 27 = .ok (.iconst 1, 1) := by decide +kernel
theorem dX2_add_28 : decode cX2_add 28 = .ok (.iadd, 1) := by decide +kernel
theorem dX2_add_29 : decode cX2_add 29 = .ok (.putfield 17, 3) := by decide +kernel
theorem dX2_add_32 : decode cX2_add 32 = .ok (.return_, 1) := by decide +kernel
theorem dX2_tell_0 : decode cX2_tell 0 = .ok (.iload_n 1, 1) := by decide +kernel
theorem dX2_tell_1 : decode cX2_tell 1 = .ok (.tableswitch 69 0 5 #[39, 44, 49, 54, 59, 64], 39) := by decide +kernel
theorem dX2_tell_40 : decode cX2_tell 40 = .ok (.aload_n 0, 1) := by decide +kernel
theorem dX2_tell_41 : decode cX2_tell 41 = .ok (.getfield 21, 3) := by decide +kernel
theorem dX2_tell_44 : decode cX2_tell 44 = .ok (.ireturn, 1) := by decide +kernel
theorem dX2_tell_45 : decode cX2_tell 45 = .ok (.aload_n 0, 1) := by decide +kernel
theorem dX2_tell_46 : decode cX2_tell 46 = .ok (.getfield 24, 3) := by decide +kernel
theorem dX2_tell_49 : decode cX2_tell 49 = .ok (.ireturn, 1) := by decide +kernel
theorem dX2_tell_50 : decode cX2_tell 50 = .ok (.aload_n 0, 1) := by decide +kernel
theorem dX2_tell_51 : decode cX2_tell 51 = .ok (.getfield 27, 3) := by decide +kernel
theorem dX2_tell_54 : decode cX2_tell 54 = .ok (.ireturn, 1) := by decide +kernel
theorem dX2_tell_55 : decode cX2_tell 55 = .ok (.aload_n 0, 1) := by decide +kernel
theorem dX2_tell_56 : decode cX2_tell 56 = .ok (.getfield 30, 3) := by decide +kernel
theorem dX2_tell_59 : decode cX2_tell 59 = .ok (.ireturn, 1) := by decide +kernel
theorem dX2_tell_60 : decode cX2_tell 60 = .ok (.aload_n 0, 1) := by decide +kernel
theorem dX2_tell_61 : decode cX2_tell 61 = .ok (.getfield 17, 3) := by decide +kernel
theorem dX2_tell_64 : decode cX2_tell 64 = .ok (.ireturn, 1) := by decide +kernel
theorem dX2_tell_65 : decode cX2_tell 65 = .ok (.aload_n 0, 1) := by decide +kernel
theorem dX2_tell_66 : decode cX2_tell 66 = .ok (.invokevirtual 36, 3) := by decide +kernel
theorem dX2_tell_69 : decode cX2_tell 69 = .ok (.ireturn, 1) := by decide +kernel
theorem dX2_tell_70 : decode cX2_tell 70 = .ok (.iload_n 1, 1) := by decide +kernel
theorem dX2_tell_71 : decode cX2_tell 71 = .ok (.bipush 10, 2) := by decide +kernel
theorem dX2_tell_73 : decode cX2_tell 73 = .ok (.if_icmp .lt 29, 3) := by decide +kernel
theorem dX2_tell_76 : decode cX2_tell 76 = .ok (.iload_n 1, 1) := by decide +kernel
theorem dX2_tell_77 : decode cX2_tell 77 = .ok (.bipush 10, 2) := by decide +kernel
theorem dX2_tell_79 : decode cX2_tell 79 = .ok (.aload_n 0, 1) := by decide +kernel
theorem dX2_tell_80 : decode cX2_tell 80 = .ok (.getfield 17, 3) := by decide +kernel
theorem dX2_tell_83 : decode cX2_tell 83 = .ok (.iadd, 1) := by decide +kernel
theorem dX2_tell_84 : decode cX2_tell 84 = .ok (.if_icmp .ge 18, 3) := by decide +kernel
theorem dX2_tell_87 : decode cX2_tell 87 = .ok (.aload_n 0, 1) := by decide +kernel
theorem dX2_tell_88 : decode cX2_tell 88 = .ok (.getfield 11, 3) := by decide +kernel
theorem dX2_tell_91 : decode cX2_tell 91 = .ok (.iload_n 1, 1) := by decide +kernel
theorem dX2_tell_92 : decode cX2_tell 92 = .ok (.bipush 10, 2) := by decide +kernel
theorem dX2_tell_94 : decode cX2_tell 94 = .ok (.isub, 1) := by decide +kernel
theorem dX2_tell_95 : decode cX2_tell 95 = .ok (.aaload, 1) := by decide +kernel
theorem dX2_tell_96 : decode cX2_tell 96 = .ok (.getfield 40, 3) := by decide +kernel
theorem dX2_tell_99 : decode cX2_tell 99 = .ok (.goto 4, 3) := by decide +kernel
theorem dX2_tell_102 : decode cX2_tell 102 = .ok (.iconst (-1), 1) := by decide +kernel
theorem dX2_tell_103 : decode cX2_tell 103 = .ok (.ireturn, 1) := by decide +kernel
theorem dX2_weight_0 : decode cX2_weight 0 = .ok (.iconst 0, 1) := by decide +kernel
theorem dX2_weight_1 : decode cX2_weight 1 = .ok (.istore_n 1, 1) := by decide +kernel
theorem dX2_weight_2 : decode cX2_weight 2 = .ok (.iconst 0, 1) := by decide +kernel
theorem dX2_weight_3 : decode cX2_weight 3 = .ok (.istore_n 2, 1) := by decide +kernel
theorem dX2_weight_4 : decode cX2_weight 4 = .ok (.iload_n 2, 1) := by decide +kernel
theorem dX2_weight_5 : decode cX2_weight 5 = .ok (.aload_n 0, 1) := by decide +kernel
theorem dX2_weight_6 : decode cX2_weight 6 = .ok (.getfield 17, 3) := by decide +kernel
theorem dX2_weight_9 : decode cX2_weight 9 = .ok (.if_icmp .ge 21, 3) := by decide +kernel
theorem dX2_weight_12 : decode cX2_weight 12 = .ok (.iload_n 1, 1) := by decide +kernel
theorem dX2_weight_13 : decode cX2_weight 13 = .ok (.aload_n 0, 1) := by decide +kernel
theorem dX2_weight_14 : decode cX2_weight 14 = .ok (.getfield 11, 3) := by decide +kernel
theorem dX2_weight_17 : decode cX2_weight 17 = .ok (.iload_n 2, 1) := by decide +kernel
theorem dX2_weight_18 : decode cX2_weight 18 = .ok (.aaload, 1) := by decide +kernel
theorem dX2_weight_19 : decode cX2_weight 19 = .ok (.getfield 41, 3) := by decide +kernel
theorem dX2_weight_22 : decode cX2_weight 22 = .ok (.iadd, 1) := by decide +kernel
theorem dX2_weight_23 : decode cX2_weight 23 = .ok (.istore_n 1, 1) := by decide +kernel
theorem dX2_weight_24 : decode cX2_weight 24 = .ok (.iinc 2 1, 3) := by decide +kernel
theorem dX2_weight_27 : decode cX2_weight 27 = .ok (.goto (-23), 3) := by decide +kernel
theorem dX2_weight_30 : decode cX2_weight 30 = .ok (.iload_n 1, 1) := by decide +kernel
theorem dX2_weight_31 : decode cX2_weight 31 = .ok (.ireturn, 1) := by decide +kernel
theorem dX2_countOf_0 : decode cX2_countOf 0 = .ok (.iconst 0, 1) := by decide +kernel
theorem dX2_countOf_1 : decode cX2_countOf 1 = .ok (.istore_n 2, 1) := by decide +kernel
theorem dX2_countOf_2 : decode cX2_countOf 2 = .ok (.iconst 0, 1) := by decide +kernel
theorem dX2_countOf_3 : decode cX2_countOf 3 = .ok (.istore_n 3, 1) := by decide +kernel
theorem dX2_countOf_4 : decode cX2_countOf 4 = .ok (.iload_n 3, 1) := by decide +kernel
theorem dX2_countOf_5 : decode cX2_countOf 5 = .ok (.aload_n 0, 1) := by decide +kernel
theorem dX2_countOf_6 : decode cX2_countOf 6 = .ok (.getfield 17, 3) := by decide +kernel
theorem dX2_countOf_9 : decode cX2_countOf 9 = .ok (.if_icmp .ge 25, 3) := by decide +kernel
theorem dX2_countOf_12 : decode cX2_countOf 12 = .ok (.aload_n 0, 1) := by decide +kernel
theorem dX2_countOf_13 : decode cX2_countOf 13 = .ok (.getfield 11, 3) := by decide +kernel
theorem dX2_countOf_16 : decode cX2_countOf 16 = .ok (.iload_n 3, 1) := by decide +kernel
theorem dX2_countOf_17 : decode cX2_countOf 17 = .ok (.aaload, 1) := by decide +kernel
theorem dX2_countOf_18 : decode cX2_countOf 18 = .ok (.getfield 43, 3) := by decide +kernel
theorem dX2_countOf_21 : decode cX2_countOf 21 = .ok (.iload_n 1, 1) := by decide +kernel
theorem dX2_countOf_22 : decode cX2_countOf 22 = .ok (.if_icmp .ne 6, 3) := by decide +kernel
theorem dX2_countOf_25 : decode cX2_countOf 25 = .ok (.iinc 2 1, 3) := by decide +kernel
theorem dX2_countOf_28 : decode cX2_countOf 28 = .ok (.iinc 3 1, 3) := by decide +kernel
theorem dX2_countOf_31 : decode cX2_countOf 31 = .ok (.goto (-27), 3) := by decide +kernel
theorem dX2_countOf_34 : decode cX2_countOf 34 = .ok (.iload_n 2, 1) := by decide +kernel
theorem dX2_countOf_35 : decode cX2_countOf 35 = .ok (.ireturn, 1) := by decide +kernel
theorem dX2_lacksHelp_0 : decode cX2_lacksHelp 0 = .ok (.aload_n 0, 1) := by decide +kernel
theorem dX2_lacksHelp_1 : decode cX2_lacksHelp 1 = .ok (.iconst 1, 1) := by decide +kernel
theorem dX2_lacksHelp_2 : decode cX2_lacksHelp 2 = .ok (.invokevirtual 46, 3) := by decide +kernel
theorem dX2_lacksHelp_5 : decode cX2_lacksHelp 5 = .ok (.istore_n 1, 1) := by decide +kernel
theorem dX2_lacksHelp_6 : decode cX2_lacksHelp 6 = .ok (.iload_n 1, 1) := by decide +kernel
theorem dX2_lacksHelp_7 : decode cX2_lacksHelp 7 = .ok (.aload_n 0, 1) := by decide +kernel
theorem dX2_lacksHelp_8 : decode cX2_lacksHelp 8 = .ok (.iconst 2, 1) := by decide +kernel
theorem dX2_lacksHelp_9 : decode cX2_lacksHelp 9 = .ok (.invokevirtual 46, 3) := by decide +kernel
theorem dX2_lacksHelp_12 : decode cX2_lacksHelp 12 = .ok (.if_icmp .gt 15, 3) := by decide +kernel
theorem dX2_lacksHelp_15 : decode cX2_lacksHelp 15 = .ok (.iload_n 1, 1) := by decide +kernel
theorem dX2_lacksHelp_16 : decode cX2_lacksHelp 16 = .ok (.ifCond .le 15, 3) := by decide +kernel
theorem dX2_lacksHelp_19 : decode cX2_lacksHelp 19 = .ok (.aload_n 0, 1) := by decide +kernel
theorem dX2_lacksHelp_20 : decode cX2_lacksHelp 20 = .ok (.getfield 21, 3) := by decide +kernel
theorem dX2_lacksHelp_23 : decode cX2_lacksHelp 23 = .ok (.iconst 3, 1) := by decide +kernel
theorem dX2_lacksHelp_24 : decode cX2_lacksHelp 24 = .ok (.if_icmp .eq 7, 3) := by decide +kernel
theorem dX2_lacksHelp_27 : decode cX2_lacksHelp 27 = .ok (.iconst 1, 1) := by decide +kernel
theorem dX2_lacksHelp_28 : decode cX2_lacksHelp 28 = .ok (.goto 4, 3) := by decide +kernel
theorem dX2_lacksHelp_31 : decode cX2_lacksHelp 31 = .ok (.iconst 0, 1) := by decide +kernel
theorem dX2_lacksHelp_32 : decode cX2_lacksHelp 32 = .ok (.ireturn, 1) := by decide +kernel
theorem dX2_isWornOn_0 : decode cX2_isWornOn 0 = .ok (.iconst 0, 1) := by decide +kernel
theorem dX2_isWornOn_1 : decode cX2_isWornOn 1 = .ok (.istore_n 2, 1) := by decide +kernel
theorem dX2_isWornOn_2 : decode cX2_isWornOn 2 = .ok (.iload_n 2, 1) := by decide +kernel
theorem dX2_isWornOn_3 : decode cX2_isWornOn 3 = .ok (.aload_n 0, 1) := by decide +kernel
theorem dX2_isWornOn_4 : decode cX2_isWornOn 4 = .ok (.getfield 17, 3) := by decide +kernel
theorem dX2_isWornOn_7 : decode cX2_isWornOn 7 = .ok (.if_icmp .ge 24, 3) := by decide +kernel
theorem dX2_isWornOn_10 : decode cX2_isWornOn 10 = .ok (.aload_n 0, 1) := by decide +kernel
theorem dX2_isWornOn_11 : decode cX2_isWornOn 11 = .ok (.getfield 11, 3) := by decide +kernel
theorem dX2_isWornOn_14 : decode cX2_isWornOn 14 = .ok (.iload_n 2, 1) := by decide +kernel
theorem dX2_isWornOn_15 : decode cX2_isWornOn 15 = .ok (.aaload, 1) := by decide +kernel
theorem dX2_isWornOn_16 : decode cX2_isWornOn 16 = .ok (.getfield 50, 3) := by decide +kernel
theorem dX2_isWornOn_19 : decode cX2_isWornOn 19 = .ok (.iload_n 1, 1) := by decide +kernel
theorem dX2_isWornOn_20 : decode cX2_isWornOn 20 = .ok (.if_icmp .ge 5, 3) := by decide +kernel
theorem dX2_isWornOn_23 : decode cX2_isWornOn 23 = .ok (.iconst 1, 1) := by decide +kernel
theorem dX2_isWornOn_24 : decode cX2_isWornOn 24 = .ok (.ireturn, 1) := by decide +kernel
theorem dX2_isWornOn_25 : decode cX2_isWornOn 25 = .ok (.iinc 2 1, 3) := by decide +kernel
theorem dX2_isWornOn_28 : decode cX2_isWornOn 28 = .ok (.goto (-26), 3) := by decide +kernel
theorem dX2_isWornOn_31 : decode cX2_isWornOn 31 = .ok (.iconst 0, 1) := by decide +kernel
theorem dX2_isWornOn_32 : decode cX2_isWornOn 32 = .ok (.ireturn, 1) := by decide +kernel
theorem dX2_sharesOneWith_0 : decode cX2_sharesOneWith 0 = .ok (.iconst 0, 1) := by decide +kernel
theorem dX2_sharesOneWith_1 : decode cX2_sharesOneWith 1 = .ok (.istore_n 2, 1) := by decide +kernel
theorem dX2_sharesOneWith_2 : decode cX2_sharesOneWith 2 = .ok (.iload_n 2, 1) := by decide +kernel
theorem dX2_sharesOneWith_3 : decode cX2_sharesOneWith 3 = .ok (.aload_n 0, 1) := by decide +kernel
theorem dX2_sharesOneWith_4 : decode cX2_sharesOneWith 4 = .ok (.getfield 17, 3) := by decide +kernel
theorem dX2_sharesOneWith_7 : decode cX2_sharesOneWith 7 = .ok (.if_icmp .ge 24, 3) := by decide +kernel
theorem dX2_sharesOneWith_10 : decode cX2_sharesOneWith 10 = .ok (.aload_n 1, 1) := by decide +kernel
theorem dX2_sharesOneWith_11 : decode cX2_sharesOneWith 11 = .ok (.aload_n 0, 1) := by decide +kernel
theorem dX2_sharesOneWith_12 : decode cX2_sharesOneWith 12 = .ok (.getfield 11, 3) := by decide +kernel
theorem dX2_sharesOneWith_15 : decode cX2_sharesOneWith 15 = .ok (.iload_n 2, 1) := by decide +kernel
theorem dX2_sharesOneWith_16 : decode cX2_sharesOneWith 16 = .ok (.aaload, 1) := by decide +kernel
theorem dX2_sharesOneWith_17 : decode cX2_sharesOneWith 17 = .ok (.invokevirtual 53, 3) := by decide +kernel
theorem dX2_sharesOneWith_20 : decode cX2_sharesOneWith 20 = .ok (.ifCond .eq 5, 3) := by decide +kernel
theorem dX2_sharesOneWith_23 : decode cX2_sharesOneWith 23 = .ok (.iconst 1, 1) := by decide +kernel
theorem dX2_sharesOneWith_24 : decode cX2_sharesOneWith 24 = .ok (.ireturn, 1) := by decide +kernel
theorem dX2_sharesOneWith_25 : decode cX2_sharesOneWith 25 = .ok (.iinc 2 1, 3) := by decide +kernel
theorem dX2_sharesOneWith_28 : decode cX2_sharesOneWith 28 = .ok (.goto (-26), 3) := by decide +kernel
theorem dX2_sharesOneWith_31 : decode cX2_sharesOneWith 31 = .ok (.iconst 0, 1) := by decide +kernel
theorem dX2_sharesOneWith_32 : decode cX2_sharesOneWith 32 = .ok (.ireturn, 1) := by decide +kernel
theorem dX2_dropIn_0 : decode cX2_dropIn 0 = .ok (.bipush 10, 2) := by decide +kernel
theorem dX2_dropIn_2 : decode cX2_dropIn 2 = .ok (.iload_n 1, 1) := by decide +kernel
theorem dX2_dropIn_3 : decode cX2_dropIn 3 = .ok (.iconst 1, 1) := by decide +kernel
theorem dX2_dropIn_4 : decode cX2_dropIn 4 = .ok (.iadd, 1) := by decide +kernel
theorem dX2_dropIn_5 : decode cX2_dropIn 5 = .ok (.imul, 1) := by decide +kernel
theorem dX2_dropIn_6 : decode cX2_dropIn 6 = .ok (.istore_n 2, 1) := by decide +kernel
theorem dX2_dropIn_7 : decode cX2_dropIn 7 = .ok (.bipush 10, 2) := by decide +kernel
theorem dX2_dropIn_9 : decode cX2_dropIn 9 = .ok (.iload_n 2, 1) := by decide +kernel
theorem dX2_dropIn_10 : decode cX2_dropIn 10 = .ok (.getstatic 57, 3) := by decide +kernel
theorem dX2_dropIn_13 : decode cX2_dropIn 13 = .ok (.aload_n 0, 1) := by decide +kernel
theorem dX2_dropIn_14 : decode cX2_dropIn 14 = .ok (.getfield 21, 3) := by decide +kernel
theorem dX2_dropIn_17 : decode cX2_dropIn 17 = .ok (.iaload, 1) := by decide +kernel
theorem dX2_dropIn_18 : decode cX2_dropIn 18 = .ok (.if_icmp .ge 7, 3) := by decide +kernel
theorem dX2_dropIn_21 : decode cX2_dropIn 21 = .ok (.iload_n 2, 1) := by decide +kernel
theorem dX2_dropIn_22 : decode cX2_dropIn 22 = .ok (.goto 11, 3) := by decide +kernel
theorem dX2_dropIn_25 : decode cX2_dropIn 25 = .ok (.getstatic 57, 3) := by decide +kernel
theorem dX2_dropIn_28 : decode cX2_dropIn 28 = .ok (.aload_n 0, 1) := by decide +kernel
theorem dX2_dropIn_29 : decode cX2_dropIn 29 = .ok (.getfield 21, 3) := by decide +kernel
theorem dX2_dropIn_32 : decode cX2_dropIn 32 = .ok (.iaload, 1) := by decide +kernel
theorem dX2_dropIn_33 : decode cX2_dropIn 33 = .ok (.imul, 1) := by decide +kernel
theorem dX2_dropIn_34 : decode cX2_dropIn 34 = .ok (.ireturn, 1) := by decide +kernel
theorem dX2_opensBehind_0 : decode cX2_opensBehind 0 = .ok (.iload_n 2, 1) := by decide +kernel
theorem dX2_opensBehind_1 : decode cX2_opensBehind 1 = .ok (.aload_n 0, 1) := by decide +kernel
theorem dX2_opensBehind_2 : decode cX2_opensBehind 2 = .ok (.getfield 24, 3) := by decide +kernel
theorem dX2_opensBehind_5 : decode cX2_opensBehind 5 = .ok (.if_icmp .le 16, 3) := by decide +kernel
theorem dX2_opensBehind_8 : decode cX2_opensBehind 8 = .ok (.aload_n 0, 1) := by decide +kernel
theorem dX2_opensBehind_9 : decode cX2_opensBehind 9 = .ok (.getfield 21, 3) := by decide +kernel
theorem dX2_opensBehind_12 : decode cX2_opensBehind 12 = .ok (.iconst 3, 1) := by decide +kernel
theorem dX2_opensBehind_13 : decode cX2_opensBehind 13 = .ok (.if_icmp .ne 12, 3) := by decide +kernel
theorem dX2_opensBehind_16 : decode cX2_opensBehind 16 = .ok (.iload_n 1, 1) := by decide +kernel
theorem dX2_opensBehind_17 : decode cX2_opensBehind 17 = .ok (.iconst 2, 1) := by decide +kernel
theorem dX2_opensBehind_18 : decode cX2_opensBehind 18 = .ok (.if_icmp .lt 7, 3) := by decide +kernel
theorem dX2_opensBehind_21 : decode cX2_opensBehind 21 = .ok (.iconst 1, 1) := by decide +kernel
theorem dX2_opensBehind_22 : decode cX2_opensBehind 22 = .ok (.goto 4, 3) := by decide +kernel
theorem dX2_opensBehind_25 : decode cX2_opensBehind 25 = .ok (.iconst 0, 1) := by decide +kernel
theorem dX2_opensBehind_26 : decode cX2_opensBehind 26 = .ok (.ireturn, 1) := by decide +kernel
theorem dX3_init_0 : decode cX3_init 0 = .ok (.aload_n 0, 1) := by decide +kernel
theorem dX3_init_1 : decode cX3_init 1 = .ok (.invokespecial 3, 3) := by decide +kernel
theorem dX3_init_4 : decode cX3_init 4 = .ok (.aload_n 0, 1) := by decide +kernel
theorem dX3_init_5 : decode cX3_init 5 = .ok (.iconst 0, 1) := by decide +kernel
theorem dX3_init_6 : decode cX3_init 6 = .ok (.putfield 9, 3) := by decide +kernel
theorem dX3_init_9 : decode cX3_init 9 = .ok (.aload_n 0, 1) := by decide +kernel
theorem dX3_init_10 : decode cX3_init 10 = .ok (.bipush 80, 2) := by decide +kernel
theorem dX3_init_12 : decode cX3_init 12 = .ok (.putfield 15, 3) := by decide +kernel
theorem dX3_init_15 : decode cX3_init 15 = .ok (.aload_n 0, 1) := by decide +kernel
theorem dX3_init_16 : decode cX3_init 16 = .ok (.sipush 1000, 3) := by decide +kernel
theorem dX3_init_19 : decode cX3_init 19 = .ok (.putfield 18, 3) := by decide +kernel
theorem dX3_init_22 : decode cX3_init 22 = .ok (.aload_n 0, 1) := by decide +kernel
theorem dX3_init_23 : decode cX3_init 23 = .ok (.iload_n 1, 1) := by decide +kernel
theorem dX3_init_24 : decode cX3_init 24 = .ok (.putfield 21, 3) := by decide +kernel
theorem dX3_init_27 : decode cX3_init 27 = .ok (.return_, 1) := by decide +kernel
theorem dX3_become_0 : decode cX3_become 0 = .ok (.aload_n 0, 1) := by decide +kernel
theorem dX3_become_1 : decode cX3_become 1 = .ok (.iload_n 1, 1) := by decide +kernel
theorem dX3_become_2 : decode cX3_become 2 = .ok (.putfield 9, 3) := by decide +kernel
theorem dX3_become_5 : decode cX3_become 5 = .ok (.aload_n 0, 1) := by decide +kernel
theorem dX3_become_6 : decode cX3_become 6 = .ok (.iload_n 2, 1) := by decide +kernel
theorem dX3_become_7 : decode cX3_become 7 = .ok (.putfield 15, 3) := by decide +kernel
theorem dX3_become_10 : decode cX3_become 10 = .ok (.aload_n 0, 1) := by decide +kernel
theorem dX3_become_11 : decode cX3_become 11 = .ok (.iload_n 3, 1) := by decide +kernel
theorem dX3_become_12 : decode cX3_become 12 = .ok (.putfield 18, 3) := by decide +kernel
theorem dX3_become_15 : decode cX3_become 15 = .ok (.return_, 1) := by decide +kernel
theorem dX4_init_0 : decode cX4_init 0 = .ok (.aload_n 0, 1) := by decide +kernel
theorem dX4_init_1 : decode cX4_init 1 = .ok (.invokespecial 3, 3) := by decide +kernel
theorem dX4_init_4 : decode cX4_init 4 = .ok (.aload_n 0, 1) := by decide +kernel
theorem dX4_init_5 : decode cX4_init 5 = .ok (.sipush 400, 3) := by decide +kernel
theorem dX4_init_8 : decode cX4_init 8 = .ok (.newarray .int, 2) := by decide +kernel
theorem dX4_init_10 : decode cX4_init 10 = .ok (.putfield 9, 3) := by decide +kernel
theorem dX4_init_13 : decode cX4_init 13 = .ok (.aload_n 0, 1) := by decide +kernel
theorem dX4_init_14 : decode cX4_init 14 = .ok (.bipush 6, 2) := by decide +kernel
theorem dX4_init_16 : decode cX4_init 16 = .ok (.newarray .int, 2) := by decide +kernel
theorem dX4_init_18 : decode cX4_init 18 = .ok (.putfield 15, 3) := by decide +kernel
theorem dX4_init_21 : decode cX4_init 21 = .ok (.aload_n 0, 1) := by decide +kernel
theorem dX4_init_22 : decode cX4_init 22 = .ok (.bipush 6, 2) := by decide +kernel
theorem dX4_init_24 : decode cX4_init 24 = .ok (.newarray .int, 2) := by decide +kernel
theorem dX4_init_26 : decode cX4_init 26 = .ok (.putfield 18, 3) := by decide +kernel
theorem dX4_init_29 : decode cX4_init 29 = .ok (.aload_n 0, 1) := by decide +kernel
theorem dX4_init_30 : decode cX4_init 30 = .ok (.iconst 0, 1) := by decide +kernel
theorem dX4_init_31 : decode cX4_init 31 = .ok (.putfield 21, 3) := by decide +kernel
theorem dX4_init_34 : decode cX4_init 34 = .ok (.aload_n 0, 1) := by decide +kernel
theorem dX4_init_35 : decode cX4_init 35 = .ok (.iconst 0, 1) := by decide +kernel
theorem dX4_init_36 : decode cX4_init 36 = .ok (.putfield 25, 3) := by decide +kernel
theorem dX4_init_39 : decode cX4_init 39 = .ok (.return_, 1) := by decide +kernel
theorem dX4_measure_0 : decode cX4_measure 0 = .ok (.aload_n 0, 1) := by decide +kernel
theorem dX4_measure_1 : decode cX4_measure 1 = .ok (.getfield 9, 3) := by decide +kernel
theorem dX4_measure_4 : decode cX4_measure 4 = .ok (.aload_n 1, 1) := by decide +kernel
theorem dX4_measure_5 : decode cX4_measure 5 = .ok (.getfield 28, 3) := by decide +kernel
theorem dX4_measure_8 : decode cX4_measure 8 = .ok (.bipush 20, 2) := by decide +kernel
theorem dX4_measure_10 : decode cX4_measure 10 = .ok (.imul, 1) := by decide +kernel
theorem dX4_measure_11 : decode cX4_measure 11 = .ok (.aload_n 2, 1) := by decide +kernel
theorem dX4_measure_12 : decode cX4_measure 12 = .ok (.getfield 28, 3) := by decide +kernel
theorem dX4_measure_15 : decode cX4_measure 15 = .ok (.iadd, 1) := by decide +kernel
theorem dX4_measure_16 : decode cX4_measure 16 = .ok (.iload_n 3, 1) := by decide +kernel
theorem dX4_measure_17 : decode cX4_measure 17 = .ok (.iastore, 1) := by decide +kernel
theorem dX4_measure_18 : decode cX4_measure 18 = .ok (.return_, 1) := by decide +kernel
theorem dX4_pauseBetween_0 : decode cX4_pauseBetween 0 = .ok (.aload_n 0, 1) := by decide +kernel
theorem dX4_pauseBetween_1 : decode cX4_pauseBetween 1 = .ok (.getfield 9, 3) := by decide +kernel
theorem dX4_pauseBetween_4 : decode cX4_pauseBetween 4 = .ok (.iload_n 1, 1) := by decide +kernel
theorem dX4_pauseBetween_5 : decode cX4_pauseBetween 5 = .ok (.bipush 20, 2) := by decide +kernel
theorem dX4_pauseBetween_7 : decode cX4_pauseBetween 7 = .ok (.imul, 1) := by decide +kernel
theorem dX4_pauseBetween_8 : decode cX4_pauseBetween 8 = .ok (.iload_n 2, 1) := by decide +kernel
theorem dX4_pauseBetween_9 : decode cX4_pauseBetween 9 = .ok (.iadd, 1) := by decide +kernel
theorem dX4_pauseBetween_10 : decode cX4_pauseBetween 10 = .ok (.iaload, 1) := by decide +kernel
theorem dX4_pauseBetween_11 : decode cX4_pauseBetween 11 = .ok (.ireturn, 1) := by decide +kernel
theorem dX4_begin_0 : decode cX4_begin 0 = .ok (.aload_n 0, 1) := by decide +kernel
theorem dX4_begin_1 : decode cX4_begin 1 = .ok (.aload_n 1, 1) := by decide +kernel
theorem dX4_begin_2 : decode cX4_begin 2 = .ok (.getfield 33, 3) := by decide +kernel
theorem dX4_begin_5 : decode cX4_begin 5 = .ok (.putfield 21, 3) := by decide +kernel
theorem dX4_begin_8 : decode cX4_begin 8 = .ok (.iconst 0, 1) := by decide +kernel
theorem dX4_begin_9 : decode cX4_begin 9 = .ok (.istore_n 2, 1) := by decide +kernel
theorem dX4_begin_10 : decode cX4_begin 10 = .ok (.iload_n 2, 1) := by decide +kernel
theorem dX4_begin_11 : decode cX4_begin 11 = .ok (.aload_n 0, 1) := by decide +kernel
theorem dX4_begin_12 : decode cX4_begin 12 = .ok (.getfield 21, 3) := by decide +kernel
theorem dX4_begin_15 : decode cX4_begin 15 = .ok (.if_icmp .ge 70, 3) := by decide +kernel
theorem dX4_begin_18 : decode cX4_begin 18 = .ok (.aload_n 1, 1) := by decide +kernel
theorem dX4_begin_19 : decode cX4_begin 19 = .ok (.getfield 36, 3) := by decide +kernel
theorem dX4_begin_22 : decode cX4_begin 22 = .ok (.iload_n 2, 1) := by decide +kernel
theorem dX4_begin_23 : decode cX4_begin 23 = .ok (.aaload, 1) := by decide +kernel
theorem dX4_begin_24 : decode cX4_begin 24 = .ok (.getfield 28, 3) := by decide +kernel
theorem dX4_begin_27 : decode cX4_begin 27 = .ok (.istore_n 3, 1) := by decide +kernel
theorem dX4_begin_28 : decode cX4_begin 28 = .ok (.iload_n 2, 1) := by decide +kernel
theorem dX4_begin_29 : decode cX4_begin 29 = .ok (.istore 4, 2) := by decide +kernel
theorem dX4_begin_31 : decode cX4_begin 31 = .ok (.iload 4, 2) := by decide +kernel
theorem dX4_begin_33 : decode cX4_begin 33 = .ok (.ifCond .le 38, 3) := by decide +kernel
theorem dX4_begin_36 : decode cX4_begin 36 = .ok (.aload_n 0, 1) := by decide +kernel
theorem dX4_begin_37 : decode cX4_begin 37 = .ok (.getfield 15, 3) := by decide +kernel
theorem dX4_begin_40 : decode cX4_begin 40 = .ok (.iload 4, 2) := by decide +kernel
theorem dX4_begin_42 : decode cX4_begin 42 = .ok (.iconst 1, 1) := by decide +kernel
theorem dX4_begin_43 : decode cX4_begin 43 = .ok (.isub, 1) := by decide +kernel
theorem dX4_begin_44 : decode cX4_begin 44 = .ok (.iaload, 1) := by decide +kernel
theorem dX4_begin_45 : decode cX4_begin 45 = .ok (.iload_n 3, 1) := by decide +kernel
theorem dX4_begin_46 : decode cX4_begin 46 = .ok (.if_icmp .le 25, 3) := by decide +kernel
theorem dX4_begin_49 : decode cX4_begin 49 = .ok (.aload_n 0, 1) := by decide +kernel
theorem dX4_begin_50 : decode cX4_begin 50 = .ok (.getfield 15, 3) := by decide +kernel
theorem dX4_begin_53 : decode cX4_begin 53 = .ok (.iload 4, 2) := by decide +kernel
theorem dX4_begin_55 : decode cX4_begin 55 = .ok (.aload_n 0, 1) := by decide +kernel
theorem dX4_begin_56 : decode cX4_begin 56 = .ok (.getfield 15, 3) := by decide +kernel
theorem dX4_begin_59 : decode cX4_begin 59 = .ok (.iload 4, 2) := by decide +kernel
theorem dX4_begin_61 : decode cX4_begin 61 = .ok (.iconst 1, 1) := by decide +kernel
theorem dX4_begin_62 : decode cX4_begin 62 = .ok (.isub, 1) := by decide +kernel
theorem dX4_begin_63 : decode cX4_begin 63 = .ok (.iaload, 1) := by decide +kernel
theorem dX4_begin_64 : decode cX4_begin 64 = .ok (.iastore, 1) := by decide +kernel
theorem dX4_begin_65 : decode cX4_begin 65 = .ok (.iinc 4 (-1), 3) := by decide +kernel
theorem dX4_begin_68 : decode cX4_begin 68 = .ok (.goto (-37), 3) := by decide +kernel
theorem dX4_begin_71 : decode cX4_begin 71 = .ok (.aload_n 0, 1) := by decide +kernel
theorem dX4_begin_72 : decode cX4_begin 72 = .ok (.getfield 15, 3) := by decide +kernel
theorem dX4_begin_75 : decode cX4_begin 75 = .ok (.iload 4, 2) := by decide +kernel
theorem dX4_begin_77 : decode cX4_begin 77 = .ok (.iload_n 3, 1) := by decide +kernel
theorem dX4_begin_78 : decode cX4_begin 78 = .ok (.iastore, 1) := by decide +kernel
theorem dX4_begin_79 : decode cX4_begin 79 = .ok (.iinc 2 1, 3) := by decide +kernel
theorem dX4_begin_82 : decode cX4_begin 82 = .ok (.goto (-72), 3) := by decide +kernel
theorem dX4_begin_85 : decode cX4_begin 85 = .ok (.return_, 1) := by decide +kernel
theorem dX4_findShortest_0 : decode cX4_findShortest 0 = .ok (.iconst 0, 1) := by decide +kernel
theorem dX4_findShortest_1 : decode cX4_findShortest 1 = .ok (.istore_n 1, 1) := by decide +kernel
theorem dX4_findShortest_2 : decode cX4_findShortest 2 = .ok (.iconst 0, 1) := by decide +kernel
theorem dX4_findShortest_3 : decode cX4_findShortest 3 = .ok (.istore_n 2, 1) := by decide +kernel
theorem dX4_findShortest_4 : decode cX4_findShortest 4 = .ok (.iload_n 2, 1) := by decide +kernel
theorem dX4_findShortest_5 : decode cX4_findShortest 5 = .ok (.sipush 720, 3) := by decide +kernel
theorem dX4_findShortest_8 : decode cX4_findShortest 8 = .ok (.if_icmp .ge 63, 3) := by decide +kernel
theorem dX4_findShortest_11 : decode cX4_findShortest 11 = .ok (.aload_n 0, 1) := by decide +kernel
theorem dX4_findShortest_12 : decode cX4_findShortest 12 = .ok (.invokevirtual 40, 3) := by decide +kernel
theorem dX4_findShortest_15 : decode cX4_findShortest 15 = .ok (.istore_n 3, 1) := by decide +kernel
theorem dX4_findShortest_16 : decode cX4_findShortest 16 = .ok (.iload_n 3, 1) := by decide +kernel
theorem dX4_findShortest_17 : decode cX4_findShortest 17 = .ok (.ifCond .lt 39, 3) := by decide +kernel
theorem dX4_findShortest_20 : decode cX4_findShortest 20 = .ok (.iload_n 1, 1) := by decide +kernel
theorem dX4_findShortest_21 : decode cX4_findShortest 21 = .ok (.ifCond .eq 11, 3) := by decide +kernel
theorem dX4_findShortest_24 : decode cX4_findShortest 24 = .ok (.iload_n 3, 1) := by decide +kernel
theorem dX4_findShortest_25 : decode cX4_findShortest 25 = .ok (.aload_n 0, 1) := by decide +kernel
theorem dX4_findShortest_26 : decode cX4_findShortest 26 = .ok (.getfield 25, 3) := by decide +kernel
theorem dX4_findShortest_29 : decode cX4_findShortest 29 = .ok (.if_icmp .ge 27, 3) := by decide +kernel
theorem dX4_findShortest_32 : decode cX4_findShortest 32 = .ok (.iconst 1, 1) := by decide +kernel
theorem dX4_findShortest_33 : decode cX4_findShortest 33 = .ok (.istore_n 1, 1) := by decide +kernel
theorem dX4_findShortest_34 : decode cX4_findShortest 34 = .ok (.aload_n 0, 1) := by decide +kernel
theorem dX4_findShortest_35 : decode cX4_findShortest 35 = .ok (.iload_n 3, 1) := by decide +kernel
theorem dX4_findShortest_36 : decode cX4_findShortest 36 = .ok (.putfield 25, 3) := by decide +kernel
theorem dX4_findShortest_39 : decode cX4_findShortest 39 = .ok (.aload_n 0, 1) := by decide +kernel
theorem dX4_findShortest_40 : decode cX4_findShortest 40 = .ok (.getfield 15, 3) := by decide +kernel
theorem dX4_findShortest_43 : decode cX4_findShortest 43 = .ok (.iconst 0, 1) := by decide +kernel
theorem dX4_findShortest_44 : decode cX4_findShortest 44 = .ok (.aload_n 0, 1) := by decide +kernel
theorem dX4_findShortest_45 : decode cX4_findShortest 45 = .ok (.getfield 18, 3) := by decide +kernel
theorem dX4_findShortest_48 : decode cX4_findShortest 48 = .ok (.iconst 0, 1) := by decide +kernel
theorem dX4_findShortest_49 : decode cX4_findShortest 49 = .ok (.aload_n 0, 1) := by decide +kernel
theorem dX4_findShortest_50 : decode cX4_findShortest 50 = .ok (.getfield 21, 3) := by decide +kernel
theorem dX4_findShortest_53 : decode cX4_findShortest 53 = .ok (.invokestatic 44, 3) := by decide +kernel
theorem dX4_findShortest_56 : decode cX4_findShortest 56 = .ok (.aload_n 0, 1) := by decide +kernel
theorem dX4_findShortest_57 : decode cX4_findShortest 57 = .ok (.invokevirtual 50, 3) := by decide +kernel
theorem dX4_findShortest_60 : decode cX4_findShortest 60 = .ok (.ifCond .ne 5, 3) := by decide +kernel
theorem dX4_findShortest_63 : decode cX4_findShortest 63 = .ok (.iload_n 1, 1) := by decide +kernel
theorem dX4_findShortest_64 : decode cX4_findShortest 64 = .ok (.ireturn, 1) := by decide +kernel
theorem dX4_findShortest_65 : decode cX4_findShortest 65 = .ok (.iinc 2 1, 3) := by decide +kernel
theorem dX4_findShortest_68 : decode cX4_findShortest 68 = .ok (.goto (-64), 3) := by decide +kernel
theorem dX4_findShortest_71 : decode cX4_findShortest 71 = .ok (.iload_n 1, 1) := by decide +kernel
theorem dX4_findShortest_72 : decode cX4_findShortest 72 = .ok (.ireturn, 1) := by decide +kernel
theorem dX4_sumOfRow_0 : decode cX4_sumOfRow 0 = .ok (.iconst 0, 1) := by decide +kernel
theorem dX4_sumOfRow_1 : decode cX4_sumOfRow 1 = .ok (.istore_n 1, 1) := by decide +kernel
theorem dX4_sumOfRow_2 : decode cX4_sumOfRow 2 = .ok (.iconst 1, 1) := by decide +kernel
theorem dX4_sumOfRow_3 : decode cX4_sumOfRow 3 = .ok (.istore_n 2, 1) := by decide +kernel
theorem dX4_sumOfRow_4 : decode cX4_sumOfRow 4 = .ok (.iload_n 2, 1) := by decide +kernel
theorem dX4_sumOfRow_5 : decode cX4_sumOfRow 5 = .ok (.aload_n 0, 1) := by decide +kernel
theorem dX4_sumOfRow_6 : decode cX4_sumOfRow 6 = .ok (.getfield 21, 3) := by decide +kernel
theorem dX4_sumOfRow_9 : decode cX4_sumOfRow 9 = .ok (.if_icmp .ge 38, 3) := by decide +kernel
theorem dX4_sumOfRow_12 : decode cX4_sumOfRow 12 = .ok (.aload_n 0, 1) := by decide +kernel
theorem dX4_sumOfRow_13 : decode cX4_sumOfRow 13 = .ok (.aload_n 0, 1) := by decide +kernel
theorem dX4_sumOfRow_14 : decode cX4_sumOfRow 14 = .ok (.getfield 15, 3) := by decide +kernel
theorem dX4_sumOfRow_17 : decode cX4_sumOfRow 17 = .ok (.iload_n 2, 1) := by decide +kernel
theorem dX4_sumOfRow_18 : decode cX4_sumOfRow 18 = .ok (.iconst 1, 1) := by decide +kernel
theorem dX4_sumOfRow_19 : decode cX4_sumOfRow 19 = .ok (.isub, 1) := by decide +kernel
theorem dX4_sumOfRow_20 : decode cX4_sumOfRow 20 = .ok (.iaload, 1) := by decide +kernel
theorem dX4_sumOfRow_21 : decode cX4_sumOfRow 21 = .ok (.aload_n 0, 1) := by decide +kernel
theorem dX4_sumOfRow_22 : decode cX4_sumOfRow 22 = .ok (.getfield 15, 3) := by decide +kernel
theorem dX4_sumOfRow_25 : decode cX4_sumOfRow 25 = .ok (.iload_n 2, 1) := by decide +kernel
theorem dX4_sumOfRow_26 : decode cX4_sumOfRow 26 = .ok (.iaload, 1) := by decide +kernel
theorem dX4_sumOfRow_27 : decode cX4_sumOfRow 27 = .ok (.invokevirtual 54, 3) := by decide +kernel
theorem dX4_sumOfRow_30 : decode cX4_sumOfRow 30 = .ok (.istore_n 3, 1) := by decide +kernel
theorem dX4_sumOfRow_31 : decode cX4_sumOfRow 31 = .ok (.iload_n 3, 1) := by decide +kernel
theorem dX4_sumOfRow_32 : decode cX4_sumOfRow 32 = .ok (.ifCond .ne 5, 3) := by decide +kernel
theorem dX4_sumOfRow_35 : decode cX4_sumOfRow 35 = .ok (.iconst (-1), 1) := by decide +kernel
theorem dX4_sumOfRow_36 : decode cX4_sumOfRow 36 = .ok (.ireturn, 1) := by decide +kernel
theorem dX4_sumOfRow_37 : decode cX4_sumOfRow 37 = .ok (.iload_n 1, 1) := by decide +kernel
theorem dX4_sumOfRow_38 : decode cX4_sumOfRow 38 = .ok (.iload_n 3, 1) := by decide +kernel
theorem dX4_sumOfRow_39 : decode cX4_sumOfRow 39 = .ok (.iadd, 1) := by decide +kernel
theorem dX4_sumOfRow_40 : decode cX4_sumOfRow 40 = .ok (.istore_n 1, 1) := by decide +kernel
theorem dX4_sumOfRow_41 : decode cX4_sumOfRow 41 = .ok (.iinc 2 1, 3) := by decide +kernel
theorem dX4_sumOfRow_44 : decode cX4_sumOfRow 44 = .ok (.goto (-40), 3) := by decide +kernel
theorem dX4_sumOfRow_47 : decode cX4_sumOfRow 47 = .ok (.iload_n 1, 1) := by decide +kernel
theorem dX4_sumOfRow_48 : decode cX4_sumOfRow 48 = .ok (.ireturn, 1) := by decide +kernel
theorem dX4_stepRow_0 : decode cX4_stepRow 0 = .ok (.aload_n 0, 1) := by decide +kernel
theorem dX4_stepRow_1 : decode cX4_stepRow 1 = .ok (.getfield 21, 3) := by decide +kernel
theorem dX4_stepRow_4 : decode cX4_stepRow 4 = .ok (.iconst 2, 1) := by decide +kernel
theorem dX4_stepRow_5 : decode cX4_stepRow 5 = .ok (.isub, 1) := by decide +kernel
theorem dX4_stepRow_6 : decode cX4_stepRow 6 = .ok (.istore_n 1, 1) := by decide +kernel
theorem dX4_stepRow_7 : decode cX4_stepRow 7 = .ok (.iload_n 1, 1) := by decide +kernel
theorem dX4_stepRow_8 : decode cX4_stepRow 8 = .ok (.ifCond .lt 26, 3) := by decide +kernel
theorem dX4_stepRow_11 : decode cX4_stepRow 11 = .ok (.aload_n 0, 1) := by decide +kernel
theorem dX4_stepRow_12 : decode cX4_stepRow 12 = .ok (.getfield 15, 3) := by decide +kernel
theorem dX4_stepRow_15 : decode cX4_stepRow 15 = .ok (.iload_n 1, 1) := by decide +kernel
theorem dX4_stepRow_16 : decode cX4_stepRow 16 = .ok (.iaload, 1) := by decide +kernel
theorem dX4_stepRow_17 : decode cX4_stepRow 17 = .ok (.aload_n 0, 1) := by decide +kernel
theorem dX4_stepRow_18 : decode cX4_stepRow 18 = .ok (.getfield 15, 3) := by decide +kernel
theorem dX4_stepRow_21 : decode cX4_stepRow 21 = .ok (.iload_n 1, 1) := by decide +kernel
theorem dX4_stepRow_22 : decode cX4_stepRow 22 = .ok (.iconst 1, 1) := by decide +kernel
theorem dX4_stepRow_23 : decode cX4_stepRow 23 = .ok (.iadd, 1) := by decide +kernel
theorem dX4_stepRow_24 : decode cX4_stepRow 24 = .ok (.iaload, 1) := by decide +kernel
theorem dX4_stepRow_25 : decode cX4_stepRow 25 = .ok (.if_icmp .le 9, 3) := by decide +kernel
theorem dX4_stepRow_28 : decode cX4_stepRow 28 = .ok (.iinc 1 (-1), 3) := by decide +kernel
theorem dX4_stepRow_31 : decode cX4_stepRow 31 = .ok (.goto (-24), 3) := by decide +kernel
theorem dX4_stepRow_34 : decode cX4_stepRow 34 = .ok (.iload_n 1, 1) := by decide +kernel
theorem dX4_stepRow_35 : decode cX4_stepRow 35 = .ok (.ifCond .ge 5, 3) := by decide +kernel
theorem dX4_stepRow_38 : decode cX4_stepRow 38 = .ok (.iconst 0, 1) := by decide +kernel
theorem dX4_stepRow_39 : decode cX4_stepRow 39 = .ok (.ireturn, 1) := by decide +kernel
theorem dX4_stepRow_40 : decode cX4_stepRow 40 = .ok (.aload_n 0, 1) := by decide +kernel
theorem dX4_stepRow_41 : decode cX4_stepRow 41 = .ok (.getfield 21, 3) := by decide +kernel
theorem dX4_stepRow_44 : decode cX4_stepRow 44 = .ok (.iconst 1, 1) := by decide +kernel
theorem dX4_stepRow_45 : decode cX4_stepRow 45 = .ok (.isub, 1) := by decide +kernel
theorem dX4_stepRow_46 : decode cX4_stepRow 46 = .ok (.istore_n 2, 1) := by decide +kernel
theorem dX4_stepRow_47 : decode cX4_stepRow 47 = .ok (.iload_n 2, 1) := by decide +kernel
theorem dX4_stepRow_48 : decode cX4_stepRow 48 = .ok (.iload_n 1, 1) := by decide +kernel
theorem dX4_stepRow_49 : decode cX4_stepRow 49 = .ok (.iconst 1, 1) := by decide +kernel
theorem dX4_stepRow_50 : decode cX4_stepRow 50 = .ok (.iadd, 1) := by decide +kernel
theorem dX4_stepRow_51 : decode cX4_stepRow 51 = .ok (.if_icmp .le 24, 3) := by decide +kernel
theorem dX4_stepRow_54 : decode cX4_stepRow 54 = .ok (.aload_n 0, 1) := by decide +kernel
theorem dX4_stepRow_55 : decode cX4_stepRow 55 = .ok (.getfield 15, 3) := by decide +kernel
theorem dX4_stepRow_58 : decode cX4_stepRow 58 = .ok (.iload_n 2, 1) := by decide +kernel
theorem dX4_stepRow_59 : decode cX4_stepRow 59 = .ok (.iaload, 1) := by decide +kernel
theorem dX4_stepRow_60 : decode cX4_stepRow 60 = .ok (.aload_n 0, 1) := by decide +kernel
theorem dX4_stepRow_61 : decode cX4_stepRow 61 = .ok (.getfield 15, 3) := by decide +kernel
theorem dX4_stepRow_64 : decode cX4_stepRow 64 = .ok (.iload_n 1, 1) := by decide +kernel
theorem dX4_stepRow_65 : decode cX4_stepRow 65 = .ok (.iaload, 1) := by decide +kernel
theorem dX4_stepRow_66 : decode cX4_stepRow 66 = .ok (.if_icmp .ge 9, 3) := by decide +kernel
theorem dX4_stepRow_69 : decode cX4_stepRow 69 = .ok (.iinc 2 (-1), 3) := by decide +kernel
theorem dX4_stepRow_72 : decode cX4_stepRow 72 = .ok (.goto (-25), 3) := by decide +kernel
theorem dX4_stepRow_75 : decode cX4_stepRow 75 = .ok (.aload_n 0, 1) := by decide +kernel
theorem dX4_stepRow_76 : decode cX4_stepRow 76 = .ok (.iload_n 1, 1) := by decide +kernel
theorem dX4_stepRow_77 : decode cX4_stepRow 77 = .ok (.iload_n 2, 1) := by decide +kernel
theorem dX4_stepRow_78 : decode cX4_stepRow 78 = .ok (.invokevirtual 58, 3) := by decide +kernel
theorem dX4_stepRow_81 : decode cX4_stepRow 81 = .ok (.iload_n 1, 1) := by decide +kernel
theorem dX4_stepRow_82 : decode cX4_stepRow 82 = .ok (.iconst 1, 1) := by decide +kernel
theorem dX4_stepRow_83 : decode cX4_stepRow 83 = .ok (.iadd, 1) := by decide +kernel
theorem dX4_stepRow_84 : decode cX4_stepRow 84 = .ok (.istore_n 3, 1) := by decide +kernel
theorem dX4_stepRow_85 : decode cX4_stepRow 85 = .ok (.aload_n 0, 1) := by decide +kernel
theorem dX4_stepRow_86 : decode cX4_stepRow 86 = .ok (.getfield 21, 3) := by decide +kernel
theorem dX4_stepRow_89 : decode cX4_stepRow 89 = .ok (.iconst 1, 1) := by decide +kernel
theorem dX4_stepRow_90 : decode cX4_stepRow 90 = .ok (.isub, 1) := by decide +kernel
theorem dX4_stepRow_91 : decode cX4_stepRow 91 = .ok (.istore 4, 2) := by decide +kernel
theorem dX4_stepRow_93 : decode cX4_stepRow 93 = .ok (.iload_n 3, 1) := by decide +kernel
theorem dX4_stepRow_94 : decode cX4_stepRow 94 = .ok (.iload 4, 2) := by decide +kernel
theorem dX4_stepRow_96 : decode cX4_stepRow 96 = .ok (.if_icmp .ge 19, 3) := by decide +kernel
theorem dX4_stepRow_99 : decode cX4_stepRow 99 = .ok (.aload_n 0, 1) := by decide +kernel
theorem dX4_stepRow_100 : decode cX4_stepRow 100 = .ok (.iload_n 3, 1) := by decide +kernel
theorem dX4_stepRow_101 : decode cX4_stepRow 101 = .ok (.iload 4, 2) := by decide +kernel
theorem dX4_stepRow_103 : decode cX4_stepRow 103 = .ok (.invokevirtual 58, 3) := by decide +kernel
theorem dX4_stepRow_106 : decode cX4_stepRow 106 = .ok (.iinc 3 1, 3) := by decide +kernel
theorem dX4_stepRow_109 : decode cX4_stepRow 109 = .ok (.iinc 4 (-1), 3) := by decide +kernel
theorem dX4_stepRow_112 : decode cX4_stepRow 112 = .ok (.goto (-19), 3) := by decide +kernel
theorem dX4_stepRow_115 : decode cX4_stepRow 115 = .ok (.iconst 1, 1) := by decide +kernel
theorem dX4_stepRow_116 : decode cX4_stepRow 116 = .ok (.ireturn, 1) := by decide +kernel
theorem dX4_swap_0 : decode cX4_swap 0 = .ok (.aload_n 0, 1) := by decide +kernel
theorem dX4_swap_1 : decode cX4_swap 1 = .ok (.getfield 15, 3) := by decide +kernel
theorem dX4_swap_4 : decode cX4_swap 4 = .ok (.iload_n 1, 1) := by decide +kernel
theorem dX4_swap_5 : decode cX4_swap 5 = .ok (.iaload, 1) := by decide +kernel
theorem dX4_swap_6 : decode cX4_swap 6 = .ok (.istore_n 3, 1) := by decide +kernel
theorem dX4_swap_7 : decode cX4_swap 7 = .ok (.aload_n 0, 1) := by decide +kernel
theorem dX4_swap_8 : decode cX4_swap 8 = .ok (.getfield 15, 3) := by decide +kernel
theorem dX4_swap_11 : decode cX4_swap 11 = .ok (.iload_n 1, 1) := by decide +kernel
theorem dX4_swap_12 : decode cX4_swap 12 = .ok (.aload_n 0, 1) := by decide +kernel
theorem dX4_swap_13 : decode cX4_swap 13 = .ok (.getfield 15, 3) := by decide +kernel
theorem dX4_swap_16 : decode cX4_swap 16 = .ok (.iload_n 2, 1) := by decide +kernel
theorem dX4_swap_17 : decode cX4_swap 17 = .ok (.iaload, 1) := by decide +kernel
theorem dX4_swap_18 : decode cX4_swap 18 = .ok (.iastore, 1) := by decide +kernel
theorem dX4_swap_19 : decode cX4_swap 19 = .ok (.aload_n 0, 1) := by decide +kernel
theorem dX4_swap_20 : decode cX4_swap 20 = .ok (.getfield 15, 3) := by decide +kernel
theorem dX4_swap_23 : decode cX4_swap 23 = .ok (.iload_n 2, 1) := by decide +kernel
theorem dX4_swap_24 : decode cX4_swap 24 = .ok (.iload_n 3, 1) := by decide +kernel
theorem dX4_swap_25 : decode cX4_swap 25 = .ok (.iastore, 1) := by decide +kernel
theorem dX4_swap_26 : decode cX4_swap 26 = .ok (.return_, 1) := by decide +kernel
theorem dX4_giveTo_0 : decode cX4_giveTo 0 = .ok (.iconst 0, 1) := by decide +kernel
theorem dX4_giveTo_1 : decode cX4_giveTo 1 = .ok (.istore_n 3, 1) := by decide +kernel
theorem dX4_giveTo_2 : decode cX4_giveTo 2 = .ok (.iload_n 3, 1) := by decide +kernel
theorem dX4_giveTo_3 : decode cX4_giveTo 3 = .ok (.aload_n 0, 1) := by decide +kernel
theorem dX4_giveTo_4 : decode cX4_giveTo 4 = .ok (.getfield 21, 3) := by decide +kernel
theorem dX4_giveTo_7 : decode cX4_giveTo 7 = .ok (.if_icmp .ge 64, 3) := by decide +kernel
theorem dX4_giveTo_10 : decode cX4_giveTo 10 = .ok (.iload_n 3, 1) := by decide +kernel
theorem dX4_giveTo_11 : decode cX4_giveTo 11 = .ok (.aload_n 1, 1) := by decide +kernel
theorem dX4_giveTo_12 : decode cX4_giveTo 12 = .ok (.getfield 36, 3) := by decide +kernel
theorem dX4_giveTo_15 : decode cX4_giveTo 15 = .ok (.arraylength, 1) := by decide +kernel
theorem dX4_giveTo_16 : decode cX4_giveTo 16 = .ok (.if_icmp .ge 55, 3) := by decide +kernel
theorem dX4_giveTo_19 : decode cX4_giveTo 19 = .ok (.aload_n 1, 1) := by decide +kernel
theorem dX4_giveTo_20 : decode cX4_giveTo 20 = .ok (.getfield 36, 3) := by decide +kernel
theorem dX4_giveTo_23 : decode cX4_giveTo 23 = .ok (.iload_n 3, 1) := by decide +kernel
theorem dX4_giveTo_24 : decode cX4_giveTo 24 = .ok (.aload_n 2, 1) := by decide +kernel
theorem dX4_giveTo_25 : decode cX4_giveTo 25 = .ok (.aload_n 0, 1) := by decide +kernel
theorem dX4_giveTo_26 : decode cX4_giveTo 26 = .ok (.getfield 18, 3) := by decide +kernel
theorem dX4_giveTo_29 : decode cX4_giveTo 29 = .ok (.iload_n 3, 1) := by decide +kernel
theorem dX4_giveTo_30 : decode cX4_giveTo 30 = .ok (.iaload, 1) := by decide +kernel
theorem dX4_giveTo_31 : decode cX4_giveTo 31 = .ok (.aaload, 1) := by decide +kernel
theorem dX4_giveTo_32 : decode cX4_giveTo 32 = .ok (.aastore, 1) := by decide +kernel
theorem dX4_giveTo_33 : decode cX4_giveTo 33 = .ok (.aload_n 1, 1) := by decide +kernel
theorem dX4_giveTo_34 : decode cX4_giveTo 34 = .ok (.getfield 62, 3) := by decide +kernel
theorem dX4_giveTo_37 : decode cX4_giveTo 37 = .ok (.iload_n 3, 1) := by decide +kernel
theorem dX4_giveTo_38 : decode cX4_giveTo 38 = .ok (.iload_n 3, 1) := by decide +kernel
theorem dX4_giveTo_39 : decode cX4_giveTo 39 = .ok (.ifCond .ne 7, 3) := by decide +kernel
theorem dX4_giveTo_42 : decode cX4_giveTo 42 = .ok (.iconst 1, 1) := by decide +kernel
theorem dX4_giveTo_43 : decode cX4_giveTo 43 = .ok (.goto 21, 3) := by decide +kernel
theorem dX4_giveTo_46 : decode cX4_giveTo 46 = .ok (.aload_n 0, 1) := by decide +kernel
theorem dX4_giveTo_47 : decode cX4_giveTo 47 = .ok (.aload_n 0, 1) := by decide +kernel
theorem dX4_giveTo_48 : decode cX4_giveTo 48 = .ok (.getfield 18, 3) := by decide +kernel
theorem dX4_giveTo_51 : decode cX4_giveTo 51 = .ok (.iload_n 3, 1) := by decide +kernel
theorem dX4_giveTo_52 : decode cX4_giveTo 52 = .ok (.iconst 1, 1) := by decide +kernel
theorem dX4_giveTo_53 : decode cX4_giveTo 53 = .ok (.isub, 1) := by decide +kernel
theorem dX4_giveTo_54 : decode cX4_giveTo 54 = .ok (.iaload, 1) := by decide +kernel
theorem dX4_giveTo_55 : decode cX4_giveTo 55 = .ok (.aload_n 0, 1) := by decide +kernel
theorem dX4_giveTo_56 : decode cX4_giveTo 56 = .ok (.getfield 18, 3) := by decide +kernel
theorem dX4_giveTo_59 : decode cX4_giveTo 59 = .ok (.iload_n 3, 1) := by decide +kernel
theorem dX4_giveTo_60 : decode cX4_giveTo 60 = .ok (.iaload, 1) := by decide +kernel
theorem dX4_giveTo_61 : decode cX4_giveTo 61 = .ok (.invokevirtual 54, 3) := by decide +kernel
theorem dX4_giveTo_64 : decode cX4_giveTo 64 = .ok (.iastore, 1) := by decide +kernel
theorem dX4_giveTo_65 : decode cX4_giveTo 65 = .ok (.iinc 3 1, 3) := by decide +kernel
theorem dX4_giveTo_68 : decode cX4_giveTo 68 = .ok (.goto (-66), 3) := by decide +kernel
theorem dX4_giveTo_71 : decode cX4_giveTo 71 = .ok (.return_, 1) := by decide +kernel
theorem dX5_init_0 : decode cX5_init 0 = .ok (.aload_n 0, 1) := by decide +kernel
theorem dX5_init_1 : decode cX5_init 1 = .ok (.invokespecial 3, 3) := by decide +kernel
theorem dX5_init_4 : decode cX5_init 4 = .ok (.aload_n 0, 1) := by decide +kernel
theorem dX5_init_5 : decode cX5_init 5 = .ok (.bipush 6, 2) := by decide +kernel
theorem dX5_init_7 : decode cX5_init 7 = .ok (.anewarray 9, 3) := by decide +kernel
theorem dX5_init_10 : decode cX5_init 10 = .ok (.putfield 11, 3) := by decide +kernel
theorem dX5_init_13 : decode cX5_init 13 = .ok (.aload_n 0, 1) := by decide +kernel
theorem dX5_init_14 : decode cX5_init 14 = .ok (.bipush 6, 2) := by decide +kernel
theorem dX5_init_16 : decode cX5_init 16 = .ok (.newarray .int, 2) := by decide +kernel
theorem dX5_init_18 : decode cX5_init 18 = .ok (.putfield 17, 3) := by decide +kernel
theorem dX5_init_21 : decode cX5_init 21 = .ok (.aload_n 0, 1) := by decide +kernel
theorem dX5_init_22 : decode cX5_init 22 = .ok (.new 21, 3) := by decide +kernel
theorem dX5_init_25 : decode cX5_init 25 = .ok (.dup, 1) := by decide +kernel
theorem dX5_init_26 : decode cX5_init 26 = .ok (.iconst 0, 1) := by decide +kernel
theorem dX5_init_27 : decode cX5_init 27 = .ok (.invokespecial 23, 3) := by decide +kernel
theorem dX5_init_30 : decode cX5_init 30 = .ok (.putfield 26, 3) := by decide +kernel
theorem dX5_init_33 : decode cX5_init 33 = .ok (.aload_n 0, 1) := by decide +kernel
theorem dX5_init_34 : decode cX5_init 34 = .ok (.new 30, 3) := by decide +kernel
theorem dX5_init_37 : decode cX5_init 37 = .ok (.dup, 1) := by decide +kernel
theorem dX5_init_38 : decode cX5_init 38 = .ok (.invokespecial 32, 3) := by decide +kernel
theorem dX5_init_41 : decode cX5_init 41 = .ok (.putfield 33, 3) := by decide +kernel
theorem dX5_init_44 : decode cX5_init 44 = .ok (.aload_n 0, 1) := by decide +kernel
theorem dX5_init_45 : decode cX5_init 45 = .ok (.aload_n 0, 1) := by decide +kernel
theorem dX5_init_46 : decode cX5_init 46 = .ok (.getfield 26, 3) := by decide +kernel
theorem dX5_init_49 : decode cX5_init 49 = .ok (.putfield 37, 3) := by decide +kernel
theorem dX5_init_52 : decode cX5_init 52 = .ok (.aload_n 0, 1) := by decide +kernel
theorem dX5_init_53 : decode cX5_init 53 = .ok (.aload_n 0, 1) := by decide +kernel
theorem dX5_init_54 : decode cX5_init 54 = .ok (.getfield 33, 3) := by decide +kernel
theorem dX5_init_57 : decode cX5_init 57 = .ok (.putfield 40, 3) := by decide +kernel
theorem dX5_init_60 : decode cX5_init 60 = .ok (.aload_n 0, 1) := by decide +kernel
theorem dX5_init_61 : decode cX5_init 61 = .ok (.iconst 0, 1) := by decide +kernel
theorem dX5_init_62 : decode cX5_init 62 = .ok (.putfield 43, 3) := by decide +kernel
theorem dX5_init_65 : decode cX5_init 65 = .ok (.aload_n 0, 1) := by decide +kernel
theorem dX5_init_66 : decode cX5_init 66 = .ok (.iconst 0, 1) := by decide +kernel
theorem dX5_init_67 : decode cX5_init 67 = .ok (.putfield 47, 3) := by decide +kernel
theorem dX5_init_70 : decode cX5_init 70 = .ok (.aload_n 0, 1) := by decide +kernel
theorem dX5_init_71 : decode cX5_init 71 = .ok (.iconst 0, 1) := by decide +kernel
theorem dX5_init_72 : decode cX5_init 72 = .ok (.putfield 50, 3) := by decide +kernel
theorem dX5_init_75 : decode cX5_init 75 = .ok (.return_, 1) := by decide +kernel
theorem dX5_begin_0 : decode cX5_begin 0 = .ok (.aload_n 0, 1) := by decide +kernel
theorem dX5_begin_1 : decode cX5_begin 1 = .ok (.aload_n 1, 1) := by decide +kernel
theorem dX5_begin_2 : decode cX5_begin 2 = .ok (.putfield 37, 3) := by decide +kernel
theorem dX5_begin_5 : decode cX5_begin 5 = .ok (.aload_n 0, 1) := by decide +kernel
theorem dX5_begin_6 : decode cX5_begin 6 = .ok (.aload_n 2, 1) := by decide +kernel
theorem dX5_begin_7 : decode cX5_begin 7 = .ok (.putfield 40, 3) := by decide +kernel
theorem dX5_begin_10 : decode cX5_begin 10 = .ok (.return_, 1) := by decide +kernel
theorem dX5_goUp_0 : decode cX5_goUp 0 = .ok (.aload_n 0, 1) := by decide +kernel
theorem dX5_goUp_1 : decode cX5_goUp 1 = .ok (.getfield 26, 3) := by decide +kernel
theorem dX5_goUp_4 : decode cX5_goUp 4 = .ok (.aload_n 0, 1) := by decide +kernel
theorem dX5_goUp_5 : decode cX5_goUp 5 = .ok (.getfield 37, 3) := by decide +kernel
theorem dX5_goUp_8 : decode cX5_goUp 8 = .ok (.invokevirtual 54, 3) := by decide +kernel
theorem dX5_goUp_11 : decode cX5_goUp 11 = .ok (.aload_n 0, 1) := by decide +kernel
theorem dX5_goUp_12 : decode cX5_goUp 12 = .ok (.getfield 33, 3) := by decide +kernel
theorem dX5_goUp_15 : decode cX5_goUp 15 = .ok (.aload_n 0, 1) := by decide +kernel
theorem dX5_goUp_16 : decode cX5_goUp 16 = .ok (.getfield 40, 3) := by decide +kernel
theorem dX5_goUp_19 : decode cX5_goUp 19 = .ok (.invokevirtual 58, 3) := by decide +kernel
theorem dX5_goUp_22 : decode cX5_goUp 22 = .ok (.aload_n 0, 1) := by decide +kernel
theorem dX5_goUp_23 : decode cX5_goUp 23 = .ok (.aload_n 0, 1) := by decide +kernel
theorem dX5_goUp_24 : decode cX5_goUp 24 = .ok (.getfield 26, 3) := by decide +kernel
theorem dX5_goUp_27 : decode cX5_goUp 27 = .ok (.putfield 37, 3) := by decide +kernel
theorem dX5_goUp_30 : decode cX5_goUp 30 = .ok (.aload_n 0, 1) := by decide +kernel
theorem dX5_goUp_31 : decode cX5_goUp 31 = .ok (.aload_n 0, 1) := by decide +kernel
theorem dX5_goUp_32 : decode cX5_goUp 32 = .ok (.getfield 33, 3) := by decide +kernel
theorem dX5_goUp_35 : decode cX5_goUp 35 = .ok (.putfield 40, 3) := by decide +kernel
theorem dX5_goUp_38 : decode cX5_goUp 38 = .ok (.aload_n 0, 1) := by decide +kernel
theorem dX5_goUp_39 : decode cX5_goUp 39 = .ok (.iconst 1, 1) := by decide +kernel
theorem dX5_goUp_40 : decode cX5_goUp 40 = .ok (.putfield 50, 3) := by decide +kernel
theorem dX5_goUp_43 : decode cX5_goUp 43 = .ok (.return_, 1) := by decide +kernel
theorem dX5_has_0 : decode cX5_has 0 = .ok (.iload_n 1, 1) := by decide +kernel
theorem dX5_has_1 : decode cX5_has 1 = .ok (.ifCond .lt 24, 3) := by decide +kernel
theorem dX5_has_4 : decode cX5_has 4 = .ok (.iload_n 1, 1) := by decide +kernel
theorem dX5_has_5 : decode cX5_has 5 = .ok (.aload_n 0, 1) := by decide +kernel
theorem dX5_has_6 : decode cX5_has 6 = .ok (.getfield 43, 3) := by decide +kernel
theorem dX5_has_9 : decode cX5_has 9 = .ok (.if_icmp .ge 16, 3) := by decide +kernel
theorem dX5_has_12 : decode cX5_has 12 = .ok (.iload_n 1, 1) := by decide +kernel
theorem dX5_has_13 : decode cX5_has 13 = .ok (.aload_n 0, 1) := by decide +kernel
theorem dX5_has_14 : decode cX5_has 14 = .ok (.getfield 11, 3) := by decide +kernel
theorem dX5_has_17 : decode cX5_has 17 = .ok (.arraylength, 1) := by decide +kernel
theorem dX5_has_18 : decode cX5_has 18 = .ok (.if_icmp .ge 7, 3) := by decide +kernel
theorem dX5_has_21 : decode cX5_has 21 = .ok (.iconst 1, 1) := by decide +kernel
theorem dX5_has_22 : decode cX5_has 22 = .ok (.goto 4, 3) := by decide +kernel
theorem dX5_has_25 : decode cX5_has 25 = .ok (.iconst 0, 1) := by decide +kernel
theorem dX5_has_26 : decode cX5_has 26 = .ok (.ireturn, 1) := by decide +kernel
theorem dX5_holds_0 : decode cX5_holds 0 = .ok (.iconst 0, 1) := by decide +kernel
theorem dX5_holds_1 : decode cX5_holds 1 = .ok (.istore_n 2, 1) := by decide +kernel
theorem dX5_holds_2 : decode cX5_holds 2 = .ok (.iload_n 2, 1) := by decide +kernel
theorem dX5_holds_3 : decode cX5_holds 3 = .ok (.aload_n 0, 1) := by decide +kernel
theorem dX5_holds_4 : decode cX5_holds 4 = .ok (.getfield 43, 3) := by decide +kernel
theorem dX5_holds_7 : decode cX5_holds 7 = .ok (.if_icmp .ge 21, 3) := by decide +kernel
theorem dX5_holds_10 : decode cX5_holds 10 = .ok (.aload_n 0, 1) := by decide +kernel
theorem dX5_holds_11 : decode cX5_holds 11 = .ok (.getfield 11, 3) := by decide +kernel
theorem dX5_holds_14 : decode cX5_holds 14 = .ok (.iload_n 2, 1) := by decide +kernel
theorem dX5_holds_15 : decode cX5_holds 15 = .ok (.aaload, 1) := by decide +kernel
theorem dX5_holds_16 : decode cX5_holds 16 = .ok (.aload_n 1, 1) := by decide +kernel
theorem dX5_holds_17 : decode cX5_holds 17 = .ok (.if_acmp .ne 5, 3) := by decide +kernel
theorem dX5_holds_20 : decode cX5_holds 20 = .ok (.iconst 1, 1) := by decide +kernel
theorem dX5_holds_21 : decode cX5_holds 21 = .ok (.ireturn, 1) := by decide +kernel
theorem dX5_holds_22 : decode cX5_holds 22 = .ok (.iinc 2 1, 3) := by decide +kernel
theorem dX5_holds_25 : decode cX5_holds 25 = .ok (.goto (-23), 3) := by decide +kernel
theorem dX5_holds_28 : decode cX5_holds 28 = .ok (.iconst 0, 1) := by decide +kernel
theorem dX5_holds_29 : decode cX5_holds 29 = .ok (.ireturn, 1) := by decide +kernel
theorem dX5_add_0 : decode cX5_add 0 = .ok (.aload_n 0, 1) := by decide +kernel
theorem dX5_add_1 : decode cX5_add 1 = .ok (.getfield 43, 3) := by decide +kernel
theorem dX5_add_4 : decode cX5_add 4 = .ok (.aload_n 0, 1) := by decide +kernel
theorem dX5_add_5 : decode cX5_add 5 = .ok (.getfield 11, 3) := by decide +kernel
theorem dX5_add_8 : decode cX5_add 8 = .ok (.arraylength, 1) := by decide +kernel
theorem dX5_add_9 : decode cX5_add 9 = .ok (.if_icmp .ge 33, 3) := by decide +kernel
theorem dX5_add_12 : decode cX5_add 12 = .ok (.aload_n 0, 1) := by decide +kernel
theorem dX5_add_13 : decode cX5_add 13 = .ok (.getfield 11, 3) := by decide +kernel
theorem dX5_add_16 : decode cX5_add 16 = .ok (.aload_n 0, 1) := by decide +kernel
theorem dX5_add_17 : decode cX5_add 17 = .ok (.getfield 43, 3) := by decide +kernel
theorem dX5_add_20 : decode cX5_add 20 = .ok (.aload_n 1, 1) := by decide +kernel
theorem dX5_add_21 : decode cX5_add 21 = .ok (.aastore, 1) := by decide +kernel
theorem dX5_add_22 : decode cX5_add 22 = .ok (.aload_n 0, 1) := by decide +kernel
theorem dX5_add_23 : decode cX5_add 23 = .ok (.getfield 17, 3) := by decide +kernel
theorem dX5_add_26 : decode cX5_add 26 = .ok (.aload_n 0, 1) := by decide +kernel
theorem dX5_add_27 : decode cX5_add 27 = .ok (.getfield 43, 3) := by decide +kernel
theorem dX5_add_30 : decode cX5_add 30 = .ok (.iload_n 2, 1) := by decide +kernel
theorem dX5_add_31 : decode cX5_add 31 = .ok (.iastore, 1) := by decide +kernel
theorem dX5_add_32 : decode cX5_add 32 = .ok (.aload_n 0, 1) := by decide +kernel
theorem dX5_add_33 : decode cX5_add 33 = .ok (.dup, 1) := by decide +kernel
theorem dX5_add_34 : decode cX5_add 34 = .ok (.getfield 43, 3) := by decide +kernel
theorem dX5_add_37 : decode cX5_add 37 = .ok (.iconst 1, 1) := by decide +kernel
theorem dX5_add_38 : decode cX5_add 38 = .ok (.iadd, 1) := by decide +kernel
theorem dX5_add_39 : decode cX5_add 39 = .ok (.putfield 43, 3) := by decide +kernel
theorem dX5_add_42 : decode cX5_add 42 = .ok (.return_, 1) := by decide +kernel
theorem dX5_remove_0 : decode cX5_remove 0 = .ok (.aload_n 0, 1) := by decide +kernel
theorem dX5_remove_1 : decode cX5_remove 1 = .ok (.iload_n 1, 1) := by decide +kernel
theorem dX5_remove_2 : decode cX5_remove 2 = .ok (.invokevirtual 62, 3) := by decide +kernel
theorem dX5_remove_5 : decode cX5_remove 5 = .ok (.ifCond .ne 4, 3) := by decide +kernel
theorem dX5_remove_8 : decode cX5_remove 8 = .ok (.return_, 1) := by decide +kernel
theorem dX5_remove_9 : decode cX5_remove 9 = .ok (.iload_n 1, 1) := by decide +kernel
theorem dX5_remove_10 : decode cX5_remove 10 = .ok (.iconst 1, 1) := by decide +kernel
theorem dX5_remove_11 : decode cX5_remove 11 = .ok (.iadd, 1) := by decide +kernel
theorem dX5_remove_12 : decode cX5_remove 12 = .ok (.istore_n 2, 1) := by decide +kernel
theorem dX5_remove_13 : decode cX5_remove 13 = .ok (.iload_n 2, 1) := by decide +kernel
theorem dX5_remove_14 : decode cX5_remove 14 = .ok (.aload_n 0, 1) := by decide +kernel
theorem dX5_remove_15 : decode cX5_remove 15 = .ok (.getfield 43, 3) := by decide +kernel
theorem dX5_remove_18 : decode cX5_remove 18 = .ok (.if_icmp .ge 37, 3) := by decide +kernel
theorem dX5_remove_21 : decode cX5_remove 21 = .ok (.aload_n 0, 1) := by decide +kernel
theorem dX5_remove_22 : decode cX5_remove 22 = .ok (.getfield 11, 3) := by decide +kernel
theorem dX5_remove_25 : decode cX5_remove 25 = .ok (.iload_n 2, 1) := by decide +kernel
theorem dX5_remove_26 : decode cX5_remove 26 = .ok (.iconst 1, 1) := by decide +kernel
theorem dX5_remove_27 : decode cX5_remove 27 = .ok (.isub, 1) := by decide +kernel
theorem dX5_remove_28 : decode cX5_remove 28 = .ok (.aload_n 0, 1) := by decide +kernel
theorem dX5_remove_29 : decode cX5_remove 29 = .ok (.getfield 11, 3) := by decide +kernel
theorem dX5_remove_32 : decode cX5_remove 32 = .ok (.iload_n 2, 1) := by decide +kernel
theorem dX5_remove_33 : decode cX5_remove 33 = .ok (.aaload, 1) := by decide +kernel
theorem dX5_remove_34 : decode cX5_remove 34 = .ok (.aastore, 1) := by decide +kernel
theorem dX5_remove_35 : decode cX5_remove 35 = .ok (.aload_n 0, 1) := by decide +kernel
theorem dX5_remove_36 : decode cX5_remove 36 = .ok (.getfield 17, 3) := by decide +kernel
theorem dX5_remove_39 : decode cX5_remove 39 = .ok (.iload_n 2, 1) := by decide +kernel
theorem dX5_remove_40 : decode cX5_remove 40 = .ok (.iconst 1, 1) := by decide +kernel
theorem dX5_remove_41 : decode cX5_remove 41 = .ok (.isub, 1) := by decide +kernel
theorem dX5_remove_42 : decode cX5_remove 42 = .ok (.aload_n 0, 1) := by decide +kernel
theorem dX5_remove_43 : decode cX5_remove 43 = .ok (.getfield 17, 3) := by decide +kernel
theorem dX5_remove_46 : decode cX5_remove 46 = .ok (.iload_n 2, 1) := by decide +kernel
theorem dX5_remove_47 : decode cX5_remove 47 = .ok (.iaload, 1) := by decide +kernel
theorem dX5_remove_48 : decode cX5_remove 48 = .ok (.iastore, 1) := by decide +kernel
theorem dX5_remove_49 : decode cX5_remove 49 = .ok (.iinc 2 1, 3) := by decide +kernel
theorem dX5_remove_52 : decode cX5_remove 52 = .ok (.goto (-39), 3) := by decide +kernel
theorem dX5_remove_55 : decode cX5_remove 55 = .ok (.aload_n 0, 1) := by decide +kernel
theorem dX5_remove_56 : decode cX5_remove 56 = .ok (.dup, 1) := by decide +kernel
theorem dX5_remove_57 : decode cX5_remove 57 = .ok (.getfield 43, 3) := by decide +kernel
theorem dX5_remove_60 : decode cX5_remove 60 = .ok (.iconst 1, 1) := by decide +kernel
theorem dX5_remove_61 : decode cX5_remove 61 = .ok (.isub, 1) := by decide +kernel
theorem dX5_remove_62 : decode cX5_remove 62 = .ok (.putfield 43, 3) := by decide +kernel
theorem dX5_remove_65 : decode cX5_remove 65 = .ok (.return_, 1) := by decide +kernel
theorem dX5_tell_0 : decode cX5_tell 0 = .ok (.iload_n 1, 1) := by decide +kernel
theorem dX5_tell_1 : decode cX5_tell 1 = .ok (.tableswitch 62 0 3 #[31, 39, 44, 49], 31) := by decide +kernel
theorem dX5_tell_32 : decode cX5_tell 32 = .ok (.aload_n 0, 1) := by decide +kernel
theorem dX5_tell_33 : decode cX5_tell 33 = .ok (.getfield 37, 3) := by decide +kernel
theorem dX5_tell_36 : decode cX5_tell 36 = .ok (.getfield 66, 3) := by decide +kernel
theorem dX5_tell_39 : decode cX5_tell 39 = .ok (.ireturn, 1) := by decide +kernel
theorem dX5_tell_40 : decode cX5_tell 40 = .ok (.aload_n 0, 1) := by decide +kernel
theorem dX5_tell_41 : decode cX5_tell 41 = .ok (.getfield 43, 3) := by decide +kernel
theorem dX5_tell_44 : decode cX5_tell 44 = .ok (.ireturn, 1) := by decide +kernel
theorem dX5_tell_45 : decode cX5_tell 45 = .ok (.aload_n 0, 1) := by decide +kernel
theorem dX5_tell_46 : decode cX5_tell 46 = .ok (.getfield 47, 3) := by decide +kernel
theorem dX5_tell_49 : decode cX5_tell 49 = .ok (.ireturn, 1) := by decide +kernel
theorem dX5_tell_50 : decode cX5_tell 50 = .ok (.aload_n 0, 1) := by decide +kernel
theorem dX5_tell_51 : decode cX5_tell 51 = .ok (.getfield 50, 3) := by decide +kernel
theorem dX5_tell_54 : decode cX5_tell 54 = .ok (.ifCond .eq 7, 3) := by decide +kernel
theorem dX5_tell_57 : decode cX5_tell 57 = .ok (.iconst 1, 1) := by decide +kernel
theorem dX5_tell_58 : decode cX5_tell 58 = .ok (.goto 4, 3) := by decide +kernel
theorem dX5_tell_61 : decode cX5_tell 61 = .ok (.iconst 0, 1) := by decide +kernel
theorem dX5_tell_62 : decode cX5_tell 62 = .ok (.ireturn, 1) := by decide +kernel
theorem dX5_tell_63 : decode cX5_tell 63 = .ok (.aload_n 0, 1) := by decide +kernel
theorem dX5_tell_64 : decode cX5_tell 64 = .ok (.iload_n 1, 1) := by decide +kernel
theorem dX5_tell_65 : decode cX5_tell 65 = .ok (.invokevirtual 69, 3) := by decide +kernel
theorem dX5_tell_68 : decode cX5_tell 68 = .ok (.ireturn, 1) := by decide +kernel
theorem dX5_tellOfPlace_0 : decode cX5_tellOfPlace 0 = .ok (.iload_n 1, 1) := by decide +kernel
theorem dX5_tellOfPlace_1 : decode cX5_tellOfPlace 1 = .ok (.bipush 10, 2) := by decide +kernel
theorem dX5_tellOfPlace_3 : decode cX5_tellOfPlace 3 = .ok (.if_icmp .lt 20, 3) := by decide +kernel
theorem dX5_tellOfPlace_6 : decode cX5_tellOfPlace 6 = .ok (.iload_n 1, 1) := by decide +kernel
theorem dX5_tellOfPlace_7 : decode cX5_tellOfPlace 7 = .ok (.bipush 40, 2) := by decide +kernel
theorem dX5_tellOfPlace_9 : decode cX5_tellOfPlace 9 = .ok (.if_icmp .ge 14, 3) := by decide +kernel
theorem dX5_tellOfPlace_12 : decode cX5_tellOfPlace 12 = .ok (.aload_n 0, 1) := by decide +kernel
theorem dX5_tellOfPlace_13 : decode cX5_tellOfPlace 13 = .ok (.iload_n 1, 1) := by decide +kernel
theorem dX5_tellOfPlace_14 : decode cX5_tellOfPlace 14 = .ok (.bipush 10, 2) := by decide +kernel
theorem dX5_tellOfPlace_16 : decode cX5_tellOfPlace 16 = .ok (.irem, 1) := by decide +kernel
theorem dX5_tellOfPlace_17 : decode cX5_tellOfPlace 17 = .ok (.invokevirtual 62, 3) := by decide +kernel
theorem dX5_tellOfPlace_20 : decode cX5_tellOfPlace 20 = .ok (.ifCond .ne 5, 3) := by decide +kernel
theorem dX5_tellOfPlace_23 : decode cX5_tellOfPlace 23 = .ok (.iconst (-1), 1) := by decide +kernel
theorem dX5_tellOfPlace_24 : decode cX5_tellOfPlace 24 = .ok (.ireturn, 1) := by decide +kernel
theorem dX5_tellOfPlace_25 : decode cX5_tellOfPlace 25 = .ok (.iload_n 1, 1) := by decide +kernel
theorem dX5_tellOfPlace_26 : decode cX5_tellOfPlace 26 = .ok (.bipush 10, 2) := by decide +kernel
theorem dX5_tellOfPlace_28 : decode cX5_tellOfPlace 28 = .ok (.irem, 1) := by decide +kernel
theorem dX5_tellOfPlace_29 : decode cX5_tellOfPlace 29 = .ok (.istore_n 2, 1) := by decide +kernel
theorem dX5_tellOfPlace_30 : decode cX5_tellOfPlace 30 = .ok (.iload_n 1, 1) := by decide +kernel
theorem dX5_tellOfPlace_31 : decode cX5_tellOfPlace 31 = .ok (.bipush 20, 2) := by decide +kernel
theorem dX5_tellOfPlace_33 : decode cX5_tellOfPlace 33 = .ok (.if_icmp .ge 13, 3) := by decide +kernel
theorem dX5_tellOfPlace_36 : decode cX5_tellOfPlace 36 = .ok (.aload_n 0, 1) := by decide +kernel
theorem dX5_tellOfPlace_37 : decode cX5_tellOfPlace 37 = .ok (.getfield 11, 3) := by decide +kernel
theorem dX5_tellOfPlace_40 : decode cX5_tellOfPlace 40 = .ok (.iload_n 2, 1) := by decide +kernel
theorem dX5_tellOfPlace_41 : decode cX5_tellOfPlace 41 = .ok (.aaload, 1) := by decide +kernel
theorem dX5_tellOfPlace_42 : decode cX5_tellOfPlace 42 = .ok (.getfield 73, 3) := by decide +kernel
theorem dX5_tellOfPlace_45 : decode cX5_tellOfPlace 45 = .ok (.ireturn, 1) := by decide +kernel
theorem dX5_tellOfPlace_46 : decode cX5_tellOfPlace 46 = .ok (.iload_n 1, 1) := by decide +kernel
theorem dX5_tellOfPlace_47 : decode cX5_tellOfPlace 47 = .ok (.bipush 30, 2) := by decide +kernel
theorem dX5_tellOfPlace_49 : decode cX5_tellOfPlace 49 = .ok (.if_icmp .ge 12, 3) := by decide +kernel
theorem dX5_tellOfPlace_52 : decode cX5_tellOfPlace 52 = .ok (.aload_n 0, 1) := by decide +kernel
theorem dX5_tellOfPlace_53 : decode cX5_tellOfPlace 53 = .ok (.getfield 17, 3) := by decide +kernel
theorem dX5_tellOfPlace_56 : decode cX5_tellOfPlace 56 = .ok (.iload_n 2, 1) := by decide +kernel
theorem dX5_tellOfPlace_57 : decode cX5_tellOfPlace 57 = .ok (.iaload, 1) := by decide +kernel
theorem dX5_tellOfPlace_58 : decode cX5_tellOfPlace 58 = .ok (.goto 8, 3) := by decide +kernel
theorem dX5_tellOfPlace_61 : decode cX5_tellOfPlace 61 = .ok (.aload_n 0, 1) := by decide +kernel
theorem dX5_tellOfPlace_62 : decode cX5_tellOfPlace 62 = .ok (.iload_n 2, 1) := by decide +kernel
theorem dX5_tellOfPlace_63 : decode cX5_tellOfPlace 63 = .ok (.invokevirtual 74, 3) := by decide +kernel
theorem dX5_tellOfPlace_66 : decode cX5_tellOfPlace 66 = .ok (.ireturn, 1) := by decide +kernel
theorem dX5_secondOf_0 : decode cX5_secondOf 0 = .ok (.iconst 0, 1) := by decide +kernel
theorem dX5_secondOf_1 : decode cX5_secondOf 1 = .ok (.istore_n 2, 1) := by decide +kernel
theorem dX5_secondOf_2 : decode cX5_secondOf 2 = .ok (.iconst 1, 1) := by decide +kernel
theorem dX5_secondOf_3 : decode cX5_secondOf 3 = .ok (.istore_n 3, 1) := by decide +kernel
theorem dX5_secondOf_4 : decode cX5_secondOf 4 = .ok (.iload_n 3, 1) := by decide +kernel
theorem dX5_secondOf_5 : decode cX5_secondOf 5 = .ok (.iload_n 1, 1) := by decide +kernel
theorem dX5_secondOf_6 : decode cX5_secondOf 6 = .ok (.if_icmp .gt 26, 3) := by decide +kernel
theorem dX5_secondOf_9 : decode cX5_secondOf 9 = .ok (.iload_n 3, 1) := by decide +kernel
theorem dX5_secondOf_10 : decode cX5_secondOf 10 = .ok (.aload_n 0, 1) := by decide +kernel
theorem dX5_secondOf_11 : decode cX5_secondOf 11 = .ok (.getfield 43, 3) := by decide +kernel
theorem dX5_secondOf_14 : decode cX5_secondOf 14 = .ok (.if_icmp .ge 18, 3) := by decide +kernel
theorem dX5_secondOf_17 : decode cX5_secondOf 17 = .ok (.iload_n 2, 1) := by decide +kernel
theorem dX5_secondOf_18 : decode cX5_secondOf 18 = .ok (.aload_n 0, 1) := by decide +kernel
theorem dX5_secondOf_19 : decode cX5_secondOf 19 = .ok (.getfield 17, 3) := by decide +kernel
theorem dX5_secondOf_22 : decode cX5_secondOf 22 = .ok (.iload_n 3, 1) := by decide +kernel
theorem dX5_secondOf_23 : decode cX5_secondOf 23 = .ok (.iaload, 1) := by decide +kernel
theorem dX5_secondOf_24 : decode cX5_secondOf 24 = .ok (.iadd, 1) := by decide +kernel
theorem dX5_secondOf_25 : decode cX5_secondOf 25 = .ok (.istore_n 2, 1) := by decide +kernel
theorem dX5_secondOf_26 : decode cX5_secondOf 26 = .ok (.iinc 3 1, 3) := by decide +kernel
theorem dX5_secondOf_29 : decode cX5_secondOf 29 = .ok (.goto (-25), 3) := by decide +kernel
theorem dX5_secondOf_32 : decode cX5_secondOf 32 = .ok (.iload_n 2, 1) := by decide +kernel
theorem dX5_secondOf_33 : decode cX5_secondOf 33 = .ok (.ireturn, 1) := by decide +kernel
theorem dX5_leavesAtX_0 : decode cX5_leavesAtX 0 = .ok (.aload_n 0, 1) := by decide +kernel
theorem dX5_leavesAtX_1 : decode cX5_leavesAtX 1 = .ok (.getfield 47, 3) := by decide +kernel
theorem dX5_leavesAtX_4 : decode cX5_leavesAtX 4 = .ok (.aload_n 0, 1) := by decide +kernel
theorem dX5_leavesAtX_5 : decode cX5_leavesAtX 5 = .ok (.getfield 37, 3) := by decide +kernel
theorem dX5_leavesAtX_8 : decode cX5_leavesAtX 8 = .ok (.getfield 77, 3) := by decide +kernel
theorem dX5_leavesAtX_11 : decode cX5_leavesAtX 11 = .ok (.aload_n 0, 1) := by decide +kernel
theorem dX5_leavesAtX_12 : decode cX5_leavesAtX 12 = .ok (.iload_n 1, 1) := by decide +kernel
theorem dX5_leavesAtX_13 : decode cX5_leavesAtX 13 = .ok (.invokevirtual 74, 3) := by decide +kernel
theorem dX5_leavesAtX_16 : decode cX5_leavesAtX 16 = .ok (.imul, 1) := by decide +kernel
theorem dX5_leavesAtX_17 : decode cX5_leavesAtX 17 = .ok (.iadd, 1) := by decide +kernel
theorem dX5_leavesAtX_18 : decode cX5_leavesAtX 18 = .ok (.ireturn, 1) := by decide +kernel
theorem dX5_lacksJumpers_0 : decode cX5_lacksJumpers 0 = .ok (.iconst 0, 1) := by decide +kernel
theorem dX5_lacksJumpers_1 : decode cX5_lacksJumpers 1 = .ok (.istore_n 1, 1) := by decide +kernel
theorem dX5_lacksJumpers_2 : decode cX5_lacksJumpers 2 = .ok (.iload_n 1, 1) := by decide +kernel
theorem dX5_lacksJumpers_3 : decode cX5_lacksJumpers 3 = .ok (.aload_n 0, 1) := by decide +kernel
theorem dX5_lacksJumpers_4 : decode cX5_lacksJumpers 4 = .ok (.getfield 43, 3) := by decide +kernel
theorem dX5_lacksJumpers_7 : decode cX5_lacksJumpers 7 = .ok (.if_icmp .ge 23, 3) := by decide +kernel
theorem dX5_lacksJumpers_10 : decode cX5_lacksJumpers 10 = .ok (.aload_n 0, 1) := by decide +kernel
theorem dX5_lacksJumpers_11 : decode cX5_lacksJumpers 11 = .ok (.getfield 11, 3) := by decide +kernel
theorem dX5_lacksJumpers_14 : decode cX5_lacksJumpers 14 = .ok (.iload_n 1, 1) := by decide +kernel
theorem dX5_lacksJumpers_15 : decode cX5_lacksJumpers 15 = .ok (.aaload, 1) := by decide +kernel
theorem dX5_lacksJumpers_16 : decode cX5_lacksJumpers 16 = .ok (.getfield 80, 3) := by decide +kernel
theorem dX5_lacksJumpers_19 : decode cX5_lacksJumpers 19 = .ok (.ifCond .ne 5, 3) := by decide +kernel
theorem dX5_lacksJumpers_22 : decode cX5_lacksJumpers 22 = .ok (.iconst 1, 1) := by decide +kernel
theorem dX5_lacksJumpers_23 : decode cX5_lacksJumpers 23 = .ok (.ireturn, 1) := by decide +kernel
theorem dX5_lacksJumpers_24 : decode cX5_lacksJumpers 24 = .ok (.iinc 1 1, 3) := by decide +kernel
theorem dX5_lacksJumpers_27 : decode cX5_lacksJumpers 27 = .ok (.goto (-25), 3) := by decide +kernel
theorem dX5_lacksJumpers_30 : decode cX5_lacksJumpers 30 = .ok (.aload_n 0, 1) := by decide +kernel
theorem dX5_lacksJumpers_31 : decode cX5_lacksJumpers 31 = .ok (.getfield 43, 3) := by decide +kernel
theorem dX5_lacksJumpers_34 : decode cX5_lacksJumpers 34 = .ok (.ifCond .ne 7, 3) := by decide +kernel
theorem dX5_lacksJumpers_37 : decode cX5_lacksJumpers 37 = .ok (.iconst 1, 1) := by decide +kernel
theorem dX5_lacksJumpers_38 : decode cX5_lacksJumpers 38 = .ok (.goto 4, 3) := by decide +kernel
theorem dX5_lacksJumpers_41 : decode cX5_lacksJumpers 41 = .ok (.iconst 0, 1) := by decide +kernel
theorem dX5_lacksJumpers_42 : decode cX5_lacksJumpers 42 = .ok (.ireturn, 1) := by decide +kernel
theorem dX5_jumperCount_0 : decode cX5_jumperCount 0 = .ok (.iconst 0, 1) := by decide +kernel
theorem dX5_jumperCount_1 : decode cX5_jumperCount 1 = .ok (.istore_n 1, 1) := by decide +kernel
theorem dX5_jumperCount_2 : decode cX5_jumperCount 2 = .ok (.iconst 0, 1) := by decide +kernel
theorem dX5_jumperCount_3 : decode cX5_jumperCount 3 = .ok (.istore_n 2, 1) := by decide +kernel
theorem dX5_jumperCount_4 : decode cX5_jumperCount 4 = .ok (.iload_n 2, 1) := by decide +kernel
theorem dX5_jumperCount_5 : decode cX5_jumperCount 5 = .ok (.aload_n 0, 1) := by decide +kernel
theorem dX5_jumperCount_6 : decode cX5_jumperCount 6 = .ok (.getfield 43, 3) := by decide +kernel
theorem dX5_jumperCount_9 : decode cX5_jumperCount 9 = .ok (.if_icmp .ge 21, 3) := by decide +kernel
theorem dX5_jumperCount_12 : decode cX5_jumperCount 12 = .ok (.iload_n 1, 1) := by decide +kernel
theorem dX5_jumperCount_13 : decode cX5_jumperCount 13 = .ok (.aload_n 0, 1) := by decide +kernel
theorem dX5_jumperCount_14 : decode cX5_jumperCount 14 = .ok (.getfield 11, 3) := by decide +kernel
theorem dX5_jumperCount_17 : decode cX5_jumperCount 17 = .ok (.iload_n 2, 1) := by decide +kernel
theorem dX5_jumperCount_18 : decode cX5_jumperCount 18 = .ok (.aaload, 1) := by decide +kernel
theorem dX5_jumperCount_19 : decode cX5_jumperCount 19 = .ok (.getfield 80, 3) := by decide +kernel
theorem dX5_jumperCount_22 : decode cX5_jumperCount 22 = .ok (.iadd, 1) := by decide +kernel
theorem dX5_jumperCount_23 : decode cX5_jumperCount 23 = .ok (.istore_n 1, 1) := by decide +kernel
theorem dX5_jumperCount_24 : decode cX5_jumperCount 24 = .ok (.iinc 2 1, 3) := by decide +kernel
theorem dX5_jumperCount_27 : decode cX5_jumperCount 27 = .ok (.goto (-23), 3) := by decide +kernel
theorem dX5_jumperCount_30 : decode cX5_jumperCount 30 = .ok (.iload_n 1, 1) := by decide +kernel
theorem dX5_jumperCount_31 : decode cX5_jumperCount 31 = .ok (.ireturn, 1) := by decide +kernel
theorem dX5_weight_0 : decode cX5_weight 0 = .ok (.iconst 0, 1) := by decide +kernel
theorem dX5_weight_1 : decode cX5_weight 1 = .ok (.istore_n 1, 1) := by decide +kernel
theorem dX5_weight_2 : decode cX5_weight 2 = .ok (.iconst 0, 1) := by decide +kernel
theorem dX5_weight_3 : decode cX5_weight 3 = .ok (.istore_n 2, 1) := by decide +kernel
theorem dX5_weight_4 : decode cX5_weight 4 = .ok (.iload_n 2, 1) := by decide +kernel
theorem dX5_weight_5 : decode cX5_weight 5 = .ok (.aload_n 0, 1) := by decide +kernel
theorem dX5_weight_6 : decode cX5_weight 6 = .ok (.getfield 43, 3) := by decide +kernel
theorem dX5_weight_9 : decode cX5_weight 9 = .ok (.if_icmp .ge 21, 3) := by decide +kernel
theorem dX5_weight_12 : decode cX5_weight 12 = .ok (.iload_n 1, 1) := by decide +kernel
theorem dX5_weight_13 : decode cX5_weight 13 = .ok (.aload_n 0, 1) := by decide +kernel
theorem dX5_weight_14 : decode cX5_weight 14 = .ok (.getfield 11, 3) := by decide +kernel
theorem dX5_weight_17 : decode cX5_weight 17 = .ok (.iload_n 2, 1) := by decide +kernel
theorem dX5_weight_18 : decode cX5_weight 18 = .ok (.aaload, 1) := by decide +kernel
theorem dX5_weight_19 : decode cX5_weight 19 = .ok (.invokevirtual 81, 3) := by decide +kernel
theorem dX5_weight_22 : decode cX5_weight 22 = .ok (.iadd, 1) := by decide +kernel
theorem dX5_weight_23 : decode cX5_weight 23 = .ok (.istore_n 1, 1) := by decide +kernel
theorem dX5_weight_24 : decode cX5_weight 24 = .ok (.iinc 2 1, 3) := by decide +kernel
theorem dX5_weight_27 : decode cX5_weight 27 = .ok (.goto (-23), 3) := by decide +kernel
theorem dX5_weight_30 : decode cX5_weight 30 = .ok (.iload_n 1, 1) := by decide +kernel
theorem dX5_weight_31 : decode cX5_weight 31 = .ok (.ireturn, 1) := by decide +kernel
theorem dX5_isWornOn_0 : decode cX5_isWornOn 0 = .ok (.iconst 0, 1) := by decide +kernel
theorem dX5_isWornOn_1 : decode cX5_isWornOn 1 = .ok (.istore_n 2, 1) := by decide +kernel
theorem dX5_isWornOn_2 : decode cX5_isWornOn 2 = .ok (.iload_n 2, 1) := by decide +kernel
theorem dX5_isWornOn_3 : decode cX5_isWornOn 3 = .ok (.aload_n 0, 1) := by decide +kernel
theorem dX5_isWornOn_4 : decode cX5_isWornOn 4 = .ok (.getfield 43, 3) := by decide +kernel
theorem dX5_isWornOn_7 : decode cX5_isWornOn 7 = .ok (.if_icmp .ge 24, 3) := by decide +kernel
theorem dX5_isWornOn_10 : decode cX5_isWornOn 10 = .ok (.aload_n 0, 1) := by decide +kernel
theorem dX5_isWornOn_11 : decode cX5_isWornOn 11 = .ok (.getfield 11, 3) := by decide +kernel
theorem dX5_isWornOn_14 : decode cX5_isWornOn 14 = .ok (.iload_n 2, 1) := by decide +kernel
theorem dX5_isWornOn_15 : decode cX5_isWornOn 15 = .ok (.aaload, 1) := by decide +kernel
theorem dX5_isWornOn_16 : decode cX5_isWornOn 16 = .ok (.iload_n 1, 1) := by decide +kernel
theorem dX5_isWornOn_17 : decode cX5_isWornOn 17 = .ok (.invokevirtual 85, 3) := by decide +kernel
theorem dX5_isWornOn_20 : decode cX5_isWornOn 20 = .ok (.ifCond .eq 5, 3) := by decide +kernel
theorem dX5_isWornOn_23 : decode cX5_isWornOn 23 = .ok (.iconst 1, 1) := by decide +kernel
theorem dX5_isWornOn_24 : decode cX5_isWornOn 24 = .ok (.ireturn, 1) := by decide +kernel
theorem dX5_isWornOn_25 : decode cX5_isWornOn 25 = .ok (.iinc 2 1, 3) := by decide +kernel
theorem dX5_isWornOn_28 : decode cX5_isWornOn 28 = .ok (.goto (-26), 3) := by decide +kernel
theorem dX5_isWornOn_31 : decode cX5_isWornOn 31 = .ok (.iconst 0, 1) := by decide +kernel
theorem dX5_isWornOn_32 : decode cX5_isWornOn 32 = .ok (.ireturn, 1) := by decide +kernel
theorem dX5_holdsOneTwice_0 : decode cX5_holdsOneTwice 0 = .ok (.iconst 0, 1) := by decide +kernel
theorem dX5_holdsOneTwice_1 : decode cX5_holdsOneTwice 1 = .ok (.istore_n 1, 1) := by decide +kernel
theorem dX5_holdsOneTwice_2 : decode cX5_holdsOneTwice 2 = .ok (.iload_n 1, 1) := by decide +kernel
theorem dX5_holdsOneTwice_3 : decode cX5_holdsOneTwice 3 = .ok (.aload_n 0, 1) := by decide +kernel
theorem dX5_holdsOneTwice_4 : decode cX5_holdsOneTwice 4 = .ok (.getfield 43, 3) := by decide +kernel
theorem dX5_holdsOneTwice_7 : decode cX5_holdsOneTwice 7 = .ok (.if_icmp .ge 47, 3) := by decide +kernel
theorem dX5_holdsOneTwice_10 : decode cX5_holdsOneTwice 10 = .ok (.iload_n 1, 1) := by decide +kernel
theorem dX5_holdsOneTwice_11 : decode cX5_holdsOneTwice 11 = .ok (.iconst 1, 1) := by decide +kernel
theorem dX5_holdsOneTwice_12 : decode cX5_holdsOneTwice 12 = .ok (.iadd, 1) := by decide +kernel
theorem dX5_holdsOneTwice_13 : decode cX5_holdsOneTwice 13 = .ok (.istore_n 2, 1) := by decide +kernel
theorem dX5_holdsOneTwice_14 : decode cX5_holdsOneTwice 14 = .ok (.iload_n 2, 1) := by decide +kernel
theorem dX5_holdsOneTwice_15 : decode cX5_holdsOneTwice 15 = .ok (.aload_n 0, 1) := by decide +kernel
theorem dX5_holdsOneTwice_16 : decode cX5_holdsOneTwice 16 = .ok (.getfield 43, 3) := by decide +kernel
theorem dX5_holdsOneTwice_19 : decode cX5_holdsOneTwice 19 = .ok (.if_icmp .ge 29, 3) := by decide +kernel
theorem dX5_holdsOneTwice_22 : decode cX5_holdsOneTwice 22 = .ok (.aload_n 0, 1) := by decide +kernel
theorem dX5_holdsOneTwice_23 : decode cX5_holdsOneTwice 23 = .ok (.getfield 11, 3) := by decide +kernel
theorem dX5_holdsOneTwice_26 : decode cX5_holdsOneTwice 26 = .ok (.iload_n 1, 1) := by decide +kernel
theorem dX5_holdsOneTwice_27 : decode cX5_holdsOneTwice 27 = .ok (.aaload, 1) := by decide +kernel
theorem dX5_holdsOneTwice_28 : decode cX5_holdsOneTwice 28 = .ok (.aload_n 0, 1) := by decide +kernel
theorem dX5_holdsOneTwice_29 : decode cX5_holdsOneTwice 29 = .ok (.getfield 11, 3) := by decide +kernel
theorem dX5_holdsOneTwice_32 : decode cX5_holdsOneTwice 32 = .ok (.iload_n 2, 1) := by decide +kernel
theorem dX5_holdsOneTwice_33 : decode cX5_holdsOneTwice 33 = .ok (.aaload, 1) := by decide +kernel
theorem dX5_holdsOneTwice_34 : decode cX5_holdsOneTwice 34 = .ok (.invokevirtual 88, 3) := by decide +kernel
theorem dX5_holdsOneTwice_37 : decode cX5_holdsOneTwice 37 = .ok (.ifCond .eq 5, 3) := by decide +kernel
theorem dX5_holdsOneTwice_40 : decode cX5_holdsOneTwice 40 = .ok (.iconst 1, 1) := by decide +kernel
theorem dX5_holdsOneTwice_41 : decode cX5_holdsOneTwice 41 = .ok (.ireturn, 1) := by decide +kernel
theorem dX5_holdsOneTwice_42 : decode cX5_holdsOneTwice 42 = .ok (.iinc 2 1, 3) := by decide +kernel
theorem dX5_holdsOneTwice_45 : decode cX5_holdsOneTwice 45 = .ok (.goto (-31), 3) := by decide +kernel
theorem dX5_holdsOneTwice_48 : decode cX5_holdsOneTwice 48 = .ok (.iinc 1 1, 3) := by decide +kernel
theorem dX5_holdsOneTwice_51 : decode cX5_holdsOneTwice 51 = .ok (.goto (-49), 3) := by decide +kernel
theorem dX5_holdsOneTwice_54 : decode cX5_holdsOneTwice 54 = .ok (.iconst 0, 1) := by decide +kernel
theorem dX5_holdsOneTwice_55 : decode cX5_holdsOneTwice 55 = .ok (.ireturn, 1) := by decide +kernel
theorem dX5_lacksHelp_0 : decode cX5_lacksHelp 0 = .ok (.iconst 0, 1) := by decide +kernel
theorem dX5_lacksHelp_1 : decode cX5_lacksHelp 1 = .ok (.istore_n 1, 1) := by decide +kernel
theorem dX5_lacksHelp_2 : decode cX5_lacksHelp 2 = .ok (.iload_n 1, 1) := by decide +kernel
theorem dX5_lacksHelp_3 : decode cX5_lacksHelp 3 = .ok (.aload_n 0, 1) := by decide +kernel
theorem dX5_lacksHelp_4 : decode cX5_lacksHelp 4 = .ok (.getfield 43, 3) := by decide +kernel
theorem dX5_lacksHelp_7 : decode cX5_lacksHelp 7 = .ok (.if_icmp .ge 23, 3) := by decide +kernel
theorem dX5_lacksHelp_10 : decode cX5_lacksHelp 10 = .ok (.aload_n 0, 1) := by decide +kernel
theorem dX5_lacksHelp_11 : decode cX5_lacksHelp 11 = .ok (.getfield 11, 3) := by decide +kernel
theorem dX5_lacksHelp_14 : decode cX5_lacksHelp 14 = .ok (.iload_n 1, 1) := by decide +kernel
theorem dX5_lacksHelp_15 : decode cX5_lacksHelp 15 = .ok (.aaload, 1) := by decide +kernel
theorem dX5_lacksHelp_16 : decode cX5_lacksHelp 16 = .ok (.invokevirtual 92, 3) := by decide +kernel
theorem dX5_lacksHelp_19 : decode cX5_lacksHelp 19 = .ok (.ifCond .eq 5, 3) := by decide +kernel
theorem dX5_lacksHelp_22 : decode cX5_lacksHelp 22 = .ok (.iconst 1, 1) := by decide +kernel
theorem dX5_lacksHelp_23 : decode cX5_lacksHelp 23 = .ok (.ireturn, 1) := by decide +kernel
theorem dX5_lacksHelp_24 : decode cX5_lacksHelp 24 = .ok (.iinc 1 1, 3) := by decide +kernel
theorem dX5_lacksHelp_27 : decode cX5_lacksHelp 27 = .ok (.goto (-25), 3) := by decide +kernel
theorem dX5_lacksHelp_30 : decode cX5_lacksHelp 30 = .ok (.iconst 0, 1) := by decide +kernel
theorem dX5_lacksHelp_31 : decode cX5_lacksHelp 31 = .ok (.ireturn, 1) := by decide +kernel
theorem dX6_init_0 : decode cX6_init 0 = .ok (.aload_n 0, 1) := by decide +kernel
theorem dX6_init_1 : decode cX6_init 1 = .ok (.invokespecial 1, 3) := by decide +kernel
theorem dX6_init_4 : decode cX6_init 4 = .ok (.aload_n 0, 1) := by decide +kernel
theorem dX6_init_5 : decode cX6_init 5 = .ok (.bipush 10, 2) := by decide +kernel
theorem dX6_init_7 : decode cX6_init 7 = .ok (.putfield 7, 3) := by decide +kernel
theorem dX6_init_10 : decode cX6_init 10 = .ok (.aload_n 0, 1) := by decide +kernel
theorem dX6_init_11 : decode cX6_init 11 = .ok (.sipush 1000, 3) := by decide +kernel
theorem dX6_init_14 : decode cX6_init 14 = .ok (.putfield 13, 3) := by decide +kernel
theorem dX6_init_17 : decode cX6_init 17 = .ok (.aload_n 0, 1) := by decide +kernel
theorem dX6_init_18 : decode cX6_init 18 = .ok (.sipush 400, 3) := by decide +kernel
theorem dX6_init_21 : decode cX6_init 21 = .ok (.putfield 16, 3) := by decide +kernel
theorem dX6_init_24 : decode cX6_init 24 = .ok (.aload_n 0, 1) := by decide +kernel
theorem dX6_init_25 : decode cX6_init 25 = .ok (.ldc 19, 2) := by decide +kernel
theorem dX6_init_27 : decode cX6_init 27 = .ok (.putfield 20, 3) := by decide +kernel
theorem dX6_init_30 : decode cX6_init 30 = .ok (.aload_n 0, 1) := by decide +kernel
theorem dX6_init_31 : decode cX6_init 31 = .ok (.iload_n 1, 1) := by decide +kernel
theorem dX6_init_32 : decode cX6_init 32 = .ok (.putfield 23, 3) := by decide +kernel
theorem dX6_init_35 : decode cX6_init 35 = .ok (.return_, 1) := by decide +kernel
theorem dX6_become_0 : decode cX6_become 0 = .ok (.aload_n 0, 1) := by decide +kernel
theorem dX6_become_1 : decode cX6_become 1 = .ok (.iload_n 1, 1) := by decide +kernel
theorem dX6_become_2 : decode cX6_become 2 = .ok (.putfield 7, 3) := by decide +kernel
theorem dX6_become_5 : decode cX6_become 5 = .ok (.aload_n 0, 1) := by decide +kernel
theorem dX6_become_6 : decode cX6_become 6 = .ok (.iload_n 2, 1) := by decide +kernel
theorem dX6_become_7 : decode cX6_become 7 = .ok (.putfield 13, 3) := by decide +kernel
theorem dX6_become_10 : decode cX6_become 10 = .ok (.aload_n 0, 1) := by decide +kernel
theorem dX6_become_11 : decode cX6_become 11 = .ok (.iload_n 3, 1) := by decide +kernel
theorem dX6_become_12 : decode cX6_become 12 = .ok (.putfield 16, 3) := by decide +kernel
theorem dX6_become_15 : decode cX6_become 15 = .ok (.aload_n 0, 1) := by decide +kernel
theorem dX6_become_16 : decode cX6_become 16 = .ok (.iload 4, 2) := by decide +kernel
theorem dX6_become_18 : decode cX6_become 18 = .ok (.putfield 20, 3) := by decide +kernel
theorem dX6_become_21 : decode cX6_become 21 = .ok (.return_, 1) := by decide +kernel
theorem dX6_becomeAs_0 : decode cX6_becomeAs 0 = .ok (.aload_n 0, 1) := by decide +kernel
theorem dX6_becomeAs_1 : decode cX6_becomeAs 1 = .ok (.aload_n 1, 1) := by decide +kernel
theorem dX6_becomeAs_2 : decode cX6_becomeAs 2 = .ok (.getfield 23, 3) := by decide +kernel
theorem dX6_becomeAs_5 : decode cX6_becomeAs 5 = .ok (.putfield 23, 3) := by decide +kernel
theorem dX6_becomeAs_8 : decode cX6_becomeAs 8 = .ok (.aload_n 0, 1) := by decide +kernel
theorem dX6_becomeAs_9 : decode cX6_becomeAs 9 = .ok (.aload_n 1, 1) := by decide +kernel
theorem dX6_becomeAs_10 : decode cX6_becomeAs 10 = .ok (.getfield 7, 3) := by decide +kernel
theorem dX6_becomeAs_13 : decode cX6_becomeAs 13 = .ok (.aload_n 1, 1) := by decide +kernel
theorem dX6_becomeAs_14 : decode cX6_becomeAs 14 = .ok (.getfield 13, 3) := by decide +kernel
theorem dX6_becomeAs_17 : decode cX6_becomeAs 17 = .ok (.aload_n 1, 1) := by decide +kernel
theorem dX6_becomeAs_18 : decode cX6_becomeAs 18 = .ok (.getfield 16, 3) := by decide +kernel
theorem dX6_becomeAs_21 : decode cX6_becomeAs 21 = .ok (.aload_n 1, 1) := by decide +kernel
theorem dX6_becomeAs_22 : decode cX6_becomeAs 22 = .ok (.getfield 20, 3) := by decide +kernel
theorem dX6_becomeAs_25 : decode cX6_becomeAs 25 = .ok (.invokevirtual 26, 3) := by decide +kernel
theorem dX6_becomeAs_28 : decode cX6_becomeAs 28 = .ok (.return_, 1) := by decide +kernel
theorem dX7_init_0 : decode cX7_init 0 = .ok (.aload_n 0, 1) := by decide +kernel
theorem dX7_init_1 : decode cX7_init 1 = .ok (.invokespecial 3, 3) := by decide +kernel
theorem dX7_init_4 : decode cX7_init 4 = .ok (.aload_n 0, 1) := by decide +kernel
theorem dX7_init_5 : decode cX7_init 5 = .ok (.bipush 20, 2) := by decide +kernel
theorem dX7_init_7 : decode cX7_init 7 = .ok (.newarray .float, 2) := by decide +kernel
theorem dX7_init_9 : decode cX7_init 9 = .ok (.putfield 9, 3) := by decide +kernel
theorem dX7_init_12 : decode cX7_init 12 = .ok (.aload_n 0, 1) := by decide +kernel
theorem dX7_init_13 : decode cX7_init 13 = .ok (.bipush 20, 2) := by decide +kernel
theorem dX7_init_15 : decode cX7_init 15 = .ok (.newarray .boolean, 2) := by decide +kernel
theorem dX7_init_17 : decode cX7_init 17 = .ok (.putfield 15, 3) := by decide +kernel
theorem dX7_init_20 : decode cX7_init 20 = .ok (.aload_n 0, 1) := by decide +kernel
theorem dX7_init_21 : decode cX7_init 21 = .ok (.iconst 0, 1) := by decide +kernel
theorem dX7_init_22 : decode cX7_init 22 = .ok (.putfield 19, 3) := by decide +kernel
theorem dX7_init_25 : decode cX7_init 25 = .ok (.aload_n 0, 1) := by decide +kernel
theorem dX7_init_26 : decode cX7_init 26 = .ok (.iconst 0, 1) := by decide +kernel
theorem dX7_init_27 : decode cX7_init 27 = .ok (.putfield 23, 3) := by decide +kernel
theorem dX7_init_30 : decode cX7_init 30 = .ok (.return_, 1) := by decide +kernel
theorem dX7_begin_0 : decode cX7_begin 0 = .ok (.iconst 0, 1) := by decide +kernel
theorem dX7_begin_1 : decode cX7_begin 1 = .ok (.istore_n 2, 1) := by decide +kernel
theorem dX7_begin_2 : decode cX7_begin 2 = .ok (.iload_n 2, 1) := by decide +kernel
theorem dX7_begin_3 : decode cX7_begin 3 = .ok (.aload_n 0, 1) := by decide +kernel
theorem dX7_begin_4 : decode cX7_begin 4 = .ok (.getfield 9, 3) := by decide +kernel
theorem dX7_begin_7 : decode cX7_begin 7 = .ok (.arraylength, 1) := by decide +kernel
theorem dX7_begin_8 : decode cX7_begin 8 = .ok (.if_icmp .ge 23, 3) := by decide +kernel
theorem dX7_begin_11 : decode cX7_begin 11 = .ok (.aload_n 0, 1) := by decide +kernel
theorem dX7_begin_12 : decode cX7_begin 12 = .ok (.getfield 9, 3) := by decide +kernel
theorem dX7_begin_15 : decode cX7_begin 15 = .ok (.iload_n 2, 1) := by decide +kernel
theorem dX7_begin_16 : decode cX7_begin 16 = .ok (.fconst 0, 1) := by decide +kernel
theorem dX7_begin_17 : decode cX7_begin 17 = .ok (.fastore, 1) := by decide +kernel
theorem dX7_begin_18 : decode cX7_begin 18 = .ok (.aload_n 0, 1) := by decide +kernel
theorem dX7_begin_19 : decode cX7_begin 19 = .ok (.getfield 15, 3) := by decide +kernel
theorem dX7_begin_22 : decode cX7_begin 22 = .ok (.iload_n 2, 1) := by decide +kernel
theorem dX7_begin_23 : decode cX7_begin 23 = .ok (.iconst 0, 1) := by decide +kernel
theorem dX7_begin_24 : decode cX7_begin 24 = .ok (.bastore, 1) := by decide +kernel
theorem dX7_begin_25 : decode cX7_begin 25 = .ok (.iinc 2 1, 3) := by decide +kernel
theorem dX7_begin_28 : decode cX7_begin 28 = .ok (.goto (-26), 3) := by decide +kernel
theorem dX7_begin_31 : decode cX7_begin 31 = .ok (.aload_n 0, 1) := by decide +kernel
theorem dX7_begin_32 : decode cX7_begin 32 = .ok (.iload_n 1, 1) := by decide +kernel
theorem dX7_begin_33 : decode cX7_begin 33 = .ok (.putfield 19, 3) := by decide +kernel
theorem dX7_begin_36 : decode cX7_begin 36 = .ok (.aload_n 0, 1) := by decide +kernel
theorem dX7_begin_37 : decode cX7_begin 37 = .ok (.iconst 1, 1) := by decide +kernel
theorem dX7_begin_38 : decode cX7_begin 38 = .ok (.putfield 23, 3) := by decide +kernel
theorem dX7_begin_41 : decode cX7_begin 41 = .ok (.return_, 1) := by decide +kernel
theorem dX7_has_0 : decode cX7_has 0 = .ok (.iload_n 1, 1) := by decide +kernel
theorem dX7_has_1 : decode cX7_has 1 = .ok (.ifCond .lt 24, 3) := by decide +kernel
theorem dX7_has_4 : decode cX7_has 4 = .ok (.iload_n 1, 1) := by decide +kernel
theorem dX7_has_5 : decode cX7_has 5 = .ok (.aload_n 0, 1) := by decide +kernel
theorem dX7_has_6 : decode cX7_has 6 = .ok (.getfield 19, 3) := by decide +kernel
theorem dX7_has_9 : decode cX7_has 9 = .ok (.if_icmp .ge 16, 3) := by decide +kernel
theorem dX7_has_12 : decode cX7_has 12 = .ok (.iload_n 1, 1) := by decide +kernel
theorem dX7_has_13 : decode cX7_has 13 = .ok (.aload_n 0, 1) := by decide +kernel
theorem dX7_has_14 : decode cX7_has 14 = .ok (.getfield 9, 3) := by decide +kernel
theorem dX7_has_17 : decode cX7_has 17 = .ok (.arraylength, 1) := by decide +kernel
theorem dX7_has_18 : decode cX7_has 18 = .ok (.if_icmp .ge 7, 3) := by decide +kernel
theorem dX7_has_21 : decode cX7_has 21 = .ok (.iconst 1, 1) := by decide +kernel
theorem dX7_has_22 : decode cX7_has 22 = .ok (.goto 4, 3) := by decide +kernel
theorem dX7_has_25 : decode cX7_has 25 = .ok (.iconst 0, 1) := by decide +kernel
theorem dX7_has_26 : decode cX7_has 26 = .ok (.ireturn, 1) := by decide +kernel
theorem dX7_write_0 : decode cX7_write 0 = .ok (.aload_n 0, 1) := by decide +kernel
theorem dX7_write_1 : decode cX7_write 1 = .ok (.iload_n 1, 1) := by decide +kernel
theorem dX7_write_2 : decode cX7_write 2 = .ok (.invokevirtual 27, 3) := by decide +kernel
theorem dX7_write_5 : decode cX7_write 5 = .ok (.ifCond .eq 17, 3) := by decide +kernel
theorem dX7_write_8 : decode cX7_write 8 = .ok (.aload_n 0, 1) := by decide +kernel
theorem dX7_write_9 : decode cX7_write 9 = .ok (.getfield 9, 3) := by decide +kernel
theorem dX7_write_12 : decode cX7_write 12 = .ok (.iload_n 1, 1) := by decide +kernel
theorem dX7_write_13 : decode cX7_write 13 = .ok (.fload_n 2, 1) := by decide +kernel
theorem dX7_write_14 : decode cX7_write 14 = .ok (.fastore, 1) := by decide +kernel
theorem dX7_write_15 : decode cX7_write 15 = .ok (.aload_n 0, 1) := by decide +kernel
theorem dX7_write_16 : decode cX7_write 16 = .ok (.getfield 15, 3) := by decide +kernel
theorem dX7_write_19 : decode cX7_write 19 = .ok (.iload_n 1, 1) := by decide +kernel
theorem dX7_write_20 : decode cX7_write 20 = .ok (.iconst 0, 1) := by decide +kernel
theorem dX7_write_21 : decode cX7_write 21 = .ok (.bastore, 1) := by decide +kernel
theorem dX7_write_22 : decode cX7_write 22 = .ok (.return_, 1) := by decide +kernel
theorem dX7_blank_0 : decode cX7_blank 0 = .ok (.aload_n 0, 1) := by decide +kernel
theorem dX7_blank_1 : decode cX7_blank 1 = .ok (.iload_n 1, 1) := by decide +kernel
theorem dX7_blank_2 : decode cX7_blank 2 = .ok (.invokevirtual 27, 3) := by decide +kernel
theorem dX7_blank_5 : decode cX7_blank 5 = .ok (.ifCond .eq 10, 3) := by decide +kernel
theorem dX7_blank_8 : decode cX7_blank 8 = .ok (.aload_n 0, 1) := by decide +kernel
theorem dX7_blank_9 : decode cX7_blank 9 = .ok (.getfield 15, 3) := by decide +kernel
theorem dX7_blank_12 : decode cX7_blank 12 = .ok (.iload_n 1, 1) := by decide +kernel
theorem dX7_blank_13 : decode cX7_blank 13 = .ok (.iconst 1, 1) := by decide +kernel
theorem dX7_blank_14 : decode cX7_blank 14 = .ok (.bastore, 1) := by decide +kernel
theorem dX7_blank_15 : decode cX7_blank 15 = .ok (.return_, 1) := by decide +kernel
theorem dX7_filled_0 : decode cX7_filled 0 = .ok (.aload_n 0, 1) := by decide +kernel
theorem dX7_filled_1 : decode cX7_filled 1 = .ok (.iload_n 1, 1) := by decide +kernel
theorem dX7_filled_2 : decode cX7_filled 2 = .ok (.invokevirtual 27, 3) := by decide +kernel
theorem dX7_filled_5 : decode cX7_filled 5 = .ok (.ifCond .ne 5, 3) := by decide +kernel
theorem dX7_filled_8 : decode cX7_filled 8 = .ok (.fconst 0, 1) := by decide +kernel
theorem dX7_filled_9 : decode cX7_filled 9 = .ok (.freturn, 1) := by decide +kernel
theorem dX7_filled_10 : decode cX7_filled 10 = .ok (.aload_n 0, 1) := by decide +kernel
theorem dX7_filled_11 : decode cX7_filled 11 = .ok (.getfield 15, 3) := by decide +kernel
theorem dX7_filled_14 : decode cX7_filled 14 = .ok (.iload_n 1, 1) := by decide +kernel
theorem dX7_filled_15 : decode cX7_filled 15 = .ok (.baload, 1) := by decide +kernel
theorem dX7_filled_16 : decode cX7_filled 16 = .ok (.ifCond .ne 10, 3) := by decide +kernel
theorem dX7_filled_19 : decode cX7_filled 19 = .ok (.aload_n 0, 1) := by decide +kernel
theorem dX7_filled_20 : decode cX7_filled 20 = .ok (.getfield 9, 3) := by decide +kernel
theorem dX7_filled_23 : decode cX7_filled 23 = .ok (.iload_n 1, 1) := by decide +kernel
theorem dX7_filled_24 : decode cX7_filled 24 = .ok (.faload, 1) := by decide +kernel
theorem dX7_filled_25 : decode cX7_filled 25 = .ok (.freturn, 1) := by decide +kernel
theorem dX7_filled_26 : decode cX7_filled 26 = .ok (.aload_n 0, 1) := by decide +kernel
theorem dX7_filled_27 : decode cX7_filled 27 = .ok (.iload_n 1, 1) := by decide +kernel
theorem dX7_filled_28 : decode cX7_filled 28 = .ok (.invokevirtual 31, 3) := by decide +kernel
theorem dX7_filled_31 : decode cX7_filled 31 = .ok (.istore_n 2, 1) := by decide +kernel
theorem dX7_filled_32 : decode cX7_filled 32 = .ok (.aload_n 0, 1) := by decide +kernel
theorem dX7_filled_33 : decode cX7_filled 33 = .ok (.iload_n 1, 1) := by decide +kernel
theorem dX7_filled_34 : decode cX7_filled 34 = .ok (.invokevirtual 35, 3) := by decide +kernel
theorem dX7_filled_37 : decode cX7_filled 37 = .ok (.istore_n 3, 1) := by decide +kernel
theorem dX7_filled_38 : decode cX7_filled 38 = .ok (.iload_n 2, 1) := by decide +kernel
theorem dX7_filled_39 : decode cX7_filled 39 = .ok (.ifCond .lt 23, 3) := by decide +kernel
theorem dX7_filled_42 : decode cX7_filled 42 = .ok (.iload_n 3, 1) := by decide +kernel
theorem dX7_filled_43 : decode cX7_filled 43 = .ok (.ifCond .lt 19, 3) := by decide +kernel
theorem dX7_filled_46 : decode cX7_filled 46 = .ok (.aload_n 0, 1) := by decide +kernel
theorem dX7_filled_47 : decode cX7_filled 47 = .ok (.getfield 9, 3) := by decide +kernel
theorem dX7_filled_50 : decode cX7_filled 50 = .ok (.iload_n 2, 1) := by decide +kernel
theorem dX7_filled_51 : decode cX7_filled 51 = .ok (.faload, 1) := by decide +kernel
theorem dX7_filled_52 : decode cX7_filled 52 = .ok (.aload_n 0, 1) := by decide +kernel
theorem dX7_filled_53 : decode cX7_filled 53 = .ok (.getfield 9, 3) := by decide +kernel
theorem dX7_filled_56 : decode cX7_filled 56 = .ok (.iload_n 3, 1) := by decide +kernel
theorem dX7_filled_57 : decode cX7_filled 57 = .ok (.faload, 1) := by decide +kernel
theorem dX7_filled_58 : decode cX7_filled 58 = .ok (.fadd, 1) := by decide +kernel
theorem dX7_filled_59 : decode cX7_filled 59 = .ok (.fconst 2, 1) := by decide +kernel
theorem dX7_filled_60 : decode cX7_filled 60 = .ok (.fdiv, 1) := by decide +kernel
theorem dX7_filled_61 : decode cX7_filled 61 = .ok (.freturn, 1) := by decide +kernel
theorem dX7_filled_62 : decode cX7_filled 62 = .ok (.iload_n 2, 1) := by decide +kernel
theorem dX7_filled_63 : decode cX7_filled 63 = .ok (.ifCond .lt 10, 3) := by decide +kernel
theorem dX7_filled_66 : decode cX7_filled 66 = .ok (.aload_n 0, 1) := by decide +kernel
theorem dX7_filled_67 : decode cX7_filled 67 = .ok (.getfield 9, 3) := by decide +kernel
theorem dX7_filled_70 : decode cX7_filled 70 = .ok (.iload_n 2, 1) := by decide +kernel
theorem dX7_filled_71 : decode cX7_filled 71 = .ok (.faload, 1) := by decide +kernel
theorem dX7_filled_72 : decode cX7_filled 72 = .ok (.freturn, 1) := by decide +kernel
theorem dX7_filled_73 : decode cX7_filled 73 = .ok (.iload_n 3, 1) := by decide +kernel
theorem dX7_filled_74 : decode cX7_filled 74 = .ok (.ifCond .lt 12, 3) := by decide +kernel
theorem dX7_filled_77 : decode cX7_filled 77 = .ok (.aload_n 0, 1) := by decide +kernel
theorem dX7_filled_78 : decode cX7_filled 78 = .ok (.getfield 9, 3) := by decide +kernel
theorem dX7_filled_81 : decode cX7_filled 81 = .ok (.iload_n 3, 1) := by decide +kernel
theorem dX7_filled_82 : decode cX7_filled 82 = .ok (.faload, 1) := by decide +kernel
theorem dX7_filled_83 : decode cX7_filled 83 = .ok (.goto 4, 3) := by decide +kernel
theorem dX7_filled_86 : decode cX7_filled 86 = .ok (.fconst 0, 1) := by decide +kernel
theorem dX7_filled_87 : decode cX7_filled 87 = .ok (.freturn, 1) := by decide +kernel
theorem dX7_knownBelow_0 : decode cX7_knownBelow 0 = .ok (.iload_n 1, 1) := by decide +kernel
theorem dX7_knownBelow_1 : decode cX7_knownBelow 1 = .ok (.iconst 1, 1) := by decide +kernel
theorem dX7_knownBelow_2 : decode cX7_knownBelow 2 = .ok (.isub, 1) := by decide +kernel
theorem dX7_knownBelow_3 : decode cX7_knownBelow 3 = .ok (.istore_n 2, 1) := by decide +kernel
theorem dX7_knownBelow_4 : decode cX7_knownBelow 4 = .ok (.iload_n 2, 1) := by decide +kernel
theorem dX7_knownBelow_5 : decode cX7_knownBelow 5 = .ok (.ifCond .lt 20, 3) := by decide +kernel
theorem dX7_knownBelow_8 : decode cX7_knownBelow 8 = .ok (.aload_n 0, 1) := by decide +kernel
theorem dX7_knownBelow_9 : decode cX7_knownBelow 9 = .ok (.getfield 15, 3) := by decide +kernel
theorem dX7_knownBelow_12 : decode cX7_knownBelow 12 = .ok (.iload_n 2, 1) := by decide +kernel
theorem dX7_knownBelow_13 : decode cX7_knownBelow 13 = .ok (.baload, 1) := by decide +kernel
theorem dX7_knownBelow_14 : decode cX7_knownBelow 14 = .ok (.ifCond .ne 5, 3) := by decide +kernel
theorem dX7_knownBelow_17 : decode cX7_knownBelow 17 = .ok (.iload_n 2, 1) := by decide +kernel
theorem dX7_knownBelow_18 : decode cX7_knownBelow 18 = .ok (.ireturn, 1) := by decide +kernel
theorem dX7_knownBelow_19 : decode cX7_knownBelow 19 = .ok (.iinc 2 (-1), 3) := by decide +kernel
theorem dX7_knownBelow_22 : decode cX7_knownBelow 22 = .ok (.goto (-18), 3) := by decide +kernel
theorem dX7_knownBelow_25 : decode cX7_knownBelow 25 = .ok (.iconst (-1), 1) := by decide +kernel
theorem dX7_knownBelow_26 : decode cX7_knownBelow 26 = .ok (.ireturn, 1) := by decide +kernel
theorem dX7_knownAbove_0 : decode cX7_knownAbove 0 = .ok (.iload_n 1, 1) := by decide +kernel
theorem dX7_knownAbove_1 : decode cX7_knownAbove 1 = .ok (.iconst 1, 1) := by decide +kernel
theorem dX7_knownAbove_2 : decode cX7_knownAbove 2 = .ok (.iadd, 1) := by decide +kernel
theorem dX7_knownAbove_3 : decode cX7_knownAbove 3 = .ok (.istore_n 2, 1) := by decide +kernel
theorem dX7_knownAbove_4 : decode cX7_knownAbove 4 = .ok (.iload_n 2, 1) := by decide +kernel
theorem dX7_knownAbove_5 : decode cX7_knownAbove 5 = .ok (.aload_n 0, 1) := by decide +kernel
theorem dX7_knownAbove_6 : decode cX7_knownAbove 6 = .ok (.getfield 19, 3) := by decide +kernel
theorem dX7_knownAbove_9 : decode cX7_knownAbove 9 = .ok (.if_icmp .ge 20, 3) := by decide +kernel
theorem dX7_knownAbove_12 : decode cX7_knownAbove 12 = .ok (.aload_n 0, 1) := by decide +kernel
theorem dX7_knownAbove_13 : decode cX7_knownAbove 13 = .ok (.getfield 15, 3) := by decide +kernel
theorem dX7_knownAbove_16 : decode cX7_knownAbove 16 = .ok (.iload_n 2, 1) := by decide +kernel
theorem dX7_knownAbove_17 : decode cX7_knownAbove 17 = .ok (.baload, 1) := by decide +kernel
theorem dX7_knownAbove_18 : decode cX7_knownAbove 18 = .ok (.ifCond .ne 5, 3) := by decide +kernel
theorem dX7_knownAbove_21 : decode cX7_knownAbove 21 = .ok (.iload_n 2, 1) := by decide +kernel
theorem dX7_knownAbove_22 : decode cX7_knownAbove 22 = .ok (.ireturn, 1) := by decide +kernel
theorem dX7_knownAbove_23 : decode cX7_knownAbove 23 = .ok (.iinc 2 1, 3) := by decide +kernel
theorem dX7_knownAbove_26 : decode cX7_knownAbove 26 = .ok (.goto (-22), 3) := by decide +kernel
theorem dX7_knownAbove_29 : decode cX7_knownAbove 29 = .ok (.iconst (-1), 1) := by decide +kernel
theorem dX7_knownAbove_30 : decode cX7_knownAbove 30 = .ok (.ireturn, 1) := by decide +kernel
theorem dX7_windOf_0 : decode cX7_windOf 0 = .ok (.aload_n 0, 1) := by decide +kernel
theorem dX7_windOf_1 : decode cX7_windOf 1 = .ok (.iload_n 1, 1) := by decide +kernel
theorem dX7_windOf_2 : decode cX7_windOf 2 = .ok (.aload_n 0, 1) := by decide +kernel
theorem dX7_windOf_3 : decode cX7_windOf 3 = .ok (.getfield 19, 3) := by decide +kernel
theorem dX7_windOf_6 : decode cX7_windOf 6 = .ok (.iconst 1, 1) := by decide +kernel
theorem dX7_windOf_7 : decode cX7_windOf 7 = .ok (.isub, 1) := by decide +kernel
theorem dX7_windOf_8 : decode cX7_windOf 8 = .ok (.invokestatic 38, 3) := by decide +kernel
theorem dX7_windOf_11 : decode cX7_windOf 11 = .ok (.invokevirtual 44, 3) := by decide +kernel
theorem dX7_windOf_14 : decode cX7_windOf 14 = .ok (.ldc 48, 2) := by decide +kernel
theorem dX7_windOf_16 : decode cX7_windOf 16 = .ok (.fmul, 1) := by decide +kernel
theorem dX7_windOf_17 : decode cX7_windOf 17 = .ok (.f2i, 1) := by decide +kernel
theorem dX7_windOf_18 : decode cX7_windOf 18 = .ok (.ireturn, 1) := by decide +kernel
theorem dX8_init_0 : decode cX8_init 0 = .ok (.aload_n 0, 1) := by decide +kernel
theorem dX8_init_1 : decode cX8_init 1 = .ok (.invokespecial 1, 3) := by decide +kernel
theorem dX8_init_4 : decode cX8_init 4 = .ok (.aload_n 0, 1) := by decide +kernel
theorem dX8_init_5 : decode cX8_init 5 = .ok (.iconst 3, 1) := by decide +kernel
theorem dX8_init_6 : decode cX8_init 6 = .ok (.anewarray 9, 3) := by decide +kernel
theorem dX8_init_9 : decode cX8_init 9 = .ok (.putfield 11, 3) := by decide +kernel
theorem dX8_init_12 : decode cX8_init 12 = .ok (.aload_n 0, 1) := by decide +kernel
theorem dX8_init_13 : decode cX8_init 13 = .ok (.new 15, 3) := by decide +kernel
theorem dX8_init_16 : decode cX8_init 16 = .ok (.dup, 1) := by decide +kernel
theorem dX8_init_17 : decode cX8_init 17 = .ok (.invokespecial 17, 3) := by decide +kernel
theorem dX8_init_20 : decode cX8_init 20 = .ok (.putfield 18, 3) := by decide +kernel
theorem dX8_init_23 : decode cX8_init 23 = .ok (.aload_n 0, 1) := by decide +kernel
theorem dX8_init_24 : decode cX8_init 24 = .ok (.bipush 32, 2) := by decide +kernel
theorem dX8_init_26 : decode cX8_init 26 = .ok (.anewarray 22, 3) := by decide +kernel
theorem dX8_init_29 : decode cX8_init 29 = .ok (.putfield 24, 3) := by decide +kernel
theorem dX8_init_32 : decode cX8_init 32 = .ok (.aload_n 0, 1) := by decide +kernel
theorem dX8_init_33 : decode cX8_init 33 = .ok (.bipush 20, 2) := by decide +kernel
theorem dX8_init_35 : decode cX8_init 35 = .ok (.anewarray 28, 3) := by decide +kernel
theorem dX8_init_38 : decode cX8_init 38 = .ok (.putfield 30, 3) := by decide +kernel
theorem dX8_init_41 : decode cX8_init 41 = .ok (.aload_n 0, 1) := by decide +kernel
theorem dX8_init_42 : decode cX8_init 42 = .ok (.iconst 3, 1) := by decide +kernel
theorem dX8_init_43 : decode cX8_init 43 = .ok (.anewarray 34, 3) := by decide +kernel
theorem dX8_init_46 : decode cX8_init 46 = .ok (.putfield 36, 3) := by decide +kernel
theorem dX8_init_49 : decode cX8_init 49 = .ok (.aload_n 0, 1) := by decide +kernel
theorem dX8_init_50 : decode cX8_init 50 = .ok (.bipush 12, 2) := by decide +kernel
theorem dX8_init_52 : decode cX8_init 52 = .ok (.anewarray 40, 3) := by decide +kernel
theorem dX8_init_55 : decode cX8_init 55 = .ok (.putfield 42, 3) := by decide +kernel
theorem dX8_init_58 : decode cX8_init 58 = .ok (.aload_n 0, 1) := by decide +kernel
theorem dX8_init_59 : decode cX8_init 59 = .ok (.getstatic 46, 3) := by decide +kernel
theorem dX8_init_62 : decode cX8_init 62 = .ok (.invokevirtual 50, 3) := by decide +kernel
theorem dX8_init_65 : decode cX8_init 65 = .ok (.checkcast 51, 3) := by decide +kernel
theorem dX8_init_68 : decode cX8_init 68 = .ok (.putfield 55, 3) := by decide +kernel
theorem dX8_init_71 : decode cX8_init 71 = .ok (.aload_n 0, 1) := by decide +kernel
theorem dX8_init_72 : decode cX8_init 72 = .ok (.bipush 6, 2) := by decide +kernel
theorem dX8_init_74 : decode cX8_init 74 = .ok (.anewarray 58, 3) := by decide +kernel
theorem dX8_init_77 : decode cX8_init 77 = .ok (.putfield 60, 3) := by decide +kernel
theorem dX8_init_80 : decode cX8_init 80 = .ok (.aload_n 0, 1) := by decide +kernel
theorem dX8_init_81 : decode cX8_init 81 = .ok (.new 64, 3) := by decide +kernel
theorem dX8_init_84 : decode cX8_init 84 = .ok (.dup, 1) := by decide +kernel
theorem dX8_init_85 : decode cX8_init 85 = .ok (.invokespecial 66, 3) := by decide +kernel
theorem dX8_init_88 : decode cX8_init 88 = .ok (.putfield 67, 3) := by decide +kernel
theorem dX8_init_91 : decode cX8_init 91 = .ok (.aload_n 0, 1) := by decide +kernel
theorem dX8_init_92 : decode cX8_init 92 = .ok (.iconst 0, 1) := by decide +kernel
theorem dX8_init_93 : decode cX8_init 93 = .ok (.putfield 71, 3) := by decide +kernel
theorem dX8_init_96 : decode cX8_init 96 = .ok (.aload_n 0, 1) := by decide +kernel
theorem dX8_init_97 : decode cX8_init 97 = .ok (.iconst 0, 1) := by decide +kernel
theorem dX8_init_98 : decode cX8_init 98 = .ok (.putfield 75, 3) := by decide +kernel
theorem dX8_init_101 : decode cX8_init 101 = .ok (.iconst 0, 1) := by decide +kernel
theorem dX8_init_102 : decode cX8_init 102 = .ok (.istore_n 1, 1) := by decide +kernel
theorem dX8_init_103 : decode cX8_init 103 = .ok (.iload_n 1, 1) := by decide +kernel
theorem dX8_init_104 : decode cX8_init 104 = .ok (.aload_n 0, 1) := by decide +kernel
theorem dX8_init_105 : decode cX8_init 105 = .ok (.getfield 11, 3) := by decide +kernel
theorem dX8_init_108 : decode cX8_init 108 = .ok (.arraylength, 1) := by decide +kernel
theorem dX8_init_109 : decode cX8_init 109 = .ok (.if_icmp .ge 22, 3) := by decide +kernel
theorem dX8_init_112 : decode cX8_init 112 = .ok (.aload_n 0, 1) := by decide +kernel
theorem dX8_init_113 : decode cX8_init 113 = .ok (.getfield 11, 3) := by decide +kernel
theorem dX8_init_116 : decode cX8_init 116 = .ok (.iload_n 1, 1) := by decide +kernel
theorem dX8_init_117 : decode cX8_init 117 = .ok (.new 9, 3) := by decide +kernel
theorem dX8_init_120 : decode cX8_init 120 = .ok (.dup, 1) := by decide +kernel
theorem dX8_init_121 : decode cX8_init 121 = .ok (.invokespecial 78, 3) := by decide +kernel
theorem dX8_init_124 : decode cX8_init 124 = .ok (.aastore, 1) := by decide +kernel
theorem dX8_init_125 : decode cX8_init 125 = .ok (.iinc 1 1, 3) := by decide +kernel
theorem dX8_init_128 : decode cX8_init 128 = .ok (.goto (-25), 3) := by decide +kernel
theorem dX8_init_131 : decode cX8_init 131 = .ok (.iconst 0, 1) := by decide +kernel
theorem dX8_init_132 : decode cX8_init 132 = .ok (.istore_n 1, 1) := by decide +kernel
theorem dX8_init_133 : decode cX8_init 133 = .ok (.iload_n 1, 1) := by decide +kernel
theorem dX8_init_134 : decode cX8_init 134 = .ok (.aload_n 0, 1) := by decide +kernel
theorem dX8_init_135 : decode cX8_init 135 = .ok (.getfield 24, 3) := by decide +kernel
theorem dX8_init_138 : decode cX8_init 138 = .ok (.arraylength, 1) := by decide +kernel
theorem dX8_init_139 : decode cX8_init 139 = .ok (.if_icmp .ge 23, 3) := by decide +kernel
theorem dX8_init_142 : decode cX8_init 142 = .ok (.aload_n 0, 1) := by decide +kernel
theorem dX8_init_143 : decode cX8_init 143 = .ok (.getfield 24, 3) := by decide +kernel
theorem dX8_init_146 : decode cX8_init 146 = .ok (.iload_n 1, 1) := by decide +kernel
theorem dX8_init_147 : decode cX8_init 147 = .ok (.new 22, 3) := by decide +kernel
theorem dX8_init_150 : decode cX8_init 150 = .ok (.dup, 1) := by decide +kernel
theorem dX8_init_151 : decode cX8_init 151 = .ok (.iload_n 1, 1) := by decide +kernel
theorem dX8_init_152 : decode cX8_init 152 = .ok (.invokespecial 79, 3) := by decide +kernel
theorem dX8_init_155 : decode cX8_init 155 = .ok (.aastore, 1) := by decide +kernel
theorem dX8_init_156 : decode cX8_init 156 = .ok (.iinc 1 1, 3) := by decide +kernel
theorem dX8_init_159 : decode cX8_init 159 = .ok (.goto (-26), 3) := by decide +kernel
theorem dX8_init_162 : decode cX8_init 162 = .ok (.iconst 0, 1) := by decide +kernel
theorem dX8_init_163 : decode cX8_init 163 = .ok (.istore_n 1, 1) := by decide +kernel
theorem dX8_init_164 : decode cX8_init 164 = .ok (.iload_n 1, 1) := by decide +kernel
theorem dX8_init_165 : decode cX8_init 165 = .ok (.aload_n 0, 1) := by decide +kernel
theorem dX8_init_166 : decode cX8_init 166 = .ok (.getfield 30, 3) := by decide +kernel
theorem dX8_init_169 : decode cX8_init 169 = .ok (.arraylength, 1) := by decide +kernel
theorem dX8_init_170 : decode cX8_init 170 = .ok (.if_icmp .ge 23, 3) := by decide +kernel
theorem dX8_init_173 : decode cX8_init 173 = .ok (.aload_n 0, 1) := by decide +kernel
theorem dX8_init_174 : decode cX8_init 174 = .ok (.getfield 30, 3) := by decide +kernel
theorem dX8_init_177 : decode cX8_init 177 = .ok (.iload_n 1, 1) := by decide +kernel
theorem dX8_init_178 : decode cX8_init 178 = .ok (.new 28, 3) := by decide +kernel
theorem dX8_init_181 : decode cX8_init 181 = .ok (.dup, 1) := by decide +kernel
theorem dX8_init_182 : decode cX8_init 182 = .ok (.iload_n 1, 1) := by decide +kernel
theorem dX8_init_183 : decode cX8_init 183 = .ok (.invokespecial 82, 3) := by decide +kernel
theorem dX8_init_186 : decode cX8_init 186 = .ok (.aastore, 1) := by decide +kernel
theorem dX8_init_187 : decode cX8_init 187 = .ok (.iinc 1 1, 3) := by decide +kernel
theorem dX8_init_190 : decode cX8_init 190 = .ok (.goto (-26), 3) := by decide +kernel
theorem dX8_init_193 : decode cX8_init 193 = .ok (.iconst 0, 1) := by decide +kernel
theorem dX8_init_194 : decode cX8_init 194 = .ok (.istore_n 1, 1) := by decide +kernel
theorem dX8_init_195 : decode cX8_init 195 = .ok (.iload_n 1, 1) := by decide +kernel
theorem dX8_init_196 : decode cX8_init 196 = .ok (.aload_n 0, 1) := by decide +kernel
theorem dX8_init_197 : decode cX8_init 197 = .ok (.getfield 36, 3) := by decide +kernel
theorem dX8_init_200 : decode cX8_init 200 = .ok (.arraylength, 1) := by decide +kernel
theorem dX8_init_201 : decode cX8_init 201 = .ok (.if_icmp .ge 23, 3) := by decide +kernel
theorem dX8_init_204 : decode cX8_init 204 = .ok (.aload_n 0, 1) := by decide +kernel
theorem dX8_init_205 : decode cX8_init 205 = .ok (.getfield 36, 3) := by decide +kernel
theorem dX8_init_208 : decode cX8_init 208 = .ok (.iload_n 1, 1) := by decide +kernel
theorem dX8_init_209 : decode cX8_init 209 = .ok (.new 34, 3) := by decide +kernel
theorem dX8_init_212 : decode cX8_init 212 = .ok (.dup, 1) := by decide +kernel
theorem dX8_init_213 : decode cX8_init 213 = .ok (.iload_n 1, 1) := by decide +kernel
theorem dX8_init_214 : decode cX8_init 214 = .ok (.invokespecial 83, 3) := by decide +kernel
theorem dX8_init_217 : decode cX8_init 217 = .ok (.aastore, 1) := by decide +kernel
theorem dX8_init_218 : decode cX8_init 218 = .ok (.iinc 1 1, 3) := by decide +kernel
theorem dX8_init_221 : decode cX8_init 221 = .ok (.goto (-26), 3) := by decide +kernel
theorem dX8_init_224 : decode cX8_init 224 = .ok (.iconst 0, 1) := by decide +kernel
theorem dX8_init_225 : decode cX8_init 225 = .ok (.istore_n 1, 1) := by decide +kernel
theorem dX8_init_226 : decode cX8_init 226 = .ok (.iload_n 1, 1) := by decide +kernel
theorem dX8_init_227 : decode cX8_init 227 = .ok (.aload_n 0, 1) := by decide +kernel
theorem dX8_init_228 : decode cX8_init 228 = .ok (.getfield 42, 3) := by decide +kernel
theorem dX8_init_231 : decode cX8_init 231 = .ok (.arraylength, 1) := by decide +kernel
theorem dX8_init_232 : decode cX8_init 232 = .ok (.if_icmp .ge 22, 3) := by decide +kernel
theorem dX8_init_235 : decode cX8_init 235 = .ok (.aload_n 0, 1) := by decide +kernel
theorem dX8_init_236 : decode cX8_init 236 = .ok (.getfield 42, 3) := by decide +kernel
theorem dX8_init_239 : decode cX8_init 239 = .ok (.iload_n 1, 1) := by decide +kernel
theorem dX8_init_240 : decode cX8_init 240 = .ok (.new 40, 3) := by decide +kernel
theorem dX8_init_243 : decode cX8_init 243 = .ok (.dup, 1) := by decide +kernel
theorem dX8_init_244 : decode cX8_init 244 = .ok (.invokespecial 84, 3) := by decide +kernel
theorem dX8_init_247 : decode cX8_init 247 = .ok (.aastore, 1) := by decide +kernel
theorem dX8_init_248 : decode cX8_init 248 = .ok (.iinc 1 1, 3) := by decide +kernel
theorem dX8_init_251 : decode cX8_init 251 = .ok (.goto (-25), 3) := by decide +kernel
theorem dX8_init_254 : decode cX8_init 254 = .ok (.iconst 0, 1) := by decide +kernel
theorem dX8_init_255 : decode cX8_init 255 = .ok (.istore_n 1, 1) := by decide +kernel
theorem dX8_init_256 : decode cX8_init 256 = .ok (.iload_n 1, 1) := by decide +kernel
theorem dX8_init_257 : decode cX8_init 257 = .ok (.aload_n 0, 1) := by decide +kernel
theorem dX8_init_258 : decode cX8_init 258 = .ok (.getfield 60, 3) := by decide +kernel
theorem dX8_init_261 : decode cX8_init 261 = .ok (.arraylength, 1) := by decide +kernel
theorem dX8_init_262 : decode cX8_init 262 = .ok (.if_icmp .ge 22, 3) := by decide +kernel
theorem dX8_init_265 : decode cX8_init 265 = .ok (.aload_n 0, 1) := by decide +kernel
theorem dX8_init_266 : decode cX8_init 266 = .ok (.getfield 60, 3) := by decide +kernel
theorem dX8_init_269 : decode cX8_init 269 = .ok (.iload_n 1, 1) := by decide +kernel
theorem dX8_init_270 : decode cX8_init 270 = .ok (.new 58, 3) := by decide +kernel
theorem dX8_init_273 : decode cX8_init 273 = .ok (.dup, 1) := by decide +kernel
theorem dX8_init_274 : decode cX8_init 274 = .ok (.invokespecial 85, 3) := by decide +kernel
theorem dX8_init_277 : decode cX8_init 277 = .ok (.aastore, 1) := by decide +kernel
theorem dX8_init_278 : decode cX8_init 278 = .ok (.iinc 1 1, 3) := by decide +kernel
theorem dX8_init_281 : decode cX8_init 281 = .ok (.goto (-25), 3) := by decide +kernel
theorem dX8_init_284 : decode cX8_init 284 = .ok (.return_, 1) := by decide +kernel
theorem dX8_sheet_0 : decode cX8_sheet 0 = .ok (.aload_n 0, 1) := by decide +kernel
theorem dX8_sheet_1 : decode cX8_sheet 1 = .ok (.iload_n 1, 1) := by decide +kernel
theorem dX8_sheet_2 : decode cX8_sheet 2 = .ok (.invokevirtual 86, 3) := by decide +kernel
theorem dX8_sheet_5 : decode cX8_sheet 5 = .ok (.astore_n 3, 1) := by decide +kernel
theorem dX8_sheet_6 : decode cX8_sheet 6 = .ok (.aload_n 3, 1) := by decide +kernel
theorem dX8_sheet_7 : decode cX8_sheet 7 = .ok (.ifnonnull 5, 3) := by decide +kernel
theorem dX8_sheet_10 : decode cX8_sheet 10 = .ok (.iconst (-1), 1) := by decide +kernel
theorem dX8_sheet_11 : decode cX8_sheet 11 = .ok (.ireturn, 1) := by decide +kernel
theorem dX8_sheet_12 : decode cX8_sheet 12 = .ok (.iload_n 2, 1) := by decide +kernel
theorem dX8_sheet_13 : decode cX8_sheet 13 = .ok (.ifCond .ge 6, 3) := by decide +kernel
theorem dX8_sheet_16 : decode cX8_sheet 16 = .ok (.bipush (-4), 2) := by decide +kernel
theorem dX8_sheet_18 : decode cX8_sheet 18 = .ok (.ireturn, 1) := by decide +kernel
theorem dX8_sheet_19 : decode cX8_sheet 19 = .ok (.iload_n 2, 1) := by decide +kernel
theorem dX8_sheet_20 : decode cX8_sheet 20 = .ok (.bipush 20, 2) := by decide +kernel
theorem dX8_sheet_22 : decode cX8_sheet 22 = .ok (.if_icmp .le 5, 3) := by decide +kernel
theorem dX8_sheet_25 : decode cX8_sheet 25 = .ok (.iconst (-1), 1) := by decide +kernel
theorem dX8_sheet_26 : decode cX8_sheet 26 = .ok (.ireturn, 1) := by decide +kernel
theorem dX8_sheet_27 : decode cX8_sheet 27 = .ok (.aload_n 3, 1) := by decide +kernel
theorem dX8_sheet_28 : decode cX8_sheet 28 = .ok (.iload_n 2, 1) := by decide +kernel
theorem dX8_sheet_29 : decode cX8_sheet 29 = .ok (.invokevirtual 90, 3) := by decide +kernel
theorem dX8_sheet_32 : decode cX8_sheet 32 = .ok (.iconst 1, 1) := by decide +kernel
theorem dX8_sheet_33 : decode cX8_sheet 33 = .ok (.ireturn, 1) := by decide +kernel
theorem dX8_cell_0 : decode cX8_cell 0 = .ok (.aload_n 0, 1) := by decide +kernel
theorem dX8_cell_1 : decode cX8_cell 1 = .ok (.iload_n 1, 1) := by decide +kernel
theorem dX8_cell_2 : decode cX8_cell 2 = .ok (.invokevirtual 86, 3) := by decide +kernel
theorem dX8_cell_5 : decode cX8_cell 5 = .ok (.astore 5, 2) := by decide +kernel
theorem dX8_cell_7 : decode cX8_cell 7 = .ok (.aload 5, 2) := by decide +kernel
theorem dX8_cell_9 : decode cX8_cell 9 = .ok (.ifnull 14, 3) := by decide +kernel
theorem dX8_cell_12 : decode cX8_cell 12 = .ok (.iload 4, 2) := by decide +kernel
theorem dX8_cell_14 : decode cX8_cell 14 = .ok (.iconst 0, 1) := by decide +kernel
theorem dX8_cell_15 : decode cX8_cell 15 = .ok (.bipush 20, 2) := by decide +kernel
theorem dX8_cell_17 : decode cX8_cell 17 = .ok (.invokestatic 93, 3) := by decide +kernel
theorem dX8_cell_20 : decode cX8_cell 20 = .ok (.ifCond .ne 5, 3) := by decide +kernel
theorem dX8_cell_23 : decode cX8_cell 23 = .ok (.iconst (-1), 1) := by decide +kernel
theorem dX8_cell_24 : decode cX8_cell 24 = .ok (.ireturn, 1) := by decide +kernel
theorem dX8_cell_25 : decode cX8_cell 25 = .ok (.aload 5, 2) := by decide +kernel
theorem dX8_cell_27 : decode cX8_cell 27 = .ok (.getfield 97, 3) := by decide +kernel
theorem dX8_cell_30 : decode cX8_cell 30 = .ok (.ifCond .ne 6, 3) := by decide +kernel
theorem dX8_cell_33 : decode cX8_cell 33 = .ok (.bipush (-3), 2) := by decide +kernel
theorem dX8_cell_35 : decode cX8_cell 35 = .ok (.ireturn, 1) := by decide +kernel
theorem dX8_cell_36 : decode cX8_cell 36 = .ok (.aload 5, 2) := by decide +kernel
theorem dX8_cell_38 : decode cX8_cell 38 = .ok (.iload_n 2, 1) := by decide +kernel
theorem dX8_cell_39 : decode cX8_cell 39 = .ok (.invokevirtual 101, 3) := by decide +kernel
theorem dX8_cell_42 : decode cX8_cell 42 = .ok (.ifCond .ne 5, 3) := by decide +kernel
theorem dX8_cell_45 : decode cX8_cell 45 = .ok (.iconst (-1), 1) := by decide +kernel
theorem dX8_cell_46 : decode cX8_cell 46 = .ok (.ireturn, 1) := by decide +kernel
theorem dX8_cell_47 : decode cX8_cell 47 = .ok (.aload 5, 2) := by decide +kernel
theorem dX8_cell_49 : decode cX8_cell 49 = .ok (.iload_n 2, 1) := by decide +kernel
theorem dX8_cell_50 : decode cX8_cell 50 = .ok (.iload_n 3, 1) := by decide +kernel
theorem dX8_cell_51 : decode cX8_cell 51 = .ok (.i2f, 1) := by decide +kernel
theorem dX8_cell_52 : decode cX8_cell 52 = .ok (.iconst 1, 1) := by decide +kernel
theorem dX8_cell_53 : decode cX8_cell 53 = .ok (.iload 4, 2) := by decide +kernel
theorem dX8_cell_55 : decode cX8_cell 55 = .ok (.ishl, 1) := by decide +kernel
theorem dX8_cell_56 : decode cX8_cell 56 = .ok (.i2f, 1) := by decide +kernel
theorem dX8_cell_57 : decode cX8_cell 57 = .ok (.fdiv, 1) := by decide +kernel
theorem dX8_cell_58 : decode cX8_cell 58 = .ok (.invokevirtual 105, 3) := by decide +kernel
theorem dX8_cell_61 : decode cX8_cell 61 = .ok (.iconst 1, 1) := by decide +kernel
theorem dX8_cell_62 : decode cX8_cell 62 = .ok (.ireturn, 1) := by decide +kernel
theorem dX8_gap_0 : decode cX8_gap 0 = .ok (.aload_n 0, 1) := by decide +kernel
theorem dX8_gap_1 : decode cX8_gap 1 = .ok (.iload_n 1, 1) := by decide +kernel
theorem dX8_gap_2 : decode cX8_gap 2 = .ok (.invokevirtual 86, 3) := by decide +kernel
theorem dX8_gap_5 : decode cX8_gap 5 = .ok (.astore_n 3, 1) := by decide +kernel
theorem dX8_gap_6 : decode cX8_gap 6 = .ok (.aload_n 3, 1) := by decide +kernel
theorem dX8_gap_7 : decode cX8_gap 7 = .ok (.ifnonnull 5, 3) := by decide +kernel
theorem dX8_gap_10 : decode cX8_gap 10 = .ok (.iconst (-1), 1) := by decide +kernel
theorem dX8_gap_11 : decode cX8_gap 11 = .ok (.ireturn, 1) := by decide +kernel
theorem dX8_gap_12 : decode cX8_gap 12 = .ok (.aload_n 3, 1) := by decide +kernel
theorem dX8_gap_13 : decode cX8_gap 13 = .ok (.getfield 97, 3) := by decide +kernel
theorem dX8_gap_16 : decode cX8_gap 16 = .ok (.ifCond .ne 6, 3) := by decide +kernel
theorem dX8_gap_19 : decode cX8_gap 19 = .ok (.bipush (-3), 2) := by decide +kernel
theorem dX8_gap_21 : decode cX8_gap 21 = .ok (.ireturn, 1) := by decide +kernel
theorem dX8_gap_22 : decode cX8_gap 22 = .ok (.aload_n 3, 1) := by decide +kernel
theorem dX8_gap_23 : decode cX8_gap 23 = .ok (.iload_n 2, 1) := by decide +kernel
theorem dX8_gap_24 : decode cX8_gap 24 = .ok (.invokevirtual 101, 3) := by decide +kernel
theorem dX8_gap_27 : decode cX8_gap 27 = .ok (.ifCond .ne 5, 3) := by decide +kernel
theorem dX8_gap_30 : decode cX8_gap 30 = .ok (.iconst (-1), 1) := by decide +kernel
theorem dX8_gap_31 : decode cX8_gap 31 = .ok (.ireturn, 1) := by decide +kernel
theorem dX8_gap_32 : decode cX8_gap 32 = .ok (.aload_n 3, 1) := by decide +kernel
theorem dX8_gap_33 : decode cX8_gap 33 = .ok (.iload_n 2, 1) := by decide +kernel
theorem dX8_gap_34 : decode cX8_gap 34 = .ok (.invokevirtual 109, 3) := by decide +kernel
theorem dX8_gap_37 : decode cX8_gap 37 = .ok (.iconst 1, 1) := by decide +kernel
theorem dX8_gap_38 : decode cX8_gap 38 = .ok (.ireturn, 1) := by decide +kernel
theorem dX8_lose_0 : decode cX8_lose 0 = .ok (.aload_n 0, 1) := by decide +kernel
theorem dX8_lose_1 : decode cX8_lose 1 = .ok (.iload_n 1, 1) := by decide +kernel
theorem dX8_lose_2 : decode cX8_lose 2 = .ok (.invokevirtual 86, 3) := by decide +kernel
theorem dX8_lose_5 : decode cX8_lose 5 = .ok (.astore_n 2, 1) := by decide +kernel
theorem dX8_lose_6 : decode cX8_lose 6 = .ok (.aload_n 2, 1) := by decide +kernel
theorem dX8_lose_7 : decode cX8_lose 7 = .ok (.ifnonnull 5, 3) := by decide +kernel
theorem dX8_lose_10 : decode cX8_lose 10 = .ok (.iconst (-1), 1) := by decide +kernel
theorem dX8_lose_11 : decode cX8_lose 11 = .ok (.ireturn, 1) := by decide +kernel
theorem dX8_lose_12 : decode cX8_lose 12 = .ok (.aload_n 2, 1) := by decide +kernel
theorem dX8_lose_13 : decode cX8_lose 13 = .ok (.getfield 97, 3) := by decide +kernel
theorem dX8_lose_16 : decode cX8_lose 16 = .ok (.ifCond .ne 6, 3) := by decide +kernel
theorem dX8_lose_19 : decode cX8_lose 19 = .ok (.bipush (-3), 2) := by decide +kernel
theorem dX8_lose_21 : decode cX8_lose 21 = .ok (.ireturn, 1) := by decide +kernel
theorem dX8_lose_22 : decode cX8_lose 22 = .ok (.aload_n 2, 1) := by decide +kernel
theorem dX8_lose_23 : decode cX8_lose 23 = .ok (.iconst 0, 1) := by decide +kernel
theorem dX8_lose_24 : decode cX8_lose 24 = .ok (.putfield 97, 3) := by decide +kernel
theorem dX8_lose_27 : decode cX8_lose 27 = .ok (.iconst 1, 1) := by decide +kernel
theorem dX8_lose_28 : decode cX8_lose 28 = .ok (.ireturn, 1) := by decide +kernel
theorem dX8_told_0 : decode cX8_told 0 = .ok (.aload_n 0, 1) := by decide +kernel
theorem dX8_told_1 : decode cX8_told 1 = .ok (.iload_n 1, 1) := by decide +kernel
theorem dX8_told_2 : decode cX8_told 2 = .ok (.invokevirtual 86, 3) := by decide +kernel
theorem dX8_told_5 : decode cX8_told 5 = .ok (.astore_n 3, 1) := by decide +kernel
theorem dX8_told_6 : decode cX8_told 6 = .ok (.aload_n 3, 1) := by decide +kernel
theorem dX8_told_7 : decode cX8_told 7 = .ok (.ifnull 18, 3) := by decide +kernel
theorem dX8_told_10 : decode cX8_told 10 = .ok (.aload_n 3, 1) := by decide +kernel
theorem dX8_told_11 : decode cX8_told 11 = .ok (.getfield 97, 3) := by decide +kernel
theorem dX8_told_14 : decode cX8_told 14 = .ok (.ifCond .eq 11, 3) := by decide +kernel
theorem dX8_told_17 : decode cX8_told 17 = .ok (.aload_n 3, 1) := by decide +kernel
theorem dX8_told_18 : decode cX8_told 18 = .ok (.iload_n 2, 1) := by decide +kernel
theorem dX8_told_19 : decode cX8_told 19 = .ok (.invokevirtual 101, 3) := by decide +kernel
theorem dX8_told_22 : decode cX8_told 22 = .ok (.ifCond .ne 6, 3) := by decide +kernel
theorem dX8_told_25 : decode cX8_told 25 = .ok (.ldc 112, 2) := by decide +kernel
theorem dX8_told_27 : decode cX8_told 27 = .ok (.ireturn, 1) := by decide +kernel
theorem dX8_told_28 : decode cX8_told 28 = .ok (.aload_n 3, 1) := by decide +kernel
theorem dX8_told_29 : decode cX8_told 29 = .ok (.iload_n 2, 1) := by decide +kernel
theorem dX8_told_30 : decode cX8_told 30 = .ok (.invokevirtual 113, 3) := by decide +kernel
theorem dX8_told_33 : decode cX8_told 33 = .ok (.ldc 117, 2) := by decide +kernel
theorem dX8_told_35 : decode cX8_told 35 = .ok (.fmul, 1) := by decide +kernel
theorem dX8_told_36 : decode cX8_told 36 = .ok (.f2i, 1) := by decide +kernel
theorem dX8_told_37 : decode cX8_told 37 = .ok (.ireturn, 1) := by decide +kernel
theorem dX8_winds_0 : decode cX8_winds 0 = .ok (.aload_n 0, 1) := by decide +kernel
theorem dX8_winds_1 : decode cX8_winds 1 = .ok (.iload_n 1, 1) := by decide +kernel
theorem dX8_winds_2 : decode cX8_winds 2 = .ok (.invokevirtual 86, 3) := by decide +kernel
theorem dX8_winds_5 : decode cX8_winds 5 = .ok (.astore_n 3, 1) := by decide +kernel
theorem dX8_winds_6 : decode cX8_winds 6 = .ok (.aload_n 0, 1) := by decide +kernel
theorem dX8_winds_7 : decode cX8_winds 7 = .ok (.iload_n 2, 1) := by decide +kernel
theorem dX8_winds_8 : decode cX8_winds 8 = .ok (.invokevirtual 86, 3) := by decide +kernel
theorem dX8_winds_11 : decode cX8_winds 11 = .ok (.astore 4, 2) := by decide +kernel
theorem dX8_winds_13 : decode cX8_winds 13 = .ok (.aload_n 3, 1) := by decide +kernel
theorem dX8_winds_14 : decode cX8_winds 14 = .ok (.ifnull 8, 3) := by decide +kernel
theorem dX8_winds_17 : decode cX8_winds 17 = .ok (.aload 4, 2) := by decide +kernel
theorem dX8_winds_19 : decode cX8_winds 19 = .ok (.ifnonnull 5, 3) := by decide +kernel
theorem dX8_winds_22 : decode cX8_winds 22 = .ok (.iconst (-1), 1) := by decide +kernel
theorem dX8_winds_23 : decode cX8_winds 23 = .ok (.ireturn, 1) := by decide +kernel
theorem dX8_winds_24 : decode cX8_winds 24 = .ok (.aload_n 3, 1) := by decide +kernel
theorem dX8_winds_25 : decode cX8_winds 25 = .ok (.getfield 97, 3) := by decide +kernel
theorem dX8_winds_28 : decode cX8_winds 28 = .ok (.ifCond .eq 11, 3) := by decide +kernel
theorem dX8_winds_31 : decode cX8_winds 31 = .ok (.aload 4, 2) := by decide +kernel
theorem dX8_winds_33 : decode cX8_winds 33 = .ok (.getfield 97, 3) := by decide +kernel
theorem dX8_winds_36 : decode cX8_winds 36 = .ok (.ifCond .ne 6, 3) := by decide +kernel
theorem dX8_winds_39 : decode cX8_winds 39 = .ok (.bipush (-3), 2) := by decide +kernel
theorem dX8_winds_41 : decode cX8_winds 41 = .ok (.ireturn, 1) := by decide +kernel
theorem dX8_winds_42 : decode cX8_winds 42 = .ok (.aload_n 3, 1) := by decide +kernel
theorem dX8_winds_43 : decode cX8_winds 43 = .ok (.invokestatic 118, 3) := by decide +kernel
theorem dX8_winds_46 : decode cX8_winds 46 = .ok (.ifCond .eq 11, 3) := by decide +kernel
theorem dX8_winds_49 : decode cX8_winds 49 = .ok (.aload 4, 2) := by decide +kernel
theorem dX8_winds_51 : decode cX8_winds 51 = .ok (.invokestatic 118, 3) := by decide +kernel
theorem dX8_winds_54 : decode cX8_winds 54 = .ok (.ifCond .ne 5, 3) := by decide +kernel
theorem dX8_winds_57 : decode cX8_winds 57 = .ok (.iconst (-1), 1) := by decide +kernel
theorem dX8_winds_58 : decode cX8_winds 58 = .ok (.ireturn, 1) := by decide +kernel
theorem dX8_winds_59 : decode cX8_winds 59 = .ok (.iconst 0, 1) := by decide +kernel
theorem dX8_winds_60 : decode cX8_winds 60 = .ok (.istore 5, 2) := by decide +kernel
theorem dX8_winds_62 : decode cX8_winds 62 = .ok (.iload 5, 2) := by decide +kernel
theorem dX8_winds_64 : decode cX8_winds 64 = .ok (.bipush 12, 2) := by decide +kernel
theorem dX8_winds_66 : decode cX8_winds 66 = .ok (.if_icmp .ge 31, 3) := by decide +kernel
theorem dX8_winds_69 : decode cX8_winds 69 = .ok (.aload_n 0, 1) := by decide +kernel
theorem dX8_winds_70 : decode cX8_winds 70 = .ok (.getfield 18, 3) := by decide +kernel
theorem dX8_winds_73 : decode cX8_winds 73 = .ok (.iload 5, 2) := by decide +kernel
theorem dX8_winds_75 : decode cX8_winds 75 = .ok (.aload_n 3, 1) := by decide +kernel
theorem dX8_winds_76 : decode cX8_winds 76 = .ok (.iload 5, 2) := by decide +kernel
theorem dX8_winds_78 : decode cX8_winds 78 = .ok (.invokevirtual 122, 3) := by decide +kernel
theorem dX8_winds_81 : decode cX8_winds 81 = .ok (.aload 4, 2) := by decide +kernel
theorem dX8_winds_83 : decode cX8_winds 83 = .ok (.iload 5, 2) := by decide +kernel
theorem dX8_winds_85 : decode cX8_winds 85 = .ok (.invokevirtual 122, 3) := by decide +kernel
theorem dX8_winds_88 : decode cX8_winds 88 = .ok (.invokevirtual 126, 3) := by decide +kernel
theorem dX8_winds_91 : decode cX8_winds 91 = .ok (.iinc 5 1, 3) := by decide +kernel
theorem dX8_winds_94 : decode cX8_winds 94 = .ok (.goto (-32), 3) := by decide +kernel
theorem dX8_winds_97 : decode cX8_winds 97 = .ok (.iconst 1, 1) := by decide +kernel
theorem dX8_winds_98 : decode cX8_winds 98 = .ok (.ireturn, 1) := by decide +kernel
theorem dX8_wind_0 : decode cX8_wind 0 = .ok (.iload_n 1, 1) := by decide +kernel
theorem dX8_wind_1 : decode cX8_wind 1 = .ok (.iconst 0, 1) := by decide +kernel
theorem dX8_wind_2 : decode cX8_wind 2 = .ok (.bipush 11, 2) := by decide +kernel
theorem dX8_wind_4 : decode cX8_wind 4 = .ok (.invokestatic 93, 3) := by decide +kernel
theorem dX8_wind_7 : decode cX8_wind 7 = .ok (.ifCond .eq 17, 3) := by decide +kernel
theorem dX8_wind_10 : decode cX8_wind 10 = .ok (.iload_n 2, 1) := by decide +kernel
theorem dX8_wind_11 : decode cX8_wind 11 = .ok (.invokestatic 130, 3) := by decide +kernel
theorem dX8_wind_14 : decode cX8_wind 14 = .ok (.ifCond .eq 10, 3) := by decide +kernel
theorem dX8_wind_17 : decode cX8_wind 17 = .ok (.iload_n 3, 1) := by decide +kernel
theorem dX8_wind_18 : decode cX8_wind 18 = .ok (.invokestatic 130, 3) := by decide +kernel
theorem dX8_wind_21 : decode cX8_wind 21 = .ok (.ifCond .ne 5, 3) := by decide +kernel
theorem dX8_wind_24 : decode cX8_wind 24 = .ok (.iconst (-1), 1) := by decide +kernel
theorem dX8_wind_25 : decode cX8_wind 25 = .ok (.ireturn, 1) := by decide +kernel
theorem dX8_wind_26 : decode cX8_wind 26 = .ok (.aload_n 0, 1) := by decide +kernel
theorem dX8_wind_27 : decode cX8_wind 27 = .ok (.getfield 18, 3) := by decide +kernel
theorem dX8_wind_30 : decode cX8_wind 30 = .ok (.iload_n 1, 1) := by decide +kernel
theorem dX8_wind_31 : decode cX8_wind 31 = .ok (.iload_n 2, 1) := by decide +kernel
theorem dX8_wind_32 : decode cX8_wind 32 = .ok (.iload_n 3, 1) := by decide +kernel
theorem dX8_wind_33 : decode cX8_wind 33 = .ok (.invokevirtual 126, 3) := by decide +kernel
theorem dX8_wind_36 : decode cX8_wind 36 = .ok (.iconst 1, 1) := by decide +kernel
theorem dX8_wind_37 : decode cX8_wind 37 = .ok (.ireturn, 1) := by decide +kernel
theorem dX8_blows_0 : decode cX8_blows 0 = .ok (.iload_n 1, 1) := by decide +kernel
theorem dX8_blows_1 : decode cX8_blows 1 = .ok (.iconst 0, 1) := by decide +kernel
theorem dX8_blows_2 : decode cX8_blows 2 = .ok (.bipush 11, 2) := by decide +kernel
theorem dX8_blows_4 : decode cX8_blows 4 = .ok (.invokestatic 93, 3) := by decide +kernel
theorem dX8_blows_7 : decode cX8_blows 7 = .ok (.ifCond .eq 12, 3) := by decide +kernel
theorem dX8_blows_10 : decode cX8_blows 10 = .ok (.iload_n 2, 1) := by decide +kernel
theorem dX8_blows_11 : decode cX8_blows 11 = .ok (.iconst 0, 1) := by decide +kernel
theorem dX8_blows_12 : decode cX8_blows 12 = .ok (.iconst 1, 1) := by decide +kernel
theorem dX8_blows_13 : decode cX8_blows 13 = .ok (.invokestatic 93, 3) := by decide +kernel
theorem dX8_blows_16 : decode cX8_blows 16 = .ok (.ifCond .ne 7, 3) := by decide +kernel
theorem dX8_blows_19 : decode cX8_blows 19 = .ok (.sipush (-1000), 3) := by decide +kernel
theorem dX8_blows_22 : decode cX8_blows 22 = .ok (.ireturn, 1) := by decide +kernel
theorem dX8_blows_23 : decode cX8_blows 23 = .ok (.iload_n 2, 1) := by decide +kernel
theorem dX8_blows_24 : decode cX8_blows 24 = .ok (.ifCond .ne 14, 3) := by decide +kernel
theorem dX8_blows_27 : decode cX8_blows 27 = .ok (.aload_n 0, 1) := by decide +kernel
theorem dX8_blows_28 : decode cX8_blows 28 = .ok (.getfield 18, 3) := by decide +kernel
theorem dX8_blows_31 : decode cX8_blows 31 = .ok (.iload_n 1, 1) := by decide +kernel
theorem dX8_blows_32 : decode cX8_blows 32 = .ok (.invokevirtual 133, 3) := by decide +kernel
theorem dX8_blows_35 : decode cX8_blows 35 = .ok (.goto 11, 3) := by decide +kernel
theorem dX8_blows_38 : decode cX8_blows 38 = .ok (.aload_n 0, 1) := by decide +kernel
theorem dX8_blows_39 : decode cX8_blows 39 = .ok (.getfield 18, 3) := by decide +kernel
theorem dX8_blows_42 : decode cX8_blows 42 = .ok (.iload_n 1, 1) := by decide +kernel
theorem dX8_blows_43 : decode cX8_blows 43 = .ok (.invokevirtual 136, 3) := by decide +kernel
theorem dX8_blows_46 : decode cX8_blows 46 = .ok (.ireturn, 1) := by decide +kernel
theorem dX8_jumper_0 : decode cX8_jumper 0 = .ok (.aload_n 0, 1) := by decide +kernel
theorem dX8_jumper_1 : decode cX8_jumper 1 = .ok (.iload_n 1, 1) := by decide +kernel
theorem dX8_jumper_2 : decode cX8_jumper 2 = .ok (.invokevirtual 139, 3) := by decide +kernel
theorem dX8_jumper_5 : decode cX8_jumper 5 = .ok (.astore 5, 2) := by decide +kernel
theorem dX8_jumper_7 : decode cX8_jumper 7 = .ok (.aload 5, 2) := by decide +kernel
theorem dX8_jumper_9 : decode cX8_jumper 9 = .ok (.ifnull 36, 3) := by decide +kernel
theorem dX8_jumper_12 : decode cX8_jumper 12 = .ok (.iload_n 2, 1) := by decide +kernel
theorem dX8_jumper_13 : decode cX8_jumper 13 = .ok (.iconst 0, 1) := by decide +kernel
theorem dX8_jumper_14 : decode cX8_jumper 14 = .ok (.iconst 2, 1) := by decide +kernel
theorem dX8_jumper_15 : decode cX8_jumper 15 = .ok (.invokestatic 93, 3) := by decide +kernel
theorem dX8_jumper_18 : decode cX8_jumper 18 = .ok (.ifCond .eq 27, 3) := by decide +kernel
theorem dX8_jumper_21 : decode cX8_jumper 21 = .ok (.iload_n 3, 1) := by decide +kernel
theorem dX8_jumper_22 : decode cX8_jumper 22 = .ok (.bipush 40, 2) := by decide +kernel
theorem dX8_jumper_24 : decode cX8_jumper 24 = .ok (.sipush 200, 3) := by decide +kernel
theorem dX8_jumper_27 : decode cX8_jumper 27 = .ok (.invokestatic 93, 3) := by decide +kernel
theorem dX8_jumper_30 : decode cX8_jumper 30 = .ok (.ifCond .eq 15, 3) := by decide +kernel
theorem dX8_jumper_33 : decode cX8_jumper 33 = .ok (.iload 4, 2) := by decide +kernel
theorem dX8_jumper_35 : decode cX8_jumper 35 = .ok (.iconst 0, 1) := by decide +kernel
theorem dX8_jumper_36 : decode cX8_jumper 36 = .ok (.sipush 1000, 3) := by decide +kernel
theorem dX8_jumper_39 : decode cX8_jumper 39 = .ok (.invokestatic 93, 3) := by decide +kernel
theorem dX8_jumper_42 : decode cX8_jumper 42 = .ok (.ifCond .ne 5, 3) := by decide +kernel
theorem dX8_jumper_45 : decode cX8_jumper 45 = .ok (.iconst (-1), 1) := by decide +kernel
theorem dX8_jumper_46 : decode cX8_jumper 46 = .ok (.ireturn, 1) := by decide +kernel
theorem dX8_jumper_47 : decode cX8_jumper 47 = .ok (.aload 5, 2) := by decide +kernel
theorem dX8_jumper_49 : decode cX8_jumper 49 = .ok (.iload_n 2, 1) := by decide +kernel
theorem dX8_jumper_50 : decode cX8_jumper 50 = .ok (.iload_n 3, 1) := by decide +kernel
theorem dX8_jumper_51 : decode cX8_jumper 51 = .ok (.iload 4, 2) := by decide +kernel
theorem dX8_jumper_53 : decode cX8_jumper 53 = .ok (.invokevirtual 143, 3) := by decide +kernel
theorem dX8_jumper_56 : decode cX8_jumper 56 = .ok (.iconst 1, 1) := by decide +kernel
theorem dX8_jumper_57 : decode cX8_jumper 57 = .ok (.ireturn, 1) := by decide +kernel
theorem dX8_group_0 : decode cX8_group 0 = .ok (.iload_n 1, 1) := by decide +kernel
theorem dX8_group_1 : decode cX8_group 1 = .ok (.iconst 0, 1) := by decide +kernel
theorem dX8_group_2 : decode cX8_group 2 = .ok (.iconst 3, 1) := by decide +kernel
theorem dX8_group_3 : decode cX8_group 3 = .ok (.invokestatic 93, 3) := by decide +kernel
theorem dX8_group_6 : decode cX8_group 6 = .ok (.ifCond .eq 16, 3) := by decide +kernel
theorem dX8_group_9 : decode cX8_group 9 = .ok (.iload_n 2, 1) := by decide +kernel
theorem dX8_group_10 : decode cX8_group 10 = .ok (.sipush 6000, 3) := by decide +kernel
theorem dX8_group_13 : decode cX8_group 13 = .ok (.sipush 15000, 3) := by decide +kernel
theorem dX8_group_16 : decode cX8_group 16 = .ok (.invokestatic 93, 3) := by decide +kernel
theorem dX8_group_19 : decode cX8_group 19 = .ok (.ifCond .ne 5, 3) := by decide +kernel
theorem dX8_group_22 : decode cX8_group 22 = .ok (.iconst (-1), 1) := by decide +kernel
theorem dX8_group_23 : decode cX8_group 23 = .ok (.ireturn, 1) := by decide +kernel
theorem dX8_group_24 : decode cX8_group 24 = .ok (.iload_n 3, 1) := by decide +kernel
theorem dX8_group_25 : decode cX8_group 25 = .ok (.iconst 0, 1) := by decide +kernel
theorem dX8_group_26 : decode cX8_group 26 = .ok (.sipush 150, 3) := by decide +kernel
theorem dX8_group_29 : decode cX8_group 29 = .ok (.invokestatic 93, 3) := by decide +kernel
theorem dX8_group_32 : decode cX8_group 32 = .ok (.ifCond .eq 13, 3) := by decide +kernel
theorem dX8_group_35 : decode cX8_group 35 = .ok (.iload 4, 2) := by decide +kernel
theorem dX8_group_37 : decode cX8_group 37 = .ok (.iconst 0, 1) := by decide +kernel
theorem dX8_group_38 : decode cX8_group 38 = .ok (.iconst 3, 1) := by decide +kernel
theorem dX8_group_39 : decode cX8_group 39 = .ok (.invokestatic 93, 3) := by decide +kernel
theorem dX8_group_42 : decode cX8_group 42 = .ok (.ifCond .ne 5, 3) := by decide +kernel
theorem dX8_group_45 : decode cX8_group 45 = .ok (.iconst (-1), 1) := by decide +kernel
theorem dX8_group_46 : decode cX8_group 46 = .ok (.ireturn, 1) := by decide +kernel
theorem dX8_group_47 : decode cX8_group 47 = .ok (.aload_n 0, 1) := by decide +kernel
theorem dX8_group_48 : decode cX8_group 48 = .ok (.getfield 71, 3) := by decide +kernel
theorem dX8_group_51 : decode cX8_group 51 = .ok (.aload_n 0, 1) := by decide +kernel
theorem dX8_group_52 : decode cX8_group 52 = .ok (.getfield 30, 3) := by decide +kernel
theorem dX8_group_55 : decode cX8_group 55 = .ok (.arraylength, 1) := by decide +kernel
theorem dX8_group_56 : decode cX8_group 56 = .ok (.if_icmp .lt 6, 3) := by decide +kernel
theorem dX8_group_59 : decode cX8_group 59 = .ok (.bipush (-2), 2) := by decide +kernel
theorem dX8_group_61 : decode cX8_group 61 = .ok (.ireturn, 1) := by decide +kernel
theorem dX8_group_62 : decode cX8_group 62 = .ok (.aload_n 0, 1) := by decide +kernel
theorem dX8_group_63 : decode cX8_group 63 = .ok (.getfield 30, 3) := by decide +kernel
theorem dX8_group_66 : decode cX8_group 66 = .ok (.aload_n 0, 1) := by decide +kernel
theorem dX8_group_67 : decode cX8_group 67 = .ok (.getfield 71, 3) := by decide +kernel
theorem dX8_group_70 : decode cX8_group 70 = .ok (.aaload, 1) := by decide +kernel
theorem dX8_group_71 : decode cX8_group 71 = .ok (.iload_n 1, 1) := by decide +kernel
theorem dX8_group_72 : decode cX8_group 72 = .ok (.iload_n 2, 1) := by decide +kernel
theorem dX8_group_73 : decode cX8_group 73 = .ok (.iload_n 3, 1) := by decide +kernel
theorem dX8_group_74 : decode cX8_group 74 = .ok (.iload 4, 2) := by decide +kernel
theorem dX8_group_76 : decode cX8_group 76 = .ok (.invokevirtual 146, 3) := by decide +kernel
theorem dX8_group_79 : decode cX8_group 79 = .ok (.aload_n 0, 1) := by decide +kernel
theorem dX8_group_80 : decode cX8_group 80 = .ok (.dup, 1) := by decide +kernel
theorem dX8_group_81 : decode cX8_group 81 = .ok (.getfield 71, 3) := by decide +kernel
theorem dX8_group_84 : decode cX8_group 84 = .ok (.iconst 1, 1) := by decide +kernel
theorem dX8_group_85 : decode cX8_group 85 = .ok (.iadd, 1) := by decide +kernel
theorem dX8_group_86 : decode cX8_group 86 = .ok (.putfield 71, 3) := by decide +kernel
theorem dX8_group_89 : decode cX8_group 89 = .ok (.aload_n 0, 1) := by decide +kernel
theorem dX8_group_90 : decode cX8_group 90 = .ok (.getfield 71, 3) := by decide +kernel
theorem dX8_group_93 : decode cX8_group 93 = .ok (.iconst 1, 1) := by decide +kernel
theorem dX8_group_94 : decode cX8_group 94 = .ok (.isub, 1) := by decide +kernel
theorem dX8_group_95 : decode cX8_group 95 = .ok (.ireturn, 1) := by decide +kernel
theorem dX8_join_0 : decode cX8_join 0 = .ok (.aload_n 0, 1) := by decide +kernel
theorem dX8_join_1 : decode cX8_join 1 = .ok (.iload_n 1, 1) := by decide +kernel
theorem dX8_join_2 : decode cX8_join 2 = .ok (.invokevirtual 149, 3) := by decide +kernel
theorem dX8_join_5 : decode cX8_join 5 = .ok (.astore_n 3, 1) := by decide +kernel
theorem dX8_join_6 : decode cX8_join 6 = .ok (.aload_n 0, 1) := by decide +kernel
theorem dX8_join_7 : decode cX8_join 7 = .ok (.iload_n 2, 1) := by decide +kernel
theorem dX8_join_8 : decode cX8_join 8 = .ok (.invokevirtual 139, 3) := by decide +kernel
theorem dX8_join_11 : decode cX8_join 11 = .ok (.astore 4, 2) := by decide +kernel
theorem dX8_join_13 : decode cX8_join 13 = .ok (.aload_n 3, 1) := by decide +kernel
theorem dX8_join_14 : decode cX8_join 14 = .ok (.ifnull 8, 3) := by decide +kernel
theorem dX8_join_17 : decode cX8_join 17 = .ok (.aload 4, 2) := by decide +kernel
theorem dX8_join_19 : decode cX8_join 19 = .ok (.ifnonnull 5, 3) := by decide +kernel
theorem dX8_join_22 : decode cX8_join 22 = .ok (.iconst (-1), 1) := by decide +kernel
theorem dX8_join_23 : decode cX8_join 23 = .ok (.ireturn, 1) := by decide +kernel
theorem dX8_join_24 : decode cX8_join 24 = .ok (.aload_n 0, 1) := by decide +kernel
theorem dX8_join_25 : decode cX8_join 25 = .ok (.aload_n 3, 1) := by decide +kernel
theorem dX8_join_26 : decode cX8_join 26 = .ok (.iconst 1, 1) := by decide +kernel
theorem dX8_join_27 : decode cX8_join 27 = .ok (.invokevirtual 153, 3) := by decide +kernel
theorem dX8_join_30 : decode cX8_join 30 = .ok (.ifCond .eq 6, 3) := by decide +kernel
theorem dX8_join_33 : decode cX8_join 33 = .ok (.bipush (-6), 2) := by decide +kernel
theorem dX8_join_35 : decode cX8_join 35 = .ok (.ireturn, 1) := by decide +kernel
theorem dX8_join_36 : decode cX8_join 36 = .ok (.aload_n 3, 1) := by decide +kernel
theorem dX8_join_37 : decode cX8_join 37 = .ok (.aload 4, 2) := by decide +kernel
theorem dX8_join_39 : decode cX8_join 39 = .ok (.invokevirtual 157, 3) := by decide +kernel
theorem dX8_join_42 : decode cX8_join 42 = .ok (.ifCond .eq 6, 3) := by decide +kernel
theorem dX8_join_45 : decode cX8_join 45 = .ok (.bipush (-5), 2) := by decide +kernel
theorem dX8_join_47 : decode cX8_join 47 = .ok (.ireturn, 1) := by decide +kernel
theorem dX8_join_48 : decode cX8_join 48 = .ok (.aload_n 3, 1) := by decide +kernel
theorem dX8_join_49 : decode cX8_join 49 = .ok (.getfield 161, 3) := by decide +kernel
theorem dX8_join_52 : decode cX8_join 52 = .ok (.iconst 4, 1) := by decide +kernel
theorem dX8_join_53 : decode cX8_join 53 = .ok (.if_icmp .lt 6, 3) := by decide +kernel
theorem dX8_join_56 : decode cX8_join 56 = .ok (.bipush (-2), 2) := by decide +kernel
theorem dX8_join_58 : decode cX8_join 58 = .ok (.ireturn, 1) := by decide +kernel
theorem dX8_join_59 : decode cX8_join 59 = .ok (.aload_n 3, 1) := by decide +kernel
theorem dX8_join_60 : decode cX8_join 60 = .ok (.aload 4, 2) := by decide +kernel
theorem dX8_join_62 : decode cX8_join 62 = .ok (.invokevirtual 164, 3) := by decide +kernel
theorem dX8_join_65 : decode cX8_join 65 = .ok (.aload_n 3, 1) := by decide +kernel
theorem dX8_join_66 : decode cX8_join 66 = .ok (.getfield 161, 3) := by decide +kernel
theorem dX8_join_69 : decode cX8_join 69 = .ok (.ireturn, 1) := by decide +kernel
theorem dX8_of_0 : decode cX8_of 0 = .ok (.aload_n 0, 1) := by decide +kernel
theorem dX8_of_1 : decode cX8_of 1 = .ok (.iload_n 1, 1) := by decide +kernel
theorem dX8_of_2 : decode cX8_of 2 = .ok (.invokevirtual 149, 3) := by decide +kernel
theorem dX8_of_5 : decode cX8_of 5 = .ok (.astore_n 3, 1) := by decide +kernel
theorem dX8_of_6 : decode cX8_of 6 = .ok (.aload_n 3, 1) := by decide +kernel
theorem dX8_of_7 : decode cX8_of 7 = .ok (.ifnonnull 7, 3) := by decide +kernel
theorem dX8_of_10 : decode cX8_of 10 = .ok (.iconst (-1), 1) := by decide +kernel
theorem dX8_of_11 : decode cX8_of 11 = .ok (.goto 8, 3) := by decide +kernel
theorem dX8_of_14 : decode cX8_of 14 = .ok (.aload_n 3, 1) := by decide +kernel
theorem dX8_of_15 : decode cX8_of 15 = .ok (.iload_n 2, 1) := by decide +kernel
theorem dX8_of_16 : decode cX8_of 16 = .ok (.invokevirtual 168, 3) := by decide +kernel
theorem dX8_of_19 : decode cX8_of 19 = .ok (.ireturn, 1) := by decide +kernel
theorem dX8_plane_0 : decode cX8_plane 0 = .ok (.aload_n 0, 1) := by decide +kernel
theorem dX8_plane_1 : decode cX8_plane 1 = .ok (.iload_n 1, 1) := by decide +kernel
theorem dX8_plane_2 : decode cX8_plane 2 = .ok (.invokevirtual 171, 3) := by decide +kernel
theorem dX8_plane_5 : decode cX8_plane 5 = .ok (.astore 6, 2) := by decide +kernel
theorem dX8_plane_7 : decode cX8_plane 7 = .ok (.aload 6, 2) := by decide +kernel
theorem dX8_plane_9 : decode cX8_plane 9 = .ok (.ifnull 25, 3) := by decide +kernel
theorem dX8_plane_12 : decode cX8_plane 12 = .ok (.iload_n 2, 1) := by decide +kernel
theorem dX8_plane_13 : decode cX8_plane 13 = .ok (.iconst 1, 1) := by decide +kernel
theorem dX8_plane_14 : decode cX8_plane 14 = .ok (.bipush 20, 2) := by decide +kernel
theorem dX8_plane_16 : decode cX8_plane 16 = .ok (.invokestatic 93, 3) := by decide +kernel
theorem dX8_plane_19 : decode cX8_plane 19 = .ok (.ifCond .eq 15, 3) := by decide +kernel
theorem dX8_plane_22 : decode cX8_plane 22 = .ok (.iload_n 3, 1) := by decide +kernel
theorem dX8_plane_23 : decode cX8_plane 23 = .ok (.bipush 100, 2) := by decide +kernel
theorem dX8_plane_25 : decode cX8_plane 25 = .ok (.sipush 4000, 3) := by decide +kernel
theorem dX8_plane_28 : decode cX8_plane 28 = .ok (.invokestatic 93, 3) := by decide +kernel
theorem dX8_plane_31 : decode cX8_plane 31 = .ok (.ifCond .ne 5, 3) := by decide +kernel
theorem dX8_plane_34 : decode cX8_plane 34 = .ok (.iconst (-1), 1) := by decide +kernel
theorem dX8_plane_35 : decode cX8_plane 35 = .ok (.ireturn, 1) := by decide +kernel
theorem dX8_plane_36 : decode cX8_plane 36 = .ok (.iload 4, 2) := by decide +kernel
theorem dX8_plane_38 : decode cX8_plane 38 = .ok (.sipush 200, 3) := by decide +kernel
theorem dX8_plane_41 : decode cX8_plane 41 = .ok (.sipush 600, 3) := by decide +kernel
theorem dX8_plane_44 : decode cX8_plane 44 = .ok (.invokestatic 93, 3) := by decide +kernel
theorem dX8_plane_47 : decode cX8_plane 47 = .ok (.ifCond .eq 16, 3) := by decide +kernel
theorem dX8_plane_50 : decode cX8_plane 50 = .ok (.iload 5, 2) := by decide +kernel
theorem dX8_plane_52 : decode cX8_plane 52 = .ok (.sipush 15000, 3) := by decide +kernel
theorem dX8_plane_55 : decode cX8_plane 55 = .ok (.ldc 175, 2) := by decide +kernel
theorem dX8_plane_57 : decode cX8_plane 57 = .ok (.invokestatic 93, 3) := by decide +kernel
theorem dX8_plane_60 : decode cX8_plane 60 = .ok (.ifCond .ne 5, 3) := by decide +kernel
theorem dX8_plane_63 : decode cX8_plane 63 = .ok (.iconst (-1), 1) := by decide +kernel
theorem dX8_plane_64 : decode cX8_plane 64 = .ok (.ireturn, 1) := by decide +kernel
theorem dX8_plane_65 : decode cX8_plane 65 = .ok (.aload 6, 2) := by decide +kernel
theorem dX8_plane_67 : decode cX8_plane 67 = .ok (.iload_n 2, 1) := by decide +kernel
theorem dX8_plane_68 : decode cX8_plane 68 = .ok (.iload_n 3, 1) := by decide +kernel
theorem dX8_plane_69 : decode cX8_plane 69 = .ok (.iload 4, 2) := by decide +kernel
theorem dX8_plane_71 : decode cX8_plane 71 = .ok (.iload 5, 2) := by decide +kernel
theorem dX8_plane_73 : decode cX8_plane 73 = .ok (.invokevirtual 176, 3) := by decide +kernel
theorem dX8_plane_76 : decode cX8_plane 76 = .ok (.iconst 1, 1) := by decide +kernel
theorem dX8_plane_77 : decode cX8_plane 77 = .ok (.ireturn, 1) := by decide +kernel
theorem dX8_rule_0 : decode cX8_rule 0 = .ok (.iload_n 1, 1) := by decide +kernel
theorem dX8_rule_1 : decode cX8_rule 1 = .ok (.iconst 0, 1) := by decide +kernel
theorem dX8_rule_2 : decode cX8_rule 2 = .ok (.bipush 9, 2) := by decide +kernel
theorem dX8_rule_4 : decode cX8_rule 4 = .ok (.invokestatic 93, 3) := by decide +kernel
theorem dX8_rule_7 : decode cX8_rule 7 = .ok (.ifCond .eq 16, 3) := by decide +kernel
theorem dX8_rule_10 : decode cX8_rule 10 = .ok (.iload_n 2, 1) := by decide +kernel
theorem dX8_rule_11 : decode cX8_rule 11 = .ok (.iconst 0, 1) := by decide +kernel
theorem dX8_rule_12 : decode cX8_rule 12 = .ok (.getstatic 177, 3) := by decide +kernel
theorem dX8_rule_15 : decode cX8_rule 15 = .ok (.iload_n 1, 1) := by decide +kernel
theorem dX8_rule_16 : decode cX8_rule 16 = .ok (.iaload, 1) := by decide +kernel
theorem dX8_rule_17 : decode cX8_rule 17 = .ok (.invokestatic 93, 3) := by decide +kernel
theorem dX8_rule_20 : decode cX8_rule 20 = .ok (.ifCond .ne 5, 3) := by decide +kernel
theorem dX8_rule_23 : decode cX8_rule 23 = .ok (.iconst (-1), 1) := by decide +kernel
theorem dX8_rule_24 : decode cX8_rule 24 = .ok (.ireturn, 1) := by decide +kernel
theorem dX8_rule_25 : decode cX8_rule 25 = .ok (.aload_n 0, 1) := by decide +kernel
theorem dX8_rule_26 : decode cX8_rule 26 = .ok (.getfield 55, 3) := by decide +kernel
theorem dX8_rule_29 : decode cX8_rule 29 = .ok (.iload_n 1, 1) := by decide +kernel
theorem dX8_rule_30 : decode cX8_rule 30 = .ok (.iaload, 1) := by decide +kernel
theorem dX8_rule_31 : decode cX8_rule 31 = .ok (.istore_n 3, 1) := by decide +kernel
theorem dX8_rule_32 : decode cX8_rule 32 = .ok (.aload_n 0, 1) := by decide +kernel
theorem dX8_rule_33 : decode cX8_rule 33 = .ok (.getfield 55, 3) := by decide +kernel
theorem dX8_rule_36 : decode cX8_rule 36 = .ok (.iload_n 1, 1) := by decide +kernel
theorem dX8_rule_37 : decode cX8_rule 37 = .ok (.iload_n 2, 1) := by decide +kernel
theorem dX8_rule_38 : decode cX8_rule 38 = .ok (.iastore, 1) := by decide +kernel
theorem dX8_rule_39 : decode cX8_rule 39 = .ok (.iload_n 3, 1) := by decide +kernel
theorem dX8_rule_40 : decode cX8_rule 40 = .ok (.ireturn, 1) := by decide +kernel
theorem dX8_load_0 : decode cX8_load 0 = .ok (.aload_n 0, 1) := by decide +kernel
theorem dX8_load_1 : decode cX8_load 1 = .ok (.iload_n 1, 1) := by decide +kernel
theorem dX8_load_2 : decode cX8_load 2 = .ok (.invokevirtual 171, 3) := by decide +kernel
theorem dX8_load_5 : decode cX8_load 5 = .ok (.astore_n 2, 1) := by decide +kernel
theorem dX8_load_6 : decode cX8_load 6 = .ok (.aload_n 2, 1) := by decide +kernel
theorem dX8_load_7 : decode cX8_load 7 = .ok (.ifnonnull 5, 3) := by decide +kernel
theorem dX8_load_10 : decode cX8_load 10 = .ok (.iconst (-1), 1) := by decide +kernel
theorem dX8_load_11 : decode cX8_load 11 = .ok (.ireturn, 1) := by decide +kernel
theorem dX8_load_12 : decode cX8_load 12 = .ok (.aload_n 0, 1) := by decide +kernel
theorem dX8_load_13 : decode cX8_load 13 = .ok (.getfield 75, 3) := by decide +kernel
theorem dX8_load_16 : decode cX8_load 16 = .ok (.aload_n 0, 1) := by decide +kernel
theorem dX8_load_17 : decode cX8_load 17 = .ok (.getfield 42, 3) := by decide +kernel
theorem dX8_load_20 : decode cX8_load 20 = .ok (.arraylength, 1) := by decide +kernel
theorem dX8_load_21 : decode cX8_load 21 = .ok (.if_icmp .lt 6, 3) := by decide +kernel
theorem dX8_load_24 : decode cX8_load 24 = .ok (.bipush (-2), 2) := by decide +kernel
theorem dX8_load_26 : decode cX8_load 26 = .ok (.ireturn, 1) := by decide +kernel
theorem dX8_load_27 : decode cX8_load 27 = .ok (.aload_n 0, 1) := by decide +kernel
theorem dX8_load_28 : decode cX8_load 28 = .ok (.getfield 42, 3) := by decide +kernel
theorem dX8_load_31 : decode cX8_load 31 = .ok (.aload_n 0, 1) := by decide +kernel
theorem dX8_load_32 : decode cX8_load 32 = .ok (.getfield 75, 3) := by decide +kernel
theorem dX8_load_35 : decode cX8_load 35 = .ok (.aaload, 1) := by decide +kernel
theorem dX8_load_36 : decode cX8_load 36 = .ok (.aload_n 2, 1) := by decide +kernel
theorem dX8_load_37 : decode cX8_load 37 = .ok (.aload_n 0, 1) := by decide +kernel
theorem dX8_load_38 : decode cX8_load 38 = .ok (.getfield 18, 3) := by decide +kernel
theorem dX8_load_41 : decode cX8_load 41 = .ok (.invokevirtual 180, 3) := by decide +kernel
theorem dX8_load_44 : decode cX8_load 44 = .ok (.aload_n 0, 1) := by decide +kernel
theorem dX8_load_45 : decode cX8_load 45 = .ok (.dup, 1) := by decide +kernel
theorem dX8_load_46 : decode cX8_load 46 = .ok (.getfield 75, 3) := by decide +kernel
theorem dX8_load_49 : decode cX8_load 49 = .ok (.iconst 1, 1) := by decide +kernel
theorem dX8_load_50 : decode cX8_load 50 = .ok (.iadd, 1) := by decide +kernel
theorem dX8_load_51 : decode cX8_load 51 = .ok (.putfield 75, 3) := by decide +kernel
theorem dX8_load_54 : decode cX8_load 54 = .ok (.aload_n 0, 1) := by decide +kernel
theorem dX8_load_55 : decode cX8_load 55 = .ok (.getfield 75, 3) := by decide +kernel
theorem dX8_load_58 : decode cX8_load 58 = .ok (.iconst 1, 1) := by decide +kernel
theorem dX8_load_59 : decode cX8_load 59 = .ok (.isub, 1) := by decide +kernel
theorem dX8_load_60 : decode cX8_load 60 = .ok (.ireturn, 1) := by decide +kernel
theorem dX8_put_0 : decode cX8_put 0 = .ok (.aload_n 0, 1) := by decide +kernel
theorem dX8_put_1 : decode cX8_put 1 = .ok (.iload_n 1, 1) := by decide +kernel
theorem dX8_put_2 : decode cX8_put 2 = .ok (.invokevirtual 183, 3) := by decide +kernel
theorem dX8_put_5 : decode cX8_put 5 = .ok (.astore 4, 2) := by decide +kernel
theorem dX8_put_7 : decode cX8_put 7 = .ok (.aload_n 0, 1) := by decide +kernel
theorem dX8_put_8 : decode cX8_put 8 = .ok (.iload_n 2, 1) := by decide +kernel
theorem dX8_put_9 : decode cX8_put 9 = .ok (.invokevirtual 149, 3) := by decide +kernel
theorem dX8_put_12 : decode cX8_put 12 = .ok (.astore 5, 2) := by decide +kernel
theorem dX8_put_14 : decode cX8_put 14 = .ok (.aload 4, 2) := by decide +kernel
theorem dX8_put_16 : decode cX8_put 16 = .ok (.ifnull 15, 3) := by decide +kernel
theorem dX8_put_19 : decode cX8_put 19 = .ok (.aload 5, 2) := by decide +kernel
theorem dX8_put_21 : decode cX8_put 21 = .ok (.ifnull 10, 3) := by decide +kernel
theorem dX8_put_24 : decode cX8_put 24 = .ok (.iload_n 3, 1) := by decide +kernel
theorem dX8_put_25 : decode cX8_put 25 = .ok (.invokestatic 187, 3) := by decide +kernel
theorem dX8_put_28 : decode cX8_put 28 = .ok (.ifCond .ne 5, 3) := by decide +kernel
theorem dX8_put_31 : decode cX8_put 31 = .ok (.iconst (-1), 1) := by decide +kernel
theorem dX8_put_32 : decode cX8_put 32 = .ok (.ireturn, 1) := by decide +kernel
theorem dX8_put_33 : decode cX8_put 33 = .ok (.aload 4, 2) := by decide +kernel
theorem dX8_put_35 : decode cX8_put 35 = .ok (.getfield 190, 3) := by decide +kernel
theorem dX8_put_38 : decode cX8_put 38 = .ok (.ifCond .eq 6, 3) := by decide +kernel
theorem dX8_put_41 : decode cX8_put 41 = .ok (.bipush (-6), 2) := by decide +kernel
theorem dX8_put_43 : decode cX8_put 43 = .ok (.ireturn, 1) := by decide +kernel
theorem dX8_put_44 : decode cX8_put 44 = .ok (.aload_n 0, 1) := by decide +kernel
theorem dX8_put_45 : decode cX8_put 45 = .ok (.aload 5, 2) := by decide +kernel
theorem dX8_put_47 : decode cX8_put 47 = .ok (.iconst 0, 1) := by decide +kernel
theorem dX8_put_48 : decode cX8_put 48 = .ok (.invokevirtual 153, 3) := by decide +kernel
theorem dX8_put_51 : decode cX8_put 51 = .ok (.ifCond .eq 6, 3) := by decide +kernel
theorem dX8_put_54 : decode cX8_put 54 = .ok (.bipush (-5), 2) := by decide +kernel
theorem dX8_put_56 : decode cX8_put 56 = .ok (.ireturn, 1) := by decide +kernel
theorem dX8_put_57 : decode cX8_put 57 = .ok (.aload 4, 2) := by decide +kernel
theorem dX8_put_59 : decode cX8_put 59 = .ok (.getfield 193, 3) := by decide +kernel
theorem dX8_put_62 : decode cX8_put 62 = .ok (.bipush 6, 2) := by decide +kernel
theorem dX8_put_64 : decode cX8_put 64 = .ok (.if_icmp .lt 6, 3) := by decide +kernel
theorem dX8_put_67 : decode cX8_put 67 = .ok (.bipush (-2), 2) := by decide +kernel
theorem dX8_put_69 : decode cX8_put 69 = .ok (.ireturn, 1) := by decide +kernel
theorem dX8_put_70 : decode cX8_put 70 = .ok (.aload 4, 2) := by decide +kernel
theorem dX8_put_72 : decode cX8_put 72 = .ok (.aload 5, 2) := by decide +kernel
theorem dX8_put_74 : decode cX8_put 74 = .ok (.iload_n 3, 1) := by decide +kernel
theorem dX8_put_75 : decode cX8_put 75 = .ok (.invokevirtual 194, 3) := by decide +kernel
theorem dX8_put_78 : decode cX8_put 78 = .ok (.aload 4, 2) := by decide +kernel
theorem dX8_put_80 : decode cX8_put 80 = .ok (.getfield 193, 3) := by decide +kernel
theorem dX8_put_83 : decode cX8_put 83 = .ok (.ireturn, 1) := by decide +kernel
theorem dX8_out_0 : decode cX8_out 0 = .ok (.aload_n 0, 1) := by decide +kernel
theorem dX8_out_1 : decode cX8_out 1 = .ok (.iload_n 1, 1) := by decide +kernel
theorem dX8_out_2 : decode cX8_out 2 = .ok (.invokevirtual 183, 3) := by decide +kernel
theorem dX8_out_5 : decode cX8_out 5 = .ok (.astore_n 3, 1) := by decide +kernel
theorem dX8_out_6 : decode cX8_out 6 = .ok (.aload_n 3, 1) := by decide +kernel
theorem dX8_out_7 : decode cX8_out 7 = .ok (.ifnull 11, 3) := by decide +kernel
theorem dX8_out_10 : decode cX8_out 10 = .ok (.aload_n 3, 1) := by decide +kernel
theorem dX8_out_11 : decode cX8_out 11 = .ok (.iload_n 2, 1) := by decide +kernel
theorem dX8_out_12 : decode cX8_out 12 = .ok (.invokevirtual 197, 3) := by decide +kernel
theorem dX8_out_15 : decode cX8_out 15 = .ok (.ifCond .ne 5, 3) := by decide +kernel
theorem dX8_out_18 : decode cX8_out 18 = .ok (.iconst (-1), 1) := by decide +kernel
theorem dX8_out_19 : decode cX8_out 19 = .ok (.ireturn, 1) := by decide +kernel
theorem dX8_out_20 : decode cX8_out 20 = .ok (.aload_n 3, 1) := by decide +kernel
theorem dX8_out_21 : decode cX8_out 21 = .ok (.getfield 190, 3) := by decide +kernel
theorem dX8_out_24 : decode cX8_out 24 = .ok (.ifCond .eq 6, 3) := by decide +kernel
theorem dX8_out_27 : decode cX8_out 27 = .ok (.bipush (-6), 2) := by decide +kernel
theorem dX8_out_29 : decode cX8_out 29 = .ok (.ireturn, 1) := by decide +kernel
theorem dX8_out_30 : decode cX8_out 30 = .ok (.aload_n 3, 1) := by decide +kernel
theorem dX8_out_31 : decode cX8_out 31 = .ok (.iload_n 2, 1) := by decide +kernel
theorem dX8_out_32 : decode cX8_out 32 = .ok (.invokevirtual 198, 3) := by decide +kernel
theorem dX8_out_35 : decode cX8_out 35 = .ok (.aload_n 3, 1) := by decide +kernel
theorem dX8_out_36 : decode cX8_out 36 = .ok (.getfield 193, 3) := by decide +kernel
theorem dX8_out_39 : decode cX8_out 39 = .ok (.ireturn, 1) := by decide +kernel
theorem dX8_pause_0 : decode cX8_pause 0 = .ok (.aload_n 0, 1) := by decide +kernel
theorem dX8_pause_1 : decode cX8_pause 1 = .ok (.iload_n 1, 1) := by decide +kernel
theorem dX8_pause_2 : decode cX8_pause 2 = .ok (.invokevirtual 183, 3) := by decide +kernel
theorem dX8_pause_5 : decode cX8_pause 5 = .ok (.astore 4, 2) := by decide +kernel
theorem dX8_pause_7 : decode cX8_pause 7 = .ok (.aload 4, 2) := by decide +kernel
theorem dX8_pause_9 : decode cX8_pause 9 = .ok (.ifnull 19, 3) := by decide +kernel
theorem dX8_pause_12 : decode cX8_pause 12 = .ok (.aload 4, 2) := by decide +kernel
theorem dX8_pause_14 : decode cX8_pause 14 = .ok (.iload_n 2, 1) := by decide +kernel
theorem dX8_pause_15 : decode cX8_pause 15 = .ok (.invokevirtual 197, 3) := by decide +kernel
theorem dX8_pause_18 : decode cX8_pause 18 = .ok (.ifCond .eq 10, 3) := by decide +kernel
theorem dX8_pause_21 : decode cX8_pause 21 = .ok (.iload_n 3, 1) := by decide +kernel
theorem dX8_pause_22 : decode cX8_pause 22 = .ok (.invokestatic 187, 3) := by decide +kernel
theorem dX8_pause_25 : decode cX8_pause 25 = .ok (.ifCond .ne 5, 3) := by decide +kernel
theorem dX8_pause_28 : decode cX8_pause 28 = .ok (.iconst (-1), 1) := by decide +kernel
theorem dX8_pause_29 : decode cX8_pause 29 = .ok (.ireturn, 1) := by decide +kernel
theorem dX8_pause_30 : decode cX8_pause 30 = .ok (.aload 4, 2) := by decide +kernel
theorem dX8_pause_32 : decode cX8_pause 32 = .ok (.getfield 190, 3) := by decide +kernel
theorem dX8_pause_35 : decode cX8_pause 35 = .ok (.ifCond .eq 6, 3) := by decide +kernel
theorem dX8_pause_38 : decode cX8_pause 38 = .ok (.bipush (-6), 2) := by decide +kernel
theorem dX8_pause_40 : decode cX8_pause 40 = .ok (.ireturn, 1) := by decide +kernel
theorem dX8_pause_41 : decode cX8_pause 41 = .ok (.aload 4, 2) := by decide +kernel
theorem dX8_pause_43 : decode cX8_pause 43 = .ok (.getfield 201, 3) := by decide +kernel
theorem dX8_pause_46 : decode cX8_pause 46 = .ok (.iload_n 2, 1) := by decide +kernel
theorem dX8_pause_47 : decode cX8_pause 47 = .ok (.iload_n 3, 1) := by decide +kernel
theorem dX8_pause_48 : decode cX8_pause 48 = .ok (.iastore, 1) := by decide +kernel
theorem dX8_pause_49 : decode cX8_pause 49 = .ok (.iconst 1, 1) := by decide +kernel
theorem dX8_pause_50 : decode cX8_pause 50 = .ok (.ireturn, 1) := by decide +kernel
theorem dX8_start_0 : decode cX8_start 0 = .ok (.aload_n 0, 1) := by decide +kernel
theorem dX8_start_1 : decode cX8_start 1 = .ok (.iload_n 1, 1) := by decide +kernel
theorem dX8_start_2 : decode cX8_start 2 = .ok (.invokevirtual 183, 3) := by decide +kernel
theorem dX8_start_5 : decode cX8_start 5 = .ok (.astore_n 3, 1) := by decide +kernel
theorem dX8_start_6 : decode cX8_start 6 = .ok (.aload_n 3, 1) := by decide +kernel
theorem dX8_start_7 : decode cX8_start 7 = .ok (.ifnull 14, 3) := by decide +kernel
theorem dX8_start_10 : decode cX8_start 10 = .ok (.iload_n 2, 1) := by decide +kernel
theorem dX8_start_11 : decode cX8_start 11 = .ok (.ldc 204, 2) := by decide +kernel
theorem dX8_start_13 : decode cX8_start 13 = .ok (.ldc 205, 2) := by decide +kernel
theorem dX8_start_15 : decode cX8_start 15 = .ok (.invokestatic 93, 3) := by decide +kernel
theorem dX8_start_18 : decode cX8_start 18 = .ok (.ifCond .ne 5, 3) := by decide +kernel
theorem dX8_start_21 : decode cX8_start 21 = .ok (.iconst (-1), 1) := by decide +kernel
theorem dX8_start_22 : decode cX8_start 22 = .ok (.ireturn, 1) := by decide +kernel
theorem dX8_start_23 : decode cX8_start 23 = .ok (.aload_n 3, 1) := by decide +kernel
theorem dX8_start_24 : decode cX8_start 24 = .ok (.getfield 190, 3) := by decide +kernel
theorem dX8_start_27 : decode cX8_start 27 = .ok (.ifCond .eq 6, 3) := by decide +kernel
theorem dX8_start_30 : decode cX8_start 30 = .ok (.bipush (-6), 2) := by decide +kernel
theorem dX8_start_32 : decode cX8_start 32 = .ok (.ireturn, 1) := by decide +kernel
theorem dX8_start_33 : decode cX8_start 33 = .ok (.aload_n 3, 1) := by decide +kernel
theorem dX8_start_34 : decode cX8_start 34 = .ok (.iload_n 2, 1) := by decide +kernel
theorem dX8_start_35 : decode cX8_start 35 = .ok (.putfield 206, 3) := by decide +kernel
theorem dX8_start_38 : decode cX8_start 38 = .ok (.iconst 1, 1) := by decide +kernel
theorem dX8_start_39 : decode cX8_start 39 = .ok (.ireturn, 1) := by decide +kernel
theorem dX8_in_0 : decode cX8_in 0 = .ok (.aload_n 0, 1) := by decide +kernel
theorem dX8_in_1 : decode cX8_in 1 = .ok (.iload_n 1, 1) := by decide +kernel
theorem dX8_in_2 : decode cX8_in 2 = .ok (.invokevirtual 183, 3) := by decide +kernel
theorem dX8_in_5 : decode cX8_in 5 = .ok (.astore_n 3, 1) := by decide +kernel
theorem dX8_in_6 : decode cX8_in 6 = .ok (.aload_n 3, 1) := by decide +kernel
theorem dX8_in_7 : decode cX8_in 7 = .ok (.ifnonnull 7, 3) := by decide +kernel
theorem dX8_in_10 : decode cX8_in 10 = .ok (.iconst (-1), 1) := by decide +kernel
theorem dX8_in_11 : decode cX8_in 11 = .ok (.goto 8, 3) := by decide +kernel
theorem dX8_in_14 : decode cX8_in 14 = .ok (.aload_n 3, 1) := by decide +kernel
theorem dX8_in_15 : decode cX8_in 15 = .ok (.iload_n 2, 1) := by decide +kernel
theorem dX8_in_16 : decode cX8_in 16 = .ok (.invokevirtual 209, 3) := by decide +kernel
theorem dX8_in_19 : decode cX8_in 19 = .ok (.ireturn, 1) := by decide +kernel
theorem dX8_where_0 : decode cX8_where 0 = .ok (.aload_n 0, 1) := by decide +kernel
theorem dX8_where_1 : decode cX8_where 1 = .ok (.iload_n 1, 1) := by decide +kernel
theorem dX8_where_2 : decode cX8_where 2 = .ok (.invokevirtual 183, 3) := by decide +kernel
theorem dX8_where_5 : decode cX8_where 5 = .ok (.astore 5, 2) := by decide +kernel
theorem dX8_where_7 : decode cX8_where 7 = .ok (.aload 5, 2) := by decide +kernel
theorem dX8_where_9 : decode cX8_where 9 = .ok (.ifnull 33, 3) := by decide +kernel
theorem dX8_where_12 : decode cX8_where 12 = .ok (.aload 5, 2) := by decide +kernel
theorem dX8_where_14 : decode cX8_where 14 = .ok (.iload_n 2, 1) := by decide +kernel
theorem dX8_where_15 : decode cX8_where 15 = .ok (.invokevirtual 197, 3) := by decide +kernel
theorem dX8_where_18 : decode cX8_where 18 = .ok (.ifCond .eq 24, 3) := by decide +kernel
theorem dX8_where_21 : decode cX8_where 21 = .ok (.iload_n 3, 1) := by decide +kernel
theorem dX8_where_22 : decode cX8_where 22 = .ok (.iconst 0, 1) := by decide +kernel
theorem dX8_where_23 : decode cX8_where 23 = .ok (.sipush 1000, 3) := by decide +kernel
theorem dX8_where_26 : decode cX8_where 26 = .ok (.invokestatic 93, 3) := by decide +kernel
theorem dX8_where_29 : decode cX8_where 29 = .ok (.ifCond .eq 13, 3) := by decide +kernel
theorem dX8_where_32 : decode cX8_where 32 = .ok (.iload 4, 2) := by decide +kernel
theorem dX8_where_34 : decode cX8_where 34 = .ok (.iconst 0, 1) := by decide +kernel
theorem dX8_where_35 : decode cX8_where 35 = .ok (.iconst 3, 1) := by decide +kernel
theorem dX8_where_36 : decode cX8_where 36 = .ok (.invokestatic 93, 3) := by decide +kernel
theorem dX8_where_39 : decode cX8_where 39 = .ok (.ifCond .ne 6, 3) := by decide +kernel
theorem dX8_where_42 : decode cX8_where 42 = .ok (.ldc 210, 2) := by decide +kernel
theorem dX8_where_44 : decode cX8_where 44 = .ok (.ireturn, 1) := by decide +kernel
theorem dX8_where_45 : decode cX8_where 45 = .ok (.aload_n 0, 1) := by decide +kernel
theorem dX8_where_46 : decode cX8_where 46 = .ok (.getfield 60, 3) := by decide +kernel
theorem dX8_where_49 : decode cX8_where 49 = .ok (.iconst 0, 1) := by decide +kernel
theorem dX8_where_50 : decode cX8_where 50 = .ok (.aaload, 1) := by decide +kernel
theorem dX8_where_51 : decode cX8_where 51 = .ok (.astore 6, 2) := by decide +kernel
theorem dX8_where_53 : decode cX8_where 53 = .ok (.aload 6, 2) := by decide +kernel
theorem dX8_where_55 : decode cX8_where 55 = .ok (.aload 5, 2) := by decide +kernel
theorem dX8_where_57 : decode cX8_where 57 = .ok (.getfield 211, 3) := by decide +kernel
theorem dX8_where_60 : decode cX8_where 60 = .ok (.iload_n 2, 1) := by decide +kernel
theorem dX8_where_61 : decode cX8_where 61 = .ok (.aaload, 1) := by decide +kernel
theorem dX8_where_62 : decode cX8_where 62 = .ok (.aload 5, 2) := by decide +kernel
theorem dX8_where_64 : decode cX8_where 64 = .ok (.getfield 212, 3) := by decide +kernel
theorem dX8_where_67 : decode cX8_where 67 = .ok (.aload 5, 2) := by decide +kernel
theorem dX8_where_69 : decode cX8_where 69 = .ok (.getfield 216, 3) := by decide +kernel
theorem dX8_where_72 : decode cX8_where 72 = .ok (.invokevirtual 217, 3) := by decide +kernel
theorem dX8_where_75 : decode cX8_where 75 = .ok (.iload_n 3, 1) := by decide +kernel
theorem dX8_where_76 : decode cX8_where 76 = .ok (.aload 6, 2) := by decide +kernel
theorem dX8_where_78 : decode cX8_where 78 = .ok (.getfield 221, 3) := by decide +kernel
theorem dX8_where_81 : decode cX8_where 81 = .ok (.invokestatic 224, 3) := by decide +kernel
theorem dX8_where_84 : decode cX8_where 84 = .ok (.istore 7, 2) := by decide +kernel
theorem dX8_where_86 : decode cX8_where 86 = .ok (.iload 4, 2) := by decide +kernel
theorem dX8_where_88 : decode cX8_where 88 = .ok (.tableswitch 62 0 2 #[28, 44, 53], 28) := by decide +kernel
theorem dX8_where_116 : decode cX8_where 116 = .ok (.aload 5, 2) := by decide +kernel
theorem dX8_where_118 : decode cX8_where 118 = .ok (.iload_n 2, 1) := by decide +kernel
theorem dX8_where_119 : decode cX8_where 119 = .ok (.invokevirtual 230, 3) := by decide +kernel
theorem dX8_where_122 : decode cX8_where 122 = .ok (.aload 6, 2) := by decide +kernel
theorem dX8_where_124 : decode cX8_where 124 = .ok (.getfield 233, 3) := by decide +kernel
theorem dX8_where_127 : decode cX8_where 127 = .ok (.iload 7, 2) := by decide +kernel
theorem dX8_where_129 : decode cX8_where 129 = .ok (.iaload, 1) := by decide +kernel
theorem dX8_where_130 : decode cX8_where 130 = .ok (.iadd, 1) := by decide +kernel
theorem dX8_where_131 : decode cX8_where 131 = .ok (.ireturn, 1) := by decide +kernel
theorem dX8_where_132 : decode cX8_where 132 = .ok (.aload 6, 2) := by decide +kernel
theorem dX8_where_134 : decode cX8_where 134 = .ok (.getfield 236, 3) := by decide +kernel
theorem dX8_where_137 : decode cX8_where 137 = .ok (.iload 7, 2) := by decide +kernel
theorem dX8_where_139 : decode cX8_where 139 = .ok (.iaload, 1) := by decide +kernel
theorem dX8_where_140 : decode cX8_where 140 = .ok (.ireturn, 1) := by decide +kernel
theorem dX8_where_141 : decode cX8_where 141 = .ok (.aload 6, 2) := by decide +kernel
theorem dX8_where_143 : decode cX8_where 143 = .ok (.getfield 239, 3) := by decide +kernel
theorem dX8_where_146 : decode cX8_where 146 = .ok (.iload 7, 2) := by decide +kernel
theorem dX8_where_148 : decode cX8_where 148 = .ok (.iaload, 1) := by decide +kernel
theorem dX8_where_149 : decode cX8_where 149 = .ok (.ireturn, 1) := by decide +kernel
theorem dX8_where_150 : decode cX8_where 150 = .ok (.aload 6, 2) := by decide +kernel
theorem dX8_where_152 : decode cX8_where 152 = .ok (.iload 7, 2) := by decide +kernel
theorem dX8_where_154 : decode cX8_where 154 = .ok (.invokevirtual 242, 3) := by decide +kernel
theorem dX8_where_157 : decode cX8_where 157 = .ok (.ireturn, 1) := by decide +kernel
theorem dX8_near_0 : decode cX8_near 0 = .ok (.aload_n 0, 1) := by decide +kernel
theorem dX8_near_1 : decode cX8_near 1 = .ok (.iload_n 1, 1) := by decide +kernel
theorem dX8_near_2 : decode cX8_near 2 = .ok (.invokevirtual 183, 3) := by decide +kernel
theorem dX8_near_5 : decode cX8_near 5 = .ok (.astore 4, 2) := by decide +kernel
theorem dX8_near_7 : decode cX8_near 7 = .ok (.aload 4, 2) := by decide +kernel
theorem dX8_near_9 : decode cX8_near 9 = .ok (.ifnull 26, 3) := by decide +kernel
theorem dX8_near_12 : decode cX8_near 12 = .ok (.aload 4, 2) := by decide +kernel
theorem dX8_near_14 : decode cX8_near 14 = .ok (.iload_n 2, 1) := by decide +kernel
theorem dX8_near_15 : decode cX8_near 15 = .ok (.invokevirtual 197, 3) := by decide +kernel
theorem dX8_near_18 : decode cX8_near 18 = .ok (.ifCond .eq 17, 3) := by decide +kernel
theorem dX8_near_21 : decode cX8_near 21 = .ok (.aload 4, 2) := by decide +kernel
theorem dX8_near_23 : decode cX8_near 23 = .ok (.iload_n 3, 1) := by decide +kernel
theorem dX8_near_24 : decode cX8_near 24 = .ok (.invokevirtual 197, 3) := by decide +kernel
theorem dX8_near_27 : decode cX8_near 27 = .ok (.ifCond .eq 8, 3) := by decide +kernel
theorem dX8_near_30 : decode cX8_near 30 = .ok (.iload_n 2, 1) := by decide +kernel
theorem dX8_near_31 : decode cX8_near 31 = .ok (.iload_n 3, 1) := by decide +kernel
theorem dX8_near_32 : decode cX8_near 32 = .ok (.if_icmp .ne 7, 3) := by decide +kernel
theorem dX8_near_35 : decode cX8_near 35 = .ok (.ldc2_w 245, 3) := by decide +kernel
theorem dX8_near_38 : decode cX8_near 38 = .ok (.lreturn, 1) := by decide +kernel
theorem dX8_near_39 : decode cX8_near 39 = .ok (.iload_n 2, 1) := by decide +kernel
theorem dX8_near_40 : decode cX8_near 40 = .ok (.iload_n 3, 1) := by decide +kernel
theorem dX8_near_41 : decode cX8_near 41 = .ok (.invokestatic 224, 3) := by decide +kernel
theorem dX8_near_44 : decode cX8_near 44 = .ok (.istore 5, 2) := by decide +kernel
theorem dX8_near_46 : decode cX8_near 46 = .ok (.iload_n 2, 1) := by decide +kernel
theorem dX8_near_47 : decode cX8_near 47 = .ok (.iload_n 3, 1) := by decide +kernel
theorem dX8_near_48 : decode cX8_near 48 = .ok (.invokestatic 247, 3) := by decide +kernel
theorem dX8_near_51 : decode cX8_near 51 = .ok (.istore 6, 2) := by decide +kernel
theorem dX8_near_53 : decode cX8_near 53 = .ok (.aload_n 0, 1) := by decide +kernel
theorem dX8_near_54 : decode cX8_near 54 = .ok (.getfield 60, 3) := by decide +kernel
theorem dX8_near_57 : decode cX8_near 57 = .ok (.iconst 0, 1) := by decide +kernel
theorem dX8_near_58 : decode cX8_near 58 = .ok (.aaload, 1) := by decide +kernel
theorem dX8_near_59 : decode cX8_near 59 = .ok (.aload 4, 2) := by decide +kernel
theorem dX8_near_61 : decode cX8_near 61 = .ok (.getfield 211, 3) := by decide +kernel
theorem dX8_near_64 : decode cX8_near 64 = .ok (.iload 5, 2) := by decide +kernel
theorem dX8_near_66 : decode cX8_near 66 = .ok (.aaload, 1) := by decide +kernel
theorem dX8_near_67 : decode cX8_near 67 = .ok (.aload 4, 2) := by decide +kernel
theorem dX8_near_69 : decode cX8_near 69 = .ok (.getfield 212, 3) := by decide +kernel
theorem dX8_near_72 : decode cX8_near 72 = .ok (.aload 4, 2) := by decide +kernel
theorem dX8_near_74 : decode cX8_near 74 = .ok (.getfield 216, 3) := by decide +kernel
theorem dX8_near_77 : decode cX8_near 77 = .ok (.invokevirtual 217, 3) := by decide +kernel
theorem dX8_near_80 : decode cX8_near 80 = .ok (.aload_n 0, 1) := by decide +kernel
theorem dX8_near_81 : decode cX8_near 81 = .ok (.getfield 60, 3) := by decide +kernel
theorem dX8_near_84 : decode cX8_near 84 = .ok (.iconst 1, 1) := by decide +kernel
theorem dX8_near_85 : decode cX8_near 85 = .ok (.aaload, 1) := by decide +kernel
theorem dX8_near_86 : decode cX8_near 86 = .ok (.aload 4, 2) := by decide +kernel
theorem dX8_near_88 : decode cX8_near 88 = .ok (.getfield 211, 3) := by decide +kernel
theorem dX8_near_91 : decode cX8_near 91 = .ok (.iload 6, 2) := by decide +kernel
theorem dX8_near_93 : decode cX8_near 93 = .ok (.aaload, 1) := by decide +kernel
theorem dX8_near_94 : decode cX8_near 94 = .ok (.aload 4, 2) := by decide +kernel
theorem dX8_near_96 : decode cX8_near 96 = .ok (.getfield 212, 3) := by decide +kernel
theorem dX8_near_99 : decode cX8_near 99 = .ok (.aload 4, 2) := by decide +kernel
theorem dX8_near_101 : decode cX8_near 101 = .ok (.getfield 216, 3) := by decide +kernel
theorem dX8_near_104 : decode cX8_near 104 = .ok (.invokevirtual 217, 3) := by decide +kernel
theorem dX8_near_107 : decode cX8_near 107 = .ok (.aload 4, 2) := by decide +kernel
theorem dX8_near_109 : decode cX8_near 109 = .ok (.iload 6, 2) := by decide +kernel
theorem dX8_near_111 : decode cX8_near 111 = .ok (.invokevirtual 250, 3) := by decide +kernel
theorem dX8_near_114 : decode cX8_near 114 = .ok (.aload 4, 2) := by decide +kernel
theorem dX8_near_116 : decode cX8_near 116 = .ok (.iload 5, 2) := by decide +kernel
theorem dX8_near_118 : decode cX8_near 118 = .ok (.invokevirtual 250, 3) := by decide +kernel
theorem dX8_near_121 : decode cX8_near 121 = .ok (.isub, 1) := by decide +kernel
theorem dX8_near_122 : decode cX8_near 122 = .ok (.istore 7, 2) := by decide +kernel
theorem dX8_near_124 : decode cX8_near 124 = .ok (.aload_n 0, 1) := by decide +kernel
theorem dX8_near_125 : decode cX8_near 125 = .ok (.getfield 60, 3) := by decide +kernel
theorem dX8_near_128 : decode cX8_near 128 = .ok (.iconst 0, 1) := by decide +kernel
theorem dX8_near_129 : decode cX8_near 129 = .ok (.aaload, 1) := by decide +kernel
theorem dX8_near_130 : decode cX8_near 130 = .ok (.aload_n 0, 1) := by decide +kernel
theorem dX8_near_131 : decode cX8_near 131 = .ok (.getfield 60, 3) := by decide +kernel
theorem dX8_near_134 : decode cX8_near 134 = .ok (.iconst 1, 1) := by decide +kernel
theorem dX8_near_135 : decode cX8_near 135 = .ok (.aaload, 1) := by decide +kernel
theorem dX8_near_136 : decode cX8_near 136 = .ok (.iload 7, 2) := by decide +kernel
theorem dX8_near_138 : decode cX8_near 138 = .ok (.aload 4, 2) := by decide +kernel
theorem dX8_near_140 : decode cX8_near 140 = .ok (.getfield 212, 3) := by decide +kernel
theorem dX8_near_143 : decode cX8_near 143 = .ok (.getfield 253, 3) := by decide +kernel
theorem dX8_near_146 : decode cX8_near 146 = .ok (.lconst 0, 1) := by decide +kernel
theorem dX8_near_147 : decode cX8_near 147 = .ok (.invokevirtual 256, 3) := by decide +kernel
theorem dX8_near_150 : decode cX8_near 150 = .ok (.lreturn, 1) := by decide +kernel
theorem dX8_between_0 : decode cX8_between 0 = .ok (.aload_n 0, 1) := by decide +kernel
theorem dX8_between_1 : decode cX8_between 1 = .ok (.iload_n 1, 1) := by decide +kernel
theorem dX8_between_2 : decode cX8_between 2 = .ok (.invokevirtual 171, 3) := by decide +kernel
theorem dX8_between_5 : decode cX8_between 5 = .ok (.astore 4, 2) := by decide +kernel
theorem dX8_between_7 : decode cX8_between 7 = .ok (.aload_n 0, 1) := by decide +kernel
theorem dX8_between_8 : decode cX8_between 8 = .ok (.iload_n 2, 1) := by decide +kernel
theorem dX8_between_9 : decode cX8_between 9 = .ok (.invokevirtual 149, 3) := by decide +kernel
theorem dX8_between_12 : decode cX8_between 12 = .ok (.astore 5, 2) := by decide +kernel
theorem dX8_between_14 : decode cX8_between 14 = .ok (.aload_n 0, 1) := by decide +kernel
theorem dX8_between_15 : decode cX8_between 15 = .ok (.iload_n 3, 1) := by decide +kernel
theorem dX8_between_16 : decode cX8_between 16 = .ok (.invokevirtual 149, 3) := by decide +kernel
theorem dX8_between_19 : decode cX8_between 19 = .ok (.astore 6, 2) := by decide +kernel
theorem dX8_between_21 : decode cX8_between 21 = .ok (.aload 4, 2) := by decide +kernel
theorem dX8_between_23 : decode cX8_between 23 = .ok (.ifnull 20, 3) := by decide +kernel
theorem dX8_between_26 : decode cX8_between 26 = .ok (.aload 5, 2) := by decide +kernel
theorem dX8_between_28 : decode cX8_between 28 = .ok (.ifnull 15, 3) := by decide +kernel
theorem dX8_between_31 : decode cX8_between 31 = .ok (.aload 6, 2) := by decide +kernel
theorem dX8_between_33 : decode cX8_between 33 = .ok (.ifnull 10, 3) := by decide +kernel
theorem dX8_between_36 : decode cX8_between 36 = .ok (.aload 5, 2) := by decide +kernel
theorem dX8_between_38 : decode cX8_between 38 = .ok (.aload 6, 2) := by decide +kernel
theorem dX8_between_40 : decode cX8_between 40 = .ok (.if_acmp .ne 5, 3) := by decide +kernel
theorem dX8_between_43 : decode cX8_between 43 = .ok (.iconst (-1), 1) := by decide +kernel
theorem dX8_between_44 : decode cX8_between 44 = .ok (.ireturn, 1) := by decide +kernel
theorem dX8_between_45 : decode cX8_between 45 = .ok (.aload_n 0, 1) := by decide +kernel
theorem dX8_between_46 : decode cX8_between 46 = .ok (.getfield 60, 3) := by decide +kernel
theorem dX8_between_49 : decode cX8_between 49 = .ok (.iconst 0, 1) := by decide +kernel
theorem dX8_between_50 : decode cX8_between 50 = .ok (.aaload, 1) := by decide +kernel
theorem dX8_between_51 : decode cX8_between 51 = .ok (.aload 5, 2) := by decide +kernel
theorem dX8_between_53 : decode cX8_between 53 = .ok (.aload 4, 2) := by decide +kernel
theorem dX8_between_55 : decode cX8_between 55 = .ok (.aload_n 0, 1) := by decide +kernel
theorem dX8_between_56 : decode cX8_between 56 = .ok (.getfield 18, 3) := by decide +kernel
theorem dX8_between_59 : decode cX8_between 59 = .ok (.invokevirtual 217, 3) := by decide +kernel
theorem dX8_between_62 : decode cX8_between 62 = .ok (.aload_n 0, 1) := by decide +kernel
theorem dX8_between_63 : decode cX8_between 63 = .ok (.getfield 60, 3) := by decide +kernel
theorem dX8_between_66 : decode cX8_between 66 = .ok (.iconst 1, 1) := by decide +kernel
theorem dX8_between_67 : decode cX8_between 67 = .ok (.aaload, 1) := by decide +kernel
theorem dX8_between_68 : decode cX8_between 68 = .ok (.aload 6, 2) := by decide +kernel
theorem dX8_between_70 : decode cX8_between 70 = .ok (.aload 4, 2) := by decide +kernel
theorem dX8_between_72 : decode cX8_between 72 = .ok (.aload_n 0, 1) := by decide +kernel
theorem dX8_between_73 : decode cX8_between 73 = .ok (.getfield 18, 3) := by decide +kernel
theorem dX8_between_76 : decode cX8_between 76 = .ok (.invokevirtual 217, 3) := by decide +kernel
theorem dX8_between_79 : decode cX8_between 79 = .ok (.aload_n 0, 1) := by decide +kernel
theorem dX8_between_80 : decode cX8_between 80 = .ok (.aload_n 0, 1) := by decide +kernel
theorem dX8_between_81 : decode cX8_between 81 = .ok (.getfield 60, 3) := by decide +kernel
theorem dX8_between_84 : decode cX8_between 84 = .ok (.iconst 0, 1) := by decide +kernel
theorem dX8_between_85 : decode cX8_between 85 = .ok (.aaload, 1) := by decide +kernel
theorem dX8_between_86 : decode cX8_between 86 = .ok (.aload_n 0, 1) := by decide +kernel
theorem dX8_between_87 : decode cX8_between 87 = .ok (.getfield 60, 3) := by decide +kernel
theorem dX8_between_90 : decode cX8_between 90 = .ok (.iconst 1, 1) := by decide +kernel
theorem dX8_between_91 : decode cX8_between 91 = .ok (.aaload, 1) := by decide +kernel
theorem dX8_between_92 : decode cX8_between 92 = .ok (.aload 4, 2) := by decide +kernel
theorem dX8_between_94 : decode cX8_between 94 = .ok (.getfield 253, 3) := by decide +kernel
theorem dX8_between_97 : decode cX8_between 97 = .ok (.invokevirtual 260, 3) := by decide +kernel
theorem dX8_between_100 : decode cX8_between 100 = .ok (.istore 7, 2) := by decide +kernel
theorem dX8_between_102 : decode cX8_between 102 = .ok (.iload 7, 2) := by decide +kernel
theorem dX8_between_104 : decode cX8_between 104 = .ok (.ifCond .ne 8, 3) := by decide +kernel
theorem dX8_between_107 : decode cX8_between 107 = .ok (.bipush (-7), 2) := by decide +kernel
theorem dX8_between_109 : decode cX8_between 109 = .ok (.goto 5, 3) := by decide +kernel
theorem dX8_between_112 : decode cX8_between 112 = .ok (.iload 7, 2) := by decide +kernel
theorem dX8_between_114 : decode cX8_between 114 = .ok (.ireturn, 1) := by decide +kernel
theorem dX8_order_0 : decode cX8_order 0 = .ok (.aload_n 0, 1) := by decide +kernel
theorem dX8_order_1 : decode cX8_order 1 = .ok (.iload_n 1, 1) := by decide +kernel
theorem dX8_order_2 : decode cX8_order 2 = .ok (.invokevirtual 183, 3) := by decide +kernel
theorem dX8_order_5 : decode cX8_order 5 = .ok (.astore_n 2, 1) := by decide +kernel
theorem dX8_order_6 : decode cX8_order 6 = .ok (.aload_n 2, 1) := by decide +kernel
theorem dX8_order_7 : decode cX8_order 7 = .ok (.ifnonnull 5, 3) := by decide +kernel
theorem dX8_order_10 : decode cX8_order 10 = .ok (.iconst (-1), 1) := by decide +kernel
theorem dX8_order_11 : decode cX8_order 11 = .ok (.ireturn, 1) := by decide +kernel
theorem dX8_order_12 : decode cX8_order 12 = .ok (.aload_n 2, 1) := by decide +kernel
theorem dX8_order_13 : decode cX8_order 13 = .ok (.getfield 190, 3) := by decide +kernel
theorem dX8_order_16 : decode cX8_order 16 = .ok (.ifCond .eq 6, 3) := by decide +kernel
theorem dX8_order_19 : decode cX8_order 19 = .ok (.bipush (-6), 2) := by decide +kernel
theorem dX8_order_21 : decode cX8_order 21 = .ok (.ireturn, 1) := by decide +kernel
theorem dX8_order_22 : decode cX8_order 22 = .ok (.aload_n 2, 1) := by decide +kernel
theorem dX8_order_23 : decode cX8_order 23 = .ok (.getfield 193, 3) := by decide +kernel
theorem dX8_order_26 : decode cX8_order 26 = .ok (.ifCond .ne 6, 3) := by decide +kernel
theorem dX8_order_29 : decode cX8_order 29 = .ok (.bipush (-7), 2) := by decide +kernel
theorem dX8_order_31 : decode cX8_order 31 = .ok (.ireturn, 1) := by decide +kernel
theorem dX8_order_32 : decode cX8_order 32 = .ok (.aload_n 0, 1) := by decide +kernel
theorem dX8_order_33 : decode cX8_order 33 = .ok (.aload_n 2, 1) := by decide +kernel
theorem dX8_order_34 : decode cX8_order 34 = .ok (.invokevirtual 264, 3) := by decide +kernel
theorem dX8_order_37 : decode cX8_order 37 = .ok (.aload_n 0, 1) := by decide +kernel
theorem dX8_order_38 : decode cX8_order 38 = .ok (.getfield 67, 3) := by decide +kernel
theorem dX8_order_41 : decode cX8_order 41 = .ok (.aload_n 2, 1) := by decide +kernel
theorem dX8_order_42 : decode cX8_order 42 = .ok (.invokevirtual 268, 3) := by decide +kernel
theorem dX8_order_45 : decode cX8_order 45 = .ok (.aload_n 0, 1) := by decide +kernel
theorem dX8_order_46 : decode cX8_order 46 = .ok (.getfield 67, 3) := by decide +kernel
theorem dX8_order_49 : decode cX8_order 49 = .ok (.invokevirtual 270, 3) := by decide +kernel
theorem dX8_order_52 : decode cX8_order 52 = .ok (.ifCond .ne 6, 3) := by decide +kernel
theorem dX8_order_55 : decode cX8_order 55 = .ok (.bipush (-7), 2) := by decide +kernel
theorem dX8_order_57 : decode cX8_order 57 = .ok (.ireturn, 1) := by decide +kernel
theorem dX8_order_58 : decode cX8_order 58 = .ok (.aload_n 0, 1) := by decide +kernel
theorem dX8_order_59 : decode cX8_order 59 = .ok (.getfield 67, 3) := by decide +kernel
theorem dX8_order_62 : decode cX8_order 62 = .ok (.aload_n 2, 1) := by decide +kernel
theorem dX8_order_63 : decode cX8_order 63 = .ok (.aload_n 0, 1) := by decide +kernel
theorem dX8_order_64 : decode cX8_order 64 = .ok (.getfield 30, 3) := by decide +kernel
theorem dX8_order_67 : decode cX8_order 67 = .ok (.invokevirtual 274, 3) := by decide +kernel
theorem dX8_order_70 : decode cX8_order 70 = .ok (.aload_n 0, 1) := by decide +kernel
theorem dX8_order_71 : decode cX8_order 71 = .ok (.getfield 67, 3) := by decide +kernel
theorem dX8_order_74 : decode cX8_order 74 = .ok (.getfield 278, 3) := by decide +kernel
theorem dX8_order_77 : decode cX8_order 77 = .ok (.ireturn, 1) := by decide +kernel
theorem dX8_spot_0 : decode cX8_spot 0 = .ok (.aload_n 0, 1) := by decide +kernel
theorem dX8_spot_1 : decode cX8_spot 1 = .ok (.iload_n 1, 1) := by decide +kernel
theorem dX8_spot_2 : decode cX8_spot 2 = .ok (.invokevirtual 183, 3) := by decide +kernel
theorem dX8_spot_5 : decode cX8_spot 5 = .ok (.astore_n 3, 1) := by decide +kernel
theorem dX8_spot_6 : decode cX8_spot 6 = .ok (.aload_n 3, 1) := by decide +kernel
theorem dX8_spot_7 : decode cX8_spot 7 = .ok (.ifnull 12, 3) := by decide +kernel
theorem dX8_spot_10 : decode cX8_spot 10 = .ok (.iload_n 2, 1) := by decide +kernel
theorem dX8_spot_11 : decode cX8_spot 11 = .ok (.iconst 0, 1) := by decide +kernel
theorem dX8_spot_12 : decode cX8_spot 12 = .ok (.iconst 1, 1) := by decide +kernel
theorem dX8_spot_13 : decode cX8_spot 13 = .ok (.invokestatic 93, 3) := by decide +kernel
theorem dX8_spot_16 : decode cX8_spot 16 = .ok (.ifCond .ne 7, 3) := by decide +kernel
theorem dX8_spot_19 : decode cX8_spot 19 = .ok (.ldc_w 281, 3) := by decide +kernel
theorem dX8_spot_22 : decode cX8_spot 22 = .ok (.ireturn, 1) := by decide +kernel
theorem dX8_spot_23 : decode cX8_spot 23 = .ok (.aload_n 0, 1) := by decide +kernel
theorem dX8_spot_24 : decode cX8_spot 24 = .ok (.aload_n 3, 1) := by decide +kernel
theorem dX8_spot_25 : decode cX8_spot 25 = .ok (.invokevirtual 282, 3) := by decide +kernel
theorem dX8_spot_28 : decode cX8_spot 28 = .ok (.ldc 204, 2) := by decide +kernel
theorem dX8_spot_30 : decode cX8_spot 30 = .ok (.istore 4, 2) := by decide +kernel
theorem dX8_spot_32 : decode cX8_spot 32 = .ok (.ldc 205, 2) := by decide +kernel
theorem dX8_spot_34 : decode cX8_spot 34 = .ok (.istore 5, 2) := by decide +kernel
theorem dX8_spot_36 : decode cX8_spot 36 = .ok (.iconst 0, 1) := by decide +kernel
theorem dX8_spot_37 : decode cX8_spot 37 = .ok (.istore 6, 2) := by decide +kernel
theorem dX8_spot_39 : decode cX8_spot 39 = .ok (.iload 6, 2) := by decide +kernel
theorem dX8_spot_41 : decode cX8_spot 41 = .ok (.aload_n 3, 1) := by decide +kernel
theorem dX8_spot_42 : decode cX8_spot 42 = .ok (.getfield 193, 3) := by decide +kernel
theorem dX8_spot_45 : decode cX8_spot 45 = .ok (.if_icmp .ge 88, 3) := by decide +kernel
theorem dX8_spot_48 : decode cX8_spot 48 = .ok (.aload_n 0, 1) := by decide +kernel
theorem dX8_spot_49 : decode cX8_spot 49 = .ok (.aload_n 3, 1) := by decide +kernel
theorem dX8_spot_50 : decode cX8_spot 50 = .ok (.getfield 211, 3) := by decide +kernel
theorem dX8_spot_53 : decode cX8_spot 53 = .ok (.iload 6, 2) := by decide +kernel
theorem dX8_spot_55 : decode cX8_spot 55 = .ok (.aaload, 1) := by decide +kernel
theorem dX8_spot_56 : decode cX8_spot 56 = .ok (.aload_n 0, 1) := by decide +kernel
theorem dX8_spot_57 : decode cX8_spot 57 = .ok (.getfield 60, 3) := by decide +kernel
theorem dX8_spot_60 : decode cX8_spot 60 = .ok (.iload 6, 2) := by decide +kernel
theorem dX8_spot_62 : decode cX8_spot 62 = .ok (.aaload, 1) := by decide +kernel
theorem dX8_spot_63 : decode cX8_spot 63 = .ok (.invokevirtual 285, 3) := by decide +kernel
theorem dX8_spot_66 : decode cX8_spot 66 = .ok (.istore 7, 2) := by decide +kernel
theorem dX8_spot_68 : decode cX8_spot 68 = .ok (.iload 7, 2) := by decide +kernel
theorem dX8_spot_70 : decode cX8_spot 70 = .ok (.ifCond .ge 7, 3) := by decide +kernel
theorem dX8_spot_73 : decode cX8_spot 73 = .ok (.ldc_w 289, 3) := by decide +kernel
theorem dX8_spot_76 : decode cX8_spot 76 = .ok (.ireturn, 1) := by decide +kernel
theorem dX8_spot_77 : decode cX8_spot 77 = .ok (.aload_n 3, 1) := by decide +kernel
theorem dX8_spot_78 : decode cX8_spot 78 = .ok (.iload 6, 2) := by decide +kernel
theorem dX8_spot_80 : decode cX8_spot 80 = .ok (.invokevirtual 230, 3) := by decide +kernel
theorem dX8_spot_83 : decode cX8_spot 83 = .ok (.aload_n 3, 1) := by decide +kernel
theorem dX8_spot_84 : decode cX8_spot 84 = .ok (.getfield 206, 3) := by decide +kernel
theorem dX8_spot_87 : decode cX8_spot 87 = .ok (.isub, 1) := by decide +kernel
theorem dX8_spot_88 : decode cX8_spot 88 = .ok (.aload_n 0, 1) := by decide +kernel
theorem dX8_spot_89 : decode cX8_spot 89 = .ok (.getfield 60, 3) := by decide +kernel
theorem dX8_spot_92 : decode cX8_spot 92 = .ok (.iload 6, 2) := by decide +kernel
theorem dX8_spot_94 : decode cX8_spot 94 = .ok (.aaload, 1) := by decide +kernel
theorem dX8_spot_95 : decode cX8_spot 95 = .ok (.invokevirtual 290, 3) := by decide +kernel
theorem dX8_spot_98 : decode cX8_spot 98 = .ok (.iadd, 1) := by decide +kernel
theorem dX8_spot_99 : decode cX8_spot 99 = .ok (.istore 8, 2) := by decide +kernel
theorem dX8_spot_101 : decode cX8_spot 101 = .ok (.iload 4, 2) := by decide +kernel
theorem dX8_spot_103 : decode cX8_spot 103 = .ok (.iload 8, 2) := by decide +kernel
theorem dX8_spot_105 : decode cX8_spot 105 = .ok (.ineg, 1) := by decide +kernel
theorem dX8_spot_106 : decode cX8_spot 106 = .ok (.iload 7, 2) := by decide +kernel
theorem dX8_spot_108 : decode cX8_spot 108 = .ok (.isub, 1) := by decide +kernel
theorem dX8_spot_109 : decode cX8_spot 109 = .ok (.invokestatic 247, 3) := by decide +kernel
theorem dX8_spot_112 : decode cX8_spot 112 = .ok (.istore 4, 2) := by decide +kernel
theorem dX8_spot_114 : decode cX8_spot 114 = .ok (.iload 5, 2) := by decide +kernel
theorem dX8_spot_116 : decode cX8_spot 116 = .ok (.iload 8, 2) := by decide +kernel
theorem dX8_spot_118 : decode cX8_spot 118 = .ok (.ineg, 1) := by decide +kernel
theorem dX8_spot_119 : decode cX8_spot 119 = .ok (.iload 7, 2) := by decide +kernel
theorem dX8_spot_121 : decode cX8_spot 121 = .ok (.iadd, 1) := by decide +kernel
theorem dX8_spot_122 : decode cX8_spot 122 = .ok (.invokestatic 224, 3) := by decide +kernel
theorem dX8_spot_125 : decode cX8_spot 125 = .ok (.istore 5, 2) := by decide +kernel
theorem dX8_spot_127 : decode cX8_spot 127 = .ok (.iinc 6 1, 3) := by decide +kernel
theorem dX8_spot_130 : decode cX8_spot 130 = .ok (.goto (-91), 3) := by decide +kernel
theorem dX8_spot_133 : decode cX8_spot 133 = .ok (.iload 4, 2) := by decide +kernel
theorem dX8_spot_135 : decode cX8_spot 135 = .ok (.iload 5, 2) := by decide +kernel
theorem dX8_spot_137 : decode cX8_spot 137 = .ok (.if_icmp .le 7, 3) := by decide +kernel
theorem dX8_spot_140 : decode cX8_spot 140 = .ok (.ldc_w 289, 3) := by decide +kernel
theorem dX8_spot_143 : decode cX8_spot 143 = .ok (.ireturn, 1) := by decide +kernel
theorem dX8_spot_144 : decode cX8_spot 144 = .ok (.iload_n 2, 1) := by decide +kernel
theorem dX8_spot_145 : decode cX8_spot 145 = .ok (.ifCond .ne 8, 3) := by decide +kernel
theorem dX8_spot_148 : decode cX8_spot 148 = .ok (.iload 4, 2) := by decide +kernel
theorem dX8_spot_150 : decode cX8_spot 150 = .ok (.goto 5, 3) := by decide +kernel
theorem dX8_spot_153 : decode cX8_spot 153 = .ok (.iload 5, 2) := by decide +kernel
theorem dX8_spot_155 : decode cX8_spot 155 = .ok (.ireturn, 1) := by decide +kernel
theorem dX8_why_0 : decode cX8_why 0 = .ok (.aload_n 0, 1) := by decide +kernel
theorem dX8_why_1 : decode cX8_why 1 = .ok (.iload_n 1, 1) := by decide +kernel
theorem dX8_why_2 : decode cX8_why 2 = .ok (.invokevirtual 183, 3) := by decide +kernel
theorem dX8_why_5 : decode cX8_why 5 = .ok (.astore_n 3, 1) := by decide +kernel
theorem dX8_why_6 : decode cX8_why 6 = .ok (.aload_n 3, 1) := by decide +kernel
theorem dX8_why_7 : decode cX8_why 7 = .ok (.ifnull 14, 3) := by decide +kernel
theorem dX8_why_10 : decode cX8_why 10 = .ok (.iload_n 2, 1) := by decide +kernel
theorem dX8_why_11 : decode cX8_why 11 = .ok (.iconst 0, 1) := by decide +kernel
theorem dX8_why_12 : decode cX8_why 12 = .ok (.sipush 1000, 3) := by decide +kernel
theorem dX8_why_15 : decode cX8_why 15 = .ok (.invokestatic 93, 3) := by decide +kernel
theorem dX8_why_18 : decode cX8_why 18 = .ok (.ifCond .ne 5, 3) := by decide +kernel
theorem dX8_why_21 : decode cX8_why 21 = .ok (.iconst (-1), 1) := by decide +kernel
theorem dX8_why_22 : decode cX8_why 22 = .ok (.ireturn, 1) := by decide +kernel
theorem dX8_why_23 : decode cX8_why 23 = .ok (.aload_n 3, 1) := by decide +kernel
theorem dX8_why_24 : decode cX8_why 24 = .ok (.getfield 190, 3) := by decide +kernel
theorem dX8_why_27 : decode cX8_why 27 = .ok (.ifCond .eq 5, 3) := by decide +kernel
theorem dX8_why_30 : decode cX8_why 30 = .ok (.iconst 1, 1) := by decide +kernel
theorem dX8_why_31 : decode cX8_why 31 = .ok (.ireturn, 1) := by decide +kernel
theorem dX8_why_32 : decode cX8_why 32 = .ok (.aload_n 3, 1) := by decide +kernel
theorem dX8_why_33 : decode cX8_why 33 = .ok (.invokevirtual 294, 3) := by decide +kernel
theorem dX8_why_36 : decode cX8_why 36 = .ok (.ifCond .eq 5, 3) := by decide +kernel
theorem dX8_why_39 : decode cX8_why 39 = .ok (.iconst 2, 1) := by decide +kernel
theorem dX8_why_40 : decode cX8_why 40 = .ok (.ireturn, 1) := by decide +kernel
theorem dX8_why_41 : decode cX8_why 41 = .ok (.aload_n 3, 1) := by decide +kernel
theorem dX8_why_42 : decode cX8_why 42 = .ok (.invokevirtual 297, 3) := by decide +kernel
theorem dX8_why_45 : decode cX8_why 45 = .ok (.aload_n 3, 1) := by decide +kernel
theorem dX8_why_46 : decode cX8_why 46 = .ok (.getfield 212, 3) := by decide +kernel
theorem dX8_why_49 : decode cX8_why 49 = .ok (.getfield 300, 3) := by decide +kernel
theorem dX8_why_52 : decode cX8_why 52 = .ok (.if_icmp .le 5, 3) := by decide +kernel
theorem dX8_why_55 : decode cX8_why 55 = .ok (.iconst 3, 1) := by decide +kernel
theorem dX8_why_56 : decode cX8_why 56 = .ok (.ireturn, 1) := by decide +kernel
theorem dX8_why_57 : decode cX8_why 57 = .ok (.aload_n 3, 1) := by decide +kernel
theorem dX8_why_58 : decode cX8_why 58 = .ok (.invokevirtual 303, 3) := by decide +kernel
theorem dX8_why_61 : decode cX8_why 61 = .ok (.aload_n 3, 1) := by decide +kernel
theorem dX8_why_62 : decode cX8_why 62 = .ok (.getfield 212, 3) := by decide +kernel
theorem dX8_why_65 : decode cX8_why 65 = .ok (.getfield 306, 3) := by decide +kernel
theorem dX8_why_68 : decode cX8_why 68 = .ok (.if_icmp .le 5, 3) := by decide +kernel
theorem dX8_why_71 : decode cX8_why 71 = .ok (.iconst 4, 1) := by decide +kernel
theorem dX8_why_72 : decode cX8_why 72 = .ok (.ireturn, 1) := by decide +kernel
theorem dX8_why_73 : decode cX8_why 73 = .ok (.aload_n 3, 1) := by decide +kernel
theorem dX8_why_74 : decode cX8_why 74 = .ok (.iload_n 2, 1) := by decide +kernel
theorem dX8_why_75 : decode cX8_why 75 = .ok (.invokevirtual 309, 3) := by decide +kernel
theorem dX8_why_78 : decode cX8_why 78 = .ok (.ifCond .eq 5, 3) := by decide +kernel
theorem dX8_why_81 : decode cX8_why 81 = .ok (.iconst 5, 1) := by decide +kernel
theorem dX8_why_82 : decode cX8_why 82 = .ok (.ireturn, 1) := by decide +kernel
theorem dX8_why_83 : decode cX8_why 83 = .ok (.aload_n 3, 1) := by decide +kernel
theorem dX8_why_84 : decode cX8_why 84 = .ok (.invokevirtual 312, 3) := by decide +kernel
theorem dX8_why_87 : decode cX8_why 87 = .ok (.ifCond .eq 6, 3) := by decide +kernel
theorem dX8_why_90 : decode cX8_why 90 = .ok (.bipush 6, 2) := by decide +kernel
theorem dX8_why_92 : decode cX8_why 92 = .ok (.ireturn, 1) := by decide +kernel
theorem dX8_why_93 : decode cX8_why 93 = .ok (.aload_n 3, 1) := by decide +kernel
theorem dX8_why_94 : decode cX8_why 94 = .ok (.invokevirtual 315, 3) := by decide +kernel
theorem dX8_why_97 : decode cX8_why 97 = .ok (.ifCond .eq 6, 3) := by decide +kernel
theorem dX8_why_100 : decode cX8_why 100 = .ok (.bipush 7, 2) := by decide +kernel
theorem dX8_why_102 : decode cX8_why 102 = .ok (.ireturn, 1) := by decide +kernel
theorem dX8_why_103 : decode cX8_why 103 = .ok (.aload_n 0, 1) := by decide +kernel
theorem dX8_why_104 : decode cX8_why 104 = .ok (.aload_n 3, 1) := by decide +kernel
theorem dX8_why_105 : decode cX8_why 105 = .ok (.invokevirtual 318, 3) := by decide +kernel
theorem dX8_why_108 : decode cX8_why 108 = .ok (.ireturn, 1) := by decide +kernel
theorem dX8_leave_0 : decode cX8_leave 0 = .ok (.aload_n 0, 1) := by decide +kernel
theorem dX8_leave_1 : decode cX8_leave 1 = .ok (.iload_n 1, 1) := by decide +kernel
theorem dX8_leave_2 : decode cX8_leave 2 = .ok (.iload_n 2, 1) := by decide +kernel
theorem dX8_leave_3 : decode cX8_leave 3 = .ok (.invokevirtual 322, 3) := by decide +kernel
theorem dX8_leave_6 : decode cX8_leave 6 = .ok (.istore_n 3, 1) := by decide +kernel
theorem dX8_leave_7 : decode cX8_leave 7 = .ok (.iload_n 3, 1) := by decide +kernel
theorem dX8_leave_8 : decode cX8_leave 8 = .ok (.iconst (-1), 1) := by decide +kernel
theorem dX8_leave_9 : decode cX8_leave 9 = .ok (.if_icmp .ne 5, 3) := by decide +kernel
theorem dX8_leave_12 : decode cX8_leave 12 = .ok (.iconst (-1), 1) := by decide +kernel
theorem dX8_leave_13 : decode cX8_leave 13 = .ok (.ireturn, 1) := by decide +kernel
theorem dX8_leave_14 : decode cX8_leave 14 = .ok (.aload_n 0, 1) := by decide +kernel
theorem dX8_leave_15 : decode cX8_leave 15 = .ok (.iload_n 1, 1) := by decide +kernel
theorem dX8_leave_16 : decode cX8_leave 16 = .ok (.invokevirtual 183, 3) := by decide +kernel
theorem dX8_leave_19 : decode cX8_leave 19 = .ok (.astore 4, 2) := by decide +kernel
theorem dX8_leave_21 : decode cX8_leave 21 = .ok (.iload_n 3, 1) := by decide +kernel
theorem dX8_leave_22 : decode cX8_leave 22 = .ok (.ifCond .ne 8, 3) := by decide +kernel
theorem dX8_leave_25 : decode cX8_leave 25 = .ok (.aload 4, 2) := by decide +kernel
theorem dX8_leave_27 : decode cX8_leave 27 = .ok (.ifnonnull 6, 3) := by decide +kernel
theorem dX8_leave_30 : decode cX8_leave 30 = .ok (.bipush (-6), 2) := by decide +kernel
theorem dX8_leave_32 : decode cX8_leave 32 = .ok (.ireturn, 1) := by decide +kernel
theorem dX8_leave_33 : decode cX8_leave 33 = .ok (.aload 4, 2) := by decide +kernel
theorem dX8_leave_35 : decode cX8_leave 35 = .ok (.invokevirtual 325, 3) := by decide +kernel
theorem dX8_leave_38 : decode cX8_leave 38 = .ok (.aload 4, 2) := by decide +kernel
theorem dX8_leave_40 : decode cX8_leave 40 = .ok (.invokevirtual 297, 3) := by decide +kernel
theorem dX8_leave_43 : decode cX8_leave 43 = .ok (.ireturn, 1) := by decide +kernel
theorem dX8_many_0 : decode cX8_many 0 = .ok (.iload_n 1, 1) := by decide +kernel
theorem dX8_many_1 : decode cX8_many 1 = .ok (.tableswitch 51 0 3 #[31, 36, 41, 46], 31) := by decide +kernel
theorem dX8_many_32 : decode cX8_many 32 = .ok (.aload_n 0, 1) := by decide +kernel
theorem dX8_many_33 : decode cX8_many 33 = .ok (.getfield 71, 3) := by decide +kernel
theorem dX8_many_36 : decode cX8_many 36 = .ok (.ireturn, 1) := by decide +kernel
theorem dX8_many_37 : decode cX8_many 37 = .ok (.aload_n 0, 1) := by decide +kernel
theorem dX8_many_38 : decode cX8_many 38 = .ok (.getfield 75, 3) := by decide +kernel
theorem dX8_many_41 : decode cX8_many 41 = .ok (.ireturn, 1) := by decide +kernel
theorem dX8_many_42 : decode cX8_many 42 = .ok (.aload_n 0, 1) := by decide +kernel
theorem dX8_many_43 : decode cX8_many 43 = .ok (.invokevirtual 328, 3) := by decide +kernel
theorem dX8_many_46 : decode cX8_many 46 = .ok (.ireturn, 1) := by decide +kernel
theorem dX8_many_47 : decode cX8_many 47 = .ok (.aload_n 0, 1) := by decide +kernel
theorem dX8_many_48 : decode cX8_many 48 = .ok (.invokevirtual 331, 3) := by decide +kernel
theorem dX8_many_51 : decode cX8_many 51 = .ok (.ireturn, 1) := by decide +kernel
theorem dX8_many_52 : decode cX8_many 52 = .ok (.iconst (-1), 1) := by decide +kernel
theorem dX8_many_53 : decode cX8_many 53 = .ok (.ireturn, 1) := by decide +kernel
theorem dX8_within_0 : decode cX8_within 0 = .ok (.iload_n 0, 1) := by decide +kernel
theorem dX8_within_1 : decode cX8_within 1 = .ok (.iload_n 1, 1) := by decide +kernel
theorem dX8_within_2 : decode cX8_within 2 = .ok (.if_icmp .lt 12, 3) := by decide +kernel
theorem dX8_within_5 : decode cX8_within 5 = .ok (.iload_n 0, 1) := by decide +kernel
theorem dX8_within_6 : decode cX8_within 6 = .ok (.iload_n 2, 1) := by decide +kernel
theorem dX8_within_7 : decode cX8_within 7 = .ok (.if_icmp .gt 7, 3) := by decide +kernel
theorem dX8_within_10 : decode cX8_within 10 = .ok (.iconst 1, 1) := by decide +kernel
theorem dX8_within_11 : decode cX8_within 11 = .ok (.goto 4, 3) := by decide +kernel
theorem dX8_within_14 : decode cX8_within 14 = .ok (.iconst 0, 1) := by decide +kernel
theorem dX8_within_15 : decode cX8_within 15 = .ok (.ireturn, 1) := by decide +kernel
theorem dX8_isWind_0 : decode cX8_isWind 0 = .ok (.iload_n 0, 1) := by decide +kernel
theorem dX8_isWind_1 : decode cX8_isWind 1 = .ok (.sipush (-300), 3) := by decide +kernel
theorem dX8_isWind_4 : decode cX8_isWind 4 = .ok (.sipush 300, 3) := by decide +kernel
theorem dX8_isWind_7 : decode cX8_isWind 7 = .ok (.invokestatic 93, 3) := by decide +kernel
theorem dX8_isWind_10 : decode cX8_isWind 10 = .ok (.ireturn, 1) := by decide +kernel
theorem dX8_isPause_0 : decode cX8_isPause 0 = .ok (.iload_n 0, 1) := by decide +kernel
theorem dX8_isPause_1 : decode cX8_isPause 1 = .ok (.iconst 1, 1) := by decide +kernel
theorem dX8_isPause_2 : decode cX8_isPause 2 = .ok (.bipush 60, 2) := by decide +kernel
theorem dX8_isPause_4 : decode cX8_isPause 4 = .ok (.invokestatic 93, 3) := by decide +kernel
theorem dX8_isPause_7 : decode cX8_isPause 7 = .ok (.ireturn, 1) := by decide +kernel
theorem dX8_sheetAt_0 : decode cX8_sheetAt 0 = .ok (.iload_n 1, 1) := by decide +kernel
theorem dX8_sheetAt_1 : decode cX8_sheetAt 1 = .ok (.ifCond .lt 21, 3) := by decide +kernel
theorem dX8_sheetAt_4 : decode cX8_sheetAt 4 = .ok (.iload_n 1, 1) := by decide +kernel
theorem dX8_sheetAt_5 : decode cX8_sheetAt 5 = .ok (.aload_n 0, 1) := by decide +kernel
theorem dX8_sheetAt_6 : decode cX8_sheetAt 6 = .ok (.getfield 11, 3) := by decide +kernel
theorem dX8_sheetAt_9 : decode cX8_sheetAt 9 = .ok (.arraylength, 1) := by decide +kernel
theorem dX8_sheetAt_10 : decode cX8_sheetAt 10 = .ok (.if_icmp .ge 12, 3) := by decide +kernel
theorem dX8_sheetAt_13 : decode cX8_sheetAt 13 = .ok (.aload_n 0, 1) := by decide +kernel
theorem dX8_sheetAt_14 : decode cX8_sheetAt 14 = .ok (.getfield 11, 3) := by decide +kernel
theorem dX8_sheetAt_17 : decode cX8_sheetAt 17 = .ok (.iload_n 1, 1) := by decide +kernel
theorem dX8_sheetAt_18 : decode cX8_sheetAt 18 = .ok (.aaload, 1) := by decide +kernel
theorem dX8_sheetAt_19 : decode cX8_sheetAt 19 = .ok (.goto 4, 3) := by decide +kernel
theorem dX8_sheetAt_22 : decode cX8_sheetAt 22 = .ok (.aconst_null, 1) := by decide +kernel
theorem dX8_sheetAt_23 : decode cX8_sheetAt 23 = .ok (.areturn, 1) := by decide +kernel
theorem dX8_jumperAt_0 : decode cX8_jumperAt 0 = .ok (.iload_n 1, 1) := by decide +kernel
theorem dX8_jumperAt_1 : decode cX8_jumperAt 1 = .ok (.ifCond .lt 21, 3) := by decide +kernel
theorem dX8_jumperAt_4 : decode cX8_jumperAt 4 = .ok (.iload_n 1, 1) := by decide +kernel
theorem dX8_jumperAt_5 : decode cX8_jumperAt 5 = .ok (.aload_n 0, 1) := by decide +kernel
theorem dX8_jumperAt_6 : decode cX8_jumperAt 6 = .ok (.getfield 24, 3) := by decide +kernel
theorem dX8_jumperAt_9 : decode cX8_jumperAt 9 = .ok (.arraylength, 1) := by decide +kernel
theorem dX8_jumperAt_10 : decode cX8_jumperAt 10 = .ok (.if_icmp .ge 12, 3) := by decide +kernel
theorem dX8_jumperAt_13 : decode cX8_jumperAt 13 = .ok (.aload_n 0, 1) := by decide +kernel
theorem dX8_jumperAt_14 : decode cX8_jumperAt 14 = .ok (.getfield 24, 3) := by decide +kernel
theorem dX8_jumperAt_17 : decode cX8_jumperAt 17 = .ok (.iload_n 1, 1) := by decide +kernel
theorem dX8_jumperAt_18 : decode cX8_jumperAt 18 = .ok (.aaload, 1) := by decide +kernel
theorem dX8_jumperAt_19 : decode cX8_jumperAt 19 = .ok (.goto 4, 3) := by decide +kernel
theorem dX8_jumperAt_22 : decode cX8_jumperAt 22 = .ok (.aconst_null, 1) := by decide +kernel
theorem dX8_jumperAt_23 : decode cX8_jumperAt 23 = .ok (.areturn, 1) := by decide +kernel
theorem dX8_planeAt_0 : decode cX8_planeAt 0 = .ok (.iload_n 1, 1) := by decide +kernel
theorem dX8_planeAt_1 : decode cX8_planeAt 1 = .ok (.ifCond .lt 21, 3) := by decide +kernel
theorem dX8_planeAt_4 : decode cX8_planeAt 4 = .ok (.iload_n 1, 1) := by decide +kernel
theorem dX8_planeAt_5 : decode cX8_planeAt 5 = .ok (.aload_n 0, 1) := by decide +kernel
theorem dX8_planeAt_6 : decode cX8_planeAt 6 = .ok (.getfield 36, 3) := by decide +kernel
theorem dX8_planeAt_9 : decode cX8_planeAt 9 = .ok (.arraylength, 1) := by decide +kernel
theorem dX8_planeAt_10 : decode cX8_planeAt 10 = .ok (.if_icmp .ge 12, 3) := by decide +kernel
theorem dX8_planeAt_13 : decode cX8_planeAt 13 = .ok (.aload_n 0, 1) := by decide +kernel
theorem dX8_planeAt_14 : decode cX8_planeAt 14 = .ok (.getfield 36, 3) := by decide +kernel
theorem dX8_planeAt_17 : decode cX8_planeAt 17 = .ok (.iload_n 1, 1) := by decide +kernel
theorem dX8_planeAt_18 : decode cX8_planeAt 18 = .ok (.aaload, 1) := by decide +kernel
theorem dX8_planeAt_19 : decode cX8_planeAt 19 = .ok (.goto 4, 3) := by decide +kernel
theorem dX8_planeAt_22 : decode cX8_planeAt 22 = .ok (.aconst_null, 1) := by decide +kernel
theorem dX8_planeAt_23 : decode cX8_planeAt 23 = .ok (.areturn, 1) := by decide +kernel
theorem dX8_groupAt_0 : decode cX8_groupAt 0 = .ok (.iload_n 1, 1) := by decide +kernel
theorem dX8_groupAt_1 : decode cX8_groupAt 1 = .ok (.ifCond .lt 29, 3) := by decide +kernel
theorem dX8_groupAt_4 : decode cX8_groupAt 4 = .ok (.iload_n 1, 1) := by decide +kernel
theorem dX8_groupAt_5 : decode cX8_groupAt 5 = .ok (.aload_n 0, 1) := by decide +kernel
theorem dX8_groupAt_6 : decode cX8_groupAt 6 = .ok (.getfield 71, 3) := by decide +kernel
theorem dX8_groupAt_9 : decode cX8_groupAt 9 = .ok (.if_icmp .ge 21, 3) := by decide +kernel
theorem dX8_groupAt_12 : decode cX8_groupAt 12 = .ok (.iload_n 1, 1) := by decide +kernel
theorem dX8_groupAt_13 : decode cX8_groupAt 13 = .ok (.aload_n 0, 1) := by decide +kernel
theorem dX8_groupAt_14 : decode cX8_groupAt 14 = .ok (.getfield 30, 3) := by decide +kernel
theorem dX8_groupAt_17 : decode cX8_groupAt 17 = .ok (.arraylength, 1) := by decide +kernel
theorem dX8_groupAt_18 : decode cX8_groupAt 18 = .ok (.if_icmp .ge 12, 3) := by decide +kernel
theorem dX8_groupAt_21 : decode cX8_groupAt 21 = .ok (.aload_n 0, 1) := by decide +kernel
theorem dX8_groupAt_22 : decode cX8_groupAt 22 = .ok (.getfield 30, 3) := by decide +kernel
theorem dX8_groupAt_25 : decode cX8_groupAt 25 = .ok (.iload_n 1, 1) := by decide +kernel
theorem dX8_groupAt_26 : decode cX8_groupAt 26 = .ok (.aaload, 1) := by decide +kernel
theorem dX8_groupAt_27 : decode cX8_groupAt 27 = .ok (.goto 4, 3) := by decide +kernel
theorem dX8_groupAt_30 : decode cX8_groupAt 30 = .ok (.aconst_null, 1) := by decide +kernel
theorem dX8_groupAt_31 : decode cX8_groupAt 31 = .ok (.areturn, 1) := by decide +kernel
theorem dX8_loadAt_0 : decode cX8_loadAt 0 = .ok (.iload_n 1, 1) := by decide +kernel
theorem dX8_loadAt_1 : decode cX8_loadAt 1 = .ok (.ifCond .lt 29, 3) := by decide +kernel
theorem dX8_loadAt_4 : decode cX8_loadAt 4 = .ok (.iload_n 1, 1) := by decide +kernel
theorem dX8_loadAt_5 : decode cX8_loadAt 5 = .ok (.aload_n 0, 1) := by decide +kernel
theorem dX8_loadAt_6 : decode cX8_loadAt 6 = .ok (.getfield 75, 3) := by decide +kernel
theorem dX8_loadAt_9 : decode cX8_loadAt 9 = .ok (.if_icmp .ge 21, 3) := by decide +kernel
theorem dX8_loadAt_12 : decode cX8_loadAt 12 = .ok (.iload_n 1, 1) := by decide +kernel
theorem dX8_loadAt_13 : decode cX8_loadAt 13 = .ok (.aload_n 0, 1) := by decide +kernel
theorem dX8_loadAt_14 : decode cX8_loadAt 14 = .ok (.getfield 42, 3) := by decide +kernel
theorem dX8_loadAt_17 : decode cX8_loadAt 17 = .ok (.arraylength, 1) := by decide +kernel
theorem dX8_loadAt_18 : decode cX8_loadAt 18 = .ok (.if_icmp .ge 12, 3) := by decide +kernel
theorem dX8_loadAt_21 : decode cX8_loadAt 21 = .ok (.aload_n 0, 1) := by decide +kernel
theorem dX8_loadAt_22 : decode cX8_loadAt 22 = .ok (.getfield 42, 3) := by decide +kernel
theorem dX8_loadAt_25 : decode cX8_loadAt 25 = .ok (.iload_n 1, 1) := by decide +kernel
theorem dX8_loadAt_26 : decode cX8_loadAt 26 = .ok (.aaload, 1) := by decide +kernel
theorem dX8_loadAt_27 : decode cX8_loadAt 27 = .ok (.goto 4, 3) := by decide +kernel
theorem dX8_loadAt_30 : decode cX8_loadAt 30 = .ok (.aconst_null, 1) := by decide +kernel
theorem dX8_loadAt_31 : decode cX8_loadAt 31 = .ok (.areturn, 1) := by decide +kernel
theorem dX8_tellsWinds_0 : decode cX8_tellsWinds 0 = .ok (.aload_n 0, 1) := by decide +kernel
theorem dX8_tellsWinds_1 : decode cX8_tellsWinds 1 = .ok (.getfield 334, 3) := by decide +kernel
theorem dX8_tellsWinds_4 : decode cX8_tellsWinds 4 = .ok (.ifCond .ne 5, 3) := by decide +kernel
theorem dX8_tellsWinds_7 : decode cX8_tellsWinds 7 = .ok (.iconst 0, 1) := by decide +kernel
theorem dX8_tellsWinds_8 : decode cX8_tellsWinds 8 = .ok (.ireturn, 1) := by decide +kernel
theorem dX8_tellsWinds_9 : decode cX8_tellsWinds 9 = .ok (.iconst 0, 1) := by decide +kernel
theorem dX8_tellsWinds_10 : decode cX8_tellsWinds 10 = .ok (.istore_n 1, 1) := by decide +kernel
theorem dX8_tellsWinds_11 : decode cX8_tellsWinds 11 = .ok (.iload_n 1, 1) := by decide +kernel
theorem dX8_tellsWinds_12 : decode cX8_tellsWinds 12 = .ok (.bipush 12, 2) := by decide +kernel
theorem dX8_tellsWinds_14 : decode cX8_tellsWinds 14 = .ok (.if_icmp .ge 22, 3) := by decide +kernel
theorem dX8_tellsWinds_17 : decode cX8_tellsWinds 17 = .ok (.aload_n 0, 1) := by decide +kernel
theorem dX8_tellsWinds_18 : decode cX8_tellsWinds 18 = .ok (.iload_n 1, 1) := by decide +kernel
theorem dX8_tellsWinds_19 : decode cX8_tellsWinds 19 = .ok (.invokevirtual 122, 3) := by decide +kernel
theorem dX8_tellsWinds_22 : decode cX8_tellsWinds 22 = .ok (.invokestatic 130, 3) := by decide +kernel
theorem dX8_tellsWinds_25 : decode cX8_tellsWinds 25 = .ok (.ifCond .ne 5, 3) := by decide +kernel
theorem dX8_tellsWinds_28 : decode cX8_tellsWinds 28 = .ok (.iconst 0, 1) := by decide +kernel
theorem dX8_tellsWinds_29 : decode cX8_tellsWinds 29 = .ok (.ireturn, 1) := by decide +kernel
theorem dX8_tellsWinds_30 : decode cX8_tellsWinds 30 = .ok (.iinc 1 1, 3) := by decide +kernel
theorem dX8_tellsWinds_33 : decode cX8_tellsWinds 33 = .ok (.goto (-22), 3) := by decide +kernel
theorem dX8_tellsWinds_36 : decode cX8_tellsWinds 36 = .ok (.iconst 1, 1) := by decide +kernel
theorem dX8_tellsWinds_37 : decode cX8_tellsWinds 37 = .ok (.ireturn, 1) := by decide +kernel
theorem dX8_isInSomeLoad_0 : decode cX8_isInSomeLoad 0 = .ok (.iconst 0, 1) := by decide +kernel
theorem dX8_isInSomeLoad_1 : decode cX8_isInSomeLoad 1 = .ok (.istore_n 3, 1) := by decide +kernel
theorem dX8_isInSomeLoad_2 : decode cX8_isInSomeLoad 2 = .ok (.iload_n 3, 1) := by decide +kernel
theorem dX8_isInSomeLoad_3 : decode cX8_isInSomeLoad 3 = .ok (.aload_n 0, 1) := by decide +kernel
theorem dX8_isInSomeLoad_4 : decode cX8_isInSomeLoad 4 = .ok (.getfield 75, 3) := by decide +kernel
theorem dX8_isInSomeLoad_7 : decode cX8_isInSomeLoad 7 = .ok (.if_icmp .ge 37, 3) := by decide +kernel
theorem dX8_isInSomeLoad_10 : decode cX8_isInSomeLoad 10 = .ok (.aload_n 0, 1) := by decide +kernel
theorem dX8_isInSomeLoad_11 : decode cX8_isInSomeLoad 11 = .ok (.getfield 42, 3) := by decide +kernel
theorem dX8_isInSomeLoad_14 : decode cX8_isInSomeLoad 14 = .ok (.iload_n 3, 1) := by decide +kernel
theorem dX8_isInSomeLoad_15 : decode cX8_isInSomeLoad 15 = .ok (.aaload, 1) := by decide +kernel
theorem dX8_isInSomeLoad_16 : decode cX8_isInSomeLoad 16 = .ok (.getfield 190, 3) := by decide +kernel
theorem dX8_isInSomeLoad_19 : decode cX8_isInSomeLoad 19 = .ok (.iload_n 2, 1) := by decide +kernel
theorem dX8_isInSomeLoad_20 : decode cX8_isInSomeLoad 20 = .ok (.if_icmp .ne 18, 3) := by decide +kernel
theorem dX8_isInSomeLoad_23 : decode cX8_isInSomeLoad 23 = .ok (.aload_n 0, 1) := by decide +kernel
theorem dX8_isInSomeLoad_24 : decode cX8_isInSomeLoad 24 = .ok (.getfield 42, 3) := by decide +kernel
theorem dX8_isInSomeLoad_27 : decode cX8_isInSomeLoad 27 = .ok (.iload_n 3, 1) := by decide +kernel
theorem dX8_isInSomeLoad_28 : decode cX8_isInSomeLoad 28 = .ok (.aaload, 1) := by decide +kernel
theorem dX8_isInSomeLoad_29 : decode cX8_isInSomeLoad 29 = .ok (.aload_n 1, 1) := by decide +kernel
theorem dX8_isInSomeLoad_30 : decode cX8_isInSomeLoad 30 = .ok (.invokevirtual 337, 3) := by decide +kernel
theorem dX8_isInSomeLoad_33 : decode cX8_isInSomeLoad 33 = .ok (.ifCond .eq 5, 3) := by decide +kernel
theorem dX8_isInSomeLoad_36 : decode cX8_isInSomeLoad 36 = .ok (.iconst 1, 1) := by decide +kernel
theorem dX8_isInSomeLoad_37 : decode cX8_isInSomeLoad 37 = .ok (.ireturn, 1) := by decide +kernel
theorem dX8_isInSomeLoad_38 : decode cX8_isInSomeLoad 38 = .ok (.iinc 3 1, 3) := by decide +kernel
theorem dX8_isInSomeLoad_41 : decode cX8_isInSomeLoad 41 = .ok (.goto (-39), 3) := by decide +kernel
theorem dX8_isInSomeLoad_44 : decode cX8_isInSomeLoad 44 = .ok (.iconst 0, 1) := by decide +kernel
theorem dX8_isInSomeLoad_45 : decode cX8_isInSomeLoad 45 = .ok (.ireturn, 1) := by decide +kernel
theorem dX8_leftCount_0 : decode cX8_leftCount 0 = .ok (.iconst 0, 1) := by decide +kernel
theorem dX8_leftCount_1 : decode cX8_leftCount 1 = .ok (.istore_n 1, 1) := by decide +kernel
theorem dX8_leftCount_2 : decode cX8_leftCount 2 = .ok (.iconst 0, 1) := by decide +kernel
theorem dX8_leftCount_3 : decode cX8_leftCount 3 = .ok (.istore_n 2, 1) := by decide +kernel
theorem dX8_leftCount_4 : decode cX8_leftCount 4 = .ok (.iload_n 2, 1) := by decide +kernel
theorem dX8_leftCount_5 : decode cX8_leftCount 5 = .ok (.aload_n 0, 1) := by decide +kernel
theorem dX8_leftCount_6 : decode cX8_leftCount 6 = .ok (.getfield 75, 3) := by decide +kernel
theorem dX8_leftCount_9 : decode cX8_leftCount 9 = .ok (.if_icmp .ge 24, 3) := by decide +kernel
theorem dX8_leftCount_12 : decode cX8_leftCount 12 = .ok (.aload_n 0, 1) := by decide +kernel
theorem dX8_leftCount_13 : decode cX8_leftCount 13 = .ok (.getfield 42, 3) := by decide +kernel
theorem dX8_leftCount_16 : decode cX8_leftCount 16 = .ok (.iload_n 2, 1) := by decide +kernel
theorem dX8_leftCount_17 : decode cX8_leftCount 17 = .ok (.aaload, 1) := by decide +kernel
theorem dX8_leftCount_18 : decode cX8_leftCount 18 = .ok (.getfield 190, 3) := by decide +kernel
theorem dX8_leftCount_21 : decode cX8_leftCount 21 = .ok (.ifCond .eq 6, 3) := by decide +kernel
theorem dX8_leftCount_24 : decode cX8_leftCount 24 = .ok (.iinc 1 1, 3) := by decide +kernel
theorem dX8_leftCount_27 : decode cX8_leftCount 27 = .ok (.iinc 2 1, 3) := by decide +kernel
theorem dX8_leftCount_30 : decode cX8_leftCount 30 = .ok (.goto (-26), 3) := by decide +kernel
theorem dX8_leftCount_33 : decode cX8_leftCount 33 = .ok (.iload_n 1, 1) := by decide +kernel
theorem dX8_leftCount_34 : decode cX8_leftCount 34 = .ok (.ireturn, 1) := by decide +kernel
theorem dX8_upCount_0 : decode cX8_upCount 0 = .ok (.iconst 0, 1) := by decide +kernel
theorem dX8_upCount_1 : decode cX8_upCount 1 = .ok (.istore_n 1, 1) := by decide +kernel
theorem dX8_upCount_2 : decode cX8_upCount 2 = .ok (.iconst 0, 1) := by decide +kernel
theorem dX8_upCount_3 : decode cX8_upCount 3 = .ok (.istore_n 2, 1) := by decide +kernel
theorem dX8_upCount_4 : decode cX8_upCount 4 = .ok (.iload_n 2, 1) := by decide +kernel
theorem dX8_upCount_5 : decode cX8_upCount 5 = .ok (.aload_n 0, 1) := by decide +kernel
theorem dX8_upCount_6 : decode cX8_upCount 6 = .ok (.getfield 75, 3) := by decide +kernel
theorem dX8_upCount_9 : decode cX8_upCount 9 = .ok (.if_icmp .ge 33, 3) := by decide +kernel
theorem dX8_upCount_12 : decode cX8_upCount 12 = .ok (.aload_n 0, 1) := by decide +kernel
theorem dX8_upCount_13 : decode cX8_upCount 13 = .ok (.getfield 42, 3) := by decide +kernel
theorem dX8_upCount_16 : decode cX8_upCount 16 = .ok (.iload_n 2, 1) := by decide +kernel
theorem dX8_upCount_17 : decode cX8_upCount 17 = .ok (.aaload, 1) := by decide +kernel
theorem dX8_upCount_18 : decode cX8_upCount 18 = .ok (.getfield 190, 3) := by decide +kernel
theorem dX8_upCount_21 : decode cX8_upCount 21 = .ok (.ifCond .eq 15, 3) := by decide +kernel
theorem dX8_upCount_24 : decode cX8_upCount 24 = .ok (.iload_n 1, 1) := by decide +kernel
theorem dX8_upCount_25 : decode cX8_upCount 25 = .ok (.aload_n 0, 1) := by decide +kernel
theorem dX8_upCount_26 : decode cX8_upCount 26 = .ok (.getfield 42, 3) := by decide +kernel
theorem dX8_upCount_29 : decode cX8_upCount 29 = .ok (.iload_n 2, 1) := by decide +kernel
theorem dX8_upCount_30 : decode cX8_upCount 30 = .ok (.aaload, 1) := by decide +kernel
theorem dX8_upCount_31 : decode cX8_upCount 31 = .ok (.invokevirtual 297, 3) := by decide +kernel
theorem dX8_upCount_34 : decode cX8_upCount 34 = .ok (.iadd, 1) := by decide +kernel
theorem dX8_upCount_35 : decode cX8_upCount 35 = .ok (.istore_n 1, 1) := by decide +kernel
theorem dX8_upCount_36 : decode cX8_upCount 36 = .ok (.iinc 2 1, 3) := by decide +kernel
theorem dX8_upCount_39 : decode cX8_upCount 39 = .ok (.goto (-35), 3) := by decide +kernel
theorem dX8_upCount_42 : decode cX8_upCount 42 = .ok (.iload_n 1, 1) := by decide +kernel
theorem dX8_upCount_43 : decode cX8_upCount 43 = .ok (.ireturn, 1) := by decide +kernel
theorem dX8_whyByFall_0 : decode cX8_whyByFall 0 = .ok (.aload_n 0, 1) := by decide +kernel
theorem dX8_whyByFall_1 : decode cX8_whyByFall 1 = .ok (.aload_n 1, 1) := by decide +kernel
theorem dX8_whyByFall_2 : decode cX8_whyByFall 2 = .ok (.invokevirtual 340, 3) := by decide +kernel
theorem dX8_whyByFall_5 : decode cX8_whyByFall 5 = .ok (.ifCond .eq 6, 3) := by decide +kernel
theorem dX8_whyByFall_8 : decode cX8_whyByFall 8 = .ok (.bipush 8, 2) := by decide +kernel
theorem dX8_whyByFall_10 : decode cX8_whyByFall 10 = .ok (.ireturn, 1) := by decide +kernel
theorem dX8_whyByFall_11 : decode cX8_whyByFall 11 = .ok (.aload_n 0, 1) := by decide +kernel
theorem dX8_whyByFall_12 : decode cX8_whyByFall 12 = .ok (.aload_n 1, 1) := by decide +kernel
theorem dX8_whyByFall_13 : decode cX8_whyByFall 13 = .ok (.invokevirtual 344, 3) := by decide +kernel
theorem dX8_whyByFall_16 : decode cX8_whyByFall 16 = .ok (.ifCond .ne 6, 3) := by decide +kernel
theorem dX8_whyByFall_19 : decode cX8_whyByFall 19 = .ok (.bipush 9, 2) := by decide +kernel
theorem dX8_whyByFall_21 : decode cX8_whyByFall 21 = .ok (.ireturn, 1) := by decide +kernel
theorem dX8_whyByFall_22 : decode cX8_whyByFall 22 = .ok (.aload_n 0, 1) := by decide +kernel
theorem dX8_whyByFall_23 : decode cX8_whyByFall 23 = .ok (.aload_n 1, 1) := by decide +kernel
theorem dX8_whyByFall_24 : decode cX8_whyByFall 24 = .ok (.invokevirtual 282, 3) := by decide +kernel
theorem dX8_whyByFall_27 : decode cX8_whyByFall 27 = .ok (.aload_n 0, 1) := by decide +kernel
theorem dX8_whyByFall_28 : decode cX8_whyByFall 28 = .ok (.aload_n 1, 1) := by decide +kernel
theorem dX8_whyByFall_29 : decode cX8_whyByFall 29 = .ok (.invokevirtual 347, 3) := by decide +kernel
theorem dX8_whyByFall_32 : decode cX8_whyByFall 32 = .ok (.ifCond .ne 6, 3) := by decide +kernel
theorem dX8_whyByFall_35 : decode cX8_whyByFall 35 = .ok (.bipush 10, 2) := by decide +kernel
theorem dX8_whyByFall_37 : decode cX8_whyByFall 37 = .ok (.ireturn, 1) := by decide +kernel
theorem dX8_whyByFall_38 : decode cX8_whyByFall 38 = .ok (.aload_n 0, 1) := by decide +kernel
theorem dX8_whyByFall_39 : decode cX8_whyByFall 39 = .ok (.aload_n 1, 1) := by decide +kernel
theorem dX8_whyByFall_40 : decode cX8_whyByFall 40 = .ok (.invokevirtual 350, 3) := by decide +kernel
theorem dX8_whyByFall_43 : decode cX8_whyByFall 43 = .ok (.ifCond .eq 7, 3) := by decide +kernel
theorem dX8_whyByFall_46 : decode cX8_whyByFall 46 = .ok (.iconst 0, 1) := by decide +kernel
theorem dX8_whyByFall_47 : decode cX8_whyByFall 47 = .ok (.goto 5, 3) := by decide +kernel
theorem dX8_whyByFall_50 : decode cX8_whyByFall 50 = .ok (.bipush 11, 2) := by decide +kernel
theorem dX8_whyByFall_52 : decode cX8_whyByFall 52 = .ok (.ireturn, 1) := by decide +kernel
theorem dX8_isTooWindy_0 : decode cX8_isTooWindy 0 = .ok (.aload_n 1, 1) := by decide +kernel
theorem dX8_isTooWindy_1 : decode cX8_isTooWindy 1 = .ok (.getfield 216, 3) := by decide +kernel
theorem dX8_isTooWindy_4 : decode cX8_isTooWindy 4 = .ok (.invokevirtual 353, 3) := by decide +kernel
theorem dX8_isTooWindy_7 : decode cX8_isTooWindy 7 = .ok (.istore_n 2, 1) := by decide +kernel
theorem dX8_isTooWindy_8 : decode cX8_isTooWindy 8 = .ok (.iconst 0, 1) := by decide +kernel
theorem dX8_isTooWindy_9 : decode cX8_isTooWindy 9 = .ok (.istore_n 3, 1) := by decide +kernel
theorem dX8_isTooWindy_10 : decode cX8_isTooWindy 10 = .ok (.iload_n 3, 1) := by decide +kernel
theorem dX8_isTooWindy_11 : decode cX8_isTooWindy 11 = .ok (.aload_n 1, 1) := by decide +kernel
theorem dX8_isTooWindy_12 : decode cX8_isTooWindy 12 = .ok (.getfield 193, 3) := by decide +kernel
theorem dX8_isTooWindy_15 : decode cX8_isTooWindy 15 = .ok (.if_icmp .ge 31, 3) := by decide +kernel
theorem dX8_isTooWindy_18 : decode cX8_isTooWindy 18 = .ok (.aload_n 0, 1) := by decide +kernel
theorem dX8_isTooWindy_19 : decode cX8_isTooWindy 19 = .ok (.getfield 55, 3) := by decide +kernel
theorem dX8_isTooWindy_22 : decode cX8_isTooWindy 22 = .ok (.iconst 2, 1) := by decide +kernel
theorem dX8_isTooWindy_23 : decode cX8_isTooWindy 23 = .ok (.aload_n 1, 1) := by decide +kernel
theorem dX8_isTooWindy_24 : decode cX8_isTooWindy 24 = .ok (.getfield 211, 3) := by decide +kernel
theorem dX8_isTooWindy_27 : decode cX8_isTooWindy 27 = .ok (.iload_n 3, 1) := by decide +kernel
theorem dX8_isTooWindy_28 : decode cX8_isTooWindy 28 = .ok (.aaload, 1) := by decide +kernel
theorem dX8_isTooWindy_29 : decode cX8_isTooWindy 29 = .ok (.getfield 356, 3) := by decide +kernel
theorem dX8_isTooWindy_32 : decode cX8_isTooWindy 32 = .ok (.iadd, 1) := by decide +kernel
theorem dX8_isTooWindy_33 : decode cX8_isTooWindy 33 = .ok (.iaload, 1) := by decide +kernel
theorem dX8_isTooWindy_34 : decode cX8_isTooWindy 34 = .ok (.iload_n 2, 1) := by decide +kernel
theorem dX8_isTooWindy_35 : decode cX8_isTooWindy 35 = .ok (.if_icmp .ge 5, 3) := by decide +kernel
theorem dX8_isTooWindy_38 : decode cX8_isTooWindy 38 = .ok (.iconst 1, 1) := by decide +kernel
theorem dX8_isTooWindy_39 : decode cX8_isTooWindy 39 = .ok (.ireturn, 1) := by decide +kernel
theorem dX8_isTooWindy_40 : decode cX8_isTooWindy 40 = .ok (.iinc 3 1, 3) := by decide +kernel
theorem dX8_isTooWindy_43 : decode cX8_isTooWindy 43 = .ok (.goto (-33), 3) := by decide +kernel
theorem dX8_isTooWindy_46 : decode cX8_isTooWindy 46 = .ok (.iconst 0, 1) := by decide +kernel
theorem dX8_isTooWindy_47 : decode cX8_isTooWindy 47 = .ok (.ireturn, 1) := by decide +kernel
theorem dX8_mayLeaveAhead_0 : decode cX8_mayLeaveAhead 0 = .ok (.aload_n 0, 1) := by decide +kernel
theorem dX8_mayLeaveAhead_1 : decode cX8_mayLeaveAhead 1 = .ok (.getfield 55, 3) := by decide +kernel
theorem dX8_mayLeaveAhead_4 : decode cX8_mayLeaveAhead 4 = .ok (.bipush 6, 2) := by decide +kernel
theorem dX8_mayLeaveAhead_6 : decode cX8_mayLeaveAhead 6 = .ok (.aload_n 1, 1) := by decide +kernel
theorem dX8_mayLeaveAhead_7 : decode cX8_mayLeaveAhead 7 = .ok (.getfield 356, 3) := by decide +kernel
theorem dX8_mayLeaveAhead_10 : decode cX8_mayLeaveAhead 10 = .ok (.iadd, 1) := by decide +kernel
theorem dX8_mayLeaveAhead_11 : decode cX8_mayLeaveAhead 11 = .ok (.iaload, 1) := by decide +kernel
theorem dX8_mayLeaveAhead_12 : decode cX8_mayLeaveAhead 12 = .ok (.aload_n 0, 1) := by decide +kernel
theorem dX8_mayLeaveAhead_13 : decode cX8_mayLeaveAhead 13 = .ok (.getfield 55, 3) := by decide +kernel
theorem dX8_mayLeaveAhead_16 : decode cX8_mayLeaveAhead 16 = .ok (.bipush 6, 2) := by decide +kernel
theorem dX8_mayLeaveAhead_18 : decode cX8_mayLeaveAhead 18 = .ok (.aload_n 2, 1) := by decide +kernel
theorem dX8_mayLeaveAhead_19 : decode cX8_mayLeaveAhead 19 = .ok (.getfield 356, 3) := by decide +kernel
theorem dX8_mayLeaveAhead_22 : decode cX8_mayLeaveAhead 22 = .ok (.iadd, 1) := by decide +kernel
theorem dX8_mayLeaveAhead_23 : decode cX8_mayLeaveAhead 23 = .ok (.iaload, 1) := by decide +kernel
theorem dX8_mayLeaveAhead_24 : decode cX8_mayLeaveAhead 24 = .ok (.if_icmp .gt 7, 3) := by decide +kernel
theorem dX8_mayLeaveAhead_27 : decode cX8_mayLeaveAhead 27 = .ok (.iconst 1, 1) := by decide +kernel
theorem dX8_mayLeaveAhead_28 : decode cX8_mayLeaveAhead 28 = .ok (.goto 4, 3) := by decide +kernel
theorem dX8_mayLeaveAhead_31 : decode cX8_mayLeaveAhead 31 = .ok (.iconst 0, 1) := by decide +kernel
theorem dX8_mayLeaveAhead_32 : decode cX8_mayLeaveAhead 32 = .ok (.ireturn, 1) := by decide +kernel
theorem dX8_ranksAllow_0 : decode cX8_ranksAllow 0 = .ok (.iconst 1, 1) := by decide +kernel
theorem dX8_ranksAllow_1 : decode cX8_ranksAllow 1 = .ok (.istore_n 2, 1) := by decide +kernel
theorem dX8_ranksAllow_2 : decode cX8_ranksAllow 2 = .ok (.iload_n 2, 1) := by decide +kernel
theorem dX8_ranksAllow_3 : decode cX8_ranksAllow 3 = .ok (.aload_n 1, 1) := by decide +kernel
theorem dX8_ranksAllow_4 : decode cX8_ranksAllow 4 = .ok (.getfield 193, 3) := by decide +kernel
theorem dX8_ranksAllow_7 : decode cX8_ranksAllow 7 = .ok (.if_icmp .ge 32, 3) := by decide +kernel
theorem dX8_ranksAllow_10 : decode cX8_ranksAllow 10 = .ok (.aload_n 0, 1) := by decide +kernel
theorem dX8_ranksAllow_11 : decode cX8_ranksAllow 11 = .ok (.aload_n 1, 1) := by decide +kernel
theorem dX8_ranksAllow_12 : decode cX8_ranksAllow 12 = .ok (.getfield 211, 3) := by decide +kernel
theorem dX8_ranksAllow_15 : decode cX8_ranksAllow 15 = .ok (.iload_n 2, 1) := by decide +kernel
theorem dX8_ranksAllow_16 : decode cX8_ranksAllow 16 = .ok (.iconst 1, 1) := by decide +kernel
theorem dX8_ranksAllow_17 : decode cX8_ranksAllow 17 = .ok (.isub, 1) := by decide +kernel
theorem dX8_ranksAllow_18 : decode cX8_ranksAllow 18 = .ok (.aaload, 1) := by decide +kernel
theorem dX8_ranksAllow_19 : decode cX8_ranksAllow 19 = .ok (.aload_n 1, 1) := by decide +kernel
theorem dX8_ranksAllow_20 : decode cX8_ranksAllow 20 = .ok (.getfield 211, 3) := by decide +kernel
theorem dX8_ranksAllow_23 : decode cX8_ranksAllow 23 = .ok (.iload_n 2, 1) := by decide +kernel
theorem dX8_ranksAllow_24 : decode cX8_ranksAllow 24 = .ok (.aaload, 1) := by decide +kernel
theorem dX8_ranksAllow_25 : decode cX8_ranksAllow 25 = .ok (.invokevirtual 359, 3) := by decide +kernel
theorem dX8_ranksAllow_28 : decode cX8_ranksAllow 28 = .ok (.ifCond .ne 5, 3) := by decide +kernel
theorem dX8_ranksAllow_31 : decode cX8_ranksAllow 31 = .ok (.iconst 0, 1) := by decide +kernel
theorem dX8_ranksAllow_32 : decode cX8_ranksAllow 32 = .ok (.ireturn, 1) := by decide +kernel
theorem dX8_ranksAllow_33 : decode cX8_ranksAllow 33 = .ok (.iinc 2 1, 3) := by decide +kernel
theorem dX8_ranksAllow_36 : decode cX8_ranksAllow 36 = .ok (.goto (-34), 3) := by decide +kernel
theorem dX8_ranksAllow_39 : decode cX8_ranksAllow 39 = .ok (.iconst 1, 1) := by decide +kernel
theorem dX8_ranksAllow_40 : decode cX8_ranksAllow 40 = .ok (.ireturn, 1) := by decide +kernel
theorem dX8_followAll_0 : decode cX8_followAll 0 = .ok (.iconst 0, 1) := by decide +kernel
theorem dX8_followAll_1 : decode cX8_followAll 1 = .ok (.istore_n 2, 1) := by decide +kernel
theorem dX8_followAll_2 : decode cX8_followAll 2 = .ok (.iload_n 2, 1) := by decide +kernel
theorem dX8_followAll_3 : decode cX8_followAll 3 = .ok (.aload_n 1, 1) := by decide +kernel
theorem dX8_followAll_4 : decode cX8_followAll 4 = .ok (.getfield 193, 3) := by decide +kernel
theorem dX8_followAll_7 : decode cX8_followAll 7 = .ok (.if_icmp .ge 41, 3) := by decide +kernel
theorem dX8_followAll_10 : decode cX8_followAll 10 = .ok (.iload_n 2, 1) := by decide +kernel
theorem dX8_followAll_11 : decode cX8_followAll 11 = .ok (.aload_n 0, 1) := by decide +kernel
theorem dX8_followAll_12 : decode cX8_followAll 12 = .ok (.getfield 60, 3) := by decide +kernel
theorem dX8_followAll_15 : decode cX8_followAll 15 = .ok (.arraylength, 1) := by decide +kernel
theorem dX8_followAll_16 : decode cX8_followAll 16 = .ok (.if_icmp .ge 32, 3) := by decide +kernel
theorem dX8_followAll_19 : decode cX8_followAll 19 = .ok (.aload_n 0, 1) := by decide +kernel
theorem dX8_followAll_20 : decode cX8_followAll 20 = .ok (.getfield 60, 3) := by decide +kernel
theorem dX8_followAll_23 : decode cX8_followAll 23 = .ok (.iload_n 2, 1) := by decide +kernel
theorem dX8_followAll_24 : decode cX8_followAll 24 = .ok (.aaload, 1) := by decide +kernel
theorem dX8_followAll_25 : decode cX8_followAll 25 = .ok (.aload_n 1, 1) := by decide +kernel
theorem dX8_followAll_26 : decode cX8_followAll 26 = .ok (.getfield 211, 3) := by decide +kernel
theorem dX8_followAll_29 : decode cX8_followAll 29 = .ok (.iload_n 2, 1) := by decide +kernel
theorem dX8_followAll_30 : decode cX8_followAll 30 = .ok (.aaload, 1) := by decide +kernel
theorem dX8_followAll_31 : decode cX8_followAll 31 = .ok (.aload_n 1, 1) := by decide +kernel
theorem dX8_followAll_32 : decode cX8_followAll 32 = .ok (.getfield 212, 3) := by decide +kernel
theorem dX8_followAll_35 : decode cX8_followAll 35 = .ok (.aload_n 1, 1) := by decide +kernel
theorem dX8_followAll_36 : decode cX8_followAll 36 = .ok (.getfield 216, 3) := by decide +kernel
theorem dX8_followAll_39 : decode cX8_followAll 39 = .ok (.invokevirtual 217, 3) := by decide +kernel
theorem dX8_followAll_42 : decode cX8_followAll 42 = .ok (.iinc 2 1, 3) := by decide +kernel
theorem dX8_followAll_45 : decode cX8_followAll 45 = .ok (.goto (-43), 3) := by decide +kernel
theorem dX8_followAll_48 : decode cX8_followAll 48 = .ok (.return_, 1) := by decide +kernel
theorem dX8_areFree_0 : decode cX8_areFree 0 = .ok (.aload_n 0, 1) := by decide +kernel
theorem dX8_areFree_1 : decode cX8_areFree 1 = .ok (.getfield 55, 3) := by decide +kernel
theorem dX8_areFree_4 : decode cX8_areFree 4 = .ok (.iconst 0, 1) := by decide +kernel
theorem dX8_areFree_5 : decode cX8_areFree 5 = .ok (.iaload, 1) := by decide +kernel
theorem dX8_areFree_6 : decode cX8_areFree 6 = .ok (.i2l, 1) := by decide +kernel
theorem dX8_areFree_7 : decode cX8_areFree 7 = .ok (.aload_n 0, 1) := by decide +kernel
theorem dX8_areFree_8 : decode cX8_areFree 8 = .ok (.getfield 55, 3) := by decide +kernel
theorem dX8_areFree_11 : decode cX8_areFree 11 = .ok (.iconst 0, 1) := by decide +kernel
theorem dX8_areFree_12 : decode cX8_areFree 12 = .ok (.iaload, 1) := by decide +kernel
theorem dX8_areFree_13 : decode cX8_areFree 13 = .ok (.i2l, 1) := by decide +kernel
theorem dX8_areFree_14 : decode cX8_areFree 14 = .ok (.lmul, 1) := by decide +kernel
theorem dX8_areFree_15 : decode cX8_areFree 15 = .ok (.lstore 5, 2) := by decide +kernel
theorem dX8_areFree_17 : decode cX8_areFree 17 = .ok (.aload_n 1, 1) := by decide +kernel
theorem dX8_areFree_18 : decode cX8_areFree 18 = .ok (.aload_n 2, 1) := by decide +kernel
theorem dX8_areFree_19 : decode cX8_areFree 19 = .ok (.iload_n 3, 1) := by decide +kernel
theorem dX8_areFree_20 : decode cX8_areFree 20 = .ok (.iload 4, 2) := by decide +kernel
theorem dX8_areFree_22 : decode cX8_areFree 22 = .ok (.lload 5, 2) := by decide +kernel
theorem dX8_areFree_24 : decode cX8_areFree 24 = .ok (.invokevirtual 256, 3) := by decide +kernel
theorem dX8_areFree_27 : decode cX8_areFree 27 = .ok (.lload 5, 2) := by decide +kernel
theorem dX8_areFree_29 : decode cX8_areFree 29 = .ok (.lcmp, 1) := by decide +kernel
theorem dX8_areFree_30 : decode cX8_areFree 30 = .ok (.ifCond .lt 7, 3) := by decide +kernel
theorem dX8_areFree_33 : decode cX8_areFree 33 = .ok (.iconst 1, 1) := by decide +kernel
theorem dX8_areFree_34 : decode cX8_areFree 34 = .ok (.goto 4, 3) := by decide +kernel
theorem dX8_areFree_37 : decode cX8_areFree 37 = .ok (.iconst 0, 1) := by decide +kernel
theorem dX8_areFree_38 : decode cX8_areFree 38 = .ok (.ireturn, 1) := by decide +kernel
theorem dX8_allFree_0 : decode cX8_allFree 0 = .ok (.iconst 0, 1) := by decide +kernel
theorem dX8_allFree_1 : decode cX8_allFree 1 = .ok (.istore_n 2, 1) := by decide +kernel
theorem dX8_allFree_2 : decode cX8_allFree 2 = .ok (.iload_n 2, 1) := by decide +kernel
theorem dX8_allFree_3 : decode cX8_allFree 3 = .ok (.aload_n 1, 1) := by decide +kernel
theorem dX8_allFree_4 : decode cX8_allFree 4 = .ok (.getfield 193, 3) := by decide +kernel
theorem dX8_allFree_7 : decode cX8_allFree 7 = .ok (.if_icmp .ge 70, 3) := by decide +kernel
theorem dX8_allFree_10 : decode cX8_allFree 10 = .ok (.iload_n 2, 1) := by decide +kernel
theorem dX8_allFree_11 : decode cX8_allFree 11 = .ok (.iconst 1, 1) := by decide +kernel
theorem dX8_allFree_12 : decode cX8_allFree 12 = .ok (.iadd, 1) := by decide +kernel
theorem dX8_allFree_13 : decode cX8_allFree 13 = .ok (.istore_n 3, 1) := by decide +kernel
theorem dX8_allFree_14 : decode cX8_allFree 14 = .ok (.iload_n 3, 1) := by decide +kernel
theorem dX8_allFree_15 : decode cX8_allFree 15 = .ok (.aload_n 1, 1) := by decide +kernel
theorem dX8_allFree_16 : decode cX8_allFree 16 = .ok (.getfield 193, 3) := by decide +kernel
theorem dX8_allFree_19 : decode cX8_allFree 19 = .ok (.if_icmp .ge 52, 3) := by decide +kernel
theorem dX8_allFree_22 : decode cX8_allFree 22 = .ok (.aload_n 1, 1) := by decide +kernel
theorem dX8_allFree_23 : decode cX8_allFree 23 = .ok (.iload_n 3, 1) := by decide +kernel
theorem dX8_allFree_24 : decode cX8_allFree 24 = .ok (.invokevirtual 250, 3) := by decide +kernel
theorem dX8_allFree_27 : decode cX8_allFree 27 = .ok (.aload_n 1, 1) := by decide +kernel
theorem dX8_allFree_28 : decode cX8_allFree 28 = .ok (.iload_n 2, 1) := by decide +kernel
theorem dX8_allFree_29 : decode cX8_allFree 29 = .ok (.invokevirtual 250, 3) := by decide +kernel
theorem dX8_allFree_32 : decode cX8_allFree 32 = .ok (.isub, 1) := by decide +kernel
theorem dX8_allFree_33 : decode cX8_allFree 33 = .ok (.istore 4, 2) := by decide +kernel
theorem dX8_allFree_35 : decode cX8_allFree 35 = .ok (.aload_n 0, 1) := by decide +kernel
theorem dX8_allFree_36 : decode cX8_allFree 36 = .ok (.aload_n 0, 1) := by decide +kernel
theorem dX8_allFree_37 : decode cX8_allFree 37 = .ok (.getfield 60, 3) := by decide +kernel
theorem dX8_allFree_40 : decode cX8_allFree 40 = .ok (.iload_n 2, 1) := by decide +kernel
theorem dX8_allFree_41 : decode cX8_allFree 41 = .ok (.aaload, 1) := by decide +kernel
theorem dX8_allFree_42 : decode cX8_allFree 42 = .ok (.aload_n 0, 1) := by decide +kernel
theorem dX8_allFree_43 : decode cX8_allFree 43 = .ok (.getfield 60, 3) := by decide +kernel
theorem dX8_allFree_46 : decode cX8_allFree 46 = .ok (.iload_n 3, 1) := by decide +kernel
theorem dX8_allFree_47 : decode cX8_allFree 47 = .ok (.aaload, 1) := by decide +kernel
theorem dX8_allFree_48 : decode cX8_allFree 48 = .ok (.iload 4, 2) := by decide +kernel
theorem dX8_allFree_50 : decode cX8_allFree 50 = .ok (.aload_n 1, 1) := by decide +kernel
theorem dX8_allFree_51 : decode cX8_allFree 51 = .ok (.getfield 212, 3) := by decide +kernel
theorem dX8_allFree_54 : decode cX8_allFree 54 = .ok (.getfield 253, 3) := by decide +kernel
theorem dX8_allFree_57 : decode cX8_allFree 57 = .ok (.invokevirtual 363, 3) := by decide +kernel
theorem dX8_allFree_60 : decode cX8_allFree 60 = .ok (.ifCond .ne 5, 3) := by decide +kernel
theorem dX8_allFree_63 : decode cX8_allFree 63 = .ok (.iconst 0, 1) := by decide +kernel
theorem dX8_allFree_64 : decode cX8_allFree 64 = .ok (.ireturn, 1) := by decide +kernel
theorem dX8_allFree_65 : decode cX8_allFree 65 = .ok (.iinc 3 1, 3) := by decide +kernel
theorem dX8_allFree_68 : decode cX8_allFree 68 = .ok (.goto (-54), 3) := by decide +kernel
theorem dX8_allFree_71 : decode cX8_allFree 71 = .ok (.iinc 2 1, 3) := by decide +kernel
theorem dX8_allFree_74 : decode cX8_allFree 74 = .ok (.goto (-72), 3) := by decide +kernel
theorem dX8_allFree_77 : decode cX8_allFree 77 = .ok (.iconst 1, 1) := by decide +kernel
theorem dX8_allFree_78 : decode cX8_allFree 78 = .ok (.ireturn, 1) := by decide +kernel
theorem dX8_leastPause_0 : decode cX8_leastPause 0 = .ok (.iconst 1, 1) := by decide +kernel
theorem dX8_leastPause_1 : decode cX8_leastPause 1 = .ok (.istore 4, 2) := by decide +kernel
theorem dX8_leastPause_3 : decode cX8_leastPause 3 = .ok (.iload 4, 2) := by decide +kernel
theorem dX8_leastPause_5 : decode cX8_leastPause 5 = .ok (.bipush 60, 2) := by decide +kernel
theorem dX8_leastPause_7 : decode cX8_leastPause 7 = .ok (.if_icmp .gt 24, 3) := by decide +kernel
theorem dX8_leastPause_10 : decode cX8_leastPause 10 = .ok (.aload_n 0, 1) := by decide +kernel
theorem dX8_leastPause_11 : decode cX8_leastPause 11 = .ok (.aload_n 1, 1) := by decide +kernel
theorem dX8_leastPause_12 : decode cX8_leastPause 12 = .ok (.aload_n 2, 1) := by decide +kernel
theorem dX8_leastPause_13 : decode cX8_leastPause 13 = .ok (.iload 4, 2) := by decide +kernel
theorem dX8_leastPause_15 : decode cX8_leastPause 15 = .ok (.iload_n 3, 1) := by decide +kernel
theorem dX8_leastPause_16 : decode cX8_leastPause 16 = .ok (.invokevirtual 363, 3) := by decide +kernel
theorem dX8_leastPause_19 : decode cX8_leastPause 19 = .ok (.ifCond .eq 6, 3) := by decide +kernel
theorem dX8_leastPause_22 : decode cX8_leastPause 22 = .ok (.iload 4, 2) := by decide +kernel
theorem dX8_leastPause_24 : decode cX8_leastPause 24 = .ok (.ireturn, 1) := by decide +kernel
theorem dX8_leastPause_25 : decode cX8_leastPause 25 = .ok (.iinc 4 1, 3) := by decide +kernel
theorem dX8_leastPause_28 : decode cX8_leastPause 28 = .ok (.goto (-25), 3) := by decide +kernel
theorem dX8_leastPause_31 : decode cX8_leastPause 31 = .ok (.iconst 0, 1) := by decide +kernel
theorem dX8_leastPause_32 : decode cX8_leastPause 32 = .ok (.ireturn, 1) := by decide +kernel
theorem dX8_measurePauses_0 : decode cX8_measurePauses 0 = .ok (.aload_n 0, 1) := by decide +kernel
theorem dX8_measurePauses_1 : decode cX8_measurePauses 1 = .ok (.aload_n 1, 1) := by decide +kernel
theorem dX8_measurePauses_2 : decode cX8_measurePauses 2 = .ok (.invokevirtual 282, 3) := by decide +kernel
theorem dX8_measurePauses_5 : decode cX8_measurePauses 5 = .ok (.iconst 0, 1) := by decide +kernel
theorem dX8_measurePauses_6 : decode cX8_measurePauses 6 = .ok (.istore_n 2, 1) := by decide +kernel
theorem dX8_measurePauses_7 : decode cX8_measurePauses 7 = .ok (.iload_n 2, 1) := by decide +kernel
theorem dX8_measurePauses_8 : decode cX8_measurePauses 8 = .ok (.aload_n 1, 1) := by decide +kernel
theorem dX8_measurePauses_9 : decode cX8_measurePauses 9 = .ok (.getfield 193, 3) := by decide +kernel
theorem dX8_measurePauses_12 : decode cX8_measurePauses 12 = .ok (.if_icmp .ge 111, 3) := by decide +kernel
theorem dX8_measurePauses_15 : decode cX8_measurePauses 15 = .ok (.iconst 0, 1) := by decide +kernel
theorem dX8_measurePauses_16 : decode cX8_measurePauses 16 = .ok (.istore_n 3, 1) := by decide +kernel
theorem dX8_measurePauses_17 : decode cX8_measurePauses 17 = .ok (.iload_n 3, 1) := by decide +kernel
theorem dX8_measurePauses_18 : decode cX8_measurePauses 18 = .ok (.aload_n 1, 1) := by decide +kernel
theorem dX8_measurePauses_19 : decode cX8_measurePauses 19 = .ok (.getfield 193, 3) := by decide +kernel
theorem dX8_measurePauses_22 : decode cX8_measurePauses 22 = .ok (.if_icmp .ge 95, 3) := by decide +kernel
theorem dX8_measurePauses_25 : decode cX8_measurePauses 25 = .ok (.aload_n 1, 1) := by decide +kernel
theorem dX8_measurePauses_26 : decode cX8_measurePauses 26 = .ok (.getfield 211, 3) := by decide +kernel
theorem dX8_measurePauses_29 : decode cX8_measurePauses 29 = .ok (.iload_n 2, 1) := by decide +kernel
theorem dX8_measurePauses_30 : decode cX8_measurePauses 30 = .ok (.aaload, 1) := by decide +kernel
theorem dX8_measurePauses_31 : decode cX8_measurePauses 31 = .ok (.astore 4, 2) := by decide +kernel
theorem dX8_measurePauses_33 : decode cX8_measurePauses 33 = .ok (.aload_n 1, 1) := by decide +kernel
theorem dX8_measurePauses_34 : decode cX8_measurePauses 34 = .ok (.getfield 211, 3) := by decide +kernel
theorem dX8_measurePauses_37 : decode cX8_measurePauses 37 = .ok (.iload_n 3, 1) := by decide +kernel
theorem dX8_measurePauses_38 : decode cX8_measurePauses 38 = .ok (.aaload, 1) := by decide +kernel
theorem dX8_measurePauses_39 : decode cX8_measurePauses 39 = .ok (.astore 5, 2) := by decide +kernel
theorem dX8_measurePauses_41 : decode cX8_measurePauses 41 = .ok (.iload_n 2, 1) := by decide +kernel
theorem dX8_measurePauses_42 : decode cX8_measurePauses 42 = .ok (.iload_n 3, 1) := by decide +kernel
theorem dX8_measurePauses_43 : decode cX8_measurePauses 43 = .ok (.if_icmp .eq 18, 3) := by decide +kernel
theorem dX8_measurePauses_46 : decode cX8_measurePauses 46 = .ok (.aload_n 0, 1) := by decide +kernel
theorem dX8_measurePauses_47 : decode cX8_measurePauses 47 = .ok (.aload 4, 2) := by decide +kernel
theorem dX8_measurePauses_49 : decode cX8_measurePauses 49 = .ok (.aload 5, 2) := by decide +kernel
theorem dX8_measurePauses_51 : decode cX8_measurePauses 51 = .ok (.invokevirtual 359, 3) := by decide +kernel
theorem dX8_measurePauses_54 : decode cX8_measurePauses 54 = .ok (.ifCond .eq 7, 3) := by decide +kernel
theorem dX8_measurePauses_57 : decode cX8_measurePauses 57 = .ok (.iconst 1, 1) := by decide +kernel
theorem dX8_measurePauses_58 : decode cX8_measurePauses 58 = .ok (.goto 4, 3) := by decide +kernel
theorem dX8_measurePauses_61 : decode cX8_measurePauses 61 = .ok (.iconst 0, 1) := by decide +kernel
theorem dX8_measurePauses_62 : decode cX8_measurePauses 62 = .ok (.istore 6, 2) := by decide +kernel
theorem dX8_measurePauses_64 : decode cX8_measurePauses 64 = .ok (.iload 6, 2) := by decide +kernel
theorem dX8_measurePauses_66 : decode cX8_measurePauses 66 = .ok (.ifCond .eq 29, 3) := by decide +kernel
theorem dX8_measurePauses_69 : decode cX8_measurePauses 69 = .ok (.aload_n 0, 1) := by decide +kernel
theorem dX8_measurePauses_70 : decode cX8_measurePauses 70 = .ok (.aload_n 0, 1) := by decide +kernel
theorem dX8_measurePauses_71 : decode cX8_measurePauses 71 = .ok (.getfield 60, 3) := by decide +kernel
theorem dX8_measurePauses_74 : decode cX8_measurePauses 74 = .ok (.iload_n 2, 1) := by decide +kernel
theorem dX8_measurePauses_75 : decode cX8_measurePauses 75 = .ok (.aaload, 1) := by decide +kernel
theorem dX8_measurePauses_76 : decode cX8_measurePauses 76 = .ok (.aload_n 0, 1) := by decide +kernel
theorem dX8_measurePauses_77 : decode cX8_measurePauses 77 = .ok (.getfield 60, 3) := by decide +kernel
theorem dX8_measurePauses_80 : decode cX8_measurePauses 80 = .ok (.iload_n 3, 1) := by decide +kernel
theorem dX8_measurePauses_81 : decode cX8_measurePauses 81 = .ok (.aaload, 1) := by decide +kernel
theorem dX8_measurePauses_82 : decode cX8_measurePauses 82 = .ok (.aload_n 1, 1) := by decide +kernel
theorem dX8_measurePauses_83 : decode cX8_measurePauses 83 = .ok (.getfield 212, 3) := by decide +kernel
theorem dX8_measurePauses_86 : decode cX8_measurePauses 86 = .ok (.getfield 253, 3) := by decide +kernel
theorem dX8_measurePauses_89 : decode cX8_measurePauses 89 = .ok (.invokevirtual 260, 3) := by decide +kernel
theorem dX8_measurePauses_92 : decode cX8_measurePauses 92 = .ok (.goto 4, 3) := by decide +kernel
theorem dX8_measurePauses_95 : decode cX8_measurePauses 95 = .ok (.iconst 0, 1) := by decide +kernel
theorem dX8_measurePauses_96 : decode cX8_measurePauses 96 = .ok (.istore 7, 2) := by decide +kernel
theorem dX8_measurePauses_98 : decode cX8_measurePauses 98 = .ok (.aload_n 0, 1) := by decide +kernel
theorem dX8_measurePauses_99 : decode cX8_measurePauses 99 = .ok (.getfield 67, 3) := by decide +kernel
theorem dX8_measurePauses_102 : decode cX8_measurePauses 102 = .ok (.aload 4, 2) := by decide +kernel
theorem dX8_measurePauses_104 : decode cX8_measurePauses 104 = .ok (.aload 5, 2) := by decide +kernel
theorem dX8_measurePauses_106 : decode cX8_measurePauses 106 = .ok (.iload 7, 2) := by decide +kernel
theorem dX8_measurePauses_108 : decode cX8_measurePauses 108 = .ok (.invokevirtual 367, 3) := by decide +kernel
theorem dX8_measurePauses_111 : decode cX8_measurePauses 111 = .ok (.iinc 3 1, 3) := by decide +kernel
theorem dX8_measurePauses_114 : decode cX8_measurePauses 114 = .ok (.goto (-97), 3) := by decide +kernel
theorem dX8_measurePauses_117 : decode cX8_measurePauses 117 = .ok (.iinc 2 1, 3) := by decide +kernel
theorem dX8_measurePauses_120 : decode cX8_measurePauses 120 = .ok (.goto (-113), 3) := by decide +kernel
theorem dX8_measurePauses_123 : decode cX8_measurePauses 123 = .ok (.return_, 1) := by decide +kernel
theorem dX8_reachSquare_0 : decode cX8_reachSquare 0 = .ok (.aload_n 0, 1) := by decide +kernel
theorem dX8_reachSquare_1 : decode cX8_reachSquare 1 = .ok (.getfield 55, 3) := by decide +kernel
theorem dX8_reachSquare_4 : decode cX8_reachSquare 4 = .ok (.iconst 1, 1) := by decide +kernel
theorem dX8_reachSquare_5 : decode cX8_reachSquare 5 = .ok (.iaload, 1) := by decide +kernel
theorem dX8_reachSquare_6 : decode cX8_reachSquare 6 = .ok (.i2l, 1) := by decide +kernel
theorem dX8_reachSquare_7 : decode cX8_reachSquare 7 = .ok (.aload_n 1, 1) := by decide +kernel
theorem dX8_reachSquare_8 : decode cX8_reachSquare 8 = .ok (.getfield 371, 3) := by decide +kernel
theorem dX8_reachSquare_11 : decode cX8_reachSquare 11 = .ok (.i2l, 1) := by decide +kernel
theorem dX8_reachSquare_12 : decode cX8_reachSquare 12 = .ok (.aload_n 2, 1) := by decide +kernel
theorem dX8_reachSquare_13 : decode cX8_reachSquare 13 = .ok (.invokevirtual 374, 3) := by decide +kernel
theorem dX8_reachSquare_16 : decode cX8_reachSquare 16 = .ok (.i2l, 1) := by decide +kernel
theorem dX8_reachSquare_17 : decode cX8_reachSquare 17 = .ok (.lmul, 1) := by decide +kernel
theorem dX8_reachSquare_18 : decode cX8_reachSquare 18 = .ok (.ladd, 1) := by decide +kernel
theorem dX8_reachSquare_19 : decode cX8_reachSquare 19 = .ok (.lstore_n 3, 1) := by decide +kernel
theorem dX8_reachSquare_20 : decode cX8_reachSquare 20 = .ok (.lload_n 3, 1) := by decide +kernel
theorem dX8_reachSquare_21 : decode cX8_reachSquare 21 = .ok (.lload_n 3, 1) := by decide +kernel
theorem dX8_reachSquare_22 : decode cX8_reachSquare 22 = .ok (.lmul, 1) := by decide +kernel
theorem dX8_reachSquare_23 : decode cX8_reachSquare 23 = .ok (.lreturn, 1) := by decide +kernel
theorem dX8_allHome_0 : decode cX8_allHome 0 = .ok (.iconst 0, 1) := by decide +kernel
theorem dX8_allHome_1 : decode cX8_allHome 1 = .ok (.istore_n 2, 1) := by decide +kernel
theorem dX8_allHome_2 : decode cX8_allHome 2 = .ok (.iload_n 2, 1) := by decide +kernel
theorem dX8_allHome_3 : decode cX8_allHome 3 = .ok (.aload_n 1, 1) := by decide +kernel
theorem dX8_allHome_4 : decode cX8_allHome 4 = .ok (.getfield 193, 3) := by decide +kernel
theorem dX8_allHome_7 : decode cX8_allHome 7 = .ok (.if_icmp .ge 69, 3) := by decide +kernel
theorem dX8_allHome_10 : decode cX8_allHome 10 = .ok (.aload_n 1, 1) := by decide +kernel
theorem dX8_allHome_11 : decode cX8_allHome 11 = .ok (.iload_n 2, 1) := by decide +kernel
theorem dX8_allHome_12 : decode cX8_allHome 12 = .ok (.invokevirtual 230, 3) := by decide +kernel
theorem dX8_allHome_15 : decode cX8_allHome 15 = .ok (.aload_n 0, 1) := by decide +kernel
theorem dX8_allHome_16 : decode cX8_allHome 16 = .ok (.getfield 60, 3) := by decide +kernel
theorem dX8_allHome_19 : decode cX8_allHome 19 = .ok (.iload_n 2, 1) := by decide +kernel
theorem dX8_allHome_20 : decode cX8_allHome 20 = .ok (.aaload, 1) := by decide +kernel
theorem dX8_allHome_21 : decode cX8_allHome 21 = .ok (.invokevirtual 290, 3) := by decide +kernel
theorem dX8_allHome_24 : decode cX8_allHome 24 = .ok (.iadd, 1) := by decide +kernel
theorem dX8_allHome_25 : decode cX8_allHome 25 = .ok (.i2l, 1) := by decide +kernel
theorem dX8_allHome_26 : decode cX8_allHome 26 = .ok (.lstore_n 3, 1) := by decide +kernel
theorem dX8_allHome_27 : decode cX8_allHome 27 = .ok (.aload_n 0, 1) := by decide +kernel
theorem dX8_allHome_28 : decode cX8_allHome 28 = .ok (.getfield 60, 3) := by decide +kernel
theorem dX8_allHome_31 : decode cX8_allHome 31 = .ok (.iload_n 2, 1) := by decide +kernel
theorem dX8_allHome_32 : decode cX8_allHome 32 = .ok (.aaload, 1) := by decide +kernel
theorem dX8_allHome_33 : decode cX8_allHome 33 = .ok (.invokevirtual 377, 3) := by decide +kernel
theorem dX8_allHome_36 : decode cX8_allHome 36 = .ok (.i2l, 1) := by decide +kernel
theorem dX8_allHome_37 : decode cX8_allHome 37 = .ok (.lstore 5, 2) := by decide +kernel
theorem dX8_allHome_39 : decode cX8_allHome 39 = .ok (.lload_n 3, 1) := by decide +kernel
theorem dX8_allHome_40 : decode cX8_allHome 40 = .ok (.lload_n 3, 1) := by decide +kernel
theorem dX8_allHome_41 : decode cX8_allHome 41 = .ok (.lmul, 1) := by decide +kernel
theorem dX8_allHome_42 : decode cX8_allHome 42 = .ok (.lload 5, 2) := by decide +kernel
theorem dX8_allHome_44 : decode cX8_allHome 44 = .ok (.lload 5, 2) := by decide +kernel
theorem dX8_allHome_46 : decode cX8_allHome 46 = .ok (.lmul, 1) := by decide +kernel
theorem dX8_allHome_47 : decode cX8_allHome 47 = .ok (.ladd, 1) := by decide +kernel
theorem dX8_allHome_48 : decode cX8_allHome 48 = .ok (.aload_n 0, 1) := by decide +kernel
theorem dX8_allHome_49 : decode cX8_allHome 49 = .ok (.aload_n 1, 1) := by decide +kernel
theorem dX8_allHome_50 : decode cX8_allHome 50 = .ok (.getfield 211, 3) := by decide +kernel
theorem dX8_allHome_53 : decode cX8_allHome 53 = .ok (.iload_n 2, 1) := by decide +kernel
theorem dX8_allHome_54 : decode cX8_allHome 54 = .ok (.aaload, 1) := by decide +kernel
theorem dX8_allHome_55 : decode cX8_allHome 55 = .ok (.aload_n 0, 1) := by decide +kernel
theorem dX8_allHome_56 : decode cX8_allHome 56 = .ok (.getfield 60, 3) := by decide +kernel
theorem dX8_allHome_59 : decode cX8_allHome 59 = .ok (.iload_n 2, 1) := by decide +kernel
theorem dX8_allHome_60 : decode cX8_allHome 60 = .ok (.aaload, 1) := by decide +kernel
theorem dX8_allHome_61 : decode cX8_allHome 61 = .ok (.invokevirtual 380, 3) := by decide +kernel
theorem dX8_allHome_64 : decode cX8_allHome 64 = .ok (.lcmp, 1) := by decide +kernel
theorem dX8_allHome_65 : decode cX8_allHome 65 = .ok (.ifCond .le 5, 3) := by decide +kernel
theorem dX8_allHome_68 : decode cX8_allHome 68 = .ok (.iconst 0, 1) := by decide +kernel
theorem dX8_allHome_69 : decode cX8_allHome 69 = .ok (.ireturn, 1) := by decide +kernel
theorem dX8_allHome_70 : decode cX8_allHome 70 = .ok (.iinc 2 1, 3) := by decide +kernel
theorem dX8_allHome_73 : decode cX8_allHome 73 = .ok (.goto (-71), 3) := by decide +kernel
theorem dX8_allHome_76 : decode cX8_allHome 76 = .ok (.iconst 1, 1) := by decide +kernel
theorem dX8_allHome_77 : decode cX8_allHome 77 = .ok (.ireturn, 1) := by decide +kernel
theorem dX8_roomAlongX_0 : decode cX8_roomAlongX 0 = .ok (.aload_n 2, 1) := by decide +kernel
theorem dX8_roomAlongX_1 : decode cX8_roomAlongX 1 = .ok (.invokevirtual 377, 3) := by decide +kernel
theorem dX8_roomAlongX_4 : decode cX8_roomAlongX 4 = .ok (.i2l, 1) := by decide +kernel
theorem dX8_roomAlongX_5 : decode cX8_roomAlongX 5 = .ok (.lstore_n 3, 1) := by decide +kernel
theorem dX8_roomAlongX_6 : decode cX8_roomAlongX 6 = .ok (.aload_n 0, 1) := by decide +kernel
theorem dX8_roomAlongX_7 : decode cX8_roomAlongX 7 = .ok (.aload_n 1, 1) := by decide +kernel
theorem dX8_roomAlongX_8 : decode cX8_roomAlongX 8 = .ok (.aload_n 2, 1) := by decide +kernel
theorem dX8_roomAlongX_9 : decode cX8_roomAlongX 9 = .ok (.invokevirtual 380, 3) := by decide +kernel
theorem dX8_roomAlongX_12 : decode cX8_roomAlongX 12 = .ok (.lload_n 3, 1) := by decide +kernel
theorem dX8_roomAlongX_13 : decode cX8_roomAlongX 13 = .ok (.lload_n 3, 1) := by decide +kernel
theorem dX8_roomAlongX_14 : decode cX8_roomAlongX 14 = .ok (.lmul, 1) := by decide +kernel
theorem dX8_roomAlongX_15 : decode cX8_roomAlongX 15 = .ok (.lsub, 1) := by decide +kernel
theorem dX8_roomAlongX_16 : decode cX8_roomAlongX 16 = .ok (.lstore 5, 2) := by decide +kernel
theorem dX8_roomAlongX_18 : decode cX8_roomAlongX 18 = .ok (.lload 5, 2) := by decide +kernel
theorem dX8_roomAlongX_20 : decode cX8_roomAlongX 20 = .ok (.lconst 0, 1) := by decide +kernel
theorem dX8_roomAlongX_21 : decode cX8_roomAlongX 21 = .ok (.lcmp, 1) := by decide +kernel
theorem dX8_roomAlongX_22 : decode cX8_roomAlongX 22 = .ok (.ifCond .ge 7, 3) := by decide +kernel
theorem dX8_roomAlongX_25 : decode cX8_roomAlongX 25 = .ok (.iconst (-1), 1) := by decide +kernel
theorem dX8_roomAlongX_26 : decode cX8_roomAlongX 26 = .ok (.goto 8, 3) := by decide +kernel
theorem dX8_roomAlongX_29 : decode cX8_roomAlongX 29 = .ok (.lload 5, 2) := by decide +kernel
theorem dX8_roomAlongX_31 : decode cX8_roomAlongX 31 = .ok (.invokestatic 384, 3) := by decide +kernel
theorem dX8_roomAlongX_34 : decode cX8_roomAlongX 34 = .ok (.ireturn, 1) := by decide +kernel
theorem dX8_wholeRoot_0 : decode cX8_wholeRoot 0 = .ok (.iconst 0, 1) := by decide +kernel
theorem dX8_wholeRoot_1 : decode cX8_wholeRoot 1 = .ok (.istore_n 2, 1) := by decide +kernel
theorem dX8_wholeRoot_2 : decode cX8_wholeRoot 2 = .ok (.ldc_w 388, 3) := by decide +kernel
theorem dX8_wholeRoot_5 : decode cX8_wholeRoot 5 = .ok (.istore_n 3, 1) := by decide +kernel
theorem dX8_wholeRoot_6 : decode cX8_wholeRoot 6 = .ok (.iload_n 3, 1) := by decide +kernel
theorem dX8_wholeRoot_7 : decode cX8_wholeRoot 7 = .ok (.ifCond .le 30, 3) := by decide +kernel
theorem dX8_wholeRoot_10 : decode cX8_wholeRoot 10 = .ok (.iload_n 2, 1) := by decide +kernel
theorem dX8_wholeRoot_11 : decode cX8_wholeRoot 11 = .ok (.iload_n 3, 1) := by decide +kernel
theorem dX8_wholeRoot_12 : decode cX8_wholeRoot 12 = .ok (.iadd, 1) := by decide +kernel
theorem dX8_wholeRoot_13 : decode cX8_wholeRoot 13 = .ok (.i2l, 1) := by decide +kernel
theorem dX8_wholeRoot_14 : decode cX8_wholeRoot 14 = .ok (.lstore 4, 2) := by decide +kernel
theorem dX8_wholeRoot_16 : decode cX8_wholeRoot 16 = .ok (.lload 4, 2) := by decide +kernel
theorem dX8_wholeRoot_18 : decode cX8_wholeRoot 18 = .ok (.lload 4, 2) := by decide +kernel
theorem dX8_wholeRoot_20 : decode cX8_wholeRoot 20 = .ok (.lmul, 1) := by decide +kernel
theorem dX8_wholeRoot_21 : decode cX8_wholeRoot 21 = .ok (.lload_n 0, 1) := by decide +kernel
theorem dX8_wholeRoot_22 : decode cX8_wholeRoot 22 = .ok (.lcmp, 1) := by decide +kernel
theorem dX8_wholeRoot_23 : decode cX8_wholeRoot 23 = .ok (.ifCond .gt 7, 3) := by decide +kernel
theorem dX8_wholeRoot_26 : decode cX8_wholeRoot 26 = .ok (.iload_n 2, 1) := by decide +kernel
theorem dX8_wholeRoot_27 : decode cX8_wholeRoot 27 = .ok (.iload_n 3, 1) := by decide +kernel
theorem dX8_wholeRoot_28 : decode cX8_wholeRoot 28 = .ok (.iadd, 1) := by decide +kernel
theorem dX8_wholeRoot_29 : decode cX8_wholeRoot 29 = .ok (.istore_n 2, 1) := by decide +kernel
theorem dX8_wholeRoot_30 : decode cX8_wholeRoot 30 = .ok (.iload_n 3, 1) := by decide +kernel
theorem dX8_wholeRoot_31 : decode cX8_wholeRoot 31 = .ok (.iconst 1, 1) := by decide +kernel
theorem dX8_wholeRoot_32 : decode cX8_wholeRoot 32 = .ok (.ishr, 1) := by decide +kernel
theorem dX8_wholeRoot_33 : decode cX8_wholeRoot 33 = .ok (.istore_n 3, 1) := by decide +kernel
theorem dX8_wholeRoot_34 : decode cX8_wholeRoot 34 = .ok (.goto (-28), 3) := by decide +kernel
theorem dX8_wholeRoot_37 : decode cX8_wholeRoot 37 = .ok (.iload_n 2, 1) := by decide +kernel
theorem dX8_wholeRoot_38 : decode cX8_wholeRoot 38 = .ok (.ireturn, 1) := by decide +kernel
