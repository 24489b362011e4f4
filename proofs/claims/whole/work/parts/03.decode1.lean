theorem dX0_init_0 : decode cX0_init 0 = .ok (.aload_n 0, 1) := by decide +kernel
theorem dX0_init_1 : decode cX0_init 1 = .ok (.invokespecial 3, 3) := by decide +kernel
theorem dX0_init_4 : decode cX0_init 4 = .ok (.aload_n 0, 1) := by decide +kernel
theorem dX0_init_5 : decode cX0_init 5 = .ok (.iconst 4, 1) := by decide +kernel
theorem dX0_init_6 : decode cX0_init 6 = .ok (.newarray .int, 2) := by decide +kernel
theorem dX0_init_8 : decode cX0_init 8 = .ok (.putfield 11, 3) := by decide +kernel
theorem dX0_init_11 : decode cX0_init 11 = .ok (.aload_n 0, 1) := by decide +kernel
theorem dX0_init_12 : decode cX0_init 12 = .ok (.iconst 4, 1) := by decide +kernel
theorem dX0_init_13 : decode cX0_init 13 = .ok (.newarray .int, 2) := by decide +kernel
theorem dX0_init_15 : decode cX0_init 15 = .ok (.putfield 15, 3) := by decide +kernel
theorem dX0_init_18 : decode cX0_init 18 = .ok (.aload_n 0, 1) := by decide +kernel
theorem dX0_init_19 : decode cX0_init 19 = .ok (.bipush 64, 2) := by decide +kernel
theorem dX0_init_21 : decode cX0_init 21 = .ok (.newarray .int, 2) := by decide +kernel
theorem dX0_init_23 : decode cX0_init 23 = .ok (.putfield 18, 3) := by decide +kernel
theorem dX0_init_26 : decode cX0_init 26 = .ok (.aload_n 0, 1) := by decide +kernel
theorem dX0_init_27 : decode cX0_init 27 = .ok (.iconst 0, 1) := by decide +kernel
theorem dX0_init_28 : decode cX0_init 28 = .ok (.putfield 21, 3) := by decide +kernel
theorem dX0_init_31 : decode cX0_init 31 = .ok (.aload_n 0, 1) := by decide +kernel
theorem dX0_init_32 : decode cX0_init 32 = .ok (.iconst 0, 1) := by decide +kernel
theorem dX0_init_33 : decode cX0_init 33 = .ok (.putfield 25, 3) := by decide +kernel
theorem dX0_init_36 : decode cX0_init 36 = .ok (.aload_n 0, 1) := by decide +kernel
theorem dX0_init_37 : decode cX0_init 37 = .ok (.aload_n 1, 1) := by decide +kernel
theorem dX0_init_38 : decode cX0_init 38 = .ok (.putfield 28, 3) := by decide +kernel
theorem dX0_init_41 : decode cX0_init 41 = .ok (.aload_n 0, 1) := by decide +kernel
theorem dX0_init_42 : decode cX0_init 42 = .ok (.aload_n 2, 1) := by decide +kernel
theorem dX0_init_43 : decode cX0_init 43 = .ok (.putfield 32, 3) := by decide +kernel
theorem dX0_init_46 : decode cX0_init 46 = .ok (.aload_n 0, 1) := by decide +kernel
theorem dX0_init_47 : decode cX0_init 47 = .ok (.aload_n 3, 1) := by decide +kernel
theorem dX0_init_48 : decode cX0_init 48 = .ok (.putfield 36, 3) := by decide +kernel
theorem dX0_init_51 : decode cX0_init 51 = .ok (.return_, 1) := by decide +kernel
theorem dX0_kindOf_0 : decode cX0_kindOf 0 = .ok (.iload_n 1, 1) := by decide +kernel
theorem dX0_kindOf_1 : decode cX0_kindOf 1 = .ok (.ifCond .lt 25, 3) := by decide +kernel
theorem dX0_kindOf_4 : decode cX0_kindOf 4 = .ok (.iload_n 1, 1) := by decide +kernel
theorem dX0_kindOf_5 : decode cX0_kindOf 5 = .ok (.aload_n 0, 1) := by decide +kernel
theorem dX0_kindOf_6 : decode cX0_kindOf 6 = .ok (.getfield 21, 3) := by decide +kernel
theorem dX0_kindOf_9 : decode cX0_kindOf 9 = .ok (.if_icmp .ge 17, 3) := by decide +kernel
theorem dX0_kindOf_12 : decode cX0_kindOf 12 = .ok (.iload_n 1, 1) := by decide +kernel
theorem dX0_kindOf_13 : decode cX0_kindOf 13 = .ok (.iconst 4, 1) := by decide +kernel
theorem dX0_kindOf_14 : decode cX0_kindOf 14 = .ok (.if_icmp .ge 12, 3) := by decide +kernel
theorem dX0_kindOf_17 : decode cX0_kindOf 17 = .ok (.aload_n 0, 1) := by decide +kernel
theorem dX0_kindOf_18 : decode cX0_kindOf 18 = .ok (.getfield 11, 3) := by decide +kernel
theorem dX0_kindOf_21 : decode cX0_kindOf 21 = .ok (.iload_n 1, 1) := by decide +kernel
theorem dX0_kindOf_22 : decode cX0_kindOf 22 = .ok (.iaload, 1) := by decide +kernel
theorem dX0_kindOf_23 : decode cX0_kindOf 23 = .ok (.goto 5, 3) := by decide +kernel
theorem dX0_kindOf_26 : decode cX0_kindOf 26 = .ok (.ldc 40, 2) := by decide +kernel
theorem dX0_kindOf_28 : decode cX0_kindOf 28 = .ok (.ireturn, 1) := by decide +kernel
theorem dX0_numberOf_0 : decode cX0_numberOf 0 = .ok (.iload_n 1, 1) := by decide +kernel
theorem dX0_numberOf_1 : decode cX0_numberOf 1 = .ok (.ifCond .lt 25, 3) := by decide +kernel
theorem dX0_numberOf_4 : decode cX0_numberOf 4 = .ok (.iload_n 1, 1) := by decide +kernel
theorem dX0_numberOf_5 : decode cX0_numberOf 5 = .ok (.aload_n 0, 1) := by decide +kernel
theorem dX0_numberOf_6 : decode cX0_numberOf 6 = .ok (.getfield 21, 3) := by decide +kernel
theorem dX0_numberOf_9 : decode cX0_numberOf 9 = .ok (.if_icmp .ge 17, 3) := by decide +kernel
theorem dX0_numberOf_12 : decode cX0_numberOf 12 = .ok (.iload_n 1, 1) := by decide +kernel
theorem dX0_numberOf_13 : decode cX0_numberOf 13 = .ok (.iconst 4, 1) := by decide +kernel
theorem dX0_numberOf_14 : decode cX0_numberOf 14 = .ok (.if_icmp .ge 12, 3) := by decide +kernel
theorem dX0_numberOf_17 : decode cX0_numberOf 17 = .ok (.aload_n 0, 1) := by decide +kernel
theorem dX0_numberOf_18 : decode cX0_numberOf 18 = .ok (.getfield 15, 3) := by decide +kernel
theorem dX0_numberOf_21 : decode cX0_numberOf 21 = .ok (.iload_n 1, 1) := by decide +kernel
theorem dX0_numberOf_22 : decode cX0_numberOf 22 = .ok (.iaload, 1) := by decide +kernel
theorem dX0_numberOf_23 : decode cX0_numberOf 23 = .ok (.goto 5, 3) := by decide +kernel
theorem dX0_numberOf_26 : decode cX0_numberOf 26 = .ok (.ldc 40, 2) := by decide +kernel
theorem dX0_numberOf_28 : decode cX0_numberOf 28 = .ok (.ireturn, 1) := by decide +kernel
theorem dX0_signAt_0 : decode cX0_signAt 0 = .ok (.iload_n 1, 1) := by decide +kernel
theorem dX0_signAt_1 : decode cX0_signAt 1 = .ok (.ifCond .lt 26, 3) := by decide +kernel
theorem dX0_signAt_4 : decode cX0_signAt 4 = .ok (.iload_n 1, 1) := by decide +kernel
theorem dX0_signAt_5 : decode cX0_signAt 5 = .ok (.aload_n 0, 1) := by decide +kernel
theorem dX0_signAt_6 : decode cX0_signAt 6 = .ok (.getfield 25, 3) := by decide +kernel
theorem dX0_signAt_9 : decode cX0_signAt 9 = .ok (.if_icmp .ge 18, 3) := by decide +kernel
theorem dX0_signAt_12 : decode cX0_signAt 12 = .ok (.iload_n 1, 1) := by decide +kernel
theorem dX0_signAt_13 : decode cX0_signAt 13 = .ok (.bipush 64, 2) := by decide +kernel
theorem dX0_signAt_15 : decode cX0_signAt 15 = .ok (.if_icmp .ge 12, 3) := by decide +kernel
theorem dX0_signAt_18 : decode cX0_signAt 18 = .ok (.aload_n 0, 1) := by decide +kernel
theorem dX0_signAt_19 : decode cX0_signAt 19 = .ok (.getfield 18, 3) := by decide +kernel
theorem dX0_signAt_22 : decode cX0_signAt 22 = .ok (.iload_n 1, 1) := by decide +kernel
theorem dX0_signAt_23 : decode cX0_signAt 23 = .ok (.iaload, 1) := by decide +kernel
theorem dX0_signAt_24 : decode cX0_signAt 24 = .ok (.goto 5, 3) := by decide +kernel
theorem dX0_signAt_27 : decode cX0_signAt 27 = .ok (.ldc 40, 2) := by decide +kernel
theorem dX0_signAt_29 : decode cX0_signAt 29 = .ok (.ireturn, 1) := by decide +kernel
theorem dX0_findCauses_0 : decode cX0_findCauses 0 = .ok (.aload_n 0, 1) := by decide +kernel
theorem dX0_findCauses_1 : decode cX0_findCauses 1 = .ok (.iconst 0, 1) := by decide +kernel
theorem dX0_findCauses_2 : decode cX0_findCauses 2 = .ok (.putfield 21, 3) := by decide +kernel
theorem dX0_findCauses_5 : decode cX0_findCauses 5 = .ok (.aload_n 0, 1) := by decide +kernel
theorem dX0_findCauses_6 : decode cX0_findCauses 6 = .ok (.getfield 36, 3) := by decide +kernel
theorem dX0_findCauses_9 : decode cX0_findCauses 9 = .ok (.getfield 41, 3) := by decide +kernel
theorem dX0_findCauses_12 : decode cX0_findCauses 12 = .ok (.lookupswitch 97 #[(0, 36), (9, 67), (10, 39)], 36) := by decide +kernel
theorem dX0_findCauses_48 : decode cX0_findCauses 48 = .ok (.goto 91, 3) := by decide +kernel
theorem dX0_findCauses_51 : decode cX0_findCauses 51 = .ok (.aload_n 0, 1) := by decide +kernel
theorem dX0_findCauses_52 : decode cX0_findCauses 52 = .ok (.iconst 1, 1) := by decide +kernel
theorem dX0_findCauses_53 : decode cX0_findCauses 53 = .ok (.aload_n 0, 1) := by decide +kernel
theorem dX0_findCauses_54 : decode cX0_findCauses 54 = .ok (.getfield 28, 3) := by decide +kernel
theorem dX0_findCauses_57 : decode cX0_findCauses 57 = .ok (.invokevirtual 46, 3) := by decide +kernel
theorem dX0_findCauses_60 : decode cX0_findCauses 60 = .ok (.invokevirtual 52, 3) := by decide +kernel
theorem dX0_findCauses_63 : decode cX0_findCauses 63 = .ok (.aload_n 0, 1) := by decide +kernel
theorem dX0_findCauses_64 : decode cX0_findCauses 64 = .ok (.bipush 10, 2) := by decide +kernel
theorem dX0_findCauses_66 : decode cX0_findCauses 66 = .ok (.aload_n 0, 1) := by decide +kernel
theorem dX0_findCauses_67 : decode cX0_findCauses 67 = .ok (.getfield 36, 3) := by decide +kernel
theorem dX0_findCauses_70 : decode cX0_findCauses 70 = .ok (.invokevirtual 56, 3) := by decide +kernel
theorem dX0_findCauses_73 : decode cX0_findCauses 73 = .ok (.invokevirtual 52, 3) := by decide +kernel
theorem dX0_findCauses_76 : decode cX0_findCauses 76 = .ok (.goto 63, 3) := by decide +kernel
theorem dX0_findCauses_79 : decode cX0_findCauses 79 = .ok (.aload_n 0, 1) := by decide +kernel
theorem dX0_findCauses_80 : decode cX0_findCauses 80 = .ok (.iconst 1, 1) := by decide +kernel
theorem dX0_findCauses_81 : decode cX0_findCauses 81 = .ok (.aload_n 0, 1) := by decide +kernel
theorem dX0_findCauses_82 : decode cX0_findCauses 82 = .ok (.getfield 36, 3) := by decide +kernel
theorem dX0_findCauses_85 : decode cX0_findCauses 85 = .ok (.getfield 59, 3) := by decide +kernel
theorem dX0_findCauses_88 : decode cX0_findCauses 88 = .ok (.iconst 1, 1) := by decide +kernel
theorem dX0_findCauses_89 : decode cX0_findCauses 89 = .ok (.isub, 1) := by decide +kernel
theorem dX0_findCauses_90 : decode cX0_findCauses 90 = .ok (.invokevirtual 52, 3) := by decide +kernel
theorem dX0_findCauses_93 : decode cX0_findCauses 93 = .ok (.aload_n 0, 1) := by decide +kernel
theorem dX0_findCauses_94 : decode cX0_findCauses 94 = .ok (.bipush 9, 2) := by decide +kernel
theorem dX0_findCauses_96 : decode cX0_findCauses 96 = .ok (.aload_n 0, 1) := by decide +kernel
theorem dX0_findCauses_97 : decode cX0_findCauses 97 = .ok (.getfield 36, 3) := by decide +kernel
theorem dX0_findCauses_100 : decode cX0_findCauses 100 = .ok (.getfield 62, 3) := by decide +kernel
theorem dX0_findCauses_103 : decode cX0_findCauses 103 = .ok (.invokevirtual 52, 3) := by decide +kernel
theorem dX0_findCauses_106 : decode cX0_findCauses 106 = .ok (.goto 33, 3) := by decide +kernel
theorem dX0_findCauses_109 : decode cX0_findCauses 109 = .ok (.aload_n 0, 1) := by decide +kernel
theorem dX0_findCauses_110 : decode cX0_findCauses 110 = .ok (.iconst 1, 1) := by decide +kernel
theorem dX0_findCauses_111 : decode cX0_findCauses 111 = .ok (.aload_n 0, 1) := by decide +kernel
theorem dX0_findCauses_112 : decode cX0_findCauses 112 = .ok (.getfield 36, 3) := by decide +kernel
theorem dX0_findCauses_115 : decode cX0_findCauses 115 = .ok (.getfield 59, 3) := by decide +kernel
theorem dX0_findCauses_118 : decode cX0_findCauses 118 = .ok (.iconst 1, 1) := by decide +kernel
theorem dX0_findCauses_119 : decode cX0_findCauses 119 = .ok (.isub, 1) := by decide +kernel
theorem dX0_findCauses_120 : decode cX0_findCauses 120 = .ok (.invokevirtual 52, 3) := by decide +kernel
theorem dX0_findCauses_123 : decode cX0_findCauses 123 = .ok (.aload_n 0, 1) := by decide +kernel
theorem dX0_findCauses_124 : decode cX0_findCauses 124 = .ok (.iconst 2, 1) := by decide +kernel
theorem dX0_findCauses_125 : decode cX0_findCauses 125 = .ok (.aload_n 0, 1) := by decide +kernel
theorem dX0_findCauses_126 : decode cX0_findCauses 126 = .ok (.getfield 36, 3) := by decide +kernel
theorem dX0_findCauses_129 : decode cX0_findCauses 129 = .ok (.getfield 65, 3) := by decide +kernel
theorem dX0_findCauses_132 : decode cX0_findCauses 132 = .ok (.invokevirtual 52, 3) := by decide +kernel
theorem dX0_findCauses_135 : decode cX0_findCauses 135 = .ok (.aload_n 0, 1) := by decide +kernel
theorem dX0_findCauses_136 : decode cX0_findCauses 136 = .ok (.invokevirtual 68, 3) := by decide +kernel
theorem dX0_findCauses_139 : decode cX0_findCauses 139 = .ok (.return_, 1) := by decide +kernel
theorem dX0_findCausesInLeg_0 : decode cX0_findCausesInLeg 0 = .ok (.aload_n 0, 1) := by decide +kernel
theorem dX0_findCausesInLeg_1 : decode cX0_findCausesInLeg 1 = .ok (.getfield 32, 3) := by decide +kernel
theorem dX0_findCausesInLeg_4 : decode cX0_findCausesInLeg 4 = .ok (.aload_n 0, 1) := by decide +kernel
theorem dX0_findCausesInLeg_5 : decode cX0_findCausesInLeg 5 = .ok (.getfield 36, 3) := by decide +kernel
theorem dX0_findCausesInLeg_8 : decode cX0_findCausesInLeg 8 = .ok (.getfield 71, 3) := by decide +kernel
theorem dX0_findCausesInLeg_11 : decode cX0_findCausesInLeg 11 = .ok (.aload_n 0, 1) := by decide +kernel
theorem dX0_findCausesInLeg_12 : decode cX0_findCausesInLeg 12 = .ok (.getfield 36, 3) := by decide +kernel
theorem dX0_findCausesInLeg_15 : decode cX0_findCausesInLeg 15 = .ok (.getfield 65, 3) := by decide +kernel
theorem dX0_findCausesInLeg_18 : decode cX0_findCausesInLeg 18 = .ok (.iadd, 1) := by decide +kernel
theorem dX0_findCausesInLeg_19 : decode cX0_findCausesInLeg 19 = .ok (.invokevirtual 74, 3) := by decide +kernel
theorem dX0_findCausesInLeg_22 : decode cX0_findCausesInLeg 22 = .ok (.istore_n 1, 1) := by decide +kernel
theorem dX0_findCausesInLeg_23 : decode cX0_findCausesInLeg 23 = .ok (.aload_n 0, 1) := by decide +kernel
theorem dX0_findCausesInLeg_24 : decode cX0_findCausesInLeg 24 = .ok (.getfield 36, 3) := by decide +kernel
theorem dX0_findCausesInLeg_27 : decode cX0_findCausesInLeg 27 = .ok (.getfield 41, 3) := by decide +kernel
theorem dX0_findCausesInLeg_30 : decode cX0_findCausesInLeg 30 = .ok (.iconst 3, 1) := by decide +kernel
theorem dX0_findCausesInLeg_31 : decode cX0_findCausesInLeg 31 = .ok (.if_icmp .ne 15, 3) := by decide +kernel
theorem dX0_findCausesInLeg_34 : decode cX0_findCausesInLeg 34 = .ok (.aload_n 0, 1) := by decide +kernel
theorem dX0_findCausesInLeg_35 : decode cX0_findCausesInLeg 35 = .ok (.iconst 3, 1) := by decide +kernel
theorem dX0_findCausesInLeg_36 : decode cX0_findCausesInLeg 36 = .ok (.aload_n 0, 1) := by decide +kernel
theorem dX0_findCausesInLeg_37 : decode cX0_findCausesInLeg 37 = .ok (.invokevirtual 80, 3) := by decide +kernel
theorem dX0_findCausesInLeg_40 : decode cX0_findCausesInLeg 40 = .ok (.invokevirtual 52, 3) := by decide +kernel
theorem dX0_findCausesInLeg_43 : decode cX0_findCausesInLeg 43 = .ok (.goto 102, 3) := by decide +kernel
theorem dX0_findCausesInLeg_46 : decode cX0_findCausesInLeg 46 = .ok (.aload_n 0, 1) := by decide +kernel
theorem dX0_findCausesInLeg_47 : decode cX0_findCausesInLeg 47 = .ok (.getfield 36, 3) := by decide +kernel
theorem dX0_findCausesInLeg_50 : decode cX0_findCausesInLeg 50 = .ok (.getfield 41, 3) := by decide +kernel
theorem dX0_findCausesInLeg_53 : decode cX0_findCausesInLeg 53 = .ok (.iconst 4, 1) := by decide +kernel
theorem dX0_findCausesInLeg_54 : decode cX0_findCausesInLeg 54 = .ok (.if_icmp .ne 37, 3) := by decide +kernel
theorem dX0_findCausesInLeg_57 : decode cX0_findCausesInLeg 57 = .ok (.aload_n 0, 1) := by decide +kernel
theorem dX0_findCausesInLeg_58 : decode cX0_findCausesInLeg 58 = .ok (.iconst 4, 1) := by decide +kernel
theorem dX0_findCausesInLeg_59 : decode cX0_findCausesInLeg 59 = .ok (.aload_n 0, 1) := by decide +kernel
theorem dX0_findCausesInLeg_60 : decode cX0_findCausesInLeg 60 = .ok (.getfield 32, 3) := by decide +kernel
theorem dX0_findCausesInLeg_63 : decode cX0_findCausesInLeg 63 = .ok (.aload_n 0, 1) := by decide +kernel
theorem dX0_findCausesInLeg_64 : decode cX0_findCausesInLeg 64 = .ok (.getfield 36, 3) := by decide +kernel
theorem dX0_findCausesInLeg_67 : decode cX0_findCausesInLeg 67 = .ok (.getfield 83, 3) := by decide +kernel
theorem dX0_findCausesInLeg_70 : decode cX0_findCausesInLeg 70 = .ok (.aload_n 0, 1) := by decide +kernel
theorem dX0_findCausesInLeg_71 : decode cX0_findCausesInLeg 71 = .ok (.getfield 36, 3) := by decide +kernel
theorem dX0_findCausesInLeg_74 : decode cX0_findCausesInLeg 74 = .ok (.getfield 86, 3) := by decide +kernel
theorem dX0_findCausesInLeg_77 : decode cX0_findCausesInLeg 77 = .ok (.invokevirtual 89, 3) := by decide +kernel
theorem dX0_findCausesInLeg_80 : decode cX0_findCausesInLeg 80 = .ok (.invokevirtual 52, 3) := by decide +kernel
theorem dX0_findCausesInLeg_83 : decode cX0_findCausesInLeg 83 = .ok (.aload_n 0, 1) := by decide +kernel
theorem dX0_findCausesInLeg_84 : decode cX0_findCausesInLeg 84 = .ok (.iload_n 1, 1) := by decide +kernel
theorem dX0_findCausesInLeg_85 : decode cX0_findCausesInLeg 85 = .ok (.invokevirtual 93, 3) := by decide +kernel
theorem dX0_findCausesInLeg_88 : decode cX0_findCausesInLeg 88 = .ok (.goto 57, 3) := by decide +kernel
theorem dX0_findCausesInLeg_91 : decode cX0_findCausesInLeg 91 = .ok (.aload_n 0, 1) := by decide +kernel
theorem dX0_findCausesInLeg_92 : decode cX0_findCausesInLeg 92 = .ok (.iconst 5, 1) := by decide +kernel
theorem dX0_findCausesInLeg_93 : decode cX0_findCausesInLeg 93 = .ok (.aload_n 0, 1) := by decide +kernel
theorem dX0_findCausesInLeg_94 : decode cX0_findCausesInLeg 94 = .ok (.getfield 36, 3) := by decide +kernel
theorem dX0_findCausesInLeg_97 : decode cX0_findCausesInLeg 97 = .ok (.getfield 97, 3) := by decide +kernel
theorem dX0_findCausesInLeg_100 : decode cX0_findCausesInLeg 100 = .ok (.invokevirtual 101, 3) := by decide +kernel
theorem dX0_findCausesInLeg_103 : decode cX0_findCausesInLeg 103 = .ok (.invokevirtual 52, 3) := by decide +kernel
theorem dX0_findCausesInLeg_106 : decode cX0_findCausesInLeg 106 = .ok (.aload_n 0, 1) := by decide +kernel
theorem dX0_findCausesInLeg_107 : decode cX0_findCausesInLeg 107 = .ok (.getfield 36, 3) := by decide +kernel
theorem dX0_findCausesInLeg_110 : decode cX0_findCausesInLeg 110 = .ok (.getfield 97, 3) := by decide +kernel
theorem dX0_findCausesInLeg_113 : decode cX0_findCausesInLeg 113 = .ok (.aload_n 0, 1) := by decide +kernel
theorem dX0_findCausesInLeg_114 : decode cX0_findCausesInLeg 114 = .ok (.getfield 36, 3) := by decide +kernel
theorem dX0_findCausesInLeg_117 : decode cX0_findCausesInLeg 117 = .ok (.getfield 83, 3) := by decide +kernel
theorem dX0_findCausesInLeg_120 : decode cX0_findCausesInLeg 120 = .ok (.aload_n 0, 1) := by decide +kernel
theorem dX0_findCausesInLeg_121 : decode cX0_findCausesInLeg 121 = .ok (.getfield 36, 3) := by decide +kernel
theorem dX0_findCausesInLeg_124 : decode cX0_findCausesInLeg 124 = .ok (.getfield 86, 3) := by decide +kernel
theorem dX0_findCausesInLeg_127 : decode cX0_findCausesInLeg 127 = .ok (.iload_n 1, 1) := by decide +kernel
theorem dX0_findCausesInLeg_128 : decode cX0_findCausesInLeg 128 = .ok (.invokevirtual 106, 3) := by decide +kernel
theorem dX0_findCausesInLeg_131 : decode cX0_findCausesInLeg 131 = .ok (.istore_n 2, 1) := by decide +kernel
theorem dX0_findCausesInLeg_132 : decode cX0_findCausesInLeg 132 = .ok (.iload_n 2, 1) := by decide +kernel
theorem dX0_findCausesInLeg_133 : decode cX0_findCausesInLeg 133 = .ok (.ldc 40, 2) := by decide +kernel
theorem dX0_findCausesInLeg_135 : decode cX0_findCausesInLeg 135 = .ok (.if_icmp .eq 10, 3) := by decide +kernel
theorem dX0_findCausesInLeg_138 : decode cX0_findCausesInLeg 138 = .ok (.aload_n 0, 1) := by decide +kernel
theorem dX0_findCausesInLeg_139 : decode cX0_findCausesInLeg 139 = .ok (.bipush 8, 2) := by decide +kernel
theorem dX0_findCausesInLeg_141 : decode cX0_findCausesInLeg 141 = .ok (.iload_n 2, 1) := by decide +kernel
theorem dX0_findCausesInLeg_142 : decode cX0_findCausesInLeg 142 = .ok (.invokevirtual 52, 3) := by decide +kernel
theorem dX0_findCausesInLeg_145 : decode cX0_findCausesInLeg 145 = .ok (.return_, 1) := by decide +kernel
theorem dX0_sideOff_0 : decode cX0_sideOff 0 = .ok (.aload_n 0, 1) := by decide +kernel
theorem dX0_sideOff_1 : decode cX0_sideOff 1 = .ok (.getfield 36, 3) := by decide +kernel
theorem dX0_sideOff_4 : decode cX0_sideOff 4 = .ok (.getfield 83, 3) := by decide +kernel
theorem dX0_sideOff_7 : decode cX0_sideOff 7 = .ok (.ifCond .ge 5, 3) := by decide +kernel
theorem dX0_sideOff_10 : decode cX0_sideOff 10 = .ok (.iconst 0, 1) := by decide +kernel
theorem dX0_sideOff_11 : decode cX0_sideOff 11 = .ok (.ireturn, 1) := by decide +kernel
theorem dX0_sideOff_12 : decode cX0_sideOff 12 = .ok (.aload_n 0, 1) := by decide +kernel
theorem dX0_sideOff_13 : decode cX0_sideOff 13 = .ok (.getfield 36, 3) := by decide +kernel
theorem dX0_sideOff_16 : decode cX0_sideOff 16 = .ok (.getfield 83, 3) := by decide +kernel
theorem dX0_sideOff_19 : decode cX0_sideOff 19 = .ok (.bipush 60, 2) := by decide +kernel
theorem dX0_sideOff_21 : decode cX0_sideOff 21 = .ok (.if_icmp .le 5, 3) := by decide +kernel
theorem dX0_sideOff_24 : decode cX0_sideOff 24 = .ok (.iconst 1, 1) := by decide +kernel
theorem dX0_sideOff_25 : decode cX0_sideOff 25 = .ok (.ireturn, 1) := by decide +kernel
theorem dX0_sideOff_26 : decode cX0_sideOff 26 = .ok (.aload_n 0, 1) := by decide +kernel
theorem dX0_sideOff_27 : decode cX0_sideOff 27 = .ok (.getfield 36, 3) := by decide +kernel
theorem dX0_sideOff_30 : decode cX0_sideOff 30 = .ok (.getfield 86, 3) := by decide +kernel
theorem dX0_sideOff_33 : decode cX0_sideOff 33 = .ok (.ifCond .ge 7, 3) := by decide +kernel
theorem dX0_sideOff_36 : decode cX0_sideOff 36 = .ok (.iconst 2, 1) := by decide +kernel
theorem dX0_sideOff_37 : decode cX0_sideOff 37 = .ok (.goto 4, 3) := by decide +kernel
theorem dX0_sideOff_40 : decode cX0_sideOff 40 = .ok (.iconst 3, 1) := by decide +kernel
theorem dX0_sideOff_41 : decode cX0_sideOff 41 = .ok (.ireturn, 1) := by decide +kernel
theorem dX0_addLackOfWater_0 : decode cX0_addLackOfWater 0 = .ok (.aload_n 0, 1) := by decide +kernel
theorem dX0_addLackOfWater_1 : decode cX0_addLackOfWater 1 = .ok (.getfield 36, 3) := by decide +kernel
theorem dX0_addLackOfWater_4 : decode cX0_addLackOfWater 4 = .ok (.getfield 110, 3) := by decide +kernel
theorem dX0_addLackOfWater_7 : decode cX0_addLackOfWater 7 = .ok (.aload_n 0, 1) := by decide +kernel
theorem dX0_addLackOfWater_8 : decode cX0_addLackOfWater 8 = .ok (.getfield 32, 3) := by decide +kernel
theorem dX0_addLackOfWater_11 : decode cX0_addLackOfWater 11 = .ok (.aload_n 0, 1) := by decide +kernel
theorem dX0_addLackOfWater_12 : decode cX0_addLackOfWater 12 = .ok (.getfield 36, 3) := by decide +kernel
theorem dX0_addLackOfWater_15 : decode cX0_addLackOfWater 15 = .ok (.getfield 83, 3) := by decide +kernel
theorem dX0_addLackOfWater_18 : decode cX0_addLackOfWater 18 = .ok (.aload_n 0, 1) := by decide +kernel
theorem dX0_addLackOfWater_19 : decode cX0_addLackOfWater 19 = .ok (.getfield 36, 3) := by decide +kernel
theorem dX0_addLackOfWater_22 : decode cX0_addLackOfWater 22 = .ok (.getfield 86, 3) := by decide +kernel
theorem dX0_addLackOfWater_25 : decode cX0_addLackOfWater 25 = .ok (.invokevirtual 113, 3) := by decide +kernel
theorem dX0_addLackOfWater_28 : decode cX0_addLackOfWater 28 = .ok (.isub, 1) := by decide +kernel
theorem dX0_addLackOfWater_29 : decode cX0_addLackOfWater 29 = .ok (.istore_n 2, 1) := by decide +kernel
theorem dX0_addLackOfWater_30 : decode cX0_addLackOfWater 30 = .ok (.iload_n 2, 1) := by decide +kernel
theorem dX0_addLackOfWater_31 : decode cX0_addLackOfWater 31 = .ok (.aload_n 0, 1) := by decide +kernel
theorem dX0_addLackOfWater_32 : decode cX0_addLackOfWater 32 = .ok (.getfield 32, 3) := by decide +kernel
theorem dX0_addLackOfWater_35 : decode cX0_addLackOfWater 35 = .ok (.invokevirtual 116, 3) := by decide +kernel
theorem dX0_addLackOfWater_38 : decode cX0_addLackOfWater 38 = .ok (.isub, 1) := by decide +kernel
theorem dX0_addLackOfWater_39 : decode cX0_addLackOfWater 39 = .ok (.istore_n 3, 1) := by decide +kernel
theorem dX0_addLackOfWater_40 : decode cX0_addLackOfWater 40 = .ok (.iload_n 3, 1) := by decide +kernel
theorem dX0_addLackOfWater_41 : decode cX0_addLackOfWater 41 = .ok (.ifCond .gt 15, 3) := by decide +kernel
theorem dX0_addLackOfWater_44 : decode cX0_addLackOfWater 44 = .ok (.aload_n 0, 1) := by decide +kernel
theorem dX0_addLackOfWater_45 : decode cX0_addLackOfWater 45 = .ok (.bipush 6, 2) := by decide +kernel
theorem dX0_addLackOfWater_47 : decode cX0_addLackOfWater 47 = .ok (.iload_n 2, 1) := by decide +kernel
theorem dX0_addLackOfWater_48 : decode cX0_addLackOfWater 48 = .ok (.iload_n 1, 1) := by decide +kernel
theorem dX0_addLackOfWater_49 : decode cX0_addLackOfWater 49 = .ok (.isub, 1) := by decide +kernel
theorem dX0_addLackOfWater_50 : decode cX0_addLackOfWater 50 = .ok (.invokevirtual 52, 3) := by decide +kernel
theorem dX0_addLackOfWater_53 : decode cX0_addLackOfWater 53 = .ok (.goto 10, 3) := by decide +kernel
theorem dX0_addLackOfWater_56 : decode cX0_addLackOfWater 56 = .ok (.aload_n 0, 1) := by decide +kernel
theorem dX0_addLackOfWater_57 : decode cX0_addLackOfWater 57 = .ok (.bipush 7, 2) := by decide +kernel
theorem dX0_addLackOfWater_59 : decode cX0_addLackOfWater 59 = .ok (.iload_n 3, 1) := by decide +kernel
theorem dX0_addLackOfWater_60 : decode cX0_addLackOfWater 60 = .ok (.invokevirtual 52, 3) := by decide +kernel
theorem dX0_addLackOfWater_63 : decode cX0_addLackOfWater 63 = .ok (.return_, 1) := by decide +kernel
theorem dX0_addCause_0 : decode cX0_addCause 0 = .ok (.aload_n 0, 1) := by decide +kernel
theorem dX0_addCause_1 : decode cX0_addCause 1 = .ok (.getfield 21, 3) := by decide +kernel
theorem dX0_addCause_4 : decode cX0_addCause 4 = .ok (.ifCond .lt 41, 3) := by decide +kernel
theorem dX0_addCause_7 : decode cX0_addCause 7 = .ok (.aload_n 0, 1) := by decide +kernel
theorem dX0_addCause_8 : decode cX0_addCause 8 = .ok (.getfield 21, 3) := by decide +kernel
theorem dX0_addCause_11 : decode cX0_addCause 11 = .ok (.iconst 4, 1) := by decide +kernel
theorem dX0_addCause_12 : decode cX0_addCause 12 = .ok (.if_icmp .ge 33, 3) := by decide +kernel
theorem dX0_addCause_15 : decode cX0_addCause 15 = .ok (.aload_n 0, 1) := by decide +kernel
theorem dX0_addCause_16 : decode cX0_addCause 16 = .ok (.getfield 11, 3) := by decide +kernel
theorem dX0_addCause_19 : decode cX0_addCause 19 = .ok (.aload_n 0, 1) := by decide +kernel
theorem dX0_addCause_20 : decode cX0_addCause 20 = .ok (.getfield 21, 3) := by decide +kernel
theorem dX0_addCause_23 : decode cX0_addCause 23 = .ok (.iload_n 1, 1) := by decide +kernel
theorem dX0_addCause_24 : decode cX0_addCause 24 = .ok (.iastore, 1) := by decide +kernel
theorem dX0_addCause_25 : decode cX0_addCause 25 = .ok (.aload_n 0, 1) := by decide +kernel
theorem dX0_addCause_26 : decode cX0_addCause 26 = .ok (.getfield 15, 3) := by decide +kernel
theorem dX0_addCause_29 : decode cX0_addCause 29 = .ok (.aload_n 0, 1) := by decide +kernel
theorem dX0_addCause_30 : decode cX0_addCause 30 = .ok (.getfield 21, 3) := by decide +kernel
theorem dX0_addCause_33 : decode cX0_addCause 33 = .ok (.iload_n 2, 1) := by decide +kernel
theorem dX0_addCause_34 : decode cX0_addCause 34 = .ok (.iastore, 1) := by decide +kernel
theorem dX0_addCause_35 : decode cX0_addCause 35 = .ok (.aload_n 0, 1) := by decide +kernel
theorem dX0_addCause_36 : decode cX0_addCause 36 = .ok (.dup, 1) := by decide +kernel
theorem dX0_addCause_37 : decode cX0_addCause 37 = .ok (.getfield 21, 3) := by decide +kernel
theorem dX0_addCause_40 : decode cX0_addCause 40 = .ok (.iconst 1, 1) := by decide +kernel
theorem dX0_addCause_41 : decode cX0_addCause 41 = .ok (.iadd, 1) := by decide +kernel
theorem dX0_addCause_42 : decode cX0_addCause 42 = .ok (.putfield 21, 3) := by decide +kernel
theorem dX0_addCause_45 : decode cX0_addCause 45 = .ok (.return_, 1) := by decide +kernel
theorem dX0_writeLog_0 : decode cX0_writeLog 0 = .ok (.aload_n 0, 1) := by decide +kernel
theorem dX0_writeLog_1 : decode cX0_writeLog 1 = .ok (.iconst 0, 1) := by decide +kernel
theorem dX0_writeLog_2 : decode cX0_writeLog 2 = .ok (.putfield 25, 3) := by decide +kernel
theorem dX0_writeLog_5 : decode cX0_writeLog 5 = .ok (.iconst 0, 1) := by decide +kernel
theorem dX0_writeLog_6 : decode cX0_writeLog 6 = .ok (.istore_n 1, 1) := by decide +kernel
theorem dX0_writeLog_7 : decode cX0_writeLog 7 = .ok (.iload_n 1, 1) := by decide +kernel
theorem dX0_writeLog_8 : decode cX0_writeLog 8 = .ok (.aload_n 0, 1) := by decide +kernel
theorem dX0_writeLog_9 : decode cX0_writeLog 9 = .ok (.getfield 36, 3) := by decide +kernel
theorem dX0_writeLog_12 : decode cX0_writeLog 12 = .ok (.getfield 59, 3) := by decide +kernel
theorem dX0_writeLog_15 : decode cX0_writeLog 15 = .ok (.if_icmp .ge 43, 3) := by decide +kernel
theorem dX0_writeLog_18 : decode cX0_writeLog 18 = .ok (.aload_n 0, 1) := by decide +kernel
theorem dX0_writeLog_19 : decode cX0_writeLog 19 = .ok (.aload_n 0, 1) := by decide +kernel
theorem dX0_writeLog_20 : decode cX0_writeLog 20 = .ok (.getfield 28, 3) := by decide +kernel
theorem dX0_writeLog_23 : decode cX0_writeLog 23 = .ok (.iload_n 1, 1) := by decide +kernel
theorem dX0_writeLog_24 : decode cX0_writeLog 24 = .ok (.iconst 0, 1) := by decide +kernel
theorem dX0_writeLog_25 : decode cX0_writeLog 25 = .ok (.invokevirtual 119, 3) := by decide +kernel
theorem dX0_writeLog_28 : decode cX0_writeLog 28 = .ok (.invokestatic 122, 3) := by decide +kernel
theorem dX0_writeLog_31 : decode cX0_writeLog 31 = .ok (.invokevirtual 128, 3) := by decide +kernel
theorem dX0_writeLog_34 : decode cX0_writeLog 34 = .ok (.aload_n 0, 1) := by decide +kernel
theorem dX0_writeLog_35 : decode cX0_writeLog 35 = .ok (.aload_n 0, 1) := by decide +kernel
theorem dX0_writeLog_36 : decode cX0_writeLog 36 = .ok (.getfield 36, 3) := by decide +kernel
theorem dX0_writeLog_39 : decode cX0_writeLog 39 = .ok (.iload_n 1, 1) := by decide +kernel
theorem dX0_writeLog_40 : decode cX0_writeLog 40 = .ok (.invokevirtual 132, 3) := by decide +kernel
theorem dX0_writeLog_43 : decode cX0_writeLog 43 = .ok (.invokevirtual 135, 3) := by decide +kernel
theorem dX0_writeLog_46 : decode cX0_writeLog 46 = .ok (.aload_n 0, 1) := by decide +kernel
theorem dX0_writeLog_47 : decode cX0_writeLog 47 = .ok (.bipush 59, 2) := by decide +kernel
theorem dX0_writeLog_49 : decode cX0_writeLog 49 = .ok (.invokevirtual 138, 3) := by decide +kernel
theorem dX0_writeLog_52 : decode cX0_writeLog 52 = .ok (.iinc 1 1, 3) := by decide +kernel
theorem dX0_writeLog_55 : decode cX0_writeLog 55 = .ok (.goto (-48), 3) := by decide +kernel
theorem dX0_writeLog_58 : decode cX0_writeLog 58 = .ok (.aload_n 0, 1) := by decide +kernel
theorem dX0_writeLog_59 : decode cX0_writeLog 59 = .ok (.aload_n 0, 1) := by decide +kernel
theorem dX0_writeLog_60 : decode cX0_writeLog 60 = .ok (.getfield 36, 3) := by decide +kernel
theorem dX0_writeLog_63 : decode cX0_writeLog 63 = .ok (.invokevirtual 141, 3) := by decide +kernel
theorem dX0_writeLog_66 : decode cX0_writeLog 66 = .ok (.ifCond .eq 8, 3) := by decide +kernel
theorem dX0_writeLog_69 : decode cX0_writeLog 69 = .ok (.bipush 46, 2) := by decide +kernel
theorem dX0_writeLog_71 : decode cX0_writeLog 71 = .ok (.goto 5, 3) := by decide +kernel
theorem dX0_writeLog_74 : decode cX0_writeLog 74 = .ok (.bipush 33, 2) := by decide +kernel
theorem dX0_writeLog_76 : decode cX0_writeLog 76 = .ok (.invokevirtual 138, 3) := by decide +kernel
theorem dX0_writeLog_79 : decode cX0_writeLog 79 = .ok (.iconst 0, 1) := by decide +kernel
theorem dX0_writeLog_80 : decode cX0_writeLog 80 = .ok (.istore_n 1, 1) := by decide +kernel
theorem dX0_writeLog_81 : decode cX0_writeLog 81 = .ok (.iload_n 1, 1) := by decide +kernel
theorem dX0_writeLog_82 : decode cX0_writeLog 82 = .ok (.aload_n 0, 1) := by decide +kernel
theorem dX0_writeLog_83 : decode cX0_writeLog 83 = .ok (.getfield 21, 3) := by decide +kernel
theorem dX0_writeLog_86 : decode cX0_writeLog 86 = .ok (.if_icmp .ge 28, 3) := by decide +kernel
theorem dX0_writeLog_89 : decode cX0_writeLog 89 = .ok (.iload_n 1, 1) := by decide +kernel
theorem dX0_writeLog_90 : decode cX0_writeLog 90 = .ok (.ifCond .le 9, 3) := by decide +kernel
theorem dX0_writeLog_93 : decode cX0_writeLog 93 = .ok (.aload_n 0, 1) := by decide +kernel
theorem dX0_writeLog_94 : decode cX0_writeLog 94 = .ok (.bipush 44, 2) := by decide +kernel
theorem dX0_writeLog_96 : decode cX0_writeLog 96 = .ok (.invokevirtual 138, 3) := by decide +kernel
theorem dX0_writeLog_99 : decode cX0_writeLog 99 = .ok (.aload_n 0, 1) := by decide +kernel
theorem dX0_writeLog_100 : decode cX0_writeLog 100 = .ok (.aload_n 0, 1) := by decide +kernel
theorem dX0_writeLog_101 : decode cX0_writeLog 101 = .ok (.iload_n 1, 1) := by decide +kernel
theorem dX0_writeLog_102 : decode cX0_writeLog 102 = .ok (.invokevirtual 145, 3) := by decide +kernel
theorem dX0_writeLog_105 : decode cX0_writeLog 105 = .ok (.invokevirtual 135, 3) := by decide +kernel
theorem dX0_writeLog_108 : decode cX0_writeLog 108 = .ok (.iinc 1 1, 3) := by decide +kernel
theorem dX0_writeLog_111 : decode cX0_writeLog 111 = .ok (.goto (-30), 3) := by decide +kernel
theorem dX0_writeLog_114 : decode cX0_writeLog 114 = .ok (.return_, 1) := by decide +kernel
theorem dX0_writeGreat_0 : decode cX0_writeGreat 0 = .ok (.iconst 0, 1) := by decide +kernel
theorem dX0_writeGreat_1 : decode cX0_writeGreat 1 = .ok (.istore_n 2, 1) := by decide +kernel
theorem dX0_writeGreat_2 : decode cX0_writeGreat 2 = .ok (.iload_n 2, 1) := by decide +kernel
theorem dX0_writeGreat_3 : decode cX0_writeGreat 3 = .ok (.aload_n 1, 1) := by decide +kernel
theorem dX0_writeGreat_4 : decode cX0_writeGreat 4 = .ok (.invokevirtual 148, 3) := by decide +kernel
theorem dX0_writeGreat_7 : decode cX0_writeGreat 7 = .ok (.if_icmp .ge 21, 3) := by decide +kernel
theorem dX0_writeGreat_10 : decode cX0_writeGreat 10 = .ok (.aload_n 0, 1) := by decide +kernel
theorem dX0_writeGreat_11 : decode cX0_writeGreat 11 = .ok (.aload_n 1, 1) := by decide +kernel
theorem dX0_writeGreat_12 : decode cX0_writeGreat 12 = .ok (.iload_n 2, 1) := by decide +kernel
theorem dX0_writeGreat_13 : decode cX0_writeGreat 13 = .ok (.invokevirtual 152, 3) := by decide +kernel
theorem dX0_writeGreat_16 : decode cX0_writeGreat 16 = .ok (.bipush (-32), 2) := by decide +kernel
theorem dX0_writeGreat_18 : decode cX0_writeGreat 18 = .ok (.iadd, 1) := by decide +kernel
theorem dX0_writeGreat_19 : decode cX0_writeGreat 19 = .ok (.invokevirtual 138, 3) := by decide +kernel
theorem dX0_writeGreat_22 : decode cX0_writeGreat 22 = .ok (.iinc 2 1, 3) := by decide +kernel
theorem dX0_writeGreat_25 : decode cX0_writeGreat 25 = .ok (.goto (-23), 3) := by decide +kernel
theorem dX0_writeGreat_28 : decode cX0_writeGreat 28 = .ok (.return_, 1) := by decide +kernel
theorem dX0_writeFigures_0 : decode cX0_writeFigures 0 = .ok (.iload_n 1, 1) := by decide +kernel
theorem dX0_writeFigures_1 : decode cX0_writeFigures 1 = .ok (.bipush 10, 2) := by decide +kernel
theorem dX0_writeFigures_3 : decode cX0_writeFigures 3 = .ok (.if_icmp .lt 17, 3) := by decide +kernel
theorem dX0_writeFigures_6 : decode cX0_writeFigures 6 = .ok (.aload_n 0, 1) := by decide +kernel
theorem dX0_writeFigures_7 : decode cX0_writeFigures 7 = .ok (.bipush 48, 2) := by decide +kernel
theorem dX0_writeFigures_9 : decode cX0_writeFigures 9 = .ok (.iload_n 1, 1) := by decide +kernel
theorem dX0_writeFigures_10 : decode cX0_writeFigures 10 = .ok (.bipush 10, 2) := by decide +kernel
theorem dX0_writeFigures_12 : decode cX0_writeFigures 12 = .ok (.idiv, 1) := by decide +kernel
theorem dX0_writeFigures_13 : decode cX0_writeFigures 13 = .ok (.bipush 10, 2) := by decide +kernel
theorem dX0_writeFigures_15 : decode cX0_writeFigures 15 = .ok (.irem, 1) := by decide +kernel
theorem dX0_writeFigures_16 : decode cX0_writeFigures 16 = .ok (.iadd, 1) := by decide +kernel
theorem dX0_writeFigures_17 : decode cX0_writeFigures 17 = .ok (.invokevirtual 138, 3) := by decide +kernel
theorem dX0_writeFigures_20 : decode cX0_writeFigures 20 = .ok (.aload_n 0, 1) := by decide +kernel
theorem dX0_writeFigures_21 : decode cX0_writeFigures 21 = .ok (.bipush 48, 2) := by decide +kernel
theorem dX0_writeFigures_23 : decode cX0_writeFigures 23 = .ok (.iload_n 1, 1) := by decide +kernel
theorem dX0_writeFigures_24 : decode cX0_writeFigures 24 = .ok (.bipush 10, 2) := by decide +kernel
theorem dX0_writeFigures_26 : decode cX0_writeFigures 26 = .ok (.irem, 1) := by decide +kernel
theorem dX0_writeFigures_27 : decode cX0_writeFigures 27 = .ok (.iadd, 1) := by decide +kernel
theorem dX0_writeFigures_28 : decode cX0_writeFigures 28 = .ok (.invokevirtual 138, 3) := by decide +kernel
theorem dX0_writeFigures_31 : decode cX0_writeFigures 31 = .ok (.return_, 1) := by decide +kernel
theorem dX0_writeSign_0 : decode cX0_writeSign 0 = .ok (.aload_n 0, 1) := by decide +kernel
theorem dX0_writeSign_1 : decode cX0_writeSign 1 = .ok (.getfield 25, 3) := by decide +kernel
theorem dX0_writeSign_4 : decode cX0_writeSign 4 = .ok (.ifCond .lt 32, 3) := by decide +kernel
theorem dX0_writeSign_7 : decode cX0_writeSign 7 = .ok (.aload_n 0, 1) := by decide +kernel
theorem dX0_writeSign_8 : decode cX0_writeSign 8 = .ok (.getfield 25, 3) := by decide +kernel
theorem dX0_writeSign_11 : decode cX0_writeSign 11 = .ok (.bipush 64, 2) := by decide +kernel
theorem dX0_writeSign_13 : decode cX0_writeSign 13 = .ok (.if_icmp .ge 23, 3) := by decide +kernel
theorem dX0_writeSign_16 : decode cX0_writeSign 16 = .ok (.aload_n 0, 1) := by decide +kernel
theorem dX0_writeSign_17 : decode cX0_writeSign 17 = .ok (.getfield 18, 3) := by decide +kernel
theorem dX0_writeSign_20 : decode cX0_writeSign 20 = .ok (.aload_n 0, 1) := by decide +kernel
theorem dX0_writeSign_21 : decode cX0_writeSign 21 = .ok (.getfield 25, 3) := by decide +kernel
theorem dX0_writeSign_24 : decode cX0_writeSign 24 = .ok (.iload_n 1, 1) := by decide +kernel
theorem dX0_writeSign_25 : decode cX0_writeSign 25 = .ok (.iastore, 1) := by decide +kernel
theorem dX0_writeSign_26 : decode cX0_writeSign 26 = .ok (.aload_n 0, 1) := by decide +kernel
theorem dX0_writeSign_27 : decode cX0_writeSign 27 = .ok (.dup, 1) := by decide +kernel
theorem dX0_writeSign_28 : decode cX0_writeSign 28 = .ok (.getfield 25, 3) := by decide +kernel
theorem dX0_writeSign_31 : decode cX0_writeSign 31 = .ok (.iconst 1, 1) := by decide +kernel
theorem dX0_writeSign_32 : decode cX0_writeSign 32 = .ok (.iadd, 1) := by decide +kernel
theorem dX0_writeSign_33 : decode cX0_writeSign 33 = .ok (.putfield 25, 3) := by decide +kernel
theorem dX0_writeSign_36 : decode cX0_writeSign 36 = .ok (.return_, 1) := by decide +kernel
theorem dX1_init_0 : decode cX1_init 0 = .ok (.aload_n 0, 1) := by decide +kernel
theorem dX1_init_1 : decode cX1_init 1 = .ok (.invokespecial 3, 3) := by decide +kernel
theorem dX1_init_4 : decode cX1_init 4 = .ok (.aload_n 0, 1) := by decide +kernel
theorem dX1_init_5 : decode cX1_init 5 = .ok (.aload_n 1, 1) := by decide +kernel
theorem dX1_init_6 : decode cX1_init 6 = .ok (.putfield 9, 3) := by decide +kernel
theorem dX1_init_9 : decode cX1_init 9 = .ok (.return_, 1) := by decide +kernel
theorem dX1_isCharted_0 : decode cX1_isCharted 0 = .ok (.iload_n 0, 1) := by decide +kernel
theorem dX1_isCharted_1 : decode cX1_isCharted 1 = .ok (.ifCond .lt 23, 3) := by decide +kernel
theorem dX1_isCharted_4 : decode cX1_isCharted 4 = .ok (.iload_n 0, 1) := by decide +kernel
theorem dX1_isCharted_5 : decode cX1_isCharted 5 = .ok (.bipush 60, 2) := by decide +kernel
theorem dX1_isCharted_7 : decode cX1_isCharted 7 = .ok (.if_icmp .gt 17, 3) := by decide +kernel
theorem dX1_isCharted_10 : decode cX1_isCharted 10 = .ok (.iload_n 1, 1) := by decide +kernel
theorem dX1_isCharted_11 : decode cX1_isCharted 11 = .ok (.ifCond .lt 13, 3) := by decide +kernel
theorem dX1_isCharted_14 : decode cX1_isCharted 14 = .ok (.iload_n 1, 1) := by decide +kernel
theorem dX1_isCharted_15 : decode cX1_isCharted 15 = .ok (.bipush 60, 2) := by decide +kernel
theorem dX1_isCharted_17 : decode cX1_isCharted 17 = .ok (.if_icmp .gt 7, 3) := by decide +kernel
theorem dX1_isCharted_20 : decode cX1_isCharted 20 = .ok (.iconst 1, 1) := by decide +kernel
theorem dX1_isCharted_21 : decode cX1_isCharted 21 = .ok (.goto 4, 3) := by decide +kernel
theorem dX1_isCharted_24 : decode cX1_isCharted 24 = .ok (.iconst 0, 1) := by decide +kernel
theorem dX1_isCharted_25 : decode cX1_isCharted 25 = .ok (.ireturn, 1) := by decide +kernel
theorem dX1_heightAt_0 : decode cX1_heightAt 0 = .ok (.aload_n 0, 1) := by decide +kernel
theorem dX1_heightAt_1 : decode cX1_heightAt 1 = .ok (.getfield 9, 3) := by decide +kernel
theorem dX1_heightAt_4 : decode cX1_heightAt 4 = .ok (.invokevirtual 17, 3) := by decide +kernel
theorem dX1_heightAt_7 : decode cX1_heightAt 7 = .ok (.istore_n 2, 1) := by decide +kernel
theorem dX1_heightAt_8 : decode cX1_heightAt 8 = .ok (.iload_n 2, 1) := by decide +kernel
theorem dX1_heightAt_9 : decode cX1_heightAt 9 = .ok (.iconst 1, 1) := by decide +kernel
theorem dX1_heightAt_10 : decode cX1_heightAt 10 = .ok (.if_icmp .lt 7, 3) := by decide +kernel
theorem dX1_heightAt_13 : decode cX1_heightAt 13 = .ok (.iload_n 1, 1) := by decide +kernel
theorem dX1_heightAt_14 : decode cX1_heightAt 14 = .ok (.ifCond .ge 5, 3) := by decide +kernel
theorem dX1_heightAt_17 : decode cX1_heightAt 17 = .ok (.iconst 0, 1) := by decide +kernel
theorem dX1_heightAt_18 : decode cX1_heightAt 18 = .ok (.ireturn, 1) := by decide +kernel
theorem dX1_heightAt_19 : decode cX1_heightAt 19 = .ok (.iload_n 1, 1) := by decide +kernel
theorem dX1_heightAt_20 : decode cX1_heightAt 20 = .ok (.bipush 10, 2) := by decide +kernel
theorem dX1_heightAt_22 : decode cX1_heightAt 22 = .ok (.idiv, 1) := by decide +kernel
theorem dX1_heightAt_23 : decode cX1_heightAt 23 = .ok (.iload_n 2, 1) := by decide +kernel
theorem dX1_heightAt_24 : decode cX1_heightAt 24 = .ok (.irem, 1) := by decide +kernel
theorem dX1_heightAt_25 : decode cX1_heightAt 25 = .ok (.istore_n 3, 1) := by decide +kernel
theorem dX1_heightAt_26 : decode cX1_heightAt 26 = .ok (.aload_n 0, 1) := by decide +kernel
theorem dX1_heightAt_27 : decode cX1_heightAt 27 = .ok (.getfield 9, 3) := by decide +kernel
theorem dX1_heightAt_30 : decode cX1_heightAt 30 = .ok (.iload_n 3, 1) := by decide +kernel
theorem dX1_heightAt_31 : decode cX1_heightAt 31 = .ok (.invokevirtual 21, 3) := by decide +kernel
theorem dX1_heightAt_34 : decode cX1_heightAt 34 = .ok (.istore 4, 2) := by decide +kernel
theorem dX1_heightAt_36 : decode cX1_heightAt 36 = .ok (.aload_n 0, 1) := by decide +kernel
theorem dX1_heightAt_37 : decode cX1_heightAt 37 = .ok (.getfield 9, 3) := by decide +kernel
theorem dX1_heightAt_40 : decode cX1_heightAt 40 = .ok (.iload_n 3, 1) := by decide +kernel
theorem dX1_heightAt_41 : decode cX1_heightAt 41 = .ok (.iconst 1, 1) := by decide +kernel
theorem dX1_heightAt_42 : decode cX1_heightAt 42 = .ok (.iadd, 1) := by decide +kernel
theorem dX1_heightAt_43 : decode cX1_heightAt 43 = .ok (.iload_n 2, 1) := by decide +kernel
theorem dX1_heightAt_44 : decode cX1_heightAt 44 = .ok (.if_icmp .ge 9, 3) := by decide +kernel
theorem dX1_heightAt_47 : decode cX1_heightAt 47 = .ok (.iload_n 3, 1) := by decide +kernel
theorem dX1_heightAt_48 : decode cX1_heightAt 48 = .ok (.iconst 1, 1) := by decide +kernel
theorem dX1_heightAt_49 : decode cX1_heightAt 49 = .ok (.iadd, 1) := by decide +kernel
theorem dX1_heightAt_50 : decode cX1_heightAt 50 = .ok (.goto 4, 3) := by decide +kernel
theorem dX1_heightAt_53 : decode cX1_heightAt 53 = .ok (.iconst 0, 1) := by decide +kernel
theorem dX1_heightAt_54 : decode cX1_heightAt 54 = .ok (.invokevirtual 21, 3) := by decide +kernel
theorem dX1_heightAt_57 : decode cX1_heightAt 57 = .ok (.istore 5, 2) := by decide +kernel
theorem dX1_heightAt_59 : decode cX1_heightAt 59 = .ok (.iload 4, 2) := by decide +kernel
theorem dX1_heightAt_61 : decode cX1_heightAt 61 = .ok (.iload 5, 2) := by decide +kernel
theorem dX1_heightAt_63 : decode cX1_heightAt 63 = .ok (.iload 4, 2) := by decide +kernel
theorem dX1_heightAt_65 : decode cX1_heightAt 65 = .ok (.isub, 1) := by decide +kernel
theorem dX1_heightAt_66 : decode cX1_heightAt 66 = .ok (.iload_n 1, 1) := by decide +kernel
theorem dX1_heightAt_67 : decode cX1_heightAt 67 = .ok (.bipush 10, 2) := by decide +kernel
theorem dX1_heightAt_69 : decode cX1_heightAt 69 = .ok (.irem, 1) := by decide +kernel
theorem dX1_heightAt_70 : decode cX1_heightAt 70 = .ok (.imul, 1) := by decide +kernel
theorem dX1_heightAt_71 : decode cX1_heightAt 71 = .ok (.bipush 10, 2) := by decide +kernel
theorem dX1_heightAt_73 : decode cX1_heightAt 73 = .ok (.idiv, 1) := by decide +kernel
theorem dX1_heightAt_74 : decode cX1_heightAt 74 = .ok (.iadd, 1) := by decide +kernel
theorem dX1_heightAt_75 : decode cX1_heightAt 75 = .ok (.ireturn, 1) := by decide +kernel
theorem dX1_greatestHeight_0 : decode cX1_greatestHeight 0 = .ok (.iconst 0, 1) := by decide +kernel
theorem dX1_greatestHeight_1 : decode cX1_greatestHeight 1 = .ok (.istore_n 1, 1) := by decide +kernel
theorem dX1_greatestHeight_2 : decode cX1_greatestHeight 2 = .ok (.iconst 0, 1) := by decide +kernel
theorem dX1_greatestHeight_3 : decode cX1_greatestHeight 3 = .ok (.istore_n 2, 1) := by decide +kernel
theorem dX1_greatestHeight_4 : decode cX1_greatestHeight 4 = .ok (.iload_n 2, 1) := by decide +kernel
theorem dX1_greatestHeight_5 : decode cX1_greatestHeight 5 = .ok (.aload_n 0, 1) := by decide +kernel
theorem dX1_greatestHeight_6 : decode cX1_greatestHeight 6 = .ok (.getfield 9, 3) := by decide +kernel
theorem dX1_greatestHeight_9 : decode cX1_greatestHeight 9 = .ok (.invokevirtual 17, 3) := by decide +kernel
theorem dX1_greatestHeight_12 : decode cX1_greatestHeight 12 = .ok (.if_icmp .ge 22, 3) := by decide +kernel
theorem dX1_greatestHeight_15 : decode cX1_greatestHeight 15 = .ok (.iload_n 1, 1) := by decide +kernel
theorem dX1_greatestHeight_16 : decode cX1_greatestHeight 16 = .ok (.aload_n 0, 1) := by decide +kernel
theorem dX1_greatestHeight_17 : decode cX1_greatestHeight 17 = .ok (.getfield 9, 3) := by decide +kernel
theorem dX1_greatestHeight_20 : decode cX1_greatestHeight 20 = .ok (.iload_n 2, 1) := by decide +kernel
theorem dX1_greatestHeight_21 : decode cX1_greatestHeight 21 = .ok (.invokevirtual 21, 3) := by decide +kernel
theorem dX1_greatestHeight_24 : decode cX1_greatestHeight 24 = .ok (.invokestatic 25, 3) := by decide +kernel
theorem dX1_greatestHeight_27 : decode cX1_greatestHeight 27 = .ok (.istore_n 1, 1) := by decide +kernel
theorem dX1_greatestHeight_28 : decode cX1_greatestHeight 28 = .ok (.iinc 2 1, 3) := by decide +kernel
theorem dX1_greatestHeight_31 : decode cX1_greatestHeight 31 = .ok (.goto (-27), 3) := by decide +kernel
theorem dX1_greatestHeight_34 : decode cX1_greatestHeight 34 = .ok (.iload_n 1, 1) := by decide +kernel
theorem dX1_greatestHeight_35 : decode cX1_greatestHeight 35 = .ok (.ireturn, 1) := by decide +kernel
theorem dX1_depthAt_0 : decode cX1_depthAt 0 = .ok (.bipush 40, 2) := by decide +kernel
theorem dX1_depthAt_2 : decode cX1_depthAt 2 = .ok (.istore_n 3, 1) := by decide +kernel
theorem dX1_depthAt_3 : decode cX1_depthAt 3 = .ok (.iconst 0, 1) := by decide +kernel
theorem dX1_depthAt_4 : decode cX1_depthAt 4 = .ok (.istore 4, 2) := by decide +kernel
theorem dX1_depthAt_6 : decode cX1_depthAt 6 = .ok (.iload 4, 2) := by decide +kernel
theorem dX1_depthAt_8 : decode cX1_depthAt 8 = .ok (.aload_n 0, 1) := by decide +kernel
theorem dX1_depthAt_9 : decode cX1_depthAt 9 = .ok (.getfield 9, 3) := by decide +kernel
theorem dX1_depthAt_12 : decode cX1_depthAt 12 = .ok (.invokevirtual 31, 3) := by decide +kernel
theorem dX1_depthAt_15 : decode cX1_depthAt 15 = .ok (.if_icmp .ge 31, 3) := by decide +kernel
theorem dX1_depthAt_18 : decode cX1_depthAt 18 = .ok (.aload_n 0, 1) := by decide +kernel
theorem dX1_depthAt_19 : decode cX1_depthAt 19 = .ok (.iload 4, 2) := by decide +kernel
theorem dX1_depthAt_21 : decode cX1_depthAt 21 = .ok (.iload_n 1, 1) := by decide +kernel
theorem dX1_depthAt_22 : decode cX1_depthAt 22 = .ok (.iload_n 2, 1) := by decide +kernel
theorem dX1_depthAt_23 : decode cX1_depthAt 23 = .ok (.invokevirtual 34, 3) := by decide +kernel
theorem dX1_depthAt_26 : decode cX1_depthAt 26 = .ok (.ifCond .eq 14, 3) := by decide +kernel
theorem dX1_depthAt_29 : decode cX1_depthAt 29 = .ok (.iload_n 3, 1) := by decide +kernel
theorem dX1_depthAt_30 : decode cX1_depthAt 30 = .ok (.aload_n 0, 1) := by decide +kernel
theorem dX1_depthAt_31 : decode cX1_depthAt 31 = .ok (.iload 4, 2) := by decide +kernel
theorem dX1_depthAt_33 : decode cX1_depthAt 33 = .ok (.invokevirtual 38, 3) := by decide +kernel
theorem dX1_depthAt_36 : decode cX1_depthAt 36 = .ok (.invokestatic 41, 3) := by decide +kernel
theorem dX1_depthAt_39 : decode cX1_depthAt 39 = .ok (.istore_n 3, 1) := by decide +kernel
theorem dX1_depthAt_40 : decode cX1_depthAt 40 = .ok (.iinc 4 1, 3) := by decide +kernel
theorem dX1_depthAt_43 : decode cX1_depthAt 43 = .ok (.goto (-37), 3) := by decide +kernel
theorem dX1_depthAt_46 : decode cX1_depthAt 46 = .ok (.iload_n 3, 1) := by decide +kernel
theorem dX1_depthAt_47 : decode cX1_depthAt 47 = .ok (.ireturn, 1) := by decide +kernel
theorem dX1_firstShoalAt_0 : decode cX1_firstShoalAt 0 = .ok (.aload_n 0, 1) := by decide +kernel
theorem dX1_firstShoalAt_1 : decode cX1_firstShoalAt 1 = .ok (.iload_n 1, 1) := by decide +kernel
theorem dX1_firstShoalAt_2 : decode cX1_firstShoalAt 2 = .ok (.iload_n 2, 1) := by decide +kernel
theorem dX1_firstShoalAt_3 : decode cX1_firstShoalAt 3 = .ok (.invokevirtual 44, 3) := by decide +kernel
theorem dX1_firstShoalAt_6 : decode cX1_firstShoalAt 6 = .ok (.istore_n 3, 1) := by decide +kernel
theorem dX1_firstShoalAt_7 : decode cX1_firstShoalAt 7 = .ok (.iconst 0, 1) := by decide +kernel
theorem dX1_firstShoalAt_8 : decode cX1_firstShoalAt 8 = .ok (.istore 4, 2) := by decide +kernel
theorem dX1_firstShoalAt_10 : decode cX1_firstShoalAt 10 = .ok (.iload 4, 2) := by decide +kernel
theorem dX1_firstShoalAt_12 : decode cX1_firstShoalAt 12 = .ok (.aload_n 0, 1) := by decide +kernel
theorem dX1_firstShoalAt_13 : decode cX1_firstShoalAt 13 = .ok (.getfield 9, 3) := by decide +kernel
theorem dX1_firstShoalAt_16 : decode cX1_firstShoalAt 16 = .ok (.invokevirtual 31, 3) := by decide +kernel
theorem dX1_firstShoalAt_19 : decode cX1_firstShoalAt 19 = .ok (.if_icmp .ge 33, 3) := by decide +kernel
theorem dX1_firstShoalAt_22 : decode cX1_firstShoalAt 22 = .ok (.aload_n 0, 1) := by decide +kernel
theorem dX1_firstShoalAt_23 : decode cX1_firstShoalAt 23 = .ok (.iload 4, 2) := by decide +kernel
theorem dX1_firstShoalAt_25 : decode cX1_firstShoalAt 25 = .ok (.iload_n 1, 1) := by decide +kernel
theorem dX1_firstShoalAt_26 : decode cX1_firstShoalAt 26 = .ok (.iload_n 2, 1) := by decide +kernel
theorem dX1_firstShoalAt_27 : decode cX1_firstShoalAt 27 = .ok (.invokevirtual 34, 3) := by decide +kernel
theorem dX1_firstShoalAt_30 : decode cX1_firstShoalAt 30 = .ok (.ifCond .eq 16, 3) := by decide +kernel
theorem dX1_firstShoalAt_33 : decode cX1_firstShoalAt 33 = .ok (.aload_n 0, 1) := by decide +kernel
theorem dX1_firstShoalAt_34 : decode cX1_firstShoalAt 34 = .ok (.iload 4, 2) := by decide +kernel
theorem dX1_firstShoalAt_36 : decode cX1_firstShoalAt 36 = .ok (.invokevirtual 38, 3) := by decide +kernel
theorem dX1_firstShoalAt_39 : decode cX1_firstShoalAt 39 = .ok (.iload_n 3, 1) := by decide +kernel
theorem dX1_firstShoalAt_40 : decode cX1_firstShoalAt 40 = .ok (.if_icmp .ne 6, 3) := by decide +kernel
theorem dX1_firstShoalAt_43 : decode cX1_firstShoalAt 43 = .ok (.iload 4, 2) := by decide +kernel
theorem dX1_firstShoalAt_45 : decode cX1_firstShoalAt 45 = .ok (.ireturn, 1) := by decide +kernel
theorem dX1_firstShoalAt_46 : decode cX1_firstShoalAt 46 = .ok (.iinc 4 1, 3) := by decide +kernel
theorem dX1_firstShoalAt_49 : decode cX1_firstShoalAt 49 = .ok (.goto (-39), 3) := by decide +kernel
theorem dX1_firstShoalAt_52 : decode cX1_firstShoalAt 52 = .ok (.ldc 47, 2) := by decide +kernel
theorem dX1_firstShoalAt_54 : decode cX1_firstShoalAt 54 = .ok (.ireturn, 1) := by decide +kernel
theorem dX1_depthOf_0 : decode cX1_depthOf 0 = .ok (.aload_n 0, 1) := by decide +kernel
theorem dX1_depthOf_1 : decode cX1_depthOf 1 = .ok (.getfield 9, 3) := by decide +kernel
theorem dX1_depthOf_4 : decode cX1_depthOf 4 = .ok (.iload_n 1, 1) := by decide +kernel
theorem dX1_depthOf_5 : decode cX1_depthOf 5 = .ok (.iconst 4, 1) := by decide +kernel
theorem dX1_depthOf_6 : decode cX1_depthOf 6 = .ok (.invokevirtual 48, 3) := by decide +kernel
theorem dX1_depthOf_9 : decode cX1_depthOf 9 = .ok (.istore_n 2, 1) := by decide +kernel
theorem dX1_depthOf_10 : decode cX1_depthOf 10 = .ok (.aload_n 0, 1) := by decide +kernel
theorem dX1_depthOf_11 : decode cX1_depthOf 11 = .ok (.getfield 9, 3) := by decide +kernel
theorem dX1_depthOf_14 : decode cX1_depthOf 14 = .ok (.iload_n 1, 1) := by decide +kernel
theorem dX1_depthOf_15 : decode cX1_depthOf 15 = .ok (.iconst 0, 1) := by decide +kernel
theorem dX1_depthOf_16 : decode cX1_depthOf 16 = .ok (.invokevirtual 48, 3) := by decide +kernel
theorem dX1_depthOf_19 : decode cX1_depthOf 19 = .ok (.iconst 5, 1) := by decide +kernel
theorem dX1_depthOf_20 : decode cX1_depthOf 20 = .ok (.if_icmp .ne 8, 3) := by decide +kernel
theorem dX1_depthOf_23 : decode cX1_depthOf 23 = .ok (.iload_n 2, 1) := by decide +kernel
theorem dX1_depthOf_24 : decode cX1_depthOf 24 = .ok (.ineg, 1) := by decide +kernel
theorem dX1_depthOf_25 : decode cX1_depthOf 25 = .ok (.goto 4, 3) := by decide +kernel
theorem dX1_depthOf_28 : decode cX1_depthOf 28 = .ok (.iload_n 2, 1) := by decide +kernel
theorem dX1_depthOf_29 : decode cX1_depthOf 29 = .ok (.ireturn, 1) := by decide +kernel
theorem dX1_liesIn_0 : decode cX1_liesIn 0 = .ok (.aload_n 0, 1) := by decide +kernel
theorem dX1_liesIn_1 : decode cX1_liesIn 1 = .ok (.getfield 9, 3) := by decide +kernel
theorem dX1_liesIn_4 : decode cX1_liesIn 4 = .ok (.iload_n 1, 1) := by decide +kernel
theorem dX1_liesIn_5 : decode cX1_liesIn 5 = .ok (.iconst 0, 1) := by decide +kernel
theorem dX1_liesIn_6 : decode cX1_liesIn 6 = .ok (.invokevirtual 48, 3) := by decide +kernel
theorem dX1_liesIn_9 : decode cX1_liesIn 9 = .ok (.istore 4, 2) := by decide +kernel
theorem dX1_liesIn_11 : decode cX1_liesIn 11 = .ok (.iload 4, 2) := by decide +kernel
theorem dX1_liesIn_13 : decode cX1_liesIn 13 = .ok (.iconst 4, 1) := by decide +kernel
theorem dX1_liesIn_14 : decode cX1_liesIn 14 = .ok (.if_icmp .ge 5, 3) := by decide +kernel
theorem dX1_liesIn_17 : decode cX1_liesIn 17 = .ok (.iconst 0, 1) := by decide +kernel
theorem dX1_liesIn_18 : decode cX1_liesIn 18 = .ok (.ireturn, 1) := by decide +kernel
theorem dX1_liesIn_19 : decode cX1_liesIn 19 = .ok (.iload_n 2, 1) := by decide +kernel
theorem dX1_liesIn_20 : decode cX1_liesIn 20 = .ok (.aload_n 0, 1) := by decide +kernel
theorem dX1_liesIn_21 : decode cX1_liesIn 21 = .ok (.getfield 9, 3) := by decide +kernel
theorem dX1_liesIn_24 : decode cX1_liesIn 24 = .ok (.iload_n 1, 1) := by decide +kernel
theorem dX1_liesIn_25 : decode cX1_liesIn 25 = .ok (.iconst 1, 1) := by decide +kernel
theorem dX1_liesIn_26 : decode cX1_liesIn 26 = .ok (.invokevirtual 48, 3) := by decide +kernel
theorem dX1_liesIn_29 : decode cX1_liesIn 29 = .ok (.isub, 1) := by decide +kernel
theorem dX1_liesIn_30 : decode cX1_liesIn 30 = .ok (.istore 5, 2) := by decide +kernel
theorem dX1_liesIn_32 : decode cX1_liesIn 32 = .ok (.iload_n 3, 1) := by decide +kernel
theorem dX1_liesIn_33 : decode cX1_liesIn 33 = .ok (.aload_n 0, 1) := by decide +kernel
theorem dX1_liesIn_34 : decode cX1_liesIn 34 = .ok (.getfield 9, 3) := by decide +kernel
theorem dX1_liesIn_37 : decode cX1_liesIn 37 = .ok (.iload_n 1, 1) := by decide +kernel
theorem dX1_liesIn_38 : decode cX1_liesIn 38 = .ok (.iconst 2, 1) := by decide +kernel
theorem dX1_liesIn_39 : decode cX1_liesIn 39 = .ok (.invokevirtual 48, 3) := by decide +kernel
theorem dX1_liesIn_42 : decode cX1_liesIn 42 = .ok (.isub, 1) := by decide +kernel
theorem dX1_liesIn_43 : decode cX1_liesIn 43 = .ok (.istore 6, 2) := by decide +kernel
theorem dX1_liesIn_45 : decode cX1_liesIn 45 = .ok (.aload_n 0, 1) := by decide +kernel
theorem dX1_liesIn_46 : decode cX1_liesIn 46 = .ok (.getfield 9, 3) := by decide +kernel
theorem dX1_liesIn_49 : decode cX1_liesIn 49 = .ok (.iload_n 1, 1) := by decide +kernel
theorem dX1_liesIn_50 : decode cX1_liesIn 50 = .ok (.iconst 3, 1) := by decide +kernel
theorem dX1_liesIn_51 : decode cX1_liesIn 51 = .ok (.invokevirtual 48, 3) := by decide +kernel
theorem dX1_liesIn_54 : decode cX1_liesIn 54 = .ok (.istore 7, 2) := by decide +kernel
theorem dX1_liesIn_56 : decode cX1_liesIn 56 = .ok (.iload 4, 2) := by decide +kernel
theorem dX1_liesIn_58 : decode cX1_liesIn 58 = .ok (.bipush 6, 2) := by decide +kernel
theorem dX1_liesIn_60 : decode cX1_liesIn 60 = .ok (.if_icmp .ne 29, 3) := by decide +kernel
theorem dX1_liesIn_63 : decode cX1_liesIn 63 = .ok (.iload 5, 2) := by decide +kernel
theorem dX1_liesIn_65 : decode cX1_liesIn 65 = .ok (.invokestatic 51, 3) := by decide +kernel
theorem dX1_liesIn_68 : decode cX1_liesIn 68 = .ok (.iload 7, 2) := by decide +kernel
theorem dX1_liesIn_70 : decode cX1_liesIn 70 = .ok (.if_icmp .gt 17, 3) := by decide +kernel
theorem dX1_liesIn_73 : decode cX1_liesIn 73 = .ok (.iload 6, 2) := by decide +kernel
theorem dX1_liesIn_75 : decode cX1_liesIn 75 = .ok (.invokestatic 51, 3) := by decide +kernel
theorem dX1_liesIn_78 : decode cX1_liesIn 78 = .ok (.iload 7, 2) := by decide +kernel
theorem dX1_liesIn_80 : decode cX1_liesIn 80 = .ok (.if_icmp .gt 7, 3) := by decide +kernel
theorem dX1_liesIn_83 : decode cX1_liesIn 83 = .ok (.iconst 1, 1) := by decide +kernel
theorem dX1_liesIn_84 : decode cX1_liesIn 84 = .ok (.goto 4, 3) := by decide +kernel
theorem dX1_liesIn_87 : decode cX1_liesIn 87 = .ok (.iconst 0, 1) := by decide +kernel
theorem dX1_liesIn_88 : decode cX1_liesIn 88 = .ok (.ireturn, 1) := by decide +kernel
theorem dX1_liesIn_89 : decode cX1_liesIn 89 = .ok (.iload 5, 2) := by decide +kernel
theorem dX1_liesIn_91 : decode cX1_liesIn 91 = .ok (.iload 5, 2) := by decide +kernel
theorem dX1_liesIn_93 : decode cX1_liesIn 93 = .ok (.imul, 1) := by decide +kernel
theorem dX1_liesIn_94 : decode cX1_liesIn 94 = .ok (.iload 6, 2) := by decide +kernel
theorem dX1_liesIn_96 : decode cX1_liesIn 96 = .ok (.iload 6, 2) := by decide +kernel
theorem dX1_liesIn_98 : decode cX1_liesIn 98 = .ok (.imul, 1) := by decide +kernel
theorem dX1_liesIn_99 : decode cX1_liesIn 99 = .ok (.iadd, 1) := by decide +kernel
theorem dX1_liesIn_100 : decode cX1_liesIn 100 = .ok (.iload 7, 2) := by decide +kernel
theorem dX1_liesIn_102 : decode cX1_liesIn 102 = .ok (.iload 7, 2) := by decide +kernel
theorem dX1_liesIn_104 : decode cX1_liesIn 104 = .ok (.imul, 1) := by decide +kernel
theorem dX1_liesIn_105 : decode cX1_liesIn 105 = .ok (.if_icmp .gt 7, 3) := by decide +kernel
theorem dX1_liesIn_108 : decode cX1_liesIn 108 = .ok (.iconst 1, 1) := by decide +kernel
theorem dX1_liesIn_109 : decode cX1_liesIn 109 = .ok (.goto 4, 3) := by decide +kernel
theorem dX1_liesIn_112 : decode cX1_liesIn 112 = .ok (.iconst 0, 1) := by decide +kernel
theorem dX1_liesIn_113 : decode cX1_liesIn 113 = .ok (.ireturn, 1) := by decide +kernel
theorem dX1_markX_0 : decode cX1_markX 0 = .ok (.aload_n 0, 1) := by decide +kernel
theorem dX1_markX_1 : decode cX1_markX 1 = .ok (.getfield 9, 3) := by decide +kernel
theorem dX1_markX_4 : decode cX1_markX 4 = .ok (.iload_n 1, 1) := by decide +kernel
theorem dX1_markX_5 : decode cX1_markX 5 = .ok (.iconst 0, 1) := by decide +kernel
theorem dX1_markX_6 : decode cX1_markX 6 = .ok (.invokevirtual 48, 3) := by decide +kernel
theorem dX1_markX_9 : decode cX1_markX 9 = .ok (.iconst 3, 1) := by decide +kernel
theorem dX1_markX_10 : decode cX1_markX 10 = .ok (.if_icmp .ne 9, 3) := by decide +kernel
theorem dX1_markX_13 : decode cX1_markX 13 = .ok (.iload_n 2, 1) := by decide +kernel
theorem dX1_markX_14 : decode cX1_markX 14 = .ok (.iconst 4, 1) := by decide +kernel
theorem dX1_markX_15 : decode cX1_markX 15 = .ok (.idiv, 1) := by decide +kernel
theorem dX1_markX_16 : decode cX1_markX 16 = .ok (.goto 4, 3) := by decide +kernel
theorem dX1_markX_19 : decode cX1_markX 19 = .ok (.iconst 0, 1) := by decide +kernel
theorem dX1_markX_20 : decode cX1_markX 20 = .ok (.istore_n 3, 1) := by decide +kernel
theorem dX1_markX_21 : decode cX1_markX 21 = .ok (.aload_n 0, 1) := by decide +kernel
theorem dX1_markX_22 : decode cX1_markX 22 = .ok (.getfield 9, 3) := by decide +kernel
theorem dX1_markX_25 : decode cX1_markX 25 = .ok (.iload_n 1, 1) := by decide +kernel
theorem dX1_markX_26 : decode cX1_markX 26 = .ok (.iconst 1, 1) := by decide +kernel
theorem dX1_markX_27 : decode cX1_markX 27 = .ok (.invokevirtual 48, 3) := by decide +kernel
theorem dX1_markX_30 : decode cX1_markX 30 = .ok (.iload_n 3, 1) := by decide +kernel
theorem dX1_markX_31 : decode cX1_markX 31 = .ok (.iadd, 1) := by decide +kernel
theorem dX1_markX_32 : decode cX1_markX 32 = .ok (.ireturn, 1) := by decide +kernel
theorem dX1_isInSight_0 : decode cX1_isInSight 0 = .ok (.iload 5, 2) := by decide +kernel
theorem dX1_isInSight_2 : decode cX1_isInSight 2 = .ok (.iload_n 1, 1) := by decide +kernel
theorem dX1_isInSight_3 : decode cX1_isInSight 3 = .ok (.ishr, 1) := by decide +kernel
theorem dX1_isInSight_4 : decode cX1_isInSight 4 = .ok (.iconst 1, 1) := by decide +kernel
theorem dX1_isInSight_5 : decode cX1_isInSight 5 = .ok (.iand, 1) := by decide +kernel
theorem dX1_isInSight_6 : decode cX1_isInSight 6 = .ok (.ifCond .eq 5, 3) := by decide +kernel
theorem dX1_isInSight_9 : decode cX1_isInSight 9 = .ok (.iconst 0, 1) := by decide +kernel
theorem dX1_isInSight_10 : decode cX1_isInSight 10 = .ok (.ireturn, 1) := by decide +kernel
theorem dX1_isInSight_11 : decode cX1_isInSight 11 = .ok (.iload_n 2, 1) := by decide +kernel
theorem dX1_isInSight_12 : decode cX1_isInSight 12 = .ok (.aload_n 0, 1) := by decide +kernel
theorem dX1_isInSight_13 : decode cX1_isInSight 13 = .ok (.iload_n 1, 1) := by decide +kernel
theorem dX1_isInSight_14 : decode cX1_isInSight 14 = .ok (.iload 4, 2) := by decide +kernel
theorem dX1_isInSight_16 : decode cX1_isInSight 16 = .ok (.invokevirtual 54, 3) := by decide +kernel
theorem dX1_isInSight_19 : decode cX1_isInSight 19 = .ok (.isub, 1) := by decide +kernel
theorem dX1_isInSight_20 : decode cX1_isInSight 20 = .ok (.istore 6, 2) := by decide +kernel
theorem dX1_isInSight_22 : decode cX1_isInSight 22 = .ok (.iload_n 3, 1) := by decide +kernel
theorem dX1_isInSight_23 : decode cX1_isInSight 23 = .ok (.aload_n 0, 1) := by decide +kernel
theorem dX1_isInSight_24 : decode cX1_isInSight 24 = .ok (.getfield 9, 3) := by decide +kernel
theorem dX1_isInSight_27 : decode cX1_isInSight 27 = .ok (.iload_n 1, 1) := by decide +kernel
theorem dX1_isInSight_28 : decode cX1_isInSight 28 = .ok (.iconst 2, 1) := by decide +kernel
theorem dX1_isInSight_29 : decode cX1_isInSight 29 = .ok (.invokevirtual 48, 3) := by decide +kernel
theorem dX1_isInSight_32 : decode cX1_isInSight 32 = .ok (.isub, 1) := by decide +kernel
theorem dX1_isInSight_33 : decode cX1_isInSight 33 = .ok (.istore 7, 2) := by decide +kernel
theorem dX1_isInSight_35 : decode cX1_isInSight 35 = .ok (.iload 6, 2) := by decide +kernel
theorem dX1_isInSight_37 : decode cX1_isInSight 37 = .ok (.iload 6, 2) := by decide +kernel
theorem dX1_isInSight_39 : decode cX1_isInSight 39 = .ok (.imul, 1) := by decide +kernel
theorem dX1_isInSight_40 : decode cX1_isInSight 40 = .ok (.iload 7, 2) := by decide +kernel
theorem dX1_isInSight_42 : decode cX1_isInSight 42 = .ok (.iload 7, 2) := by decide +kernel
theorem dX1_isInSight_44 : decode cX1_isInSight 44 = .ok (.imul, 1) := by decide +kernel
theorem dX1_isInSight_45 : decode cX1_isInSight 45 = .ok (.iadd, 1) := by decide +kernel
theorem dX1_isInSight_46 : decode cX1_isInSight 46 = .ok (.istore 8, 2) := by decide +kernel
theorem dX1_isInSight_48 : decode cX1_isInSight 48 = .ok (.aload_n 0, 1) := by decide +kernel
theorem dX1_isInSight_49 : decode cX1_isInSight 49 = .ok (.getfield 9, 3) := by decide +kernel
theorem dX1_isInSight_52 : decode cX1_isInSight 52 = .ok (.iload_n 1, 1) := by decide +kernel
theorem dX1_isInSight_53 : decode cX1_isInSight 53 = .ok (.iconst 0, 1) := by decide +kernel
theorem dX1_isInSight_54 : decode cX1_isInSight 54 = .ok (.invokevirtual 48, 3) := by decide +kernel
theorem dX1_isInSight_57 : decode cX1_isInSight 57 = .ok (.tableswitch 84 1 3 #[27, 54, 41], 27) := by decide +kernel
theorem dX1_isInSight_84 : decode cX1_isInSight 84 = .ok (.iload 8, 2) := by decide +kernel
theorem dX1_isInSight_86 : decode cX1_isInSight 86 = .ok (.sipush 400, 3) := by decide +kernel
theorem dX1_isInSight_89 : decode cX1_isInSight 89 = .ok (.if_icmp .gt 7, 3) := by decide +kernel
theorem dX1_isInSight_92 : decode cX1_isInSight 92 = .ok (.iconst 1, 1) := by decide +kernel
theorem dX1_isInSight_93 : decode cX1_isInSight 93 = .ok (.goto 4, 3) := by decide +kernel
theorem dX1_isInSight_96 : decode cX1_isInSight 96 = .ok (.iconst 0, 1) := by decide +kernel
theorem dX1_isInSight_97 : decode cX1_isInSight 97 = .ok (.ireturn, 1) := by decide +kernel
theorem dX1_isInSight_98 : decode cX1_isInSight 98 = .ok (.iload 8, 2) := by decide +kernel
theorem dX1_isInSight_100 : decode cX1_isInSight 100 = .ok (.bipush 100, 2) := by decide +kernel
theorem dX1_isInSight_102 : decode cX1_isInSight 102 = .ok (.if_icmp .gt 7, 3) := by decide +kernel
theorem dX1_isInSight_105 : decode cX1_isInSight 105 = .ok (.iconst 1, 1) := by decide +kernel
theorem dX1_isInSight_106 : decode cX1_isInSight 106 = .ok (.goto 4, 3) := by decide +kernel
theorem dX1_isInSight_109 : decode cX1_isInSight 109 = .ok (.iconst 0, 1) := by decide +kernel
theorem dX1_isInSight_110 : decode cX1_isInSight 110 = .ok (.ireturn, 1) := by decide +kernel
theorem dX1_isInSight_111 : decode cX1_isInSight 111 = .ok (.aload_n 0, 1) := by decide +kernel
theorem dX1_isInSight_112 : decode cX1_isInSight 112 = .ok (.getfield 9, 3) := by decide +kernel
theorem dX1_isInSight_115 : decode cX1_isInSight 115 = .ok (.iload_n 1, 1) := by decide +kernel
theorem dX1_isInSight_116 : decode cX1_isInSight 116 = .ok (.iconst 3, 1) := by decide +kernel
theorem dX1_isInSight_117 : decode cX1_isInSight 117 = .ok (.invokevirtual 48, 3) := by decide +kernel
theorem dX1_isInSight_120 : decode cX1_isInSight 120 = .ok (.istore 9, 2) := by decide +kernel
theorem dX1_isInSight_122 : decode cX1_isInSight 122 = .ok (.iload 9, 2) := by decide +kernel
theorem dX1_isInSight_124 : decode cX1_isInSight 124 = .ok (.aload_n 0, 1) := by decide +kernel
theorem dX1_isInSight_125 : decode cX1_isInSight 125 = .ok (.getfield 9, 3) := by decide +kernel
theorem dX1_isInSight_128 : decode cX1_isInSight 128 = .ok (.iload_n 1, 1) := by decide +kernel
theorem dX1_isInSight_129 : decode cX1_isInSight 129 = .ok (.iconst 4, 1) := by decide +kernel
theorem dX1_isInSight_130 : decode cX1_isInSight 130 = .ok (.invokevirtual 48, 3) := by decide +kernel
theorem dX1_isInSight_133 : decode cX1_isInSight 133 = .ok (.iload 6, 2) := by decide +kernel
theorem dX1_isInSight_135 : decode cX1_isInSight 135 = .ok (.iload 7, 2) := by decide +kernel
theorem dX1_isInSight_137 : decode cX1_isInSight 137 = .ok (.invokestatic 57, 3) := by decide +kernel
theorem dX1_isInSight_140 : decode cX1_isInSight 140 = .ok (.ireturn, 1) := by decide +kernel
theorem dX1_isInSight_141 : decode cX1_isInSight 141 = .ok (.iconst 0, 1) := by decide +kernel
theorem dX1_isInSight_142 : decode cX1_isInSight 142 = .ok (.ireturn, 1) := by decide +kernel
theorem dX1_squareFrom_0 : decode cX1_squareFrom 0 = .ok (.iload_n 2, 1) := by decide +kernel
theorem dX1_squareFrom_1 : decode cX1_squareFrom 1 = .ok (.aload_n 0, 1) := by decide +kernel
theorem dX1_squareFrom_2 : decode cX1_squareFrom 2 = .ok (.getfield 9, 3) := by decide +kernel
theorem dX1_squareFrom_5 : decode cX1_squareFrom 5 = .ok (.iload_n 1, 1) := by decide +kernel
theorem dX1_squareFrom_6 : decode cX1_squareFrom 6 = .ok (.iconst 1, 1) := by decide +kernel
theorem dX1_squareFrom_7 : decode cX1_squareFrom 7 = .ok (.invokevirtual 48, 3) := by decide +kernel
theorem dX1_squareFrom_10 : decode cX1_squareFrom 10 = .ok (.isub, 1) := by decide +kernel
theorem dX1_squareFrom_11 : decode cX1_squareFrom 11 = .ok (.istore 4, 2) := by decide +kernel
theorem dX1_squareFrom_13 : decode cX1_squareFrom 13 = .ok (.iload_n 3, 1) := by decide +kernel
theorem dX1_squareFrom_14 : decode cX1_squareFrom 14 = .ok (.aload_n 0, 1) := by decide +kernel
theorem dX1_squareFrom_15 : decode cX1_squareFrom 15 = .ok (.getfield 9, 3) := by decide +kernel
theorem dX1_squareFrom_18 : decode cX1_squareFrom 18 = .ok (.iload_n 1, 1) := by decide +kernel
theorem dX1_squareFrom_19 : decode cX1_squareFrom 19 = .ok (.iconst 2, 1) := by decide +kernel
theorem dX1_squareFrom_20 : decode cX1_squareFrom 20 = .ok (.invokevirtual 48, 3) := by decide +kernel
theorem dX1_squareFrom_23 : decode cX1_squareFrom 23 = .ok (.isub, 1) := by decide +kernel
theorem dX1_squareFrom_24 : decode cX1_squareFrom 24 = .ok (.istore 5, 2) := by decide +kernel
theorem dX1_squareFrom_26 : decode cX1_squareFrom 26 = .ok (.iload 4, 2) := by decide +kernel
theorem dX1_squareFrom_28 : decode cX1_squareFrom 28 = .ok (.iload 4, 2) := by decide +kernel
theorem dX1_squareFrom_30 : decode cX1_squareFrom 30 = .ok (.imul, 1) := by decide +kernel
theorem dX1_squareFrom_31 : decode cX1_squareFrom 31 = .ok (.iload 5, 2) := by decide +kernel
theorem dX1_squareFrom_33 : decode cX1_squareFrom 33 = .ok (.iload 5, 2) := by decide +kernel
theorem dX1_squareFrom_35 : decode cX1_squareFrom 35 = .ok (.imul, 1) := by decide +kernel
theorem dX1_squareFrom_36 : decode cX1_squareFrom 36 = .ok (.iadd, 1) := by decide +kernel
theorem dX1_squareFrom_37 : decode cX1_squareFrom 37 = .ok (.ireturn, 1) := by decide +kernel
theorem dX1_isOnePlace_0 : decode cX1_isOnePlace 0 = .ok (.aload_n 0, 1) := by decide +kernel
theorem dX1_isOnePlace_1 : decode cX1_isOnePlace 1 = .ok (.getfield 9, 3) := by decide +kernel
theorem dX1_isOnePlace_4 : decode cX1_isOnePlace 4 = .ok (.iload_n 1, 1) := by decide +kernel
theorem dX1_isOnePlace_5 : decode cX1_isOnePlace 5 = .ok (.iconst 1, 1) := by decide +kernel
theorem dX1_isOnePlace_6 : decode cX1_isOnePlace 6 = .ok (.invokevirtual 48, 3) := by decide +kernel
theorem dX1_isOnePlace_9 : decode cX1_isOnePlace 9 = .ok (.aload_n 0, 1) := by decide +kernel
theorem dX1_isOnePlace_10 : decode cX1_isOnePlace 10 = .ok (.getfield 9, 3) := by decide +kernel
theorem dX1_isOnePlace_13 : decode cX1_isOnePlace 13 = .ok (.iload_n 2, 1) := by decide +kernel
theorem dX1_isOnePlace_14 : decode cX1_isOnePlace 14 = .ok (.iconst 1, 1) := by decide +kernel
theorem dX1_isOnePlace_15 : decode cX1_isOnePlace 15 = .ok (.invokevirtual 48, 3) := by decide +kernel
theorem dX1_isOnePlace_18 : decode cX1_isOnePlace 18 = .ok (.if_icmp .ne 28, 3) := by decide +kernel
theorem dX1_isOnePlace_21 : decode cX1_isOnePlace 21 = .ok (.aload_n 0, 1) := by decide +kernel
theorem dX1_isOnePlace_22 : decode cX1_isOnePlace 22 = .ok (.getfield 9, 3) := by decide +kernel
theorem dX1_isOnePlace_25 : decode cX1_isOnePlace 25 = .ok (.iload_n 1, 1) := by decide +kernel
theorem dX1_isOnePlace_26 : decode cX1_isOnePlace 26 = .ok (.iconst 2, 1) := by decide +kernel
theorem dX1_isOnePlace_27 : decode cX1_isOnePlace 27 = .ok (.invokevirtual 48, 3) := by decide +kernel
theorem dX1_isOnePlace_30 : decode cX1_isOnePlace 30 = .ok (.aload_n 0, 1) := by decide +kernel
theorem dX1_isOnePlace_31 : decode cX1_isOnePlace 31 = .ok (.getfield 9, 3) := by decide +kernel
theorem dX1_isOnePlace_34 : decode cX1_isOnePlace 34 = .ok (.iload_n 2, 1) := by decide +kernel
theorem dX1_isOnePlace_35 : decode cX1_isOnePlace 35 = .ok (.iconst 2, 1) := by decide +kernel
theorem dX1_isOnePlace_36 : decode cX1_isOnePlace 36 = .ok (.invokevirtual 48, 3) := by decide +kernel
theorem dX1_isOnePlace_39 : decode cX1_isOnePlace 39 = .ok (.if_icmp .ne 7, 3) := by decide +kernel
theorem dX1_isOnePlace_42 : decode cX1_isOnePlace 42 = .ok (.iconst 1, 1) := by decide +kernel
theorem dX1_isOnePlace_43 : decode cX1_isOnePlace 43 = .ok (.goto 4, 3) := by decide +kernel
theorem dX1_isOnePlace_46 : decode cX1_isOnePlace 46 = .ok (.iconst 0, 1) := by decide +kernel
theorem dX1_isOnePlace_47 : decode cX1_isOnePlace 47 = .ok (.ireturn, 1) := by decide +kernel
theorem dX1_leftOfLine_0 : decode cX1_leftOfLine 0 = .ok (.aload_n 0, 1) := by decide +kernel
theorem dX1_leftOfLine_1 : decode cX1_leftOfLine 1 = .ok (.getfield 9, 3) := by decide +kernel
theorem dX1_leftOfLine_4 : decode cX1_leftOfLine 4 = .ok (.iload_n 1, 1) := by decide +kernel
theorem dX1_leftOfLine_5 : decode cX1_leftOfLine 5 = .ok (.iconst 1, 1) := by decide +kernel
theorem dX1_leftOfLine_6 : decode cX1_leftOfLine 6 = .ok (.invokevirtual 48, 3) := by decide +kernel
theorem dX1_leftOfLine_9 : decode cX1_leftOfLine 9 = .ok (.istore 5, 2) := by decide +kernel
theorem dX1_leftOfLine_11 : decode cX1_leftOfLine 11 = .ok (.aload_n 0, 1) := by decide +kernel
theorem dX1_leftOfLine_12 : decode cX1_leftOfLine 12 = .ok (.getfield 9, 3) := by decide +kernel
theorem dX1_leftOfLine_15 : decode cX1_leftOfLine 15 = .ok (.iload_n 1, 1) := by decide +kernel
theorem dX1_leftOfLine_16 : decode cX1_leftOfLine 16 = .ok (.iconst 2, 1) := by decide +kernel
theorem dX1_leftOfLine_17 : decode cX1_leftOfLine 17 = .ok (.invokevirtual 48, 3) := by decide +kernel
theorem dX1_leftOfLine_20 : decode cX1_leftOfLine 20 = .ok (.istore 6, 2) := by decide +kernel
theorem dX1_leftOfLine_22 : decode cX1_leftOfLine 22 = .ok (.aload_n 0, 1) := by decide +kernel
theorem dX1_leftOfLine_23 : decode cX1_leftOfLine 23 = .ok (.getfield 9, 3) := by decide +kernel
theorem dX1_leftOfLine_26 : decode cX1_leftOfLine 26 = .ok (.iload_n 2, 1) := by decide +kernel
theorem dX1_leftOfLine_27 : decode cX1_leftOfLine 27 = .ok (.iconst 1, 1) := by decide +kernel
theorem dX1_leftOfLine_28 : decode cX1_leftOfLine 28 = .ok (.invokevirtual 48, 3) := by decide +kernel
theorem dX1_leftOfLine_31 : decode cX1_leftOfLine 31 = .ok (.iload 5, 2) := by decide +kernel
theorem dX1_leftOfLine_33 : decode cX1_leftOfLine 33 = .ok (.isub, 1) := by decide +kernel
theorem dX1_leftOfLine_34 : decode cX1_leftOfLine 34 = .ok (.istore 7, 2) := by decide +kernel
theorem dX1_leftOfLine_36 : decode cX1_leftOfLine 36 = .ok (.aload_n 0, 1) := by decide +kernel
theorem dX1_leftOfLine_37 : decode cX1_leftOfLine 37 = .ok (.getfield 9, 3) := by decide +kernel
theorem dX1_leftOfLine_40 : decode cX1_leftOfLine 40 = .ok (.iload_n 2, 1) := by decide +kernel
theorem dX1_leftOfLine_41 : decode cX1_leftOfLine 41 = .ok (.iconst 2, 1) := by decide +kernel
theorem dX1_leftOfLine_42 : decode cX1_leftOfLine 42 = .ok (.invokevirtual 48, 3) := by decide +kernel
theorem dX1_leftOfLine_45 : decode cX1_leftOfLine 45 = .ok (.iload 6, 2) := by decide +kernel
theorem dX1_leftOfLine_47 : decode cX1_leftOfLine 47 = .ok (.isub, 1) := by decide +kernel
theorem dX1_leftOfLine_48 : decode cX1_leftOfLine 48 = .ok (.istore 8, 2) := by decide +kernel
theorem dX1_leftOfLine_50 : decode cX1_leftOfLine 50 = .ok (.iload 7, 2) := by decide +kernel
theorem dX1_leftOfLine_52 : decode cX1_leftOfLine 52 = .ok (.iload 4, 2) := by decide +kernel
theorem dX1_leftOfLine_54 : decode cX1_leftOfLine 54 = .ok (.iload 6, 2) := by decide +kernel
theorem dX1_leftOfLine_56 : decode cX1_leftOfLine 56 = .ok (.isub, 1) := by decide +kernel
theorem dX1_leftOfLine_57 : decode cX1_leftOfLine 57 = .ok (.imul, 1) := by decide +kernel
theorem dX1_leftOfLine_58 : decode cX1_leftOfLine 58 = .ok (.iload 8, 2) := by decide +kernel
theorem dX1_leftOfLine_60 : decode cX1_leftOfLine 60 = .ok (.iload_n 3, 1) := by decide +kernel
theorem dX1_leftOfLine_61 : decode cX1_leftOfLine 61 = .ok (.iload 5, 2) := by decide +kernel
theorem dX1_leftOfLine_63 : decode cX1_leftOfLine 63 = .ok (.isub, 1) := by decide +kernel
theorem dX1_leftOfLine_64 : decode cX1_leftOfLine 64 = .ok (.imul, 1) := by decide +kernel
theorem dX1_leftOfLine_65 : decode cX1_leftOfLine 65 = .ok (.isub, 1) := by decide +kernel
theorem dX1_leftOfLine_66 : decode cX1_leftOfLine 66 = .ok (.ireturn, 1) := by decide +kernel
theorem dX1_shoalsOnSide_0 : decode cX1_shoalsOnSide 0 = .ok (.iconst 0, 1) := by decide +kernel
theorem dX1_shoalsOnSide_1 : decode cX1_shoalsOnSide 1 = .ok (.istore 4, 2) := by decide +kernel
theorem dX1_shoalsOnSide_3 : decode cX1_shoalsOnSide 3 = .ok (.iconst 0, 1) := by decide +kernel
theorem dX1_shoalsOnSide_4 : decode cX1_shoalsOnSide 4 = .ok (.istore 5, 2) := by decide +kernel
theorem dX1_shoalsOnSide_6 : decode cX1_shoalsOnSide 6 = .ok (.iload 5, 2) := by decide +kernel
theorem dX1_shoalsOnSide_8 : decode cX1_shoalsOnSide 8 = .ok (.aload_n 0, 1) := by decide +kernel
theorem dX1_shoalsOnSide_9 : decode cX1_shoalsOnSide 9 = .ok (.getfield 9, 3) := by decide +kernel
theorem dX1_shoalsOnSide_12 : decode cX1_shoalsOnSide 12 = .ok (.invokevirtual 31, 3) := by decide +kernel
theorem dX1_shoalsOnSide_15 : decode cX1_shoalsOnSide 15 = .ok (.if_icmp .ge 44, 3) := by decide +kernel
theorem dX1_shoalsOnSide_18 : decode cX1_shoalsOnSide 18 = .ok (.aload_n 0, 1) := by decide +kernel
theorem dX1_shoalsOnSide_19 : decode cX1_shoalsOnSide 19 = .ok (.getfield 9, 3) := by decide +kernel
theorem dX1_shoalsOnSide_22 : decode cX1_shoalsOnSide 22 = .ok (.iload 5, 2) := by decide +kernel
theorem dX1_shoalsOnSide_24 : decode cX1_shoalsOnSide 24 = .ok (.iconst 0, 1) := by decide +kernel
theorem dX1_shoalsOnSide_25 : decode cX1_shoalsOnSide 25 = .ok (.invokevirtual 48, 3) := by decide +kernel
theorem dX1_shoalsOnSide_28 : decode cX1_shoalsOnSide 28 = .ok (.iconst 4, 1) := by decide +kernel
theorem dX1_shoalsOnSide_29 : decode cX1_shoalsOnSide 29 = .ok (.if_icmp .lt 24, 3) := by decide +kernel
theorem dX1_shoalsOnSide_32 : decode cX1_shoalsOnSide 32 = .ok (.aload_n 0, 1) := by decide +kernel
theorem dX1_shoalsOnSide_33 : decode cX1_shoalsOnSide 33 = .ok (.iload_n 1, 1) := by decide +kernel
theorem dX1_shoalsOnSide_34 : decode cX1_shoalsOnSide 34 = .ok (.iload_n 2, 1) := by decide +kernel
theorem dX1_shoalsOnSide_35 : decode cX1_shoalsOnSide 35 = .ok (.iload 5, 2) := by decide +kernel
theorem dX1_shoalsOnSide_37 : decode cX1_shoalsOnSide 37 = .ok (.invokevirtual 63, 3) := by decide +kernel
theorem dX1_shoalsOnSide_40 : decode cX1_shoalsOnSide 40 = .ok (.iload_n 3, 1) := by decide +kernel
theorem dX1_shoalsOnSide_41 : decode cX1_shoalsOnSide 41 = .ok (.if_icmp .ne 12, 3) := by decide +kernel
theorem dX1_shoalsOnSide_44 : decode cX1_shoalsOnSide 44 = .ok (.iload 4, 2) := by decide +kernel
theorem dX1_shoalsOnSide_46 : decode cX1_shoalsOnSide 46 = .ok (.iconst 1, 1) := by decide +kernel
theorem dX1_shoalsOnSide_47 : decode cX1_shoalsOnSide 47 = .ok (.iload 5, 2) := by decide +kernel
theorem dX1_shoalsOnSide_49 : decode cX1_shoalsOnSide 49 = .ok (.ishl, 1) := by decide +kernel
theorem dX1_shoalsOnSide_50 : decode cX1_shoalsOnSide 50 = .ok (.ior, 1) := by decide +kernel
theorem dX1_shoalsOnSide_51 : decode cX1_shoalsOnSide 51 = .ok (.istore 4, 2) := by decide +kernel
theorem dX1_shoalsOnSide_53 : decode cX1_shoalsOnSide 53 = .ok (.iinc 5 1, 3) := by decide +kernel
theorem dX1_shoalsOnSide_56 : decode cX1_shoalsOnSide 56 = .ok (.goto (-50), 3) := by decide +kernel
theorem dX1_shoalsOnSide_59 : decode cX1_shoalsOnSide 59 = .ok (.iload 4, 2) := by decide +kernel
theorem dX1_shoalsOnSide_61 : decode cX1_shoalsOnSide 61 = .ok (.ireturn, 1) := by decide +kernel
theorem dX1_sideOfShoal_0 : decode cX1_sideOfShoal 0 = .ok (.aload_n 0, 1) := by decide +kernel
theorem dX1_sideOfShoal_1 : decode cX1_sideOfShoal 1 = .ok (.getfield 9, 3) := by decide +kernel
theorem dX1_sideOfShoal_4 : decode cX1_sideOfShoal 4 = .ok (.iload_n 2, 1) := by decide +kernel
theorem dX1_sideOfShoal_5 : decode cX1_sideOfShoal 5 = .ok (.iconst 1, 1) := by decide +kernel
theorem dX1_sideOfShoal_6 : decode cX1_sideOfShoal 6 = .ok (.invokevirtual 48, 3) := by decide +kernel
theorem dX1_sideOfShoal_9 : decode cX1_sideOfShoal 9 = .ok (.aload_n 0, 1) := by decide +kernel
theorem dX1_sideOfShoal_10 : decode cX1_sideOfShoal 10 = .ok (.getfield 9, 3) := by decide +kernel
theorem dX1_sideOfShoal_13 : decode cX1_sideOfShoal 13 = .ok (.iload_n 1, 1) := by decide +kernel
theorem dX1_sideOfShoal_14 : decode cX1_sideOfShoal 14 = .ok (.iconst 1, 1) := by decide +kernel
theorem dX1_sideOfShoal_15 : decode cX1_sideOfShoal 15 = .ok (.invokevirtual 48, 3) := by decide +kernel
theorem dX1_sideOfShoal_18 : decode cX1_sideOfShoal 18 = .ok (.isub, 1) := by decide +kernel
theorem dX1_sideOfShoal_19 : decode cX1_sideOfShoal 19 = .ok (.istore 4, 2) := by decide +kernel
theorem dX1_sideOfShoal_21 : decode cX1_sideOfShoal 21 = .ok (.aload_n 0, 1) := by decide +kernel
theorem dX1_sideOfShoal_22 : decode cX1_sideOfShoal 22 = .ok (.getfield 9, 3) := by decide +kernel
theorem dX1_sideOfShoal_25 : decode cX1_sideOfShoal 25 = .ok (.iload_n 2, 1) := by decide +kernel
theorem dX1_sideOfShoal_26 : decode cX1_sideOfShoal 26 = .ok (.iconst 2, 1) := by decide +kernel
theorem dX1_sideOfShoal_27 : decode cX1_sideOfShoal 27 = .ok (.invokevirtual 48, 3) := by decide +kernel
theorem dX1_sideOfShoal_30 : decode cX1_sideOfShoal 30 = .ok (.aload_n 0, 1) := by decide +kernel
theorem dX1_sideOfShoal_31 : decode cX1_sideOfShoal 31 = .ok (.getfield 9, 3) := by decide +kernel
theorem dX1_sideOfShoal_34 : decode cX1_sideOfShoal 34 = .ok (.iload_n 1, 1) := by decide +kernel
theorem dX1_sideOfShoal_35 : decode cX1_sideOfShoal 35 = .ok (.iconst 2, 1) := by decide +kernel
theorem dX1_sideOfShoal_36 : decode cX1_sideOfShoal 36 = .ok (.invokevirtual 48, 3) := by decide +kernel
theorem dX1_sideOfShoal_39 : decode cX1_sideOfShoal 39 = .ok (.isub, 1) := by decide +kernel
theorem dX1_sideOfShoal_40 : decode cX1_sideOfShoal 40 = .ok (.istore 5, 2) := by decide +kernel
theorem dX1_sideOfShoal_42 : decode cX1_sideOfShoal 42 = .ok (.aload_n 0, 1) := by decide +kernel
theorem dX1_sideOfShoal_43 : decode cX1_sideOfShoal 43 = .ok (.iload_n 1, 1) := by decide +kernel
theorem dX1_sideOfShoal_44 : decode cX1_sideOfShoal 44 = .ok (.iload_n 2, 1) := by decide +kernel
theorem dX1_sideOfShoal_45 : decode cX1_sideOfShoal 45 = .ok (.aload_n 0, 1) := by decide +kernel
theorem dX1_sideOfShoal_46 : decode cX1_sideOfShoal 46 = .ok (.getfield 9, 3) := by decide +kernel
theorem dX1_sideOfShoal_49 : decode cX1_sideOfShoal 49 = .ok (.iload_n 3, 1) := by decide +kernel
theorem dX1_sideOfShoal_50 : decode cX1_sideOfShoal 50 = .ok (.iconst 1, 1) := by decide +kernel
theorem dX1_sideOfShoal_51 : decode cX1_sideOfShoal 51 = .ok (.invokevirtual 48, 3) := by decide +kernel
theorem dX1_sideOfShoal_54 : decode cX1_sideOfShoal 54 = .ok (.aload_n 0, 1) := by decide +kernel
theorem dX1_sideOfShoal_55 : decode cX1_sideOfShoal 55 = .ok (.getfield 9, 3) := by decide +kernel
theorem dX1_sideOfShoal_58 : decode cX1_sideOfShoal 58 = .ok (.iload_n 3, 1) := by decide +kernel
theorem dX1_sideOfShoal_59 : decode cX1_sideOfShoal 59 = .ok (.iconst 2, 1) := by decide +kernel
theorem dX1_sideOfShoal_60 : decode cX1_sideOfShoal 60 = .ok (.invokevirtual 48, 3) := by decide +kernel
theorem dX1_sideOfShoal_63 : decode cX1_sideOfShoal 63 = .ok (.invokevirtual 67, 3) := by decide +kernel
theorem dX1_sideOfShoal_66 : decode cX1_sideOfShoal 66 = .ok (.istore 6, 2) := by decide +kernel
theorem dX1_sideOfShoal_68 : decode cX1_sideOfShoal 68 = .ok (.aload_n 0, 1) := by decide +kernel
theorem dX1_sideOfShoal_69 : decode cX1_sideOfShoal 69 = .ok (.getfield 9, 3) := by decide +kernel
theorem dX1_sideOfShoal_72 : decode cX1_sideOfShoal 72 = .ok (.iload_n 3, 1) := by decide +kernel
theorem dX1_sideOfShoal_73 : decode cX1_sideOfShoal 73 = .ok (.iconst 3, 1) := by decide +kernel
theorem dX1_sideOfShoal_74 : decode cX1_sideOfShoal 74 = .ok (.invokevirtual 48, 3) := by decide +kernel
theorem dX1_sideOfShoal_77 : decode cX1_sideOfShoal 77 = .ok (.istore 7, 2) := by decide +kernel
theorem dX1_sideOfShoal_79 : decode cX1_sideOfShoal 79 = .ok (.aload_n 0, 1) := by decide +kernel
theorem dX1_sideOfShoal_80 : decode cX1_sideOfShoal 80 = .ok (.getfield 9, 3) := by decide +kernel
theorem dX1_sideOfShoal_83 : decode cX1_sideOfShoal 83 = .ok (.iload_n 3, 1) := by decide +kernel
theorem dX1_sideOfShoal_84 : decode cX1_sideOfShoal 84 = .ok (.iconst 0, 1) := by decide +kernel
theorem dX1_sideOfShoal_85 : decode cX1_sideOfShoal 85 = .ok (.invokevirtual 48, 3) := by decide +kernel
theorem dX1_sideOfShoal_88 : decode cX1_sideOfShoal 88 = .ok (.bipush 6, 2) := by decide +kernel
theorem dX1_sideOfShoal_90 : decode cX1_sideOfShoal 90 = .ok (.if_icmp .ne 35, 3) := by decide +kernel
theorem dX1_sideOfShoal_93 : decode cX1_sideOfShoal 93 = .ok (.iload 6, 2) := by decide +kernel
theorem dX1_sideOfShoal_95 : decode cX1_sideOfShoal 95 = .ok (.invokestatic 51, 3) := by decide +kernel
theorem dX1_sideOfShoal_98 : decode cX1_sideOfShoal 98 = .ok (.iload 7, 2) := by decide +kernel
theorem dX1_sideOfShoal_100 : decode cX1_sideOfShoal 100 = .ok (.iload 4, 2) := by decide +kernel
theorem dX1_sideOfShoal_102 : decode cX1_sideOfShoal 102 = .ok (.invokestatic 51, 3) := by decide +kernel
theorem dX1_sideOfShoal_105 : decode cX1_sideOfShoal 105 = .ok (.iload 5, 2) := by decide +kernel
theorem dX1_sideOfShoal_107 : decode cX1_sideOfShoal 107 = .ok (.invokestatic 51, 3) := by decide +kernel
theorem dX1_sideOfShoal_110 : decode cX1_sideOfShoal 110 = .ok (.iadd, 1) := by decide +kernel
theorem dX1_sideOfShoal_111 : decode cX1_sideOfShoal 111 = .ok (.imul, 1) := by decide +kernel
theorem dX1_sideOfShoal_112 : decode cX1_sideOfShoal 112 = .ok (.if_icmp .le 7, 3) := by decide +kernel
theorem dX1_sideOfShoal_115 : decode cX1_sideOfShoal 115 = .ok (.iconst 1, 1) := by decide +kernel
theorem dX1_sideOfShoal_116 : decode cX1_sideOfShoal 116 = .ok (.goto 4, 3) := by decide +kernel
theorem dX1_sideOfShoal_119 : decode cX1_sideOfShoal 119 = .ok (.iconst 0, 1) := by decide +kernel
theorem dX1_sideOfShoal_120 : decode cX1_sideOfShoal 120 = .ok (.istore 8, 2) := by decide +kernel
theorem dX1_sideOfShoal_122 : decode cX1_sideOfShoal 122 = .ok (.goto 35, 3) := by decide +kernel
theorem dX1_sideOfShoal_125 : decode cX1_sideOfShoal 125 = .ok (.iload 6, 2) := by decide +kernel
theorem dX1_sideOfShoal_127 : decode cX1_sideOfShoal 127 = .ok (.iload 6, 2) := by decide +kernel
theorem dX1_sideOfShoal_129 : decode cX1_sideOfShoal 129 = .ok (.imul, 1) := by decide +kernel
theorem dX1_sideOfShoal_130 : decode cX1_sideOfShoal 130 = .ok (.iload 7, 2) := by decide +kernel
theorem dX1_sideOfShoal_132 : decode cX1_sideOfShoal 132 = .ok (.iload 7, 2) := by decide +kernel
theorem dX1_sideOfShoal_134 : decode cX1_sideOfShoal 134 = .ok (.imul, 1) := by decide +kernel
theorem dX1_sideOfShoal_135 : decode cX1_sideOfShoal 135 = .ok (.iload 4, 2) := by decide +kernel
theorem dX1_sideOfShoal_137 : decode cX1_sideOfShoal 137 = .ok (.iload 4, 2) := by decide +kernel
theorem dX1_sideOfShoal_139 : decode cX1_sideOfShoal 139 = .ok (.imul, 1) := by decide +kernel
theorem dX1_sideOfShoal_140 : decode cX1_sideOfShoal 140 = .ok (.iload 5, 2) := by decide +kernel
theorem dX1_sideOfShoal_142 : decode cX1_sideOfShoal 142 = .ok (.iload 5, 2) := by decide +kernel
theorem dX1_sideOfShoal_144 : decode cX1_sideOfShoal 144 = .ok (.imul, 1) := by decide +kernel
theorem dX1_sideOfShoal_145 : decode cX1_sideOfShoal 145 = .ok (.iadd, 1) := by decide +kernel
theorem dX1_sideOfShoal_146 : decode cX1_sideOfShoal 146 = .ok (.imul, 1) := by decide +kernel
theorem dX1_sideOfShoal_147 : decode cX1_sideOfShoal 147 = .ok (.if_icmp .le 7, 3) := by decide +kernel
theorem dX1_sideOfShoal_150 : decode cX1_sideOfShoal 150 = .ok (.iconst 1, 1) := by decide +kernel
theorem dX1_sideOfShoal_151 : decode cX1_sideOfShoal 151 = .ok (.goto 4, 3) := by decide +kernel
theorem dX1_sideOfShoal_154 : decode cX1_sideOfShoal 154 = .ok (.iconst 0, 1) := by decide +kernel
theorem dX1_sideOfShoal_155 : decode cX1_sideOfShoal 155 = .ok (.istore 8, 2) := by decide +kernel
theorem dX1_sideOfShoal_157 : decode cX1_sideOfShoal 157 = .ok (.iload 8, 2) := by decide +kernel
theorem dX1_sideOfShoal_159 : decode cX1_sideOfShoal 159 = .ok (.ifCond .eq 11, 3) := by decide +kernel
theorem dX1_sideOfShoal_162 : decode cX1_sideOfShoal 162 = .ok (.iload 6, 2) := by decide +kernel
theorem dX1_sideOfShoal_164 : decode cX1_sideOfShoal 164 = .ok (.invokestatic 71, 3) := by decide +kernel
theorem dX1_sideOfShoal_167 : decode cX1_sideOfShoal 167 = .ok (.goto 4, 3) := by decide +kernel
theorem dX1_sideOfShoal_170 : decode cX1_sideOfShoal 170 = .ok (.iconst 0, 1) := by decide +kernel
theorem dX1_sideOfShoal_171 : decode cX1_sideOfShoal 171 = .ok (.ireturn, 1) := by decide +kernel
theorem dX2_eastOf_0 : decode cX2_eastOf 0 = .ok (.getstatic 9, 3) := by decide +kernel
theorem dX2_eastOf_3 : decode cX2_eastOf 3 = .ok (.iload_n 0, 1) := by decide +kernel
theorem dX2_eastOf_4 : decode cX2_eastOf 4 = .ok (.bipush 15, 2) := by decide +kernel
theorem dX2_eastOf_6 : decode cX2_eastOf 6 = .ok (.iand, 1) := by decide +kernel
theorem dX2_eastOf_7 : decode cX2_eastOf 7 = .ok (.iaload, 1) := by decide +kernel
theorem dX2_eastOf_8 : decode cX2_eastOf 8 = .ok (.ireturn, 1) := by decide +kernel
theorem dX2_northOf_0 : decode cX2_northOf 0 = .ok (.getstatic 13, 3) := by decide +kernel
theorem dX2_northOf_3 : decode cX2_northOf 3 = .ok (.iload_n 0, 1) := by decide +kernel
theorem dX2_northOf_4 : decode cX2_northOf 4 = .ok (.bipush 15, 2) := by decide +kernel
theorem dX2_northOf_6 : decode cX2_northOf 6 = .ok (.iand, 1) := by decide +kernel
theorem dX2_northOf_7 : decode cX2_northOf 7 = .ok (.iaload, 1) := by decide +kernel
theorem dX2_northOf_8 : decode cX2_northOf 8 = .ok (.ireturn, 1) := by decide +kernel
theorem dX2_nameOf_0 : decode cX2_nameOf 0 = .ok (.iload_n 0, 1) := by decide +kernel
theorem dX2_nameOf_1 : decode cX2_nameOf 1 = .ok (.bipush 15, 2) := by decide +kernel
theorem dX2_nameOf_3 : decode cX2_nameOf 3 = .ok (.iand, 1) := by decide +kernel
theorem dX2_nameOf_4 : decode cX2_nameOf 4 = .ok (.tableswitch 121 0 14 #[76, 79, 82, 85, 88, 91, 94, 97, 100, 103, 106, 109, 112, 115, 118], 76) := by decide +kernel
theorem dX2_nameOf_80 : decode cX2_nameOf 80 = .ok (.ldc 16, 2) := by decide +kernel
theorem dX2_nameOf_82 : decode cX2_nameOf 82 = .ok (.areturn, 1) := by decide +kernel
theorem dX2_nameOf_83 : decode cX2_nameOf 83 = .ok (.ldc 18, 2) := by decide +kernel
theorem dX2_nameOf_85 : decode cX2_nameOf 85 = .ok (.areturn, 1) := by decide +kernel
theorem dX2_nameOf_86 : decode cX2_nameOf 86 = .ok (.ldc 20, 2) := by decide +kernel
theorem dX2_nameOf_88 : decode cX2_nameOf 88 = .ok (.areturn, 1) := by decide +kernel
theorem dX2_nameOf_89 : decode cX2_nameOf 89 = .ok (.ldc 22, 2) := by decide +kernel
theorem dX2_nameOf_91 : decode cX2_nameOf 91 = .ok (.areturn, 1) := by decide +kernel
theorem dX2_nameOf_92 : decode cX2_nameOf 92 = .ok (.ldc 24, 2) := by decide +kernel
theorem dX2_nameOf_94 : decode cX2_nameOf 94 = .ok (.areturn, 1) := by decide +kernel
theorem dX2_nameOf_95 : decode cX2_nameOf 95 = .ok (.ldc 26, 2) := by decide +kernel
theorem dX2_nameOf_97 : decode cX2_nameOf 97 = .ok (.areturn, 1) := by decide +kernel
theorem dX2_nameOf_98 : decode cX2_nameOf 98 = .ok (.ldc 28, 2) := by decide +kernel
theorem dX2_nameOf_100 : decode cX2_nameOf 100 = .ok (.areturn, 1) := by decide +kernel
theorem dX2_nameOf_101 : decode cX2_nameOf 101 = .ok (.ldc 30, 2) := by decide +kernel
theorem dX2_nameOf_103 : decode cX2_nameOf 103 = .ok (.areturn, 1) := by decide +kernel
theorem dX2_nameOf_104 : decode cX2_nameOf 104 = .ok (.ldc 32, 2) := by decide +kernel
theorem dX2_nameOf_106 : decode cX2_nameOf 106 = .ok (.areturn, 1) := by decide +kernel
theorem dX2_nameOf_107 : decode cX2_nameOf 107 = .ok (.ldc 34, 2) := by decide +kernel
theorem dX2_nameOf_109 : decode cX2_nameOf 109 = .ok (.areturn, 1) := by decide +kernel
theorem dX2_nameOf_110 : decode cX2_nameOf 110 = .ok (.ldc 36, 2) := by decide +kernel
theorem dX2_nameOf_112 : decode cX2_nameOf 112 = .ok (.areturn, 1) := by decide +kernel
theorem dX2_nameOf_113 : decode cX2_nameOf 113 = .ok (.ldc 38, 2) := by decide +kernel
theorem dX2_nameOf_115 : decode cX2_nameOf 115 = .ok (.areturn, 1) := by decide +kernel
theorem dX2_nameOf_116 : decode cX2_nameOf 116 = .ok (.ldc 40, 2) := by decide +kernel
theorem dX2_nameOf_118 : decode cX2_nameOf 118 = .ok (.areturn, 1) := by decide +kernel
theorem dX2_nameOf_119 : decode cX2_nameOf 119 = .ok (.ldc 42, 2) := by decide +kernel
theorem dX2_nameOf_121 : decode cX2_nameOf 121 = .ok (.areturn, 1) := by decide +kernel
theorem dX2_nameOf_122 : decode cX2_nameOf 122 = .ok (.ldc 44, 2) := by decide +kernel
theorem dX2_nameOf_124 : decode cX2_nameOf 124 = .ok (.areturn, 1) := by decide +kernel
theorem dX2_nameOf_125 : decode cX2_nameOf 125 = .ok (.ldc 46, 2) := by decide +kernel
theorem dX2_nameOf_127 : decode cX2_nameOf 127 = .ok (.areturn, 1) := by decide +kernel
theorem dX2_isInSector_0 : decode cX2_isInSector 0 = .ok (.iload_n 1, 1) := by decide +kernel
theorem dX2_isInSector_1 : decode cX2_isInSector 1 = .ok (.iload_n 0, 1) := by decide +kernel
theorem dX2_isInSector_2 : decode cX2_isInSector 2 = .ok (.isub, 1) := by decide +kernel
theorem dX2_isInSector_3 : decode cX2_isInSector 3 = .ok (.bipush 15, 2) := by decide +kernel
theorem dX2_isInSector_5 : decode cX2_isInSector 5 = .ok (.iand, 1) := by decide +kernel
theorem dX2_isInSector_6 : decode cX2_isInSector 6 = .ok (.istore 4, 2) := by decide +kernel
theorem dX2_isInSector_8 : decode cX2_isInSector 8 = .ok (.iload 4, 2) := by decide +kernel
theorem dX2_isInSector_10 : decode cX2_isInSector 10 = .ok (.ifCond .eq 11, 3) := by decide +kernel
theorem dX2_isInSector_13 : decode cX2_isInSector 13 = .ok (.iload_n 2, 1) := by decide +kernel
theorem dX2_isInSector_14 : decode cX2_isInSector 14 = .ok (.ifCond .ne 9, 3) := by decide +kernel
theorem dX2_isInSector_17 : decode cX2_isInSector 17 = .ok (.iload_n 3, 1) := by decide +kernel
theorem dX2_isInSector_18 : decode cX2_isInSector 18 = .ok (.ifCond .ne 5, 3) := by decide +kernel
theorem dX2_isInSector_21 : decode cX2_isInSector 21 = .ok (.iconst 1, 1) := by decide +kernel
theorem dX2_isInSector_22 : decode cX2_isInSector 22 = .ok (.ireturn, 1) := by decide +kernel
theorem dX2_isInSector_23 : decode cX2_isInSector 23 = .ok (.iload 4, 2) := by decide +kernel
theorem dX2_isInSector_25 : decode cX2_isInSector 25 = .ok (.bipush 8, 2) := by decide +kernel
theorem dX2_isInSector_27 : decode cX2_isInSector 27 = .ok (.if_icmp .le 7, 3) := by decide +kernel
theorem dX2_isInSector_30 : decode cX2_isInSector 30 = .ok (.iconst 1, 1) := by decide +kernel
theorem dX2_isInSector_31 : decode cX2_isInSector 31 = .ok (.goto 4, 3) := by decide +kernel
theorem dX2_isInSector_34 : decode cX2_isInSector 34 = .ok (.iconst 0, 1) := by decide +kernel
theorem dX2_isInSector_35 : decode cX2_isInSector 35 = .ok (.istore 5, 2) := by decide +kernel
theorem dX2_isInSector_37 : decode cX2_isInSector 37 = .ok (.iload 5, 2) := by decide +kernel
theorem dX2_isInSector_39 : decode cX2_isInSector 39 = .ok (.ifCond .eq 7, 3) := by decide +kernel
theorem dX2_isInSector_42 : decode cX2_isInSector 42 = .ok (.iload_n 1, 1) := by decide +kernel
theorem dX2_isInSector_43 : decode cX2_isInSector 43 = .ok (.goto 4, 3) := by decide +kernel
theorem dX2_isInSector_46 : decode cX2_isInSector 46 = .ok (.iload_n 0, 1) := by decide +kernel
theorem dX2_isInSector_47 : decode cX2_isInSector 47 = .ok (.bipush 15, 2) := by decide +kernel
theorem dX2_isInSector_49 : decode cX2_isInSector 49 = .ok (.iand, 1) := by decide +kernel
theorem dX2_isInSector_50 : decode cX2_isInSector 50 = .ok (.istore 6, 2) := by decide +kernel
theorem dX2_isInSector_52 : decode cX2_isInSector 52 = .ok (.iload 5, 2) := by decide +kernel
theorem dX2_isInSector_54 : decode cX2_isInSector 54 = .ok (.ifCond .eq 7, 3) := by decide +kernel
theorem dX2_isInSector_57 : decode cX2_isInSector 57 = .ok (.iload_n 0, 1) := by decide +kernel
theorem dX2_isInSector_58 : decode cX2_isInSector 58 = .ok (.goto 4, 3) := by decide +kernel
theorem dX2_isInSector_61 : decode cX2_isInSector 61 = .ok (.iload_n 1, 1) := by decide +kernel
theorem dX2_isInSector_62 : decode cX2_isInSector 62 = .ok (.bipush 15, 2) := by decide +kernel
theorem dX2_isInSector_64 : decode cX2_isInSector 64 = .ok (.iand, 1) := by decide +kernel
theorem dX2_isInSector_65 : decode cX2_isInSector 65 = .ok (.istore 7, 2) := by decide +kernel
theorem dX2_isInSector_67 : decode cX2_isInSector 67 = .ok (.getstatic 13, 3) := by decide +kernel
theorem dX2_isInSector_70 : decode cX2_isInSector 70 = .ok (.iload 6, 2) := by decide +kernel
theorem dX2_isInSector_72 : decode cX2_isInSector 72 = .ok (.iaload, 1) := by decide +kernel
theorem dX2_isInSector_73 : decode cX2_isInSector 73 = .ok (.iload_n 2, 1) := by decide +kernel
theorem dX2_isInSector_74 : decode cX2_isInSector 74 = .ok (.imul, 1) := by decide +kernel
theorem dX2_isInSector_75 : decode cX2_isInSector 75 = .ok (.getstatic 9, 3) := by decide +kernel
theorem dX2_isInSector_78 : decode cX2_isInSector 78 = .ok (.iload 6, 2) := by decide +kernel
theorem dX2_isInSector_80 : decode cX2_isInSector 80 = .ok (.iaload, 1) := by decide +kernel
theorem dX2_isInSector_81 : decode cX2_isInSector 81 = .ok (.iload_n 3, 1) := by decide +kernel
theorem dX2_isInSector_82 : decode cX2_isInSector 82 = .ok (.imul, 1) := by decide +kernel
theorem dX2_isInSector_83 : decode cX2_isInSector 83 = .ok (.isub, 1) := by decide +kernel
theorem dX2_isInSector_84 : decode cX2_isInSector 84 = .ok (.istore 8, 2) := by decide +kernel
theorem dX2_isInSector_86 : decode cX2_isInSector 86 = .ok (.iload_n 3, 1) := by decide +kernel
theorem dX2_isInSector_87 : decode cX2_isInSector 87 = .ok (.getstatic 9, 3) := by decide +kernel
theorem dX2_isInSector_90 : decode cX2_isInSector 90 = .ok (.iload 7, 2) := by decide +kernel
theorem dX2_isInSector_92 : decode cX2_isInSector 92 = .ok (.iaload, 1) := by decide +kernel
theorem dX2_isInSector_93 : decode cX2_isInSector 93 = .ok (.imul, 1) := by decide +kernel
theorem dX2_isInSector_94 : decode cX2_isInSector 94 = .ok (.iload_n 2, 1) := by decide +kernel
theorem dX2_isInSector_95 : decode cX2_isInSector 95 = .ok (.getstatic 13, 3) := by decide +kernel
theorem dX2_isInSector_98 : decode cX2_isInSector 98 = .ok (.iload 7, 2) := by decide +kernel
theorem dX2_isInSector_100 : decode cX2_isInSector 100 = .ok (.iaload, 1) := by decide +kernel
theorem dX2_isInSector_101 : decode cX2_isInSector 101 = .ok (.imul, 1) := by decide +kernel
theorem dX2_isInSector_102 : decode cX2_isInSector 102 = .ok (.isub, 1) := by decide +kernel
theorem dX2_isInSector_103 : decode cX2_isInSector 103 = .ok (.istore 9, 2) := by decide +kernel
theorem dX2_isInSector_105 : decode cX2_isInSector 105 = .ok (.iload 8, 2) := by decide +kernel
theorem dX2_isInSector_107 : decode cX2_isInSector 107 = .ok (.ifCond .ne 27, 3) := by decide +kernel
theorem dX2_isInSector_110 : decode cX2_isInSector 110 = .ok (.getstatic 9, 3) := by decide +kernel
theorem dX2_isInSector_113 : decode cX2_isInSector 113 = .ok (.iload 6, 2) := by decide +kernel
theorem dX2_isInSector_115 : decode cX2_isInSector 115 = .ok (.iaload, 1) := by decide +kernel
theorem dX2_isInSector_116 : decode cX2_isInSector 116 = .ok (.iload_n 2, 1) := by decide +kernel
theorem dX2_isInSector_117 : decode cX2_isInSector 117 = .ok (.imul, 1) := by decide +kernel
theorem dX2_isInSector_118 : decode cX2_isInSector 118 = .ok (.getstatic 13, 3) := by decide +kernel
theorem dX2_isInSector_121 : decode cX2_isInSector 121 = .ok (.iload 6, 2) := by decide +kernel
theorem dX2_isInSector_123 : decode cX2_isInSector 123 = .ok (.iaload, 1) := by decide +kernel
theorem dX2_isInSector_124 : decode cX2_isInSector 124 = .ok (.iload_n 3, 1) := by decide +kernel
theorem dX2_isInSector_125 : decode cX2_isInSector 125 = .ok (.imul, 1) := by decide +kernel
theorem dX2_isInSector_126 : decode cX2_isInSector 126 = .ok (.iadd, 1) := by decide +kernel
theorem dX2_isInSector_127 : decode cX2_isInSector 127 = .ok (.ifCond .le 7, 3) := by decide +kernel
theorem dX2_isInSector_130 : decode cX2_isInSector 130 = .ok (.iconst 1, 1) := by decide +kernel
theorem dX2_isInSector_131 : decode cX2_isInSector 131 = .ok (.goto 4, 3) := by decide +kernel
theorem dX2_isInSector_134 : decode cX2_isInSector 134 = .ok (.iconst 0, 1) := by decide +kernel
theorem dX2_isInSector_135 : decode cX2_isInSector 135 = .ok (.istore 10, 2) := by decide +kernel
theorem dX2_isInSector_137 : decode cX2_isInSector 137 = .ok (.iload 10, 2) := by decide +kernel
theorem dX2_isInSector_139 : decode cX2_isInSector 139 = .ok (.ifCond .ne 13, 3) := by decide +kernel
theorem dX2_isInSector_142 : decode cX2_isInSector 142 = .ok (.iload 8, 2) := by decide +kernel
theorem dX2_isInSector_144 : decode cX2_isInSector 144 = .ok (.ifCond .le 12, 3) := by decide +kernel
theorem dX2_isInSector_147 : decode cX2_isInSector 147 = .ok (.iload 9, 2) := by decide +kernel
theorem dX2_isInSector_149 : decode cX2_isInSector 149 = .ok (.ifCond .le 7, 3) := by decide +kernel
theorem dX2_isInSector_152 : decode cX2_isInSector 152 = .ok (.iconst 1, 1) := by decide +kernel
theorem dX2_isInSector_153 : decode cX2_isInSector 153 = .ok (.goto 4, 3) := by decide +kernel
theorem dX2_isInSector_156 : decode cX2_isInSector 156 = .ok (.iconst 0, 1) := by decide +kernel
theorem dX2_isInSector_157 : decode cX2_isInSector 157 = .ok (.istore 11, 2) := by decide +kernel
theorem dX2_isInSector_159 : decode cX2_isInSector 159 = .ok (.iload 11, 2) := by decide +kernel
theorem dX2_isInSector_161 : decode cX2_isInSector 161 = .ok (.iload 5, 2) := by decide +kernel
theorem dX2_isInSector_163 : decode cX2_isInSector 163 = .ok (.if_icmp .eq 7, 3) := by decide +kernel
theorem dX2_isInSector_166 : decode cX2_isInSector 166 = .ok (.iconst 1, 1) := by decide +kernel
theorem dX2_isInSector_167 : decode cX2_isInSector 167 = .ok (.goto 4, 3) := by decide +kernel
theorem dX2_isInSector_170 : decode cX2_isInSector 170 = .ok (.iconst 0, 1) := by decide +kernel
theorem dX2_isInSector_171 : decode cX2_isInSector 171 = .ok (.ireturn, 1) := by decide +kernel
theorem dX3_init_0 : decode cX3_init 0 = .ok (.aload_n 0, 1) := by decide +kernel
theorem dX3_init_1 : decode cX3_init 1 = .ok (.invokespecial 3, 3) := by decide +kernel
theorem dX3_init_4 : decode cX3_init 4 = .ok (.aload_n 0, 1) := by decide +kernel
theorem dX3_init_5 : decode cX3_init 5 = .ok (.lconst 0, 1) := by decide +kernel
theorem dX3_init_6 : decode cX3_init 6 = .ok (.putfield 9, 3) := by decide +kernel
theorem dX3_init_9 : decode cX3_init 9 = .ok (.aload_n 0, 1) := by decide +kernel
theorem dX3_init_10 : decode cX3_init 10 = .ok (.lconst 1, 1) := by decide +kernel
theorem dX3_init_11 : decode cX3_init 11 = .ok (.putfield 15, 3) := by decide +kernel
theorem dX3_init_14 : decode cX3_init 14 = .ok (.aload_n 0, 1) := by decide +kernel
theorem dX3_init_15 : decode cX3_init 15 = .ok (.iconst 0, 1) := by decide +kernel
theorem dX3_init_16 : decode cX3_init 16 = .ok (.putfield 18, 3) := by decide +kernel
theorem dX3_init_19 : decode cX3_init 19 = .ok (.aload_n 0, 1) := by decide +kernel
theorem dX3_init_20 : decode cX3_init 20 = .ok (.iconst 0, 1) := by decide +kernel
theorem dX3_init_21 : decode cX3_init 21 = .ok (.putfield 22, 3) := by decide +kernel
theorem dX3_init_24 : decode cX3_init 24 = .ok (.aload_n 0, 1) := by decide +kernel
theorem dX3_init_25 : decode cX3_init 25 = .ok (.aload_n 1, 1) := by decide +kernel
theorem dX3_init_26 : decode cX3_init 26 = .ok (.putfield 25, 3) := by decide +kernel
theorem dX3_init_29 : decode cX3_init 29 = .ok (.aload_n 0, 1) := by decide +kernel
theorem dX3_init_30 : decode cX3_init 30 = .ok (.aload_n 2, 1) := by decide +kernel
theorem dX3_init_31 : decode cX3_init 31 = .ok (.putfield 29, 3) := by decide +kernel
theorem dX3_init_34 : decode cX3_init 34 = .ok (.aload_n 0, 1) := by decide +kernel
theorem dX3_init_35 : decode cX3_init 35 = .ok (.aload_n 3, 1) := by decide +kernel
theorem dX3_init_36 : decode cX3_init 36 = .ok (.putfield 33, 3) := by decide +kernel
theorem dX3_init_39 : decode cX3_init 39 = .ok (.return_, 1) := by decide +kernel
theorem dX3_startsThatArrive_0 : decode cX3_startsThatArrive 0 = .ok (.iconst 0, 1) := by decide +kernel
theorem dX3_startsThatArrive_1 : decode cX3_startsThatArrive 1 = .ok (.istore_n 1, 1) := by decide +kernel
theorem dX3_startsThatArrive_2 : decode cX3_startsThatArrive 2 = .ok (.iconst 0, 1) := by decide +kernel
theorem dX3_startsThatArrive_3 : decode cX3_startsThatArrive 3 = .ok (.istore_n 2, 1) := by decide +kernel
theorem dX3_startsThatArrive_4 : decode cX3_startsThatArrive 4 = .ok (.iload_n 2, 1) := by decide +kernel
theorem dX3_startsThatArrive_5 : decode cX3_startsThatArrive 5 = .ok (.bipush 30, 2) := by decide +kernel
theorem dX3_startsThatArrive_7 : decode cX3_startsThatArrive 7 = .ok (.if_icmp .ge 44, 3) := by decide +kernel
theorem dX3_startsThatArrive_10 : decode cX3_startsThatArrive 10 = .ok (.aload_n 0, 1) := by decide +kernel
theorem dX3_startsThatArrive_11 : decode cX3_startsThatArrive 11 = .ok (.getfield 33, 3) := by decide +kernel
theorem dX3_startsThatArrive_14 : decode cX3_startsThatArrive 14 = .ok (.iload_n 2, 1) := by decide +kernel
theorem dX3_startsThatArrive_15 : decode cX3_startsThatArrive 15 = .ok (.aload_n 0, 1) := by decide +kernel
theorem dX3_startsThatArrive_16 : decode cX3_startsThatArrive 16 = .ok (.getfield 25, 3) := by decide +kernel
theorem dX3_startsThatArrive_19 : decode cX3_startsThatArrive 19 = .ok (.iconst 0, 1) := by decide +kernel
theorem dX3_startsThatArrive_20 : decode cX3_startsThatArrive 20 = .ok (.invokevirtual 39, 3) := by decide +kernel
theorem dX3_startsThatArrive_23 : decode cX3_startsThatArrive 23 = .ok (.iconst 0, 1) := by decide +kernel
theorem dX3_startsThatArrive_24 : decode cX3_startsThatArrive 24 = .ok (.iconst (-1), 1) := by decide +kernel
theorem dX3_startsThatArrive_25 : decode cX3_startsThatArrive 25 = .ok (.iconst 0, 1) := by decide +kernel
theorem dX3_startsThatArrive_26 : decode cX3_startsThatArrive 26 = .ok (.invokevirtual 43, 3) := by decide +kernel
theorem dX3_startsThatArrive_29 : decode cX3_startsThatArrive 29 = .ok (.aload_n 0, 1) := by decide +kernel
theorem dX3_startsThatArrive_30 : decode cX3_startsThatArrive 30 = .ok (.getfield 33, 3) := by decide +kernel
theorem dX3_startsThatArrive_33 : decode cX3_startsThatArrive 33 = .ok (.invokevirtual 49, 3) := by decide +kernel
theorem dX3_startsThatArrive_36 : decode cX3_startsThatArrive 36 = .ok (.ifCond .eq 9, 3) := by decide +kernel
theorem dX3_startsThatArrive_39 : decode cX3_startsThatArrive 39 = .ok (.iload_n 1, 1) := by decide +kernel
theorem dX3_startsThatArrive_40 : decode cX3_startsThatArrive 40 = .ok (.iconst 1, 1) := by decide +kernel
theorem dX3_startsThatArrive_41 : decode cX3_startsThatArrive 41 = .ok (.iload_n 2, 1) := by decide +kernel
theorem dX3_startsThatArrive_42 : decode cX3_startsThatArrive 42 = .ok (.ishl, 1) := by decide +kernel
theorem dX3_startsThatArrive_43 : decode cX3_startsThatArrive 43 = .ok (.ior, 1) := by decide +kernel
theorem dX3_startsThatArrive_44 : decode cX3_startsThatArrive 44 = .ok (.istore_n 1, 1) := by decide +kernel
theorem dX3_startsThatArrive_45 : decode cX3_startsThatArrive 45 = .ok (.iinc 2 1, 3) := by decide +kernel
theorem dX3_startsThatArrive_48 : decode cX3_startsThatArrive 48 = .ok (.goto (-44), 3) := by decide +kernel
theorem dX3_startsThatArrive_51 : decode cX3_startsThatArrive 51 = .ok (.iload_n 1, 1) := by decide +kernel
theorem dX3_startsThatArrive_52 : decode cX3_startsThatArrive 52 = .ok (.ireturn, 1) := by decide +kernel
theorem dX3_greatestDraught_0 : decode cX3_greatestDraught 0 = .ok (.aload_n 0, 1) := by decide +kernel
theorem dX3_greatestDraught_1 : decode cX3_greatestDraught 1 = .ok (.getfield 33, 3) := by decide +kernel
theorem dX3_greatestDraught_4 : decode cX3_greatestDraught 4 = .ok (.iload_n 1, 1) := by decide +kernel
theorem dX3_greatestDraught_5 : decode cX3_greatestDraught 5 = .ok (.iconst 0, 1) := by decide +kernel
theorem dX3_greatestDraught_6 : decode cX3_greatestDraught 6 = .ok (.iconst 0, 1) := by decide +kernel
theorem dX3_greatestDraught_7 : decode cX3_greatestDraught 7 = .ok (.iconst (-1), 1) := by decide +kernel
theorem dX3_greatestDraught_8 : decode cX3_greatestDraught 8 = .ok (.iconst 0, 1) := by decide +kernel
theorem dX3_greatestDraught_9 : decode cX3_greatestDraught 9 = .ok (.invokevirtual 43, 3) := by decide +kernel
theorem dX3_greatestDraught_12 : decode cX3_greatestDraught 12 = .ok (.aload_n 0, 1) := by decide +kernel
theorem dX3_greatestDraught_13 : decode cX3_greatestDraught 13 = .ok (.getfield 33, 3) := by decide +kernel
theorem dX3_greatestDraught_16 : decode cX3_greatestDraught 16 = .ok (.invokevirtual 49, 3) := by decide +kernel
theorem dX3_greatestDraught_19 : decode cX3_greatestDraught 19 = .ok (.ifCond .eq 18, 3) := by decide +kernel
theorem dX3_greatestDraught_22 : decode cX3_greatestDraught 22 = .ok (.aload_n 0, 1) := by decide +kernel
theorem dX3_greatestDraught_23 : decode cX3_greatestDraught 23 = .ok (.getfield 33, 3) := by decide +kernel
theorem dX3_greatestDraught_26 : decode cX3_greatestDraught 26 = .ok (.getfield 53, 3) := by decide +kernel
theorem dX3_greatestDraught_29 : decode cX3_greatestDraught 29 = .ok (.bipush 20, 2) := by decide +kernel
theorem dX3_greatestDraught_31 : decode cX3_greatestDraught 31 = .ok (.invokestatic 56, 3) := by decide +kernel
theorem dX3_greatestDraught_34 : decode cX3_greatestDraught 34 = .ok (.goto 5, 3) := by decide +kernel
theorem dX3_greatestDraught_37 : decode cX3_greatestDraught 37 = .ok (.ldc 62, 2) := by decide +kernel
theorem dX3_greatestDraught_39 : decode cX3_greatestDraught 39 = .ok (.ireturn, 1) := by decide +kernel
theorem dX3_coursesThatArrive_0 : decode cX3_coursesThatArrive 0 = .ok (.iconst 0, 1) := by decide +kernel
theorem dX3_coursesThatArrive_1 : decode cX3_coursesThatArrive 1 = .ok (.istore_n 3, 1) := by decide +kernel
theorem dX3_coursesThatArrive_2 : decode cX3_coursesThatArrive 2 = .ok (.iconst 0, 1) := by decide +kernel
theorem dX3_coursesThatArrive_3 : decode cX3_coursesThatArrive 3 = .ok (.istore 4, 2) := by decide +kernel
theorem dX3_coursesThatArrive_5 : decode cX3_coursesThatArrive 5 = .ok (.iload 4, 2) := by decide +kernel
theorem dX3_coursesThatArrive_7 : decode cX3_coursesThatArrive 7 = .ok (.bipush 16, 2) := by decide +kernel
theorem dX3_coursesThatArrive_9 : decode cX3_coursesThatArrive 9 = .ok (.if_icmp .ge 46, 3) := by decide +kernel
theorem dX3_coursesThatArrive_12 : decode cX3_coursesThatArrive 12 = .ok (.aload_n 0, 1) := by decide +kernel
theorem dX3_coursesThatArrive_13 : decode cX3_coursesThatArrive 13 = .ok (.getfield 33, 3) := by decide +kernel
theorem dX3_coursesThatArrive_16 : decode cX3_coursesThatArrive 16 = .ok (.iload_n 2, 1) := by decide +kernel
theorem dX3_coursesThatArrive_17 : decode cX3_coursesThatArrive 17 = .ok (.aload_n 0, 1) := by decide +kernel
theorem dX3_coursesThatArrive_18 : decode cX3_coursesThatArrive 18 = .ok (.getfield 25, 3) := by decide +kernel
theorem dX3_coursesThatArrive_21 : decode cX3_coursesThatArrive 21 = .ok (.iconst 0, 1) := by decide +kernel
theorem dX3_coursesThatArrive_22 : decode cX3_coursesThatArrive 22 = .ok (.invokevirtual 39, 3) := by decide +kernel
theorem dX3_coursesThatArrive_25 : decode cX3_coursesThatArrive 25 = .ok (.iconst 0, 1) := by decide +kernel
theorem dX3_coursesThatArrive_26 : decode cX3_coursesThatArrive 26 = .ok (.iload_n 1, 1) := by decide +kernel
theorem dX3_coursesThatArrive_27 : decode cX3_coursesThatArrive 27 = .ok (.iload 4, 2) := by decide +kernel
theorem dX3_coursesThatArrive_29 : decode cX3_coursesThatArrive 29 = .ok (.invokevirtual 43, 3) := by decide +kernel
theorem dX3_coursesThatArrive_32 : decode cX3_coursesThatArrive 32 = .ok (.aload_n 0, 1) := by decide +kernel
theorem dX3_coursesThatArrive_33 : decode cX3_coursesThatArrive 33 = .ok (.getfield 33, 3) := by decide +kernel
theorem dX3_coursesThatArrive_36 : decode cX3_coursesThatArrive 36 = .ok (.invokevirtual 49, 3) := by decide +kernel
theorem dX3_coursesThatArrive_39 : decode cX3_coursesThatArrive 39 = .ok (.ifCond .eq 10, 3) := by decide +kernel
theorem dX3_coursesThatArrive_42 : decode cX3_coursesThatArrive 42 = .ok (.iload_n 3, 1) := by decide +kernel
theorem dX3_coursesThatArrive_43 : decode cX3_coursesThatArrive 43 = .ok (.iconst 1, 1) := by decide +kernel
theorem dX3_coursesThatArrive_44 : decode cX3_coursesThatArrive 44 = .ok (.iload 4, 2) := by decide +kernel
theorem dX3_coursesThatArrive_46 : decode cX3_coursesThatArrive 46 = .ok (.ishl, 1) := by decide +kernel
theorem dX3_coursesThatArrive_47 : decode cX3_coursesThatArrive 47 = .ok (.ior, 1) := by decide +kernel
theorem dX3_coursesThatArrive_48 : decode cX3_coursesThatArrive 48 = .ok (.istore_n 3, 1) := by decide +kernel
theorem dX3_coursesThatArrive_49 : decode cX3_coursesThatArrive 49 = .ok (.iinc 4 1, 3) := by decide +kernel
theorem dX3_coursesThatArrive_52 : decode cX3_coursesThatArrive 52 = .ok (.goto (-47), 3) := by decide +kernel
theorem dX3_coursesThatArrive_55 : decode cX3_coursesThatArrive 55 = .ok (.iload_n 3, 1) := by decide +kernel
theorem dX3_coursesThatArrive_56 : decode cX3_coursesThatArrive 56 = .ok (.ireturn, 1) := by decide +kernel
theorem dX3_marksThatMatter_0 : decode cX3_marksThatMatter 0 = .ok (.aload_n 0, 1) := by decide +kernel
theorem dX3_marksThatMatter_1 : decode cX3_marksThatMatter 1 = .ok (.getfield 33, 3) := by decide +kernel
theorem dX3_marksThatMatter_4 : decode cX3_marksThatMatter 4 = .ok (.iload_n 1, 1) := by decide +kernel
theorem dX3_marksThatMatter_5 : decode cX3_marksThatMatter 5 = .ok (.aload_n 0, 1) := by decide +kernel
theorem dX3_marksThatMatter_6 : decode cX3_marksThatMatter 6 = .ok (.getfield 25, 3) := by decide +kernel
theorem dX3_marksThatMatter_9 : decode cX3_marksThatMatter 9 = .ok (.iconst 0, 1) := by decide +kernel
theorem dX3_marksThatMatter_10 : decode cX3_marksThatMatter 10 = .ok (.invokevirtual 39, 3) := by decide +kernel
theorem dX3_marksThatMatter_13 : decode cX3_marksThatMatter 13 = .ok (.iconst 0, 1) := by decide +kernel
theorem dX3_marksThatMatter_14 : decode cX3_marksThatMatter 14 = .ok (.iconst (-1), 1) := by decide +kernel
theorem dX3_marksThatMatter_15 : decode cX3_marksThatMatter 15 = .ok (.iconst 0, 1) := by decide +kernel
theorem dX3_marksThatMatter_16 : decode cX3_marksThatMatter 16 = .ok (.invokevirtual 43, 3) := by decide +kernel
theorem dX3_marksThatMatter_19 : decode cX3_marksThatMatter 19 = .ok (.aload_n 0, 1) := by decide +kernel
theorem dX3_marksThatMatter_20 : decode cX3_marksThatMatter 20 = .ok (.getfield 33, 3) := by decide +kernel
theorem dX3_marksThatMatter_23 : decode cX3_marksThatMatter 23 = .ok (.invokevirtual 49, 3) := by decide +kernel
theorem dX3_marksThatMatter_26 : decode cX3_marksThatMatter 26 = .ok (.istore_n 2, 1) := by decide +kernel
theorem dX3_marksThatMatter_27 : decode cX3_marksThatMatter 27 = .ok (.aload_n 0, 1) := by decide +kernel
theorem dX3_marksThatMatter_28 : decode cX3_marksThatMatter 28 = .ok (.getfield 33, 3) := by decide +kernel
theorem dX3_marksThatMatter_31 : decode cX3_marksThatMatter 31 = .ok (.getfield 65, 3) := by decide +kernel
theorem dX3_marksThatMatter_34 : decode cX3_marksThatMatter 34 = .ok (.istore_n 3, 1) := by decide +kernel
theorem dX3_marksThatMatter_35 : decode cX3_marksThatMatter 35 = .ok (.aload_n 0, 1) := by decide +kernel
theorem dX3_marksThatMatter_36 : decode cX3_marksThatMatter 36 = .ok (.getfield 33, 3) := by decide +kernel
theorem dX3_marksThatMatter_39 : decode cX3_marksThatMatter 39 = .ok (.getfield 68, 3) := by decide +kernel
theorem dX3_marksThatMatter_42 : decode cX3_marksThatMatter 42 = .ok (.istore 4, 2) := by decide +kernel
theorem dX3_marksThatMatter_44 : decode cX3_marksThatMatter 44 = .ok (.aload_n 0, 1) := by decide +kernel
theorem dX3_marksThatMatter_45 : decode cX3_marksThatMatter 45 = .ok (.getfield 33, 3) := by decide +kernel
theorem dX3_marksThatMatter_48 : decode cX3_marksThatMatter 48 = .ok (.getfield 71, 3) := by decide +kernel
theorem dX3_marksThatMatter_51 : decode cX3_marksThatMatter 51 = .ok (.istore 5, 2) := by decide +kernel
theorem dX3_marksThatMatter_53 : decode cX3_marksThatMatter 53 = .ok (.iconst 0, 1) := by decide +kernel
theorem dX3_marksThatMatter_54 : decode cX3_marksThatMatter 54 = .ok (.istore 6, 2) := by decide +kernel
theorem dX3_marksThatMatter_56 : decode cX3_marksThatMatter 56 = .ok (.iconst 0, 1) := by decide +kernel
theorem dX3_marksThatMatter_57 : decode cX3_marksThatMatter 57 = .ok (.istore 7, 2) := by decide +kernel
theorem dX3_marksThatMatter_59 : decode cX3_marksThatMatter 59 = .ok (.iload 7, 2) := by decide +kernel
theorem dX3_marksThatMatter_61 : decode cX3_marksThatMatter 61 = .ok (.aload_n 0, 1) := by decide +kernel
theorem dX3_marksThatMatter_62 : decode cX3_marksThatMatter 62 = .ok (.getfield 25, 3) := by decide +kernel
theorem dX3_marksThatMatter_65 : decode cX3_marksThatMatter 65 = .ok (.invokevirtual 74, 3) := by decide +kernel
theorem dX3_marksThatMatter_68 : decode cX3_marksThatMatter 68 = .ok (.if_icmp .ge 114, 3) := by decide +kernel
theorem dX3_marksThatMatter_71 : decode cX3_marksThatMatter 71 = .ok (.aload_n 0, 1) := by decide +kernel
theorem dX3_marksThatMatter_72 : decode cX3_marksThatMatter 72 = .ok (.getfield 25, 3) := by decide +kernel
theorem dX3_marksThatMatter_75 : decode cX3_marksThatMatter 75 = .ok (.iload 7, 2) := by decide +kernel
theorem dX3_marksThatMatter_77 : decode cX3_marksThatMatter 77 = .ok (.invokevirtual 78, 3) := by decide +kernel
theorem dX3_marksThatMatter_80 : decode cX3_marksThatMatter 80 = .ok (.ifCond .eq 96, 3) := by decide +kernel
theorem dX3_marksThatMatter_83 : decode cX3_marksThatMatter 83 = .ok (.aload_n 0, 1) := by decide +kernel
theorem dX3_marksThatMatter_84 : decode cX3_marksThatMatter 84 = .ok (.getfield 33, 3) := by decide +kernel
theorem dX3_marksThatMatter_87 : decode cX3_marksThatMatter 87 = .ok (.iload_n 1, 1) := by decide +kernel
theorem dX3_marksThatMatter_88 : decode cX3_marksThatMatter 88 = .ok (.aload_n 0, 1) := by decide +kernel
theorem dX3_marksThatMatter_89 : decode cX3_marksThatMatter 89 = .ok (.getfield 25, 3) := by decide +kernel
theorem dX3_marksThatMatter_92 : decode cX3_marksThatMatter 92 = .ok (.iconst 0, 1) := by decide +kernel
theorem dX3_marksThatMatter_93 : decode cX3_marksThatMatter 93 = .ok (.invokevirtual 39, 3) := by decide +kernel
theorem dX3_marksThatMatter_96 : decode cX3_marksThatMatter 96 = .ok (.iconst 1, 1) := by decide +kernel
theorem dX3_marksThatMatter_97 : decode cX3_marksThatMatter 97 = .ok (.iload 7, 2) := by decide +kernel
theorem dX3_marksThatMatter_99 : decode cX3_marksThatMatter 99 = .ok (.ishl, 1) := by decide +kernel
theorem dX3_marksThatMatter_100 : decode cX3_marksThatMatter 100 = .ok (.iconst (-1), 1) := by decide +kernel
theorem dX3_marksThatMatter_101 : decode cX3_marksThatMatter 101 = .ok (.iconst 0, 1) := by decide +kernel
theorem dX3_marksThatMatter_102 : decode cX3_marksThatMatter 102 = .ok (.invokevirtual 43, 3) := by decide +kernel
theorem dX3_marksThatMatter_105 : decode cX3_marksThatMatter 105 = .ok (.aload_n 0, 1) := by decide +kernel
theorem dX3_marksThatMatter_106 : decode cX3_marksThatMatter 106 = .ok (.getfield 33, 3) := by decide +kernel
theorem dX3_marksThatMatter_109 : decode cX3_marksThatMatter 109 = .ok (.invokevirtual 49, 3) := by decide +kernel
theorem dX3_marksThatMatter_112 : decode cX3_marksThatMatter 112 = .ok (.iload_n 2, 1) := by decide +kernel
theorem dX3_marksThatMatter_113 : decode cX3_marksThatMatter 113 = .ok (.if_icmp .ne 42, 3) := by decide +kernel
theorem dX3_marksThatMatter_116 : decode cX3_marksThatMatter 116 = .ok (.aload_n 0, 1) := by decide +kernel
theorem dX3_marksThatMatter_117 : decode cX3_marksThatMatter 117 = .ok (.getfield 33, 3) := by decide +kernel
theorem dX3_marksThatMatter_120 : decode cX3_marksThatMatter 120 = .ok (.getfield 65, 3) := by decide +kernel
theorem dX3_marksThatMatter_123 : decode cX3_marksThatMatter 123 = .ok (.iload_n 3, 1) := by decide +kernel
theorem dX3_marksThatMatter_124 : decode cX3_marksThatMatter 124 = .ok (.if_icmp .ne 31, 3) := by decide +kernel
theorem dX3_marksThatMatter_127 : decode cX3_marksThatMatter 127 = .ok (.aload_n 0, 1) := by decide +kernel
theorem dX3_marksThatMatter_128 : decode cX3_marksThatMatter 128 = .ok (.getfield 33, 3) := by decide +kernel
theorem dX3_marksThatMatter_131 : decode cX3_marksThatMatter 131 = .ok (.getfield 68, 3) := by decide +kernel
theorem dX3_marksThatMatter_134 : decode cX3_marksThatMatter 134 = .ok (.iload 4, 2) := by decide +kernel
theorem dX3_marksThatMatter_136 : decode cX3_marksThatMatter 136 = .ok (.if_icmp .ne 19, 3) := by decide +kernel
theorem dX3_marksThatMatter_139 : decode cX3_marksThatMatter 139 = .ok (.aload_n 0, 1) := by decide +kernel
theorem dX3_marksThatMatter_140 : decode cX3_marksThatMatter 140 = .ok (.getfield 33, 3) := by decide +kernel
theorem dX3_marksThatMatter_143 : decode cX3_marksThatMatter 143 = .ok (.getfield 71, 3) := by decide +kernel
theorem dX3_marksThatMatter_146 : decode cX3_marksThatMatter 146 = .ok (.iload 5, 2) := by decide +kernel
theorem dX3_marksThatMatter_148 : decode cX3_marksThatMatter 148 = .ok (.if_icmp .ne 7, 3) := by decide +kernel
theorem dX3_marksThatMatter_151 : decode cX3_marksThatMatter 151 = .ok (.iconst 1, 1) := by decide +kernel
theorem dX3_marksThatMatter_152 : decode cX3_marksThatMatter 152 = .ok (.goto 4, 3) := by decide +kernel
theorem dX3_marksThatMatter_155 : decode cX3_marksThatMatter 155 = .ok (.iconst 0, 1) := by decide +kernel
theorem dX3_marksThatMatter_156 : decode cX3_marksThatMatter 156 = .ok (.istore 8, 2) := by decide +kernel
theorem dX3_marksThatMatter_158 : decode cX3_marksThatMatter 158 = .ok (.iload 6, 2) := by decide +kernel
theorem dX3_marksThatMatter_160 : decode cX3_marksThatMatter 160 = .ok (.iload 8, 2) := by decide +kernel
theorem dX3_marksThatMatter_162 : decode cX3_marksThatMatter 162 = .ok (.ifCond .eq 7, 3) := by decide +kernel
theorem dX3_marksThatMatter_165 : decode cX3_marksThatMatter 165 = .ok (.iconst 0, 1) := by decide +kernel
theorem dX3_marksThatMatter_166 : decode cX3_marksThatMatter 166 = .ok (.goto 7, 3) := by decide +kernel
theorem dX3_marksThatMatter_169 : decode cX3_marksThatMatter 169 = .ok (.iconst 1, 1) := by decide +kernel
theorem dX3_marksThatMatter_170 : decode cX3_marksThatMatter 170 = .ok (.iload 7, 2) := by decide +kernel
theorem dX3_marksThatMatter_172 : decode cX3_marksThatMatter 172 = .ok (.ishl, 1) := by decide +kernel
theorem dX3_marksThatMatter_173 : decode cX3_marksThatMatter 173 = .ok (.ior, 1) := by decide +kernel
theorem dX3_marksThatMatter_174 : decode cX3_marksThatMatter 174 = .ok (.istore 6, 2) := by decide +kernel
theorem dX3_marksThatMatter_176 : decode cX3_marksThatMatter 176 = .ok (.iinc 7 1, 3) := by decide +kernel
theorem dX3_marksThatMatter_179 : decode cX3_marksThatMatter 179 = .ok (.goto (-120), 3) := by decide +kernel
theorem dX3_marksThatMatter_182 : decode cX3_marksThatMatter 182 = .ok (.iload 6, 2) := by decide +kernel
theorem dX3_marksThatMatter_184 : decode cX3_marksThatMatter 184 = .ok (.ireturn, 1) := by decide +kernel
theorem dX3_leastSquare_0 : decode cX3_leastSquare 0 = .ok (.aload_n 0, 1) := by decide +kernel
theorem dX3_leastSquare_1 : decode cX3_leastSquare 1 = .ok (.getfield 33, 3) := by decide +kernel
theorem dX3_leastSquare_4 : decode cX3_leastSquare 4 = .ok (.iload_n 2, 1) := by decide +kernel
theorem dX3_leastSquare_5 : decode cX3_leastSquare 5 = .ok (.aload_n 0, 1) := by decide +kernel
theorem dX3_leastSquare_6 : decode cX3_leastSquare 6 = .ok (.getfield 25, 3) := by decide +kernel
theorem dX3_leastSquare_9 : decode cX3_leastSquare 9 = .ok (.iconst 0, 1) := by decide +kernel
theorem dX3_leastSquare_10 : decode cX3_leastSquare 10 = .ok (.invokevirtual 39, 3) := by decide +kernel
theorem dX3_leastSquare_13 : decode cX3_leastSquare 13 = .ok (.iconst 0, 1) := by decide +kernel
theorem dX3_leastSquare_14 : decode cX3_leastSquare 14 = .ok (.iconst (-1), 1) := by decide +kernel
theorem dX3_leastSquare_15 : decode cX3_leastSquare 15 = .ok (.iconst 0, 1) := by decide +kernel
theorem dX3_leastSquare_16 : decode cX3_leastSquare 16 = .ok (.invokevirtual 43, 3) := by decide +kernel
theorem dX3_leastSquare_19 : decode cX3_leastSquare 19 = .ok (.ldc 84, 2) := by decide +kernel
theorem dX3_leastSquare_21 : decode cX3_leastSquare 21 = .ok (.istore_n 3, 1) := by decide +kernel
theorem dX3_leastSquare_22 : decode cX3_leastSquare 22 = .ok (.iconst 0, 1) := by decide +kernel
theorem dX3_leastSquare_23 : decode cX3_leastSquare 23 = .ok (.istore 4, 2) := by decide +kernel
theorem dX3_leastSquare_25 : decode cX3_leastSquare 25 = .ok (.iload 4, 2) := by decide +kernel
theorem dX3_leastSquare_27 : decode cX3_leastSquare 27 = .ok (.aload_n 0, 1) := by decide +kernel
theorem dX3_leastSquare_28 : decode cX3_leastSquare 28 = .ok (.getfield 33, 3) := by decide +kernel
theorem dX3_leastSquare_31 : decode cX3_leastSquare 31 = .ok (.getfield 65, 3) := by decide +kernel
theorem dX3_leastSquare_34 : decode cX3_leastSquare 34 = .ok (.if_icmp .gt 42, 3) := by decide +kernel
theorem dX3_leastSquare_37 : decode cX3_leastSquare 37 = .ok (.iload_n 3, 1) := by decide +kernel
theorem dX3_leastSquare_38 : decode cX3_leastSquare 38 = .ok (.aload_n 0, 1) := by decide +kernel
theorem dX3_leastSquare_39 : decode cX3_leastSquare 39 = .ok (.getfield 29, 3) := by decide +kernel
theorem dX3_leastSquare_42 : decode cX3_leastSquare 42 = .ok (.iload_n 1, 1) := by decide +kernel
theorem dX3_leastSquare_43 : decode cX3_leastSquare 43 = .ok (.aload_n 0, 1) := by decide +kernel
theorem dX3_leastSquare_44 : decode cX3_leastSquare 44 = .ok (.getfield 33, 3) := by decide +kernel
theorem dX3_leastSquare_47 : decode cX3_leastSquare 47 = .ok (.iload 4, 2) := by decide +kernel
theorem dX3_leastSquare_49 : decode cX3_leastSquare 49 = .ok (.iconst 0, 1) := by decide +kernel
theorem dX3_leastSquare_50 : decode cX3_leastSquare 50 = .ok (.invokevirtual 85, 3) := by decide +kernel
theorem dX3_leastSquare_53 : decode cX3_leastSquare 53 = .ok (.aload_n 0, 1) := by decide +kernel
theorem dX3_leastSquare_54 : decode cX3_leastSquare 54 = .ok (.getfield 33, 3) := by decide +kernel
theorem dX3_leastSquare_57 : decode cX3_leastSquare 57 = .ok (.iload 4, 2) := by decide +kernel
theorem dX3_leastSquare_59 : decode cX3_leastSquare 59 = .ok (.iconst 1, 1) := by decide +kernel
theorem dX3_leastSquare_60 : decode cX3_leastSquare 60 = .ok (.invokevirtual 85, 3) := by decide +kernel
theorem dX3_leastSquare_63 : decode cX3_leastSquare 63 = .ok (.invokevirtual 88, 3) := by decide +kernel
theorem dX3_leastSquare_66 : decode cX3_leastSquare 66 = .ok (.invokestatic 56, 3) := by decide +kernel
theorem dX3_leastSquare_69 : decode cX3_leastSquare 69 = .ok (.istore_n 3, 1) := by decide +kernel
theorem dX3_leastSquare_70 : decode cX3_leastSquare 70 = .ok (.iinc 4 1, 3) := by decide +kernel
theorem dX3_leastSquare_73 : decode cX3_leastSquare 73 = .ok (.goto (-48), 3) := by decide +kernel
theorem dX3_leastSquare_76 : decode cX3_leastSquare 76 = .ok (.iload_n 3, 1) := by decide +kernel
theorem dX3_leastSquare_77 : decode cX3_leastSquare 77 = .ok (.ireturn, 1) := by decide +kernel
theorem dX3_marksAwaited_0 : decode cX3_marksAwaited 0 = .ok (.iconst 0, 1) := by decide +kernel
theorem dX3_marksAwaited_1 : decode cX3_marksAwaited 1 = .ok (.istore_n 1, 1) := by decide +kernel
theorem dX3_marksAwaited_2 : decode cX3_marksAwaited 2 = .ok (.iconst 0, 1) := by decide +kernel
theorem dX3_marksAwaited_3 : decode cX3_marksAwaited 3 = .ok (.istore_n 2, 1) := by decide +kernel
theorem dX3_marksAwaited_4 : decode cX3_marksAwaited 4 = .ok (.iload_n 2, 1) := by decide +kernel
theorem dX3_marksAwaited_5 : decode cX3_marksAwaited 5 = .ok (.aload_n 0, 1) := by decide +kernel
theorem dX3_marksAwaited_6 : decode cX3_marksAwaited 6 = .ok (.getfield 25, 3) := by decide +kernel
theorem dX3_marksAwaited_9 : decode cX3_marksAwaited 9 = .ok (.invokevirtual 94, 3) := by decide +kernel
theorem dX3_marksAwaited_12 : decode cX3_marksAwaited 12 = .ok (.if_icmp .ge 83, 3) := by decide +kernel
theorem dX3_marksAwaited_15 : decode cX3_marksAwaited 15 = .ok (.aload_n 0, 1) := by decide +kernel
theorem dX3_marksAwaited_16 : decode cX3_marksAwaited 16 = .ok (.getfield 25, 3) := by decide +kernel
theorem dX3_marksAwaited_19 : decode cX3_marksAwaited 19 = .ok (.iload_n 2, 1) := by decide +kernel
theorem dX3_marksAwaited_20 : decode cX3_marksAwaited 20 = .ok (.iconst 1, 1) := by decide +kernel
theorem dX3_marksAwaited_21 : decode cX3_marksAwaited 21 = .ok (.invokevirtual 97, 3) := by decide +kernel
theorem dX3_marksAwaited_24 : decode cX3_marksAwaited 24 = .ok (.istore_n 3, 1) := by decide +kernel
theorem dX3_marksAwaited_25 : decode cX3_marksAwaited 25 = .ok (.iload_n 3, 1) := by decide +kernel
theorem dX3_marksAwaited_26 : decode cX3_marksAwaited 26 = .ok (.iconst 1, 1) := by decide +kernel
theorem dX3_marksAwaited_27 : decode cX3_marksAwaited 27 = .ok (.if_icmp .eq 13, 3) := by decide +kernel
theorem dX3_marksAwaited_30 : decode cX3_marksAwaited 30 = .ok (.iload_n 3, 1) := by decide +kernel
theorem dX3_marksAwaited_31 : decode cX3_marksAwaited 31 = .ok (.iconst 2, 1) := by decide +kernel
theorem dX3_marksAwaited_32 : decode cX3_marksAwaited 32 = .ok (.if_icmp .eq 8, 3) := by decide +kernel
theorem dX3_marksAwaited_35 : decode cX3_marksAwaited 35 = .ok (.iload_n 3, 1) := by decide +kernel
theorem dX3_marksAwaited_36 : decode cX3_marksAwaited 36 = .ok (.iconst 3, 1) := by decide +kernel
theorem dX3_marksAwaited_37 : decode cX3_marksAwaited 37 = .ok (.if_icmp .ne 7, 3) := by decide +kernel
theorem dX3_marksAwaited_40 : decode cX3_marksAwaited 40 = .ok (.iconst 1, 1) := by decide +kernel
theorem dX3_marksAwaited_41 : decode cX3_marksAwaited 41 = .ok (.goto 4, 3) := by decide +kernel
theorem dX3_marksAwaited_44 : decode cX3_marksAwaited 44 = .ok (.iconst 0, 1) := by decide +kernel
theorem dX3_marksAwaited_45 : decode cX3_marksAwaited 45 = .ok (.istore 4, 2) := by decide +kernel
theorem dX3_marksAwaited_47 : decode cX3_marksAwaited 47 = .ok (.iload 4, 2) := by decide +kernel
theorem dX3_marksAwaited_49 : decode cX3_marksAwaited 49 = .ok (.ifCond .eq 19, 3) := by decide +kernel
theorem dX3_marksAwaited_52 : decode cX3_marksAwaited 52 = .ok (.iload_n 1, 1) := by decide +kernel
theorem dX3_marksAwaited_53 : decode cX3_marksAwaited 53 = .ok (.aload_n 0, 1) := by decide +kernel
theorem dX3_marksAwaited_54 : decode cX3_marksAwaited 54 = .ok (.aload_n 0, 1) := by decide +kernel
theorem dX3_marksAwaited_55 : decode cX3_marksAwaited 55 = .ok (.getfield 25, 3) := by decide +kernel
theorem dX3_marksAwaited_58 : decode cX3_marksAwaited 58 = .ok (.iload_n 2, 1) := by decide +kernel
theorem dX3_marksAwaited_59 : decode cX3_marksAwaited 59 = .ok (.iconst 2, 1) := by decide +kernel
theorem dX3_marksAwaited_60 : decode cX3_marksAwaited 60 = .ok (.invokevirtual 97, 3) := by decide +kernel
theorem dX3_marksAwaited_63 : decode cX3_marksAwaited 63 = .ok (.invokevirtual 100, 3) := by decide +kernel
theorem dX3_marksAwaited_66 : decode cX3_marksAwaited 66 = .ok (.ior, 1) := by decide +kernel
theorem dX3_marksAwaited_67 : decode cX3_marksAwaited 67 = .ok (.istore_n 1, 1) := by decide +kernel
theorem dX3_marksAwaited_68 : decode cX3_marksAwaited 68 = .ok (.iload_n 3, 1) := by decide +kernel
theorem dX3_marksAwaited_69 : decode cX3_marksAwaited 69 = .ok (.iconst 2, 1) := by decide +kernel
theorem dX3_marksAwaited_70 : decode cX3_marksAwaited 70 = .ok (.if_icmp .ne 19, 3) := by decide +kernel
theorem dX3_marksAwaited_73 : decode cX3_marksAwaited 73 = .ok (.iload_n 1, 1) := by decide +kernel
theorem dX3_marksAwaited_74 : decode cX3_marksAwaited 74 = .ok (.aload_n 0, 1) := by decide +kernel
theorem dX3_marksAwaited_75 : decode cX3_marksAwaited 75 = .ok (.aload_n 0, 1) := by decide +kernel
theorem dX3_marksAwaited_76 : decode cX3_marksAwaited 76 = .ok (.getfield 25, 3) := by decide +kernel
theorem dX3_marksAwaited_79 : decode cX3_marksAwaited 79 = .ok (.iload_n 2, 1) := by decide +kernel
theorem dX3_marksAwaited_80 : decode cX3_marksAwaited 80 = .ok (.iconst 3, 1) := by decide +kernel
theorem dX3_marksAwaited_81 : decode cX3_marksAwaited 81 = .ok (.invokevirtual 97, 3) := by decide +kernel
theorem dX3_marksAwaited_84 : decode cX3_marksAwaited 84 = .ok (.invokevirtual 100, 3) := by decide +kernel
theorem dX3_marksAwaited_87 : decode cX3_marksAwaited 87 = .ok (.ior, 1) := by decide +kernel
theorem dX3_marksAwaited_88 : decode cX3_marksAwaited 88 = .ok (.istore_n 1, 1) := by decide +kernel
theorem dX3_marksAwaited_89 : decode cX3_marksAwaited 89 = .ok (.iinc 2 1, 3) := by decide +kernel
theorem dX3_marksAwaited_92 : decode cX3_marksAwaited 92 = .ok (.goto (-88), 3) := by decide +kernel
theorem dX3_marksAwaited_95 : decode cX3_marksAwaited 95 = .ok (.iload_n 1, 1) := by decide +kernel
theorem dX3_marksAwaited_96 : decode cX3_marksAwaited 96 = .ok (.ireturn, 1) := by decide +kernel
theorem dX3_markBit_0 : decode cX3_markBit 0 = .ok (.aload_n 0, 1) := by decide +kernel
theorem dX3_markBit_1 : decode cX3_markBit 1 = .ok (.getfield 25, 3) := by decide +kernel
theorem dX3_markBit_4 : decode cX3_markBit 4 = .ok (.iload_n 1, 1) := by decide +kernel
theorem dX3_markBit_5 : decode cX3_markBit 5 = .ok (.invokevirtual 78, 3) := by decide +kernel
theorem dX3_markBit_8 : decode cX3_markBit 8 = .ok (.ifCond .eq 9, 3) := by decide +kernel
theorem dX3_markBit_11 : decode cX3_markBit 11 = .ok (.iconst 1, 1) := by decide +kernel
theorem dX3_markBit_12 : decode cX3_markBit 12 = .ok (.iload_n 1, 1) := by decide +kernel
theorem dX3_markBit_13 : decode cX3_markBit 13 = .ok (.ishl, 1) := by decide +kernel
theorem dX3_markBit_14 : decode cX3_markBit 14 = .ok (.goto 4, 3) := by decide +kernel
theorem dX3_markBit_17 : decode cX3_markBit 17 = .ok (.iconst 0, 1) := by decide +kernel
theorem dX3_markBit_18 : decode cX3_markBit 18 = .ok (.ireturn, 1) := by decide +kernel
theorem dX3_weighArrival_0 : decode cX3_weighArrival 0 = .ok (.aload_n 0, 1) := by decide +kernel
theorem dX3_weighArrival_1 : decode cX3_weighArrival 1 = .ok (.getfield 33, 3) := by decide +kernel
theorem dX3_weighArrival_4 : decode cX3_weighArrival 4 = .ok (.iload_n 1, 1) := by decide +kernel
theorem dX3_weighArrival_5 : decode cX3_weighArrival 5 = .ok (.aload_n 0, 1) := by decide +kernel
theorem dX3_weighArrival_6 : decode cX3_weighArrival 6 = .ok (.getfield 25, 3) := by decide +kernel
theorem dX3_weighArrival_9 : decode cX3_weighArrival 9 = .ok (.iconst 0, 1) := by decide +kernel
theorem dX3_weighArrival_10 : decode cX3_weighArrival 10 = .ok (.invokevirtual 39, 3) := by decide +kernel
theorem dX3_weighArrival_13 : decode cX3_weighArrival 13 = .ok (.iconst 0, 1) := by decide +kernel
theorem dX3_weighArrival_14 : decode cX3_weighArrival 14 = .ok (.iconst (-1), 1) := by decide +kernel
theorem dX3_weighArrival_15 : decode cX3_weighArrival 15 = .ok (.iconst 0, 1) := by decide +kernel
theorem dX3_weighArrival_16 : decode cX3_weighArrival 16 = .ok (.invokevirtual 43, 3) := by decide +kernel
theorem dX3_weighArrival_19 : decode cX3_weighArrival 19 = .ok (.aload_n 0, 1) := by decide +kernel
theorem dX3_weighArrival_20 : decode cX3_weighArrival 20 = .ok (.aload_n 0, 1) := by decide +kernel
theorem dX3_weighArrival_21 : decode cX3_weighArrival 21 = .ok (.getfield 33, 3) := by decide +kernel
theorem dX3_weighArrival_24 : decode cX3_weighArrival 24 = .ok (.invokevirtual 49, 3) := by decide +kernel
theorem dX3_weighArrival_27 : decode cX3_weighArrival 27 = .ok (.ifCond .eq 7, 3) := by decide +kernel
theorem dX3_weighArrival_30 : decode cX3_weighArrival 30 = .ok (.lconst 1, 1) := by decide +kernel
theorem dX3_weighArrival_31 : decode cX3_weighArrival 31 = .ok (.goto 4, 3) := by decide +kernel
theorem dX3_weighArrival_34 : decode cX3_weighArrival 34 = .ok (.lconst 0, 1) := by decide +kernel
theorem dX3_weighArrival_35 : decode cX3_weighArrival 35 = .ok (.putfield 9, 3) := by decide +kernel
theorem dX3_weighArrival_38 : decode cX3_weighArrival 38 = .ok (.aload_n 0, 1) := by decide +kernel
theorem dX3_weighArrival_39 : decode cX3_weighArrival 39 = .ok (.lconst 1, 1) := by decide +kernel
theorem dX3_weighArrival_40 : decode cX3_weighArrival 40 = .ok (.putfield 15, 3) := by decide +kernel
theorem dX3_weighArrival_43 : decode cX3_weighArrival 43 = .ok (.aload_n 0, 1) := by decide +kernel
theorem dX3_weighArrival_44 : decode cX3_weighArrival 44 = .ok (.getfield 9, 3) := by decide +kernel
theorem dX3_weighArrival_47 : decode cX3_weighArrival 47 = .ok (.lconst 0, 1) := by decide +kernel
theorem dX3_weighArrival_48 : decode cX3_weighArrival 48 = .ok (.lcmp, 1) := by decide +kernel
theorem dX3_weighArrival_49 : decode cX3_weighArrival 49 = .ok (.ifCond .ne 4, 3) := by decide +kernel
theorem dX3_weighArrival_52 : decode cX3_weighArrival 52 = .ok (.return_, 1) := by decide +kernel
theorem dX3_weighArrival_53 : decode cX3_weighArrival 53 = .ok (.aload_n 0, 1) := by decide +kernel
theorem dX3_weighArrival_54 : decode cX3_weighArrival 54 = .ok (.invokevirtual 103, 3) := by decide +kernel
theorem dX3_weighArrival_57 : decode cX3_weighArrival 57 = .ok (.invokestatic 106, 3) := by decide +kernel
theorem dX3_weighArrival_60 : decode cX3_weighArrival 60 = .ok (.istore_n 3, 1) := by decide +kernel
theorem dX3_weighArrival_61 : decode cX3_weighArrival 61 = .ok (.bipush 10, 2) := by decide +kernel
theorem dX3_weighArrival_63 : decode cX3_weighArrival 63 = .ok (.iload_n 2, 1) := by decide +kernel
theorem dX3_weighArrival_64 : decode cX3_weighArrival 64 = .ok (.isub, 1) := by decide +kernel
theorem dX3_weighArrival_65 : decode cX3_weighArrival 65 = .ok (.istore 4, 2) := by decide +kernel
theorem dX3_weighArrival_67 : decode cX3_weighArrival 67 = .ok (.iload 4, 2) := by decide +kernel
theorem dX3_weighArrival_69 : decode cX3_weighArrival 69 = .ok (.invokestatic 109, 3) := by decide +kernel
theorem dX3_weighArrival_72 : decode cX3_weighArrival 72 = .ok (.istore 5, 2) := by decide +kernel
theorem dX3_weighArrival_74 : decode cX3_weighArrival 74 = .ok (.iconst 0, 1) := by decide +kernel
theorem dX3_weighArrival_75 : decode cX3_weighArrival 75 = .ok (.istore 6, 2) := by decide +kernel
theorem dX3_weighArrival_77 : decode cX3_weighArrival 77 = .ok (.iload 6, 2) := by decide +kernel
theorem dX3_weighArrival_79 : decode cX3_weighArrival 79 = .ok (.iload_n 3, 1) := by decide +kernel
theorem dX3_weighArrival_80 : decode cX3_weighArrival 80 = .ok (.if_icmp .ge 39, 3) := by decide +kernel
theorem dX3_weighArrival_83 : decode cX3_weighArrival 83 = .ok (.aload_n 0, 1) := by decide +kernel
theorem dX3_weighArrival_84 : decode cX3_weighArrival 84 = .ok (.dup, 1) := by decide +kernel
theorem dX3_weighArrival_85 : decode cX3_weighArrival 85 = .ok (.getfield 9, 3) := by decide +kernel
theorem dX3_weighArrival_88 : decode cX3_weighArrival 88 = .ok (.iload 4, 2) := by decide +kernel
theorem dX3_weighArrival_90 : decode cX3_weighArrival 90 = .ok (.iload 5, 2) := by decide +kernel
theorem dX3_weighArrival_92 : decode cX3_weighArrival 92 = .ok (.idiv, 1) := by decide +kernel
theorem dX3_weighArrival_93 : decode cX3_weighArrival 93 = .ok (.i2l, 1) := by decide +kernel
theorem dX3_weighArrival_94 : decode cX3_weighArrival 94 = .ok (.lmul, 1) := by decide +kernel
theorem dX3_weighArrival_95 : decode cX3_weighArrival 95 = .ok (.putfield 9, 3) := by decide +kernel
theorem dX3_weighArrival_98 : decode cX3_weighArrival 98 = .ok (.aload_n 0, 1) := by decide +kernel
theorem dX3_weighArrival_99 : decode cX3_weighArrival 99 = .ok (.dup, 1) := by decide +kernel
theorem dX3_weighArrival_100 : decode cX3_weighArrival 100 = .ok (.getfield 15, 3) := by decide +kernel
theorem dX3_weighArrival_103 : decode cX3_weighArrival 103 = .ok (.bipush 10, 2) := by decide +kernel
theorem dX3_weighArrival_105 : decode cX3_weighArrival 105 = .ok (.iload 5, 2) := by decide +kernel
theorem dX3_weighArrival_107 : decode cX3_weighArrival 107 = .ok (.idiv, 1) := by decide +kernel
theorem dX3_weighArrival_108 : decode cX3_weighArrival 108 = .ok (.i2l, 1) := by decide +kernel
theorem dX3_weighArrival_109 : decode cX3_weighArrival 109 = .ok (.lmul, 1) := by decide +kernel
theorem dX3_weighArrival_110 : decode cX3_weighArrival 110 = .ok (.putfield 15, 3) := by decide +kernel
theorem dX3_weighArrival_113 : decode cX3_weighArrival 113 = .ok (.iinc 6 1, 3) := by decide +kernel
theorem dX3_weighArrival_116 : decode cX3_weighArrival 116 = .ok (.goto (-39), 3) := by decide +kernel
theorem dX3_weighArrival_119 : decode cX3_weighArrival 119 = .ok (.return_, 1) := by decide +kernel
theorem dX3_sharedWithCases_0 : decode cX3_sharedWithCases 0 = .ok (.bipush 10, 2) := by decide +kernel
theorem dX3_sharedWithCases_2 : decode cX3_sharedWithCases 2 = .ok (.istore_n 1, 1) := by decide +kernel
theorem dX3_sharedWithCases_3 : decode cX3_sharedWithCases 3 = .ok (.iload_n 1, 1) := by decide +kernel
theorem dX3_sharedWithCases_4 : decode cX3_sharedWithCases 4 = .ok (.iconst 1, 1) := by decide +kernel
theorem dX3_sharedWithCases_5 : decode cX3_sharedWithCases 5 = .ok (.if_icmp .le 24, 3) := by decide +kernel
theorem dX3_sharedWithCases_8 : decode cX3_sharedWithCases 8 = .ok (.bipush 10, 2) := by decide +kernel
theorem dX3_sharedWithCases_10 : decode cX3_sharedWithCases 10 = .ok (.iload_n 1, 1) := by decide +kernel
theorem dX3_sharedWithCases_11 : decode cX3_sharedWithCases 11 = .ok (.irem, 1) := by decide +kernel
theorem dX3_sharedWithCases_12 : decode cX3_sharedWithCases 12 = .ok (.ifCond .ne 11, 3) := by decide +kernel
theorem dX3_sharedWithCases_15 : decode cX3_sharedWithCases 15 = .ok (.iload_n 0, 1) := by decide +kernel
theorem dX3_sharedWithCases_16 : decode cX3_sharedWithCases 16 = .ok (.iload_n 1, 1) := by decide +kernel
theorem dX3_sharedWithCases_17 : decode cX3_sharedWithCases 17 = .ok (.irem, 1) := by decide +kernel
theorem dX3_sharedWithCases_18 : decode cX3_sharedWithCases 18 = .ok (.ifCond .ne 5, 3) := by decide +kernel
theorem dX3_sharedWithCases_21 : decode cX3_sharedWithCases 21 = .ok (.iload_n 1, 1) := by decide +kernel
theorem dX3_sharedWithCases_22 : decode cX3_sharedWithCases 22 = .ok (.ireturn, 1) := by decide +kernel
theorem dX3_sharedWithCases_23 : decode cX3_sharedWithCases 23 = .ok (.iinc 1 (-1), 3) := by decide +kernel
theorem dX3_sharedWithCases_26 : decode cX3_sharedWithCases 26 = .ok (.goto (-23), 3) := by decide +kernel
theorem dX3_sharedWithCases_29 : decode cX3_sharedWithCases 29 = .ok (.iconst 1, 1) := by decide +kernel
theorem dX3_sharedWithCases_30 : decode cX3_sharedWithCases 30 = .ok (.ireturn, 1) := by decide +kernel
theorem dX3_drawVoyages_0 : decode cX3_drawVoyages 0 = .ok (.iload_n 2, 1) := by decide +kernel
theorem dX3_drawVoyages_1 : decode cX3_drawVoyages 1 = .ok (.i2l, 1) := by decide +kernel
theorem dX3_drawVoyages_2 : decode cX3_drawVoyages 2 = .ok (.lstore_n 3, 1) := by decide +kernel
theorem dX3_drawVoyages_3 : decode cX3_drawVoyages 3 = .ok (.aload_n 0, 1) := by decide +kernel
theorem dX3_drawVoyages_4 : decode cX3_drawVoyages 4 = .ok (.iconst 0, 1) := by decide +kernel
theorem dX3_drawVoyages_5 : decode cX3_drawVoyages 5 = .ok (.putfield 18, 3) := by decide +kernel
theorem dX3_drawVoyages_8 : decode cX3_drawVoyages 8 = .ok (.aload_n 0, 1) := by decide +kernel
theorem dX3_drawVoyages_9 : decode cX3_drawVoyages 9 = .ok (.iconst 0, 1) := by decide +kernel
theorem dX3_drawVoyages_10 : decode cX3_drawVoyages 10 = .ok (.putfield 22, 3) := by decide +kernel
theorem dX3_drawVoyages_13 : decode cX3_drawVoyages 13 = .ok (.iconst 0, 1) := by decide +kernel
theorem dX3_drawVoyages_14 : decode cX3_drawVoyages 14 = .ok (.istore 5, 2) := by decide +kernel
theorem dX3_drawVoyages_16 : decode cX3_drawVoyages 16 = .ok (.iload 5, 2) := by decide +kernel
theorem dX3_drawVoyages_18 : decode cX3_drawVoyages 18 = .ok (.iload_n 1, 1) := by decide +kernel
theorem dX3_drawVoyages_19 : decode cX3_drawVoyages 19 = .ok (.if_icmp .ge 93, 3) := by decide +kernel
theorem dX3_drawVoyages_22 : decode cX3_drawVoyages 22 = .ok (.lload_n 3, 1) := by decide +kernel
theorem dX3_drawVoyages_23 : decode cX3_drawVoyages 23 = .ok (.ldc2_w 112, 3) := by decide +kernel
theorem dX3_drawVoyages_26 : decode cX3_drawVoyages 26 = .ok (.lmul, 1) := by decide +kernel
theorem dX3_drawVoyages_27 : decode cX3_drawVoyages 27 = .ok (.ldc2_w 114, 3) := by decide +kernel
theorem dX3_drawVoyages_30 : decode cX3_drawVoyages 30 = .ok (.lrem, 1) := by decide +kernel
theorem dX3_drawVoyages_31 : decode cX3_drawVoyages 31 = .ok (.lstore_n 3, 1) := by decide +kernel
theorem dX3_drawVoyages_32 : decode cX3_drawVoyages 32 = .ok (.lload_n 3, 1) := by decide +kernel
theorem dX3_drawVoyages_33 : decode cX3_drawVoyages 33 = .ok (.ldc2_w 116, 3) := by decide +kernel
theorem dX3_drawVoyages_36 : decode cX3_drawVoyages 36 = .ok (.lrem, 1) := by decide +kernel
theorem dX3_drawVoyages_37 : decode cX3_drawVoyages 37 = .ok (.l2i, 1) := by decide +kernel
theorem dX3_drawVoyages_38 : decode cX3_drawVoyages 38 = .ok (.istore 6, 2) := by decide +kernel
theorem dX3_drawVoyages_40 : decode cX3_drawVoyages 40 = .ok (.lload_n 3, 1) := by decide +kernel
theorem dX3_drawVoyages_41 : decode cX3_drawVoyages 41 = .ok (.ldc2_w 118, 3) := by decide +kernel
theorem dX3_drawVoyages_44 : decode cX3_drawVoyages 44 = .ok (.ldiv, 1) := by decide +kernel
theorem dX3_drawVoyages_45 : decode cX3_drawVoyages 45 = .ok (.ldc2_w 120, 3) := by decide +kernel
theorem dX3_drawVoyages_48 : decode cX3_drawVoyages 48 = .ok (.lrem, 1) := by decide +kernel
theorem dX3_drawVoyages_49 : decode cX3_drawVoyages 49 = .ok (.l2i, 1) := by decide +kernel
theorem dX3_drawVoyages_50 : decode cX3_drawVoyages 50 = .ok (.istore 7, 2) := by decide +kernel
theorem dX3_drawVoyages_52 : decode cX3_drawVoyages 52 = .ok (.aload_n 0, 1) := by decide +kernel
theorem dX3_drawVoyages_53 : decode cX3_drawVoyages 53 = .ok (.getfield 33, 3) := by decide +kernel
theorem dX3_drawVoyages_56 : decode cX3_drawVoyages 56 = .ok (.iload 6, 2) := by decide +kernel
theorem dX3_drawVoyages_58 : decode cX3_drawVoyages 58 = .ok (.iload 7, 2) := by decide +kernel
theorem dX3_drawVoyages_60 : decode cX3_drawVoyages 60 = .ok (.iconst 0, 1) := by decide +kernel
theorem dX3_drawVoyages_61 : decode cX3_drawVoyages 61 = .ok (.iconst (-1), 1) := by decide +kernel
theorem dX3_drawVoyages_62 : decode cX3_drawVoyages 62 = .ok (.iconst 0, 1) := by decide +kernel
theorem dX3_drawVoyages_63 : decode cX3_drawVoyages 63 = .ok (.invokevirtual 43, 3) := by decide +kernel
theorem dX3_drawVoyages_66 : decode cX3_drawVoyages 66 = .ok (.aload_n 0, 1) := by decide +kernel
theorem dX3_drawVoyages_67 : decode cX3_drawVoyages 67 = .ok (.dup, 1) := by decide +kernel
theorem dX3_drawVoyages_68 : decode cX3_drawVoyages 68 = .ok (.getfield 18, 3) := by decide +kernel
theorem dX3_drawVoyages_71 : decode cX3_drawVoyages 71 = .ok (.aload_n 0, 1) := by decide +kernel
theorem dX3_drawVoyages_72 : decode cX3_drawVoyages 72 = .ok (.getfield 33, 3) := by decide +kernel
theorem dX3_drawVoyages_75 : decode cX3_drawVoyages 75 = .ok (.invokevirtual 49, 3) := by decide +kernel
theorem dX3_drawVoyages_78 : decode cX3_drawVoyages 78 = .ok (.ifCond .eq 7, 3) := by decide +kernel
theorem dX3_drawVoyages_81 : decode cX3_drawVoyages 81 = .ok (.iconst 1, 1) := by decide +kernel
theorem dX3_drawVoyages_82 : decode cX3_drawVoyages 82 = .ok (.goto 4, 3) := by decide +kernel
theorem dX3_drawVoyages_85 : decode cX3_drawVoyages 85 = .ok (.iconst 0, 1) := by decide +kernel
theorem dX3_drawVoyages_86 : decode cX3_drawVoyages 86 = .ok (.iadd, 1) := by decide +kernel
theorem dX3_drawVoyages_87 : decode cX3_drawVoyages 87 = .ok (.putfield 18, 3) := by decide +kernel
theorem dX3_drawVoyages_90 : decode cX3_drawVoyages 90 = .ok (.aload_n 0, 1) := by decide +kernel
theorem dX3_drawVoyages_91 : decode cX3_drawVoyages 91 = .ok (.dup, 1) := by decide +kernel
theorem dX3_drawVoyages_92 : decode cX3_drawVoyages 92 = .ok (.getfield 22, 3) := by decide +kernel
theorem dX3_drawVoyages_95 : decode cX3_drawVoyages 95 = .ok (.aload_n 0, 1) := by decide +kernel
theorem dX3_drawVoyages_96 : decode cX3_drawVoyages 96 = .ok (.getfield 33, 3) := by decide +kernel
theorem dX3_drawVoyages_99 : decode cX3_drawVoyages 99 = .ok (.getfield 65, 3) := by decide +kernel
theorem dX3_drawVoyages_102 : decode cX3_drawVoyages 102 = .ok (.iadd, 1) := by decide +kernel
theorem dX3_drawVoyages_103 : decode cX3_drawVoyages 103 = .ok (.putfield 22, 3) := by decide +kernel
theorem dX3_drawVoyages_106 : decode cX3_drawVoyages 106 = .ok (.iinc 5 1, 3) := by decide +kernel
theorem dX3_drawVoyages_109 : decode cX3_drawVoyages 109 = .ok (.goto (-93), 3) := by decide +kernel
theorem dX3_drawVoyages_112 : decode cX3_drawVoyages 112 = .ok (.return_, 1) := by decide +kernel
theorem dX4_init_0 : decode cX4_init 0 = .ok (.aload_n 0, 1) := by decide +kernel
theorem dX4_init_1 : decode cX4_init 1 = .ok (.invokespecial 1, 3) := by decide +kernel
theorem dX4_init_4 : decode cX4_init 4 = .ok (.aload_n 0, 1) := by decide +kernel
theorem dX4_init_5 : decode cX4_init 5 = .ok (.sipush 1560, 3) := by decide +kernel
theorem dX4_init_8 : decode cX4_init 8 = .ok (.newarray .int, 2) := by decide +kernel
theorem dX4_init_10 : decode cX4_init 10 = .ok (.putfield 11, 3) := by decide +kernel
theorem dX4_init_13 : decode cX4_init 13 = .ok (.aload_n 0, 1) := by decide +kernel
theorem dX4_init_14 : decode cX4_init 14 = .ok (.iconst 0, 1) := by decide +kernel
theorem dX4_init_15 : decode cX4_init 15 = .ok (.putfield 15, 3) := by decide +kernel
theorem dX4_init_18 : decode cX4_init 18 = .ok (.aload_n 0, 1) := by decide +kernel
theorem dX4_init_19 : decode cX4_init 19 = .ok (.iconst 0, 1) := by decide +kernel
theorem dX4_init_20 : decode cX4_init 20 = .ok (.putfield 19, 3) := by decide +kernel
theorem dX4_init_23 : decode cX4_init 23 = .ok (.return_, 1) := by decide +kernel
theorem dX4_size_0 : decode cX4_size 0 = .ok (.aload_n 0, 1) := by decide +kernel
theorem dX4_size_1 : decode cX4_size 1 = .ok (.getfield 19, 3) := by decide +kernel
theorem dX4_size_4 : decode cX4_size 4 = .ok (.ireturn, 1) := by decide +kernel
theorem dX4_forget_0 : decode cX4_forget 0 = .ok (.aload_n 0, 1) := by decide +kernel
theorem dX4_forget_1 : decode cX4_forget 1 = .ok (.iconst 0, 1) := by decide +kernel
theorem dX4_forget_2 : decode cX4_forget 2 = .ok (.putfield 19, 3) := by decide +kernel
theorem dX4_forget_5 : decode cX4_forget 5 = .ok (.return_, 1) := by decide +kernel
theorem dX4_keep_0 : decode cX4_keep 0 = .ok (.aload_n 1, 1) := by decide +kernel
theorem dX4_keep_1 : decode cX4_keep 1 = .ok (.aload_n 0, 1) := by decide +kernel
theorem dX4_keep_2 : decode cX4_keep 2 = .ok (.getfield 11, 3) := by decide +kernel
theorem dX4_keep_5 : decode cX4_keep 5 = .ok (.aload_n 0, 1) := by decide +kernel
theorem dX4_keep_6 : decode cX4_keep 6 = .ok (.getfield 15, 3) := by decide +kernel
theorem dX4_keep_9 : decode cX4_keep 9 = .ok (.invokevirtual 22, 3) := by decide +kernel
theorem dX4_keep_12 : decode cX4_keep 12 = .ok (.aload_n 0, 1) := by decide +kernel
theorem dX4_keep_13 : decode cX4_keep 13 = .ok (.aload_n 0, 1) := by decide +kernel
theorem dX4_keep_14 : decode cX4_keep 14 = .ok (.getfield 15, 3) := by decide +kernel
theorem dX4_keep_17 : decode cX4_keep 17 = .ok (.iconst 1, 1) := by decide +kernel
theorem dX4_keep_18 : decode cX4_keep 18 = .ok (.iadd, 1) := by decide +kernel
theorem dX4_keep_19 : decode cX4_keep 19 = .ok (.bipush 20, 2) := by decide +kernel
theorem dX4_keep_21 : decode cX4_keep 21 = .ok (.if_icmp .ge 12, 3) := by decide +kernel
theorem dX4_keep_24 : decode cX4_keep 24 = .ok (.aload_n 0, 1) := by decide +kernel
theorem dX4_keep_25 : decode cX4_keep 25 = .ok (.getfield 15, 3) := by decide +kernel
theorem dX4_keep_28 : decode cX4_keep 28 = .ok (.iconst 1, 1) := by decide +kernel
theorem dX4_keep_29 : decode cX4_keep 29 = .ok (.iadd, 1) := by decide +kernel
theorem dX4_keep_30 : decode cX4_keep 30 = .ok (.goto 4, 3) := by decide +kernel
theorem dX4_keep_33 : decode cX4_keep 33 = .ok (.iconst 0, 1) := by decide +kernel
theorem dX4_keep_34 : decode cX4_keep 34 = .ok (.putfield 15, 3) := by decide +kernel
theorem dX4_keep_37 : decode cX4_keep 37 = .ok (.aload_n 0, 1) := by decide +kernel
theorem dX4_keep_38 : decode cX4_keep 38 = .ok (.aload_n 0, 1) := by decide +kernel
theorem dX4_keep_39 : decode cX4_keep 39 = .ok (.getfield 19, 3) := by decide +kernel
theorem dX4_keep_42 : decode cX4_keep 42 = .ok (.iconst 1, 1) := by decide +kernel
theorem dX4_keep_43 : decode cX4_keep 43 = .ok (.iadd, 1) := by decide +kernel
theorem dX4_keep_44 : decode cX4_keep 44 = .ok (.bipush 20, 2) := by decide +kernel
theorem dX4_keep_46 : decode cX4_keep 46 = .ok (.invokestatic 26, 3) := by decide +kernel
theorem dX4_keep_49 : decode cX4_keep 49 = .ok (.putfield 19, 3) := by decide +kernel
theorem dX4_keep_52 : decode cX4_keep 52 = .ok (.return_, 1) := by decide +kernel
theorem dX4_takeBack_0 : decode cX4_takeBack 0 = .ok (.aload_n 0, 1) := by decide +kernel
theorem dX4_takeBack_1 : decode cX4_takeBack 1 = .ok (.getfield 19, 3) := by decide +kernel
theorem dX4_takeBack_4 : decode cX4_takeBack 4 = .ok (.ifCond .le 47, 3) := by decide +kernel
theorem dX4_takeBack_7 : decode cX4_takeBack 7 = .ok (.aload_n 0, 1) := by decide +kernel
theorem dX4_takeBack_8 : decode cX4_takeBack 8 = .ok (.aload_n 0, 1) := by decide +kernel
theorem dX4_takeBack_9 : decode cX4_takeBack 9 = .ok (.getfield 15, 3) := by decide +kernel
theorem dX4_takeBack_12 : decode cX4_takeBack 12 = .ok (.ifCond .le 12, 3) := by decide +kernel
theorem dX4_takeBack_15 : decode cX4_takeBack 15 = .ok (.aload_n 0, 1) := by decide +kernel
theorem dX4_takeBack_16 : decode cX4_takeBack 16 = .ok (.getfield 15, 3) := by decide +kernel
theorem dX4_takeBack_19 : decode cX4_takeBack 19 = .ok (.iconst 1, 1) := by decide +kernel
theorem dX4_takeBack_20 : decode cX4_takeBack 20 = .ok (.isub, 1) := by decide +kernel
theorem dX4_takeBack_21 : decode cX4_takeBack 21 = .ok (.goto 5, 3) := by decide +kernel
theorem dX4_takeBack_24 : decode cX4_takeBack 24 = .ok (.bipush 19, 2) := by decide +kernel
theorem dX4_takeBack_26 : decode cX4_takeBack 26 = .ok (.putfield 15, 3) := by decide +kernel
theorem dX4_takeBack_29 : decode cX4_takeBack 29 = .ok (.aload_n 0, 1) := by decide +kernel
theorem dX4_takeBack_30 : decode cX4_takeBack 30 = .ok (.dup, 1) := by decide +kernel
theorem dX4_takeBack_31 : decode cX4_takeBack 31 = .ok (.getfield 19, 3) := by decide +kernel
theorem dX4_takeBack_34 : decode cX4_takeBack 34 = .ok (.iconst 1, 1) := by decide +kernel
theorem dX4_takeBack_35 : decode cX4_takeBack 35 = .ok (.isub, 1) := by decide +kernel
theorem dX4_takeBack_36 : decode cX4_takeBack 36 = .ok (.putfield 19, 3) := by decide +kernel
theorem dX4_takeBack_39 : decode cX4_takeBack 39 = .ok (.aload_n 1, 1) := by decide +kernel
theorem dX4_takeBack_40 : decode cX4_takeBack 40 = .ok (.aload_n 0, 1) := by decide +kernel
theorem dX4_takeBack_41 : decode cX4_takeBack 41 = .ok (.getfield 11, 3) := by decide +kernel
theorem dX4_takeBack_44 : decode cX4_takeBack 44 = .ok (.aload_n 0, 1) := by decide +kernel
theorem dX4_takeBack_45 : decode cX4_takeBack 45 = .ok (.getfield 15, 3) := by decide +kernel
theorem dX4_takeBack_48 : decode cX4_takeBack 48 = .ok (.invokevirtual 32, 3) := by decide +kernel
theorem dX4_takeBack_51 : decode cX4_takeBack 51 = .ok (.return_, 1) := by decide +kernel
theorem dX5_init_0 : decode cX5_init 0 = .ok (.aload_n 0, 1) := by decide +kernel
theorem dX5_init_1 : decode cX5_init 1 = .ok (.invokespecial 1, 3) := by decide +kernel
theorem dX5_init_4 : decode cX5_init 4 = .ok (.aload_n 0, 1) := by decide +kernel
theorem dX5_init_5 : decode cX5_init 5 = .ok (.new 7, 3) := by decide +kernel
theorem dX5_init_8 : decode cX5_init 8 = .ok (.dup, 1) := by decide +kernel
theorem dX5_init_9 : decode cX5_init 9 = .ok (.invokespecial 9, 3) := by decide +kernel
theorem dX5_init_12 : decode cX5_init 12 = .ok (.putfield 10, 3) := by decide +kernel
theorem dX5_init_15 : decode cX5_init 15 = .ok (.aload_n 0, 1) := by decide +kernel
theorem dX5_init_16 : decode cX5_init 16 = .ok (.iconst 0, 1) := by decide +kernel
theorem dX5_init_17 : decode cX5_init 17 = .ok (.putfield 16, 3) := by decide +kernel
theorem dX5_init_20 : decode cX5_init 20 = .ok (.aload_n 0, 1) := by decide +kernel
theorem dX5_init_21 : decode cX5_init 21 = .ok (.iconst 0, 1) := by decide +kernel
theorem dX5_init_22 : decode cX5_init 22 = .ok (.putfield 20, 3) := by decide +kernel
theorem dX5_init_25 : decode cX5_init 25 = .ok (.aload_n 0, 1) := by decide +kernel
theorem dX5_init_26 : decode cX5_init 26 = .ok (.iconst 0, 1) := by decide +kernel
theorem dX5_init_27 : decode cX5_init 27 = .ok (.putfield 23, 3) := by decide +kernel
theorem dX5_init_30 : decode cX5_init 30 = .ok (.aload_n 0, 1) := by decide +kernel
theorem dX5_init_31 : decode cX5_init 31 = .ok (.iconst 0, 1) := by decide +kernel
theorem dX5_init_32 : decode cX5_init 32 = .ok (.putfield 26, 3) := by decide +kernel
theorem dX5_init_35 : decode cX5_init 35 = .ok (.aload_n 0, 1) := by decide +kernel
theorem dX5_init_36 : decode cX5_init 36 = .ok (.aload_n 1, 1) := by decide +kernel
theorem dX5_init_37 : decode cX5_init 37 = .ok (.putfield 29, 3) := by decide +kernel
theorem dX5_init_40 : decode cX5_init 40 = .ok (.return_, 1) := by decide +kernel
theorem dX5_readTape_0 : decode cX5_readTape 0 = .ok (.aload_n 0, 1) := by decide +kernel
theorem dX5_readTape_1 : decode cX5_readTape 1 = .ok (.iconst 0, 1) := by decide +kernel
theorem dX5_readTape_2 : decode cX5_readTape 2 = .ok (.putfield 23, 3) := by decide +kernel
theorem dX5_readTape_5 : decode cX5_readTape 5 = .ok (.aload_n 0, 1) := by decide +kernel
theorem dX5_readTape_6 : decode cX5_readTape 6 = .ok (.iconst 0, 1) := by decide +kernel
theorem dX5_readTape_7 : decode cX5_readTape 7 = .ok (.putfield 16, 3) := by decide +kernel
theorem dX5_readTape_10 : decode cX5_readTape 10 = .ok (.aload_n 0, 1) := by decide +kernel
theorem dX5_readTape_11 : decode cX5_readTape 11 = .ok (.iconst 0, 1) := by decide +kernel
theorem dX5_readTape_12 : decode cX5_readTape 12 = .ok (.putfield 20, 3) := by decide +kernel
theorem dX5_readTape_15 : decode cX5_readTape 15 = .ok (.aload_n 0, 1) := by decide +kernel
theorem dX5_readTape_16 : decode cX5_readTape 16 = .ok (.getfield 10, 3) := by decide +kernel
theorem dX5_readTape_19 : decode cX5_readTape 19 = .ok (.iconst 0, 1) := by decide +kernel
theorem dX5_readTape_20 : decode cX5_readTape 20 = .ok (.invokevirtual 33, 3) := by decide +kernel
theorem dX5_readTape_23 : decode cX5_readTape 23 = .ok (.aload_n 0, 1) := by decide +kernel
theorem dX5_readTape_24 : decode cX5_readTape 24 = .ok (.getfield 10, 3) := by decide +kernel
theorem dX5_readTape_27 : decode cX5_readTape 27 = .ok (.iconst 0, 1) := by decide +kernel
theorem dX5_readTape_28 : decode cX5_readTape 28 = .ok (.invokevirtual 37, 3) := by decide +kernel
theorem dX5_readTape_31 : decode cX5_readTape 31 = .ok (.aload_n 0, 1) := by decide +kernel
theorem dX5_readTape_32 : decode cX5_readTape 32 = .ok (.getfield 10, 3) := by decide +kernel
theorem dX5_readTape_35 : decode cX5_readTape 35 = .ok (.iconst 0, 1) := by decide +kernel
theorem dX5_readTape_36 : decode cX5_readTape 36 = .ok (.invokevirtual 40, 3) := by decide +kernel
theorem dX5_readTape_39 : decode cX5_readTape 39 = .ok (.aload_n 0, 1) := by decide +kernel
theorem dX5_readTape_40 : decode cX5_readTape 40 = .ok (.invokevirtual 43, 3) := by decide +kernel
theorem dX5_readTape_43 : decode cX5_readTape 43 = .ok (.ifCond .eq 35, 3) := by decide +kernel
theorem dX5_readTape_46 : decode cX5_readTape 46 = .ok (.aload_n 0, 1) := by decide +kernel
theorem dX5_readTape_47 : decode cX5_readTape 47 = .ok (.invokevirtual 47, 3) := by decide +kernel
theorem dX5_readTape_50 : decode cX5_readTape 50 = .ok (.ifCond .eq 28, 3) := by decide +kernel
theorem dX5_readTape_53 : decode cX5_readTape 53 = .ok (.aload_n 0, 1) := by decide +kernel
theorem dX5_readTape_54 : decode cX5_readTape 54 = .ok (.invokevirtual 50, 3) := by decide +kernel
theorem dX5_readTape_57 : decode cX5_readTape 57 = .ok (.ifCond .eq 21, 3) := by decide +kernel
theorem dX5_readTape_60 : decode cX5_readTape 60 = .ok (.aload_n 0, 1) := by decide +kernel
theorem dX5_readTape_61 : decode cX5_readTape 61 = .ok (.invokevirtual 53, 3) := by decide +kernel
theorem dX5_readTape_64 : decode cX5_readTape 64 = .ok (.ifCond .eq 14, 3) := by decide +kernel
theorem dX5_readTape_67 : decode cX5_readTape 67 = .ok (.aload_n 0, 1) := by decide +kernel
theorem dX5_readTape_68 : decode cX5_readTape 68 = .ok (.invokevirtual 56, 3) := by decide +kernel
theorem dX5_readTape_71 : decode cX5_readTape 71 = .ok (.ifCond .eq 7, 3) := by decide +kernel
theorem dX5_readTape_74 : decode cX5_readTape 74 = .ok (.iconst 1, 1) := by decide +kernel
theorem dX5_readTape_75 : decode cX5_readTape 75 = .ok (.goto 4, 3) := by decide +kernel
theorem dX5_readTape_78 : decode cX5_readTape 78 = .ok (.iconst 0, 1) := by decide +kernel
theorem dX5_readTape_79 : decode cX5_readTape 79 = .ok (.ireturn, 1) := by decide +kernel
theorem dX5_readShip_0 : decode cX5_readShip 0 = .ok (.aload_n 0, 1) := by decide +kernel
theorem dX5_readShip_1 : decode cX5_readShip 1 = .ok (.bipush 104, 2) := by decide +kernel
theorem dX5_readShip_3 : decode cX5_readShip 3 = .ok (.invokevirtual 59, 3) := by decide +kernel
theorem dX5_readShip_6 : decode cX5_readShip 6 = .ok (.ifCond .eq 64, 3) := by decide +kernel
theorem dX5_readShip_9 : decode cX5_readShip 9 = .ok (.aload_n 0, 1) := by decide +kernel
theorem dX5_readShip_10 : decode cX5_readShip 10 = .ok (.iconst 0, 1) := by decide +kernel
theorem dX5_readShip_11 : decode cX5_readShip 11 = .ok (.bipush 20, 2) := by decide +kernel
theorem dX5_readShip_13 : decode cX5_readShip 13 = .ok (.invokevirtual 63, 3) := by decide +kernel
theorem dX5_readShip_16 : decode cX5_readShip 16 = .ok (.ifCond .eq 54, 3) := by decide +kernel
theorem dX5_readShip_19 : decode cX5_readShip 19 = .ok (.aload_n 0, 1) := by decide +kernel
theorem dX5_readShip_20 : decode cX5_readShip 20 = .ok (.bipush 44, 2) := by decide +kernel
theorem dX5_readShip_22 : decode cX5_readShip 22 = .ok (.invokevirtual 59, 3) := by decide +kernel
theorem dX5_readShip_25 : decode cX5_readShip 25 = .ok (.ifCond .eq 45, 3) := by decide +kernel
theorem dX5_readShip_28 : decode cX5_readShip 28 = .ok (.aload_n 0, 1) := by decide +kernel
theorem dX5_readShip_29 : decode cX5_readShip 29 = .ok (.iconst 1, 1) := by decide +kernel
theorem dX5_readShip_30 : decode cX5_readShip 30 = .ok (.bipush 60, 2) := by decide +kernel
theorem dX5_readShip_32 : decode cX5_readShip 32 = .ok (.invokevirtual 63, 3) := by decide +kernel
theorem dX5_readShip_35 : decode cX5_readShip 35 = .ok (.ifCond .eq 35, 3) := by decide +kernel
theorem dX5_readShip_38 : decode cX5_readShip 38 = .ok (.aload_n 0, 1) := by decide +kernel
theorem dX5_readShip_39 : decode cX5_readShip 39 = .ok (.bipush 44, 2) := by decide +kernel
theorem dX5_readShip_41 : decode cX5_readShip 41 = .ok (.invokevirtual 59, 3) := by decide +kernel
theorem dX5_readShip_44 : decode cX5_readShip 44 = .ok (.ifCond .eq 26, 3) := by decide +kernel
theorem dX5_readShip_47 : decode cX5_readShip 47 = .ok (.aload_n 0, 1) := by decide +kernel
theorem dX5_readShip_48 : decode cX5_readShip 48 = .ok (.iconst 2, 1) := by decide +kernel
theorem dX5_readShip_49 : decode cX5_readShip 49 = .ok (.bipush 60, 2) := by decide +kernel
theorem dX5_readShip_51 : decode cX5_readShip 51 = .ok (.invokevirtual 63, 3) := by decide +kernel
theorem dX5_readShip_54 : decode cX5_readShip 54 = .ok (.ifCond .eq 16, 3) := by decide +kernel
theorem dX5_readShip_57 : decode cX5_readShip 57 = .ok (.aload_n 0, 1) := by decide +kernel
theorem dX5_readShip_58 : decode cX5_readShip 58 = .ok (.bipush 59, 2) := by decide +kernel
theorem dX5_readShip_60 : decode cX5_readShip 60 = .ok (.invokevirtual 59, 3) := by decide +kernel
theorem dX5_readShip_63 : decode cX5_readShip 63 = .ok (.ifCond .eq 7, 3) := by decide +kernel
theorem dX5_readShip_66 : decode cX5_readShip 66 = .ok (.iconst 1, 1) := by decide +kernel
theorem dX5_readShip_67 : decode cX5_readShip 67 = .ok (.goto 4, 3) := by decide +kernel
theorem dX5_readShip_70 : decode cX5_readShip 70 = .ok (.iconst 0, 1) := by decide +kernel
theorem dX5_readShip_71 : decode cX5_readShip 71 = .ok (.ireturn, 1) := by decide +kernel
theorem dX5_readTide_0 : decode cX5_readTide 0 = .ok (.aload_n 0, 1) := by decide +kernel
theorem dX5_readTide_1 : decode cX5_readTide 1 = .ok (.bipush 116, 2) := by decide +kernel
theorem dX5_readTide_3 : decode cX5_readTide 3 = .ok (.invokevirtual 59, 3) := by decide +kernel
theorem dX5_readTide_6 : decode cX5_readTide 6 = .ok (.ifCond .ne 5, 3) := by decide +kernel
theorem dX5_readTide_9 : decode cX5_readTide 9 = .ok (.iconst 0, 1) := by decide +kernel
theorem dX5_readTide_10 : decode cX5_readTide 10 = .ok (.ireturn, 1) := by decide +kernel
theorem dX5_readTide_11 : decode cX5_readTide 11 = .ok (.iconst 1, 1) := by decide +kernel
theorem dX5_readTide_12 : decode cX5_readTide 12 = .ok (.istore_n 1, 1) := by decide +kernel
theorem dX5_readTide_13 : decode cX5_readTide 13 = .ok (.iconst 0, 1) := by decide +kernel
theorem dX5_readTide_14 : decode cX5_readTide 14 = .ok (.istore_n 2, 1) := by decide +kernel
theorem dX5_readTide_15 : decode cX5_readTide 15 = .ok (.iload_n 2, 1) := by decide +kernel
theorem dX5_readTide_16 : decode cX5_readTide 16 = .ok (.bipush 6, 2) := by decide +kernel
theorem dX5_readTide_18 : decode cX5_readTide 18 = .ok (.if_icmp .ge 92, 3) := by decide +kernel
theorem dX5_readTide_21 : decode cX5_readTide 21 = .ok (.iload_n 1, 1) := by decide +kernel
theorem dX5_readTide_22 : decode cX5_readTide 22 = .ok (.ifCond .eq 88, 3) := by decide +kernel
theorem dX5_readTide_25 : decode cX5_readTide 25 = .ok (.aload_n 0, 1) := by decide +kernel
theorem dX5_readTide_26 : decode cX5_readTide 26 = .ok (.iconst 0, 1) := by decide +kernel
theorem dX5_readTide_27 : decode cX5_readTide 27 = .ok (.bipush 20, 2) := by decide +kernel
theorem dX5_readTide_29 : decode cX5_readTide 29 = .ok (.invokevirtual 67, 3) := by decide +kernel
theorem dX5_readTide_32 : decode cX5_readTide 32 = .ok (.ifCond .ne 5, 3) := by decide +kernel
theorem dX5_readTide_35 : decode cX5_readTide 35 = .ok (.iconst 0, 1) := by decide +kernel
theorem dX5_readTide_36 : decode cX5_readTide 36 = .ok (.ireturn, 1) := by decide +kernel
theorem dX5_readTide_37 : decode cX5_readTide 37 = .ok (.aload_n 0, 1) := by decide +kernel
theorem dX5_readTide_38 : decode cX5_readTide 38 = .ok (.getfield 10, 3) := by decide +kernel
theorem dX5_readTide_41 : decode cX5_readTide 41 = .ok (.iload_n 2, 1) := by decide +kernel
theorem dX5_readTide_42 : decode cX5_readTide 42 = .ok (.aload_n 0, 1) := by decide +kernel
theorem dX5_readTide_43 : decode cX5_readTide 43 = .ok (.getfield 26, 3) := by decide +kernel
theorem dX5_readTide_46 : decode cX5_readTide 46 = .ok (.invokevirtual 70, 3) := by decide +kernel
theorem dX5_readTide_49 : decode cX5_readTide 49 = .ok (.pop, 1) := by decide +kernel
theorem dX5_readTide_50 : decode cX5_readTide 50 = .ok (.aload_n 0, 1) := by decide +kernel
theorem dX5_readTide_51 : decode cX5_readTide 51 = .ok (.getfield 10, 3) := by decide +kernel
theorem dX5_readTide_54 : decode cX5_readTide 54 = .ok (.iload_n 2, 1) := by decide +kernel
theorem dX5_readTide_55 : decode cX5_readTide 55 = .ok (.iconst 1, 1) := by decide +kernel
theorem dX5_readTide_56 : decode cX5_readTide 56 = .ok (.iadd, 1) := by decide +kernel
theorem dX5_readTide_57 : decode cX5_readTide 57 = .ok (.invokevirtual 33, 3) := by decide +kernel
theorem dX5_readTide_60 : decode cX5_readTide 60 = .ok (.iload_n 2, 1) := by decide +kernel
theorem dX5_readTide_61 : decode cX5_readTide 61 = .ok (.iconst 1, 1) := by decide +kernel
theorem dX5_readTide_62 : decode cX5_readTide 62 = .ok (.iadd, 1) := by decide +kernel
theorem dX5_readTide_63 : decode cX5_readTide 63 = .ok (.bipush 6, 2) := by decide +kernel
theorem dX5_readTide_65 : decode cX5_readTide 65 = .ok (.if_icmp .ge 23, 3) := by decide +kernel
theorem dX5_readTide_68 : decode cX5_readTide 68 = .ok (.aload_n 0, 1) := by decide +kernel
theorem dX5_readTide_69 : decode cX5_readTide 69 = .ok (.getfield 29, 3) := by decide +kernel
theorem dX5_readTide_72 : decode cX5_readTide 72 = .ok (.aload_n 0, 1) := by decide +kernel
theorem dX5_readTide_73 : decode cX5_readTide 73 = .ok (.getfield 23, 3) := by decide +kernel
theorem dX5_readTide_76 : decode cX5_readTide 76 = .ok (.invokevirtual 74, 3) := by decide +kernel
theorem dX5_readTide_79 : decode cX5_readTide 79 = .ok (.bipush 44, 2) := by decide +kernel
theorem dX5_readTide_81 : decode cX5_readTide 81 = .ok (.if_icmp .ne 7, 3) := by decide +kernel
theorem dX5_readTide_84 : decode cX5_readTide 84 = .ok (.iconst 1, 1) := by decide +kernel
theorem dX5_readTide_85 : decode cX5_readTide 85 = .ok (.goto 4, 3) := by decide +kernel
theorem dX5_readTide_88 : decode cX5_readTide 88 = .ok (.iconst 0, 1) := by decide +kernel
theorem dX5_readTide_89 : decode cX5_readTide 89 = .ok (.istore_n 1, 1) := by decide +kernel
theorem dX5_readTide_90 : decode cX5_readTide 90 = .ok (.iload_n 1, 1) := by decide +kernel
theorem dX5_readTide_91 : decode cX5_readTide 91 = .ok (.ifCond .eq 13, 3) := by decide +kernel
theorem dX5_readTide_94 : decode cX5_readTide 94 = .ok (.aload_n 0, 1) := by decide +kernel
theorem dX5_readTide_95 : decode cX5_readTide 95 = .ok (.dup, 1) := by decide +kernel
theorem dX5_readTide_96 : decode cX5_readTide 96 = .ok (.getfield 23, 3) := by decide +kernel
theorem dX5_readTide_99 : decode cX5_readTide 99 = .ok (.iconst 1, 1) := by decide +kernel
theorem dX5_readTide_100 : decode cX5_readTide 100 = .ok (.iadd, 1) := by decide +kernel
theorem dX5_readTide_101 : decode cX5_readTide 101 = .ok (.putfield 23, 3) := by decide +kernel
theorem dX5_readTide_104 : decode cX5_readTide 104 = .ok (.iinc 2 1, 3) := by decide +kernel
theorem dX5_readTide_107 : decode cX5_readTide 107 = .ok (.goto (-92), 3) := by decide +kernel
theorem dX5_readTide_110 : decode cX5_readTide 110 = .ok (.aload_n 0, 1) := by decide +kernel
theorem dX5_readTide_111 : decode cX5_readTide 111 = .ok (.bipush 59, 2) := by decide +kernel
theorem dX5_readTide_113 : decode cX5_readTide 113 = .ok (.invokevirtual 59, 3) := by decide +kernel
theorem dX5_readTide_116 : decode cX5_readTide 116 = .ok (.ireturn, 1) := by decide +kernel
theorem dX5_readHarbour_0 : decode cX5_readHarbour 0 = .ok (.aload_n 0, 1) := by decide +kernel
theorem dX5_readHarbour_1 : decode cX5_readHarbour 1 = .ok (.bipush 122, 2) := by decide +kernel
theorem dX5_readHarbour_3 : decode cX5_readHarbour 3 = .ok (.invokevirtual 59, 3) := by decide +kernel
theorem dX5_readHarbour_6 : decode cX5_readHarbour 6 = .ok (.ifCond .eq 45, 3) := by decide +kernel
theorem dX5_readHarbour_9 : decode cX5_readHarbour 9 = .ok (.aload_n 0, 1) := by decide +kernel
theorem dX5_readHarbour_10 : decode cX5_readHarbour 10 = .ok (.iconst 3, 1) := by decide +kernel
theorem dX5_readHarbour_11 : decode cX5_readHarbour 11 = .ok (.bipush 60, 2) := by decide +kernel
theorem dX5_readHarbour_13 : decode cX5_readHarbour 13 = .ok (.invokevirtual 63, 3) := by decide +kernel
theorem dX5_readHarbour_16 : decode cX5_readHarbour 16 = .ok (.ifCond .eq 35, 3) := by decide +kernel
theorem dX5_readHarbour_19 : decode cX5_readHarbour 19 = .ok (.aload_n 0, 1) := by decide +kernel
theorem dX5_readHarbour_20 : decode cX5_readHarbour 20 = .ok (.bipush 44, 2) := by decide +kernel
theorem dX5_readHarbour_22 : decode cX5_readHarbour 22 = .ok (.invokevirtual 59, 3) := by decide +kernel
theorem dX5_readHarbour_25 : decode cX5_readHarbour 25 = .ok (.ifCond .eq 26, 3) := by decide +kernel
theorem dX5_readHarbour_28 : decode cX5_readHarbour 28 = .ok (.aload_n 0, 1) := by decide +kernel
theorem dX5_readHarbour_29 : decode cX5_readHarbour 29 = .ok (.iconst 4, 1) := by decide +kernel
theorem dX5_readHarbour_30 : decode cX5_readHarbour 30 = .ok (.bipush 60, 2) := by decide +kernel
theorem dX5_readHarbour_32 : decode cX5_readHarbour 32 = .ok (.invokevirtual 63, 3) := by decide +kernel
theorem dX5_readHarbour_35 : decode cX5_readHarbour 35 = .ok (.ifCond .eq 16, 3) := by decide +kernel
theorem dX5_readHarbour_38 : decode cX5_readHarbour 38 = .ok (.aload_n 0, 1) := by decide +kernel
theorem dX5_readHarbour_39 : decode cX5_readHarbour 39 = .ok (.bipush 59, 2) := by decide +kernel
theorem dX5_readHarbour_41 : decode cX5_readHarbour 41 = .ok (.invokevirtual 59, 3) := by decide +kernel
theorem dX5_readHarbour_44 : decode cX5_readHarbour 44 = .ok (.ifCond .eq 7, 3) := by decide +kernel
theorem dX5_readHarbour_47 : decode cX5_readHarbour 47 = .ok (.iconst 1, 1) := by decide +kernel
theorem dX5_readHarbour_48 : decode cX5_readHarbour 48 = .ok (.goto 4, 3) := by decide +kernel
theorem dX5_readHarbour_51 : decode cX5_readHarbour 51 = .ok (.iconst 0, 1) := by decide +kernel
theorem dX5_readHarbour_52 : decode cX5_readHarbour 52 = .ok (.ireturn, 1) := by decide +kernel
theorem dX5_readThings_0 : decode cX5_readThings 0 = .ok (.iconst 0, 1) := by decide +kernel
theorem dX5_readThings_1 : decode cX5_readThings 1 = .ok (.istore_n 1, 1) := by decide +kernel
theorem dX5_readThings_2 : decode cX5_readThings 2 = .ok (.iload_n 1, 1) := by decide +kernel
theorem dX5_readThings_3 : decode cX5_readThings 3 = .ok (.bipush 8, 2) := by decide +kernel
theorem dX5_readThings_5 : decode cX5_readThings 5 = .ok (.if_icmp .gt 77, 3) := by decide +kernel
theorem dX5_readThings_8 : decode cX5_readThings 8 = .ok (.iconst 1, 1) := by decide +kernel
theorem dX5_readThings_9 : decode cX5_readThings 9 = .ok (.aload_n 0, 1) := by decide +kernel
theorem dX5_readThings_10 : decode cX5_readThings 10 = .ok (.ldc 80, 2) := by decide +kernel
theorem dX5_readThings_12 : decode cX5_readThings 12 = .ok (.invokevirtual 82, 3) := by decide +kernel
theorem dX5_readThings_15 : decode cX5_readThings 15 = .ok (.iadd, 1) := by decide +kernel
theorem dX5_readThings_16 : decode cX5_readThings 16 = .ok (.istore_n 2, 1) := by decide +kernel
theorem dX5_readThings_17 : decode cX5_readThings 17 = .ok (.iload_n 2, 1) := by decide +kernel
theorem dX5_readThings_18 : decode cX5_readThings 18 = .ok (.ifCond .ne 5, 3) := by decide +kernel
theorem dX5_readThings_21 : decode cX5_readThings 21 = .ok (.iconst 1, 1) := by decide +kernel
theorem dX5_readThings_22 : decode cX5_readThings 22 = .ok (.ireturn, 1) := by decide +kernel
theorem dX5_readThings_23 : decode cX5_readThings 23 = .ok (.iload_n 1, 1) := by decide +kernel
theorem dX5_readThings_24 : decode cX5_readThings 24 = .ok (.bipush 8, 2) := by decide +kernel
theorem dX5_readThings_26 : decode cX5_readThings 26 = .ok (.if_icmp .ne 9, 3) := by decide +kernel
theorem dX5_readThings_29 : decode cX5_readThings 29 = .ok (.aload_n 0, 1) := by decide +kernel
theorem dX5_readThings_30 : decode cX5_readThings 30 = .ok (.iconst 3, 1) := by decide +kernel
theorem dX5_readThings_31 : decode cX5_readThings 31 = .ok (.invokevirtual 86, 3) := by decide +kernel
theorem dX5_readThings_34 : decode cX5_readThings 34 = .ok (.ireturn, 1) := by decide +kernel
theorem dX5_readThings_35 : decode cX5_readThings 35 = .ok (.aload_n 0, 1) := by decide +kernel
theorem dX5_readThings_36 : decode cX5_readThings 36 = .ok (.dup, 1) := by decide +kernel
theorem dX5_readThings_37 : decode cX5_readThings 37 = .ok (.getfield 23, 3) := by decide +kernel
theorem dX5_readThings_40 : decode cX5_readThings 40 = .ok (.iconst 1, 1) := by decide +kernel
theorem dX5_readThings_41 : decode cX5_readThings 41 = .ok (.iadd, 1) := by decide +kernel
theorem dX5_readThings_42 : decode cX5_readThings 42 = .ok (.putfield 23, 3) := by decide +kernel
theorem dX5_readThings_45 : decode cX5_readThings 45 = .ok (.aload_n 0, 1) := by decide +kernel
theorem dX5_readThings_46 : decode cX5_readThings 46 = .ok (.getfield 10, 3) := by decide +kernel
theorem dX5_readThings_49 : decode cX5_readThings 49 = .ok (.iload_n 1, 1) := by decide +kernel
theorem dX5_readThings_50 : decode cX5_readThings 50 = .ok (.iconst 0, 1) := by decide +kernel
theorem dX5_readThings_51 : decode cX5_readThings 51 = .ok (.iload_n 2, 1) := by decide +kernel
theorem dX5_readThings_52 : decode cX5_readThings 52 = .ok (.invokevirtual 90, 3) := by decide +kernel
theorem dX5_readThings_55 : decode cX5_readThings 55 = .ok (.pop, 1) := by decide +kernel
theorem dX5_readThings_56 : decode cX5_readThings 56 = .ok (.aload_n 0, 1) := by decide +kernel
theorem dX5_readThings_57 : decode cX5_readThings 57 = .ok (.iload_n 1, 1) := by decide +kernel
theorem dX5_readThings_58 : decode cX5_readThings 58 = .ok (.invokevirtual 94, 3) := by decide +kernel
theorem dX5_readThings_61 : decode cX5_readThings 61 = .ok (.ifCond .ne 5, 3) := by decide +kernel
theorem dX5_readThings_64 : decode cX5_readThings 64 = .ok (.iconst 0, 1) := by decide +kernel
theorem dX5_readThings_65 : decode cX5_readThings 65 = .ok (.ireturn, 1) := by decide +kernel
theorem dX5_readThings_66 : decode cX5_readThings 66 = .ok (.aload_n 0, 1) := by decide +kernel
theorem dX5_readThings_67 : decode cX5_readThings 67 = .ok (.getfield 10, 3) := by decide +kernel
theorem dX5_readThings_70 : decode cX5_readThings 70 = .ok (.iload_n 1, 1) := by decide +kernel
theorem dX5_readThings_71 : decode cX5_readThings 71 = .ok (.iconst 1, 1) := by decide +kernel
theorem dX5_readThings_72 : decode cX5_readThings 72 = .ok (.iadd, 1) := by decide +kernel
theorem dX5_readThings_73 : decode cX5_readThings 73 = .ok (.invokevirtual 37, 3) := by decide +kernel
theorem dX5_readThings_76 : decode cX5_readThings 76 = .ok (.iinc 1 1, 3) := by decide +kernel
theorem dX5_readThings_79 : decode cX5_readThings 79 = .ok (.goto (-77), 3) := by decide +kernel
theorem dX5_readThings_82 : decode cX5_readThings 82 = .ok (.iconst 1, 1) := by decide +kernel
theorem dX5_readThings_83 : decode cX5_readThings 83 = .ok (.ireturn, 1) := by decide +kernel
theorem dX5_readMeasures_0 : decode cX5_readMeasures 0 = .ok (.iconst 0, 1) := by decide +kernel
theorem dX5_readMeasures_1 : decode cX5_readMeasures 1 = .ok (.istore_n 2, 1) := by decide +kernel
theorem dX5_readMeasures_2 : decode cX5_readMeasures 2 = .ok (.iload_n 2, 1) := by decide +kernel
theorem dX5_readMeasures_3 : decode cX5_readMeasures 3 = .ok (.iconst 4, 1) := by decide +kernel
theorem dX5_readMeasures_4 : decode cX5_readMeasures 4 = .ok (.if_icmp .ge 54, 3) := by decide +kernel
theorem dX5_readMeasures_7 : decode cX5_readMeasures 7 = .ok (.iload_n 2, 1) := by decide +kernel
theorem dX5_readMeasures_8 : decode cX5_readMeasures 8 = .ok (.ifCond .le 14, 3) := by decide +kernel
theorem dX5_readMeasures_11 : decode cX5_readMeasures 11 = .ok (.aload_n 0, 1) := by decide +kernel
theorem dX5_readMeasures_12 : decode cX5_readMeasures 12 = .ok (.bipush 44, 2) := by decide +kernel
theorem dX5_readMeasures_14 : decode cX5_readMeasures 14 = .ok (.invokevirtual 59, 3) := by decide +kernel
theorem dX5_readMeasures_17 : decode cX5_readMeasures 17 = .ok (.ifCond .ne 5, 3) := by decide +kernel
theorem dX5_readMeasures_20 : decode cX5_readMeasures 20 = .ok (.iconst 0, 1) := by decide +kernel
theorem dX5_readMeasures_21 : decode cX5_readMeasures 21 = .ok (.ireturn, 1) := by decide +kernel
theorem dX5_readMeasures_22 : decode cX5_readMeasures 22 = .ok (.aload_n 0, 1) := by decide +kernel
theorem dX5_readMeasures_23 : decode cX5_readMeasures 23 = .ok (.iconst 0, 1) := by decide +kernel
theorem dX5_readMeasures_24 : decode cX5_readMeasures 24 = .ok (.iload_n 2, 1) := by decide +kernel
theorem dX5_readMeasures_25 : decode cX5_readMeasures 25 = .ok (.invokestatic 97, 3) := by decide +kernel
theorem dX5_readMeasures_28 : decode cX5_readMeasures 28 = .ok (.invokevirtual 67, 3) := by decide +kernel
theorem dX5_readMeasures_31 : decode cX5_readMeasures 31 = .ok (.ifCond .ne 5, 3) := by decide +kernel
theorem dX5_readMeasures_34 : decode cX5_readMeasures 34 = .ok (.iconst 0, 1) := by decide +kernel
theorem dX5_readMeasures_35 : decode cX5_readMeasures 35 = .ok (.ireturn, 1) := by decide +kernel
theorem dX5_readMeasures_36 : decode cX5_readMeasures 36 = .ok (.aload_n 0, 1) := by decide +kernel
theorem dX5_readMeasures_37 : decode cX5_readMeasures 37 = .ok (.getfield 10, 3) := by decide +kernel
theorem dX5_readMeasures_40 : decode cX5_readMeasures 40 = .ok (.iload_n 1, 1) := by decide +kernel
theorem dX5_readMeasures_41 : decode cX5_readMeasures 41 = .ok (.iconst 1, 1) := by decide +kernel
theorem dX5_readMeasures_42 : decode cX5_readMeasures 42 = .ok (.iload_n 2, 1) := by decide +kernel
theorem dX5_readMeasures_43 : decode cX5_readMeasures 43 = .ok (.iadd, 1) := by decide +kernel
theorem dX5_readMeasures_44 : decode cX5_readMeasures 44 = .ok (.aload_n 0, 1) := by decide +kernel
theorem dX5_readMeasures_45 : decode cX5_readMeasures 45 = .ok (.getfield 26, 3) := by decide +kernel
theorem dX5_readMeasures_48 : decode cX5_readMeasures 48 = .ok (.invokevirtual 90, 3) := by decide +kernel
theorem dX5_readMeasures_51 : decode cX5_readMeasures 51 = .ok (.pop, 1) := by decide +kernel
theorem dX5_readMeasures_52 : decode cX5_readMeasures 52 = .ok (.iinc 2 1, 3) := by decide +kernel
theorem dX5_readMeasures_55 : decode cX5_readMeasures 55 = .ok (.goto (-53), 3) := by decide +kernel
theorem dX5_readMeasures_58 : decode cX5_readMeasures 58 = .ok (.aload_n 0, 1) := by decide +kernel
theorem dX5_readMeasures_59 : decode cX5_readMeasures 59 = .ok (.bipush 59, 2) := by decide +kernel
theorem dX5_readMeasures_61 : decode cX5_readMeasures 61 = .ok (.invokevirtual 59, 3) := by decide +kernel
theorem dX5_readMeasures_64 : decode cX5_readMeasures 64 = .ok (.ireturn, 1) := by decide +kernel
theorem dX5_readLegs_0 : decode cX5_readLegs 0 = .ok (.iconst 0, 1) := by decide +kernel
theorem dX5_readLegs_1 : decode cX5_readLegs 1 = .ok (.istore_n 1, 1) := by decide +kernel
theorem dX5_readLegs_2 : decode cX5_readLegs 2 = .ok (.iload_n 1, 1) := by decide +kernel
theorem dX5_readLegs_3 : decode cX5_readLegs 3 = .ok (.bipush 6, 2) := by decide +kernel
theorem dX5_readLegs_5 : decode cX5_readLegs 5 = .ok (.if_icmp .gt 94, 3) := by decide +kernel
theorem dX5_readLegs_8 : decode cX5_readLegs 8 = .ok (.iload_n 1, 1) := by decide +kernel
theorem dX5_readLegs_9 : decode cX5_readLegs 9 = .ok (.ifCond .le 20, 3) := by decide +kernel
theorem dX5_readLegs_12 : decode cX5_readLegs 12 = .ok (.aload_n 0, 1) := by decide +kernel
theorem dX5_readLegs_13 : decode cX5_readLegs 13 = .ok (.getfield 29, 3) := by decide +kernel
theorem dX5_readLegs_16 : decode cX5_readLegs 16 = .ok (.aload_n 0, 1) := by decide +kernel
theorem dX5_readLegs_17 : decode cX5_readLegs 17 = .ok (.getfield 23, 3) := by decide +kernel
theorem dX5_readLegs_20 : decode cX5_readLegs 20 = .ok (.invokevirtual 74, 3) := by decide +kernel
theorem dX5_readLegs_23 : decode cX5_readLegs 23 = .ok (.iconst (-1), 1) := by decide +kernel
theorem dX5_readLegs_24 : decode cX5_readLegs 24 = .ok (.if_icmp .ne 5, 3) := by decide +kernel
theorem dX5_readLegs_27 : decode cX5_readLegs 27 = .ok (.iconst 1, 1) := by decide +kernel
theorem dX5_readLegs_28 : decode cX5_readLegs 28 = .ok (.ireturn, 1) := by decide +kernel
theorem dX5_readLegs_29 : decode cX5_readLegs 29 = .ok (.aload_n 0, 1) := by decide +kernel
theorem dX5_readLegs_30 : decode cX5_readLegs 30 = .ok (.getfield 29, 3) := by decide +kernel
theorem dX5_readLegs_33 : decode cX5_readLegs 33 = .ok (.aload_n 0, 1) := by decide +kernel
theorem dX5_readLegs_34 : decode cX5_readLegs 34 = .ok (.getfield 23, 3) := by decide +kernel
theorem dX5_readLegs_37 : decode cX5_readLegs 37 = .ok (.invokevirtual 74, 3) := by decide +kernel
theorem dX5_readLegs_40 : decode cX5_readLegs 40 = .ok (.bipush 103, 2) := by decide +kernel
theorem dX5_readLegs_42 : decode cX5_readLegs 42 = .ok (.if_icmp .eq 9, 3) := by decide +kernel
theorem dX5_readLegs_45 : decode cX5_readLegs 45 = .ok (.aload_n 0, 1) := by decide +kernel
theorem dX5_readLegs_46 : decode cX5_readLegs 46 = .ok (.iconst 1, 1) := by decide +kernel
theorem dX5_readLegs_47 : decode cX5_readLegs 47 = .ok (.invokevirtual 86, 3) := by decide +kernel
theorem dX5_readLegs_50 : decode cX5_readLegs 50 = .ok (.ireturn, 1) := by decide +kernel
theorem dX5_readLegs_51 : decode cX5_readLegs 51 = .ok (.iload_n 1, 1) := by decide +kernel
theorem dX5_readLegs_52 : decode cX5_readLegs 52 = .ok (.bipush 6, 2) := by decide +kernel
theorem dX5_readLegs_54 : decode cX5_readLegs 54 = .ok (.if_icmp .ne 9, 3) := by decide +kernel
theorem dX5_readLegs_57 : decode cX5_readLegs 57 = .ok (.aload_n 0, 1) := by decide +kernel
theorem dX5_readLegs_58 : decode cX5_readLegs 58 = .ok (.iconst 3, 1) := by decide +kernel
theorem dX5_readLegs_59 : decode cX5_readLegs 59 = .ok (.invokevirtual 86, 3) := by decide +kernel
theorem dX5_readLegs_62 : decode cX5_readLegs 62 = .ok (.ireturn, 1) := by decide +kernel
theorem dX5_readLegs_63 : decode cX5_readLegs 63 = .ok (.aload_n 0, 1) := by decide +kernel
theorem dX5_readLegs_64 : decode cX5_readLegs 64 = .ok (.dup, 1) := by decide +kernel
theorem dX5_readLegs_65 : decode cX5_readLegs 65 = .ok (.getfield 23, 3) := by decide +kernel
theorem dX5_readLegs_68 : decode cX5_readLegs 68 = .ok (.iconst 1, 1) := by decide +kernel
theorem dX5_readLegs_69 : decode cX5_readLegs 69 = .ok (.iadd, 1) := by decide +kernel
theorem dX5_readLegs_70 : decode cX5_readLegs 70 = .ok (.putfield 23, 3) := by decide +kernel
theorem dX5_readLegs_73 : decode cX5_readLegs 73 = .ok (.aload_n 0, 1) := by decide +kernel
theorem dX5_readLegs_74 : decode cX5_readLegs 74 = .ok (.iload_n 1, 1) := by decide +kernel
theorem dX5_readLegs_75 : decode cX5_readLegs 75 = .ok (.invokevirtual 100, 3) := by decide +kernel
theorem dX5_readLegs_78 : decode cX5_readLegs 78 = .ok (.ifCond .ne 5, 3) := by decide +kernel
theorem dX5_readLegs_81 : decode cX5_readLegs 81 = .ok (.iconst 0, 1) := by decide +kernel
theorem dX5_readLegs_82 : decode cX5_readLegs 82 = .ok (.ireturn, 1) := by decide +kernel
theorem dX5_readLegs_83 : decode cX5_readLegs 83 = .ok (.aload_n 0, 1) := by decide +kernel
theorem dX5_readLegs_84 : decode cX5_readLegs 84 = .ok (.getfield 10, 3) := by decide +kernel
theorem dX5_readLegs_87 : decode cX5_readLegs 87 = .ok (.iload_n 1, 1) := by decide +kernel
theorem dX5_readLegs_88 : decode cX5_readLegs 88 = .ok (.iconst 1, 1) := by decide +kernel
theorem dX5_readLegs_89 : decode cX5_readLegs 89 = .ok (.iadd, 1) := by decide +kernel
theorem dX5_readLegs_90 : decode cX5_readLegs 90 = .ok (.invokevirtual 40, 3) := by decide +kernel
theorem dX5_readLegs_93 : decode cX5_readLegs 93 = .ok (.iinc 1 1, 3) := by decide +kernel
theorem dX5_readLegs_96 : decode cX5_readLegs 96 = .ok (.goto (-94), 3) := by decide +kernel
theorem dX5_readLegs_99 : decode cX5_readLegs 99 = .ok (.iconst 1, 1) := by decide +kernel
theorem dX5_readLegs_100 : decode cX5_readLegs 100 = .ok (.ireturn, 1) := by decide +kernel
theorem dX5_readLeg_0 : decode cX5_readLeg 0 = .ok (.aload_n 0, 1) := by decide +kernel
theorem dX5_readLeg_1 : decode cX5_readLeg 1 = .ok (.iconst 0, 1) := by decide +kernel
theorem dX5_readLeg_2 : decode cX5_readLeg 2 = .ok (.bipush 15, 2) := by decide +kernel
theorem dX5_readLeg_4 : decode cX5_readLeg 4 = .ok (.invokevirtual 67, 3) := by decide +kernel
theorem dX5_readLeg_7 : decode cX5_readLeg 7 = .ok (.ifCond .ne 5, 3) := by decide +kernel
theorem dX5_readLeg_10 : decode cX5_readLeg 10 = .ok (.iconst 0, 1) := by decide +kernel
theorem dX5_readLeg_11 : decode cX5_readLeg 11 = .ok (.ireturn, 1) := by decide +kernel
theorem dX5_readLeg_12 : decode cX5_readLeg 12 = .ok (.aload_n 0, 1) := by decide +kernel
theorem dX5_readLeg_13 : decode cX5_readLeg 13 = .ok (.getfield 10, 3) := by decide +kernel
theorem dX5_readLeg_16 : decode cX5_readLeg 16 = .ok (.iload_n 1, 1) := by decide +kernel
theorem dX5_readLeg_17 : decode cX5_readLeg 17 = .ok (.iconst 0, 1) := by decide +kernel
theorem dX5_readLeg_18 : decode cX5_readLeg 18 = .ok (.aload_n 0, 1) := by decide +kernel
theorem dX5_readLeg_19 : decode cX5_readLeg 19 = .ok (.getfield 26, 3) := by decide +kernel
theorem dX5_readLeg_22 : decode cX5_readLeg 22 = .ok (.invokevirtual 105, 3) := by decide +kernel
theorem dX5_readLeg_25 : decode cX5_readLeg 25 = .ok (.pop, 1) := by decide +kernel
theorem dX5_readLeg_26 : decode cX5_readLeg 26 = .ok (.aload_n 0, 1) := by decide +kernel
theorem dX5_readLeg_27 : decode cX5_readLeg 27 = .ok (.ldc 108, 2) := by decide +kernel
theorem dX5_readLeg_29 : decode cX5_readLeg 29 = .ok (.invokevirtual 82, 3) := by decide +kernel
theorem dX5_readLeg_32 : decode cX5_readLeg 32 = .ok (.istore_n 2, 1) := by decide +kernel
theorem dX5_readLeg_33 : decode cX5_readLeg 33 = .ok (.iload_n 2, 1) := by decide +kernel
theorem dX5_readLeg_34 : decode cX5_readLeg 34 = .ok (.ifCond .ge 9, 3) := by decide +kernel
theorem dX5_readLeg_37 : decode cX5_readLeg 37 = .ok (.aload_n 0, 1) := by decide +kernel
theorem dX5_readLeg_38 : decode cX5_readLeg 38 = .ok (.iconst 1, 1) := by decide +kernel
theorem dX5_readLeg_39 : decode cX5_readLeg 39 = .ok (.invokevirtual 86, 3) := by decide +kernel
theorem dX5_readLeg_42 : decode cX5_readLeg 42 = .ok (.ireturn, 1) := by decide +kernel
theorem dX5_readLeg_43 : decode cX5_readLeg 43 = .ok (.aload_n 0, 1) := by decide +kernel
theorem dX5_readLeg_44 : decode cX5_readLeg 44 = .ok (.dup, 1) := by decide +kernel
theorem dX5_readLeg_45 : decode cX5_readLeg 45 = .ok (.getfield 23, 3) := by decide +kernel
theorem dX5_readLeg_48 : decode cX5_readLeg 48 = .ok (.iconst 1, 1) := by decide +kernel
theorem dX5_readLeg_49 : decode cX5_readLeg 49 = .ok (.iadd, 1) := by decide +kernel
theorem dX5_readLeg_50 : decode cX5_readLeg 50 = .ok (.putfield 23, 3) := by decide +kernel
theorem dX5_readLeg_53 : decode cX5_readLeg 53 = .ok (.aload_n 0, 1) := by decide +kernel
theorem dX5_readLeg_54 : decode cX5_readLeg 54 = .ok (.iload_n 2, 1) := by decide +kernel
theorem dX5_readLeg_55 : decode cX5_readLeg 55 = .ok (.invokestatic 110, 3) := by decide +kernel
theorem dX5_readLeg_58 : decode cX5_readLeg 58 = .ok (.iload_n 2, 1) := by decide +kernel
theorem dX5_readLeg_59 : decode cX5_readLeg 59 = .ok (.invokestatic 113, 3) := by decide +kernel
theorem dX5_readLeg_62 : decode cX5_readLeg 62 = .ok (.invokevirtual 67, 3) := by decide +kernel
theorem dX5_readLeg_65 : decode cX5_readLeg 65 = .ok (.ifCond .ne 5, 3) := by decide +kernel
theorem dX5_readLeg_68 : decode cX5_readLeg 68 = .ok (.iconst 0, 1) := by decide +kernel
theorem dX5_readLeg_69 : decode cX5_readLeg 69 = .ok (.ireturn, 1) := by decide +kernel
theorem dX5_readLeg_70 : decode cX5_readLeg 70 = .ok (.aload_n 0, 1) := by decide +kernel
theorem dX5_readLeg_71 : decode cX5_readLeg 71 = .ok (.getfield 26, 3) := by decide +kernel
theorem dX5_readLeg_74 : decode cX5_readLeg 74 = .ok (.istore_n 3, 1) := by decide +kernel
theorem dX5_readLeg_75 : decode cX5_readLeg 75 = .ok (.iload_n 2, 1) := by decide +kernel
theorem dX5_readLeg_76 : decode cX5_readLeg 76 = .ok (.iconst 2, 1) := by decide +kernel
theorem dX5_readLeg_77 : decode cX5_readLeg 77 = .ok (.if_icmp .ne 24, 3) := by decide +kernel
theorem dX5_readLeg_80 : decode cX5_readLeg 80 = .ok (.aload_n 0, 1) := by decide +kernel
theorem dX5_readLeg_81 : decode cX5_readLeg 81 = .ok (.bipush 44, 2) := by decide +kernel
theorem dX5_readLeg_83 : decode cX5_readLeg 83 = .ok (.invokevirtual 59, 3) := by decide +kernel
theorem dX5_readLeg_86 : decode cX5_readLeg 86 = .ok (.ifCond .eq 13, 3) := by decide +kernel
theorem dX5_readLeg_89 : decode cX5_readLeg 89 = .ok (.aload_n 0, 1) := by decide +kernel
theorem dX5_readLeg_90 : decode cX5_readLeg 90 = .ok (.iconst 0, 1) := by decide +kernel
theorem dX5_readLeg_91 : decode cX5_readLeg 91 = .ok (.bipush 7, 2) := by decide +kernel
theorem dX5_readLeg_93 : decode cX5_readLeg 93 = .ok (.invokevirtual 67, 3) := by decide +kernel
theorem dX5_readLeg_96 : decode cX5_readLeg 96 = .ok (.ifCond .ne 5, 3) := by decide +kernel
theorem dX5_readLeg_99 : decode cX5_readLeg 99 = .ok (.iconst 0, 1) := by decide +kernel
theorem dX5_readLeg_100 : decode cX5_readLeg 100 = .ok (.ireturn, 1) := by decide +kernel
theorem dX5_readLeg_101 : decode cX5_readLeg 101 = .ok (.aload_n 0, 1) := by decide +kernel
theorem dX5_readLeg_102 : decode cX5_readLeg 102 = .ok (.getfield 10, 3) := by decide +kernel
theorem dX5_readLeg_105 : decode cX5_readLeg 105 = .ok (.iload_n 1, 1) := by decide +kernel
theorem dX5_readLeg_106 : decode cX5_readLeg 106 = .ok (.iload_n 2, 1) := by decide +kernel
theorem dX5_readLeg_107 : decode cX5_readLeg 107 = .ok (.iload_n 3, 1) := by decide +kernel
theorem dX5_readLeg_108 : decode cX5_readLeg 108 = .ok (.aload_n 0, 1) := by decide +kernel
theorem dX5_readLeg_109 : decode cX5_readLeg 109 = .ok (.getfield 26, 3) := by decide +kernel
theorem dX5_readLeg_112 : decode cX5_readLeg 112 = .ok (.invokevirtual 116, 3) := by decide +kernel
theorem dX5_readLeg_115 : decode cX5_readLeg 115 = .ok (.pop, 1) := by decide +kernel
theorem dX5_readLeg_116 : decode cX5_readLeg 116 = .ok (.aload_n 0, 1) := by decide +kernel
theorem dX5_readLeg_117 : decode cX5_readLeg 117 = .ok (.bipush 59, 2) := by decide +kernel
theorem dX5_readLeg_119 : decode cX5_readLeg 119 = .ok (.invokevirtual 59, 3) := by decide +kernel
theorem dX5_readLeg_122 : decode cX5_readLeg 122 = .ok (.ireturn, 1) := by decide +kernel
theorem dX5_readShipCell_0 : decode cX5_readShipCell 0 = .ok (.aload_n 0, 1) := by decide +kernel
theorem dX5_readShipCell_1 : decode cX5_readShipCell 1 = .ok (.iconst 0, 1) := by decide +kernel
theorem dX5_readShipCell_2 : decode cX5_readShipCell 2 = .ok (.iload_n 2, 1) := by decide +kernel
theorem dX5_readShipCell_3 : decode cX5_readShipCell 3 = .ok (.invokevirtual 67, 3) := by decide +kernel
theorem dX5_readShipCell_6 : decode cX5_readShipCell 6 = .ok (.ifCond .ne 5, 3) := by decide +kernel
theorem dX5_readShipCell_9 : decode cX5_readShipCell 9 = .ok (.iconst 0, 1) := by decide +kernel
theorem dX5_readShipCell_10 : decode cX5_readShipCell 10 = .ok (.ireturn, 1) := by decide +kernel
theorem dX5_readShipCell_11 : decode cX5_readShipCell 11 = .ok (.aload_n 0, 1) := by decide +kernel
theorem dX5_readShipCell_12 : decode cX5_readShipCell 12 = .ok (.getfield 10, 3) := by decide +kernel
theorem dX5_readShipCell_15 : decode cX5_readShipCell 15 = .ok (.iload_n 1, 1) := by decide +kernel
theorem dX5_readShipCell_16 : decode cX5_readShipCell 16 = .ok (.aload_n 0, 1) := by decide +kernel
theorem dX5_readShipCell_17 : decode cX5_readShipCell 17 = .ok (.getfield 26, 3) := by decide +kernel
theorem dX5_readShipCell_20 : decode cX5_readShipCell 20 = .ok (.invokevirtual 120, 3) := by decide +kernel
theorem dX5_readShipCell_23 : decode cX5_readShipCell 23 = .ok (.pop, 1) := by decide +kernel
theorem dX5_readShipCell_24 : decode cX5_readShipCell 24 = .ok (.iconst 1, 1) := by decide +kernel
theorem dX5_readShipCell_25 : decode cX5_readShipCell 25 = .ok (.ireturn, 1) := by decide +kernel
theorem dX5_readByte_0 : decode cX5_readByte 0 = .ok (.aload_n 0, 1) := by decide +kernel
theorem dX5_readByte_1 : decode cX5_readByte 1 = .ok (.getfield 29, 3) := by decide +kernel
theorem dX5_readByte_4 : decode cX5_readByte 4 = .ok (.aload_n 0, 1) := by decide +kernel
theorem dX5_readByte_5 : decode cX5_readByte 5 = .ok (.getfield 23, 3) := by decide +kernel
theorem dX5_readByte_8 : decode cX5_readByte 8 = .ok (.invokevirtual 74, 3) := by decide +kernel
theorem dX5_readByte_11 : decode cX5_readByte 11 = .ok (.iload_n 1, 1) := by decide +kernel
theorem dX5_readByte_12 : decode cX5_readByte 12 = .ok (.if_icmp .eq 9, 3) := by decide +kernel
theorem dX5_readByte_15 : decode cX5_readByte 15 = .ok (.aload_n 0, 1) := by decide +kernel
theorem dX5_readByte_16 : decode cX5_readByte 16 = .ok (.iconst 1, 1) := by decide +kernel
theorem dX5_readByte_17 : decode cX5_readByte 17 = .ok (.invokevirtual 86, 3) := by decide +kernel
theorem dX5_readByte_20 : decode cX5_readByte 20 = .ok (.ireturn, 1) := by decide +kernel
theorem dX5_readByte_21 : decode cX5_readByte 21 = .ok (.aload_n 0, 1) := by decide +kernel
theorem dX5_readByte_22 : decode cX5_readByte 22 = .ok (.dup, 1) := by decide +kernel
theorem dX5_readByte_23 : decode cX5_readByte 23 = .ok (.getfield 23, 3) := by decide +kernel
theorem dX5_readByte_26 : decode cX5_readByte 26 = .ok (.iconst 1, 1) := by decide +kernel
theorem dX5_readByte_27 : decode cX5_readByte 27 = .ok (.iadd, 1) := by decide +kernel
theorem dX5_readByte_28 : decode cX5_readByte 28 = .ok (.putfield 23, 3) := by decide +kernel
theorem dX5_readByte_31 : decode cX5_readByte 31 = .ok (.iconst 1, 1) := by decide +kernel
theorem dX5_readByte_32 : decode cX5_readByte 32 = .ok (.ireturn, 1) := by decide +kernel
theorem dX5_readNumber_0 : decode cX5_readNumber 0 = .ok (.iconst 0, 1) := by decide +kernel
theorem dX5_readNumber_1 : decode cX5_readNumber 1 = .ok (.istore_n 3, 1) := by decide +kernel
theorem dX5_readNumber_2 : decode cX5_readNumber 2 = .ok (.iconst 0, 1) := by decide +kernel
theorem dX5_readNumber_3 : decode cX5_readNumber 3 = .ok (.istore 4, 2) := by decide +kernel
theorem dX5_readNumber_5 : decode cX5_readNumber 5 = .ok (.iload_n 3, 1) := by decide +kernel
theorem dX5_readNumber_6 : decode cX5_readNumber 6 = .ok (.iconst 2, 1) := by decide +kernel
theorem dX5_readNumber_7 : decode cX5_readNumber 7 = .ok (.if_icmp .gt 52, 3) := by decide +kernel
theorem dX5_readNumber_10 : decode cX5_readNumber 10 = .ok (.aload_n 0, 1) := by decide +kernel
theorem dX5_readNumber_11 : decode cX5_readNumber 11 = .ok (.getfield 29, 3) := by decide +kernel
theorem dX5_readNumber_14 : decode cX5_readNumber 14 = .ok (.aload_n 0, 1) := by decide +kernel
theorem dX5_readNumber_15 : decode cX5_readNumber 15 = .ok (.getfield 23, 3) := by decide +kernel
theorem dX5_readNumber_18 : decode cX5_readNumber 18 = .ok (.iload_n 3, 1) := by decide +kernel
theorem dX5_readNumber_19 : decode cX5_readNumber 19 = .ok (.iadd, 1) := by decide +kernel
theorem dX5_readNumber_20 : decode cX5_readNumber 20 = .ok (.invokevirtual 74, 3) := by decide +kernel
theorem dX5_readNumber_23 : decode cX5_readNumber 23 = .ok (.invokestatic 123, 3) := by decide +kernel
theorem dX5_readNumber_26 : decode cX5_readNumber 26 = .ok (.ifCond .eq 33, 3) := by decide +kernel
theorem dX5_readNumber_29 : decode cX5_readNumber 29 = .ok (.iload 4, 2) := by decide +kernel
theorem dX5_readNumber_31 : decode cX5_readNumber 31 = .ok (.bipush 10, 2) := by decide +kernel
theorem dX5_readNumber_33 : decode cX5_readNumber 33 = .ok (.imul, 1) := by decide +kernel
theorem dX5_readNumber_34 : decode cX5_readNumber 34 = .ok (.aload_n 0, 1) := by decide +kernel
theorem dX5_readNumber_35 : decode cX5_readNumber 35 = .ok (.getfield 29, 3) := by decide +kernel
theorem dX5_readNumber_38 : decode cX5_readNumber 38 = .ok (.aload_n 0, 1) := by decide +kernel
theorem dX5_readNumber_39 : decode cX5_readNumber 39 = .ok (.getfield 23, 3) := by decide +kernel
theorem dX5_readNumber_42 : decode cX5_readNumber 42 = .ok (.iload_n 3, 1) := by decide +kernel
theorem dX5_readNumber_43 : decode cX5_readNumber 43 = .ok (.iadd, 1) := by decide +kernel
theorem dX5_readNumber_44 : decode cX5_readNumber 44 = .ok (.invokevirtual 74, 3) := by decide +kernel
theorem dX5_readNumber_47 : decode cX5_readNumber 47 = .ok (.iadd, 1) := by decide +kernel
theorem dX5_readNumber_48 : decode cX5_readNumber 48 = .ok (.bipush 48, 2) := by decide +kernel
theorem dX5_readNumber_50 : decode cX5_readNumber 50 = .ok (.isub, 1) := by decide +kernel
theorem dX5_readNumber_51 : decode cX5_readNumber 51 = .ok (.istore 4, 2) := by decide +kernel
theorem dX5_readNumber_53 : decode cX5_readNumber 53 = .ok (.iinc 3 1, 3) := by decide +kernel
theorem dX5_readNumber_56 : decode cX5_readNumber 56 = .ok (.goto (-51), 3) := by decide +kernel
theorem dX5_readNumber_59 : decode cX5_readNumber 59 = .ok (.iload_n 3, 1) := by decide +kernel
theorem dX5_readNumber_60 : decode cX5_readNumber 60 = .ok (.ifCond .eq 8, 3) := by decide +kernel
theorem dX5_readNumber_63 : decode cX5_readNumber 63 = .ok (.iload_n 3, 1) := by decide +kernel
theorem dX5_readNumber_64 : decode cX5_readNumber 64 = .ok (.iconst 2, 1) := by decide +kernel
theorem dX5_readNumber_65 : decode cX5_readNumber 65 = .ok (.if_icmp .le 9, 3) := by decide +kernel
theorem dX5_readNumber_68 : decode cX5_readNumber 68 = .ok (.aload_n 0, 1) := by decide +kernel
theorem dX5_readNumber_69 : decode cX5_readNumber 69 = .ok (.iconst 1, 1) := by decide +kernel
theorem dX5_readNumber_70 : decode cX5_readNumber 70 = .ok (.invokevirtual 86, 3) := by decide +kernel
theorem dX5_readNumber_73 : decode cX5_readNumber 73 = .ok (.ireturn, 1) := by decide +kernel
theorem dX5_readNumber_74 : decode cX5_readNumber 74 = .ok (.iload 4, 2) := by decide +kernel
theorem dX5_readNumber_76 : decode cX5_readNumber 76 = .ok (.iload_n 1, 1) := by decide +kernel
theorem dX5_readNumber_77 : decode cX5_readNumber 77 = .ok (.if_icmp .lt 9, 3) := by decide +kernel
theorem dX5_readNumber_80 : decode cX5_readNumber 80 = .ok (.iload 4, 2) := by decide +kernel
theorem dX5_readNumber_82 : decode cX5_readNumber 82 = .ok (.iload_n 2, 1) := by decide +kernel
theorem dX5_readNumber_83 : decode cX5_readNumber 83 = .ok (.if_icmp .le 9, 3) := by decide +kernel
theorem dX5_readNumber_86 : decode cX5_readNumber 86 = .ok (.aload_n 0, 1) := by decide +kernel
theorem dX5_readNumber_87 : decode cX5_readNumber 87 = .ok (.iconst 2, 1) := by decide +kernel
theorem dX5_readNumber_88 : decode cX5_readNumber 88 = .ok (.invokevirtual 86, 3) := by decide +kernel
theorem dX5_readNumber_91 : decode cX5_readNumber 91 = .ok (.ireturn, 1) := by decide +kernel
theorem dX5_readNumber_92 : decode cX5_readNumber 92 = .ok (.aload_n 0, 1) := by decide +kernel
theorem dX5_readNumber_93 : decode cX5_readNumber 93 = .ok (.dup, 1) := by decide +kernel
theorem dX5_readNumber_94 : decode cX5_readNumber 94 = .ok (.getfield 23, 3) := by decide +kernel
theorem dX5_readNumber_97 : decode cX5_readNumber 97 = .ok (.iload_n 3, 1) := by decide +kernel
theorem dX5_readNumber_98 : decode cX5_readNumber 98 = .ok (.iadd, 1) := by decide +kernel
theorem dX5_readNumber_99 : decode cX5_readNumber 99 = .ok (.putfield 23, 3) := by decide +kernel
theorem dX5_readNumber_102 : decode cX5_readNumber 102 = .ok (.aload_n 0, 1) := by decide +kernel
theorem dX5_readNumber_103 : decode cX5_readNumber 103 = .ok (.iload 4, 2) := by decide +kernel
theorem dX5_readNumber_105 : decode cX5_readNumber 105 = .ok (.putfield 26, 3) := by decide +kernel
theorem dX5_readNumber_108 : decode cX5_readNumber 108 = .ok (.iconst 1, 1) := by decide +kernel
theorem dX5_readNumber_109 : decode cX5_readNumber 109 = .ok (.ireturn, 1) := by decide +kernel
theorem dX5_isFigure_0 : decode cX5_isFigure 0 = .ok (.iload_n 0, 1) := by decide +kernel
theorem dX5_isFigure_1 : decode cX5_isFigure 1 = .ok (.bipush 48, 2) := by decide +kernel
theorem dX5_isFigure_3 : decode cX5_isFigure 3 = .ok (.if_icmp .lt 13, 3) := by decide +kernel
theorem dX5_isFigure_6 : decode cX5_isFigure 6 = .ok (.iload_n 0, 1) := by decide +kernel
theorem dX5_isFigure_7 : decode cX5_isFigure 7 = .ok (.bipush 57, 2) := by decide +kernel
theorem dX5_isFigure_9 : decode cX5_isFigure 9 = .ok (.if_icmp .gt 7, 3) := by decide +kernel
theorem dX5_isFigure_12 : decode cX5_isFigure 12 = .ok (.iconst 1, 1) := by decide +kernel
theorem dX5_isFigure_13 : decode cX5_isFigure 13 = .ok (.goto 4, 3) := by decide +kernel
theorem dX5_isFigure_16 : decode cX5_isFigure 16 = .ok (.iconst 0, 1) := by decide +kernel
theorem dX5_isFigure_17 : decode cX5_isFigure 17 = .ok (.ireturn, 1) := by decide +kernel
theorem dX5_rankOf_0 : decode cX5_rankOf 0 = .ok (.aload_n 0, 1) := by decide +kernel
theorem dX5_rankOf_1 : decode cX5_rankOf 1 = .ok (.getfield 29, 3) := by decide +kernel
theorem dX5_rankOf_4 : decode cX5_rankOf 4 = .ok (.aload_n 0, 1) := by decide +kernel
theorem dX5_rankOf_5 : decode cX5_rankOf 5 = .ok (.getfield 23, 3) := by decide +kernel
theorem dX5_rankOf_8 : decode cX5_rankOf 8 = .ok (.invokevirtual 74, 3) := by decide +kernel
theorem dX5_rankOf_11 : decode cX5_rankOf 11 = .ok (.istore_n 2, 1) := by decide +kernel
theorem dX5_rankOf_12 : decode cX5_rankOf 12 = .ok (.iload_n 2, 1) := by decide +kernel
theorem dX5_rankOf_13 : decode cX5_rankOf 13 = .ok (.iconst (-1), 1) := by decide +kernel
theorem dX5_rankOf_14 : decode cX5_rankOf 14 = .ok (.if_icmp .ne 7, 3) := by decide +kernel
theorem dX5_rankOf_17 : decode cX5_rankOf 17 = .ok (.iconst (-1), 1) := by decide +kernel
theorem dX5_rankOf_18 : decode cX5_rankOf 18 = .ok (.goto 9, 3) := by decide +kernel
theorem dX5_rankOf_21 : decode cX5_rankOf 21 = .ok (.aload_n 1, 1) := by decide +kernel
theorem dX5_rankOf_22 : decode cX5_rankOf 22 = .ok (.iload_n 2, 1) := by decide +kernel
theorem dX5_rankOf_23 : decode cX5_rankOf 23 = .ok (.i2c, 1) := by decide +kernel
theorem dX5_rankOf_24 : decode cX5_rankOf 24 = .ok (.invokevirtual 126, 3) := by decide +kernel
theorem dX5_rankOf_27 : decode cX5_rankOf 27 = .ok (.ireturn, 1) := by decide +kernel
theorem dX5_faultHere_0 : decode cX5_faultHere 0 = .ok (.aload_n 0, 1) := by decide +kernel
theorem dX5_faultHere_1 : decode cX5_faultHere 1 = .ok (.iload_n 1, 1) := by decide +kernel
theorem dX5_faultHere_2 : decode cX5_faultHere 2 = .ok (.putfield 16, 3) := by decide +kernel
theorem dX5_faultHere_5 : decode cX5_faultHere 5 = .ok (.aload_n 0, 1) := by decide +kernel
theorem dX5_faultHere_6 : decode cX5_faultHere 6 = .ok (.aload_n 0, 1) := by decide +kernel
theorem dX5_faultHere_7 : decode cX5_faultHere 7 = .ok (.getfield 23, 3) := by decide +kernel
theorem dX5_faultHere_10 : decode cX5_faultHere 10 = .ok (.putfield 20, 3) := by decide +kernel
theorem dX5_faultHere_13 : decode cX5_faultHere 13 = .ok (.iconst 0, 1) := by decide +kernel
theorem dX5_faultHere_14 : decode cX5_faultHere 14 = .ok (.ireturn, 1) := by decide +kernel
theorem dX6_init_0 : decode cX6_init 0 = .ok (.aload_n 0, 1) := by decide +kernel
theorem dX6_init_1 : decode cX6_init 1 = .ok (.invokespecial 5, 3) := by decide +kernel
theorem dX6_init_4 : decode cX6_init 4 = .ok (.aload_n 0, 1) := by decide +kernel
theorem dX6_init_5 : decode cX6_init 5 = .ok (.bipush 78, 2) := by decide +kernel
theorem dX6_init_7 : decode cX6_init 7 = .ok (.newarray .int, 2) := by decide +kernel
theorem dX6_init_9 : decode cX6_init 9 = .ok (.putfield 11, 3) := by decide +kernel
theorem dX6_init_12 : decode cX6_init 12 = .ok (.return_, 1) := by decide +kernel
theorem dX6_measureMost_0 : decode cX6_measureMost 0 = .ok (.iload_n 0, 1) := by decide +kernel
theorem dX6_measureMost_1 : decode cX6_measureMost 1 = .ok (.iconst 2, 1) := by decide +kernel
theorem dX6_measureMost_2 : decode cX6_measureMost 2 = .ok (.if_icmp .ne 8, 3) := by decide +kernel
theorem dX6_measureMost_5 : decode cX6_measureMost 5 = .ok (.bipush 15, 2) := by decide +kernel
theorem dX6_measureMost_7 : decode cX6_measureMost 7 = .ok (.goto 15, 3) := by decide +kernel
theorem dX6_measureMost_10 : decode cX6_measureMost 10 = .ok (.iload_n 0, 1) := by decide +kernel
theorem dX6_measureMost_11 : decode cX6_measureMost 11 = .ok (.iconst 3, 1) := by decide +kernel
theorem dX6_measureMost_12 : decode cX6_measureMost 12 = .ok (.if_icmp .ne 8, 3) := by decide +kernel
theorem dX6_measureMost_15 : decode cX6_measureMost 15 = .ok (.bipush 20, 2) := by decide +kernel
theorem dX6_measureMost_17 : decode cX6_measureMost 17 = .ok (.goto 5, 3) := by decide +kernel
theorem dX6_measureMost_20 : decode cX6_measureMost 20 = .ok (.bipush 60, 2) := by decide +kernel
theorem dX6_measureMost_22 : decode cX6_measureMost 22 = .ok (.ireturn, 1) := by decide +kernel
theorem dX6_untilLeast_0 : decode cX6_untilLeast 0 = .ok (.iload_n 0, 1) := by decide +kernel
theorem dX6_untilLeast_1 : decode cX6_untilLeast 1 = .ok (.ifCond .ne 7, 3) := by decide +kernel
theorem dX6_untilLeast_4 : decode cX6_untilLeast 4 = .ok (.iconst 1, 1) := by decide +kernel
theorem dX6_untilLeast_5 : decode cX6_untilLeast 5 = .ok (.goto 4, 3) := by decide +kernel
theorem dX6_untilLeast_8 : decode cX6_untilLeast 8 = .ok (.iconst 0, 1) := by decide +kernel
theorem dX6_untilLeast_9 : decode cX6_untilLeast 9 = .ok (.ireturn, 1) := by decide +kernel
theorem dX6_untilMost_0 : decode cX6_untilMost 0 = .ok (.iload_n 0, 1) := by decide +kernel
theorem dX6_untilMost_1 : decode cX6_untilMost 1 = .ok (.ifCond .eq 8, 3) := by decide +kernel
theorem dX6_untilMost_4 : decode cX6_untilMost 4 = .ok (.iload_n 0, 1) := by decide +kernel
theorem dX6_untilMost_5 : decode cX6_untilMost 5 = .ok (.iconst 4, 1) := by decide +kernel
theorem dX6_untilMost_6 : decode cX6_untilMost 6 = .ok (.if_icmp .ne 8, 3) := by decide +kernel
theorem dX6_untilMost_9 : decode cX6_untilMost 9 = .ok (.bipush 60, 2) := by decide +kernel
theorem dX6_untilMost_11 : decode cX6_untilMost 11 = .ok (.goto 5, 3) := by decide +kernel
theorem dX6_untilMost_14 : decode cX6_untilMost 14 = .ok (.bipush 7, 2) := by decide +kernel
theorem dX6_untilMost_16 : decode cX6_untilMost 16 = .ok (.ireturn, 1) := by decide +kernel
theorem dX6_isTold_0 : decode cX6_isTold 0 = .ok (.aload_n 0, 1) := by decide +kernel
theorem dX6_isTold_1 : decode cX6_isTold 1 = .ok (.getfield 11, 3) := by decide +kernel
theorem dX6_isTold_4 : decode cX6_isTold 4 = .ok (.bipush 77, 2) := by decide +kernel
theorem dX6_isTold_6 : decode cX6_isTold 6 = .ok (.iaload, 1) := by decide +kernel
theorem dX6_isTold_7 : decode cX6_isTold 7 = .ok (.ifCond .le 7, 3) := by decide +kernel
theorem dX6_isTold_10 : decode cX6_isTold 10 = .ok (.iconst 1, 1) := by decide +kernel
theorem dX6_isTold_11 : decode cX6_isTold 11 = .ok (.goto 4, 3) := by decide +kernel
theorem dX6_isTold_14 : decode cX6_isTold 14 = .ok (.iconst 0, 1) := by decide +kernel
theorem dX6_isTold_15 : decode cX6_isTold 15 = .ok (.ireturn, 1) := by decide +kernel
theorem dX6_heightCount_0 : decode cX6_heightCount 0 = .ok (.aload_n 0, 1) := by decide +kernel
theorem dX6_heightCount_1 : decode cX6_heightCount 1 = .ok (.getfield 11, 3) := by decide +kernel
theorem dX6_heightCount_4 : decode cX6_heightCount 4 = .ok (.bipush 75, 2) := by decide +kernel
theorem dX6_heightCount_6 : decode cX6_heightCount 6 = .ok (.iaload, 1) := by decide +kernel
theorem dX6_heightCount_7 : decode cX6_heightCount 7 = .ok (.ireturn, 1) := by decide +kernel
theorem dX6_thingCount_0 : decode cX6_thingCount 0 = .ok (.aload_n 0, 1) := by decide +kernel
theorem dX6_thingCount_1 : decode cX6_thingCount 1 = .ok (.getfield 11, 3) := by decide +kernel
theorem dX6_thingCount_4 : decode cX6_thingCount 4 = .ok (.bipush 76, 2) := by decide +kernel
theorem dX6_thingCount_6 : decode cX6_thingCount 6 = .ok (.iaload, 1) := by decide +kernel
theorem dX6_thingCount_7 : decode cX6_thingCount 7 = .ok (.ireturn, 1) := by decide +kernel
theorem dX6_legCount_0 : decode cX6_legCount 0 = .ok (.aload_n 0, 1) := by decide +kernel
theorem dX6_legCount_1 : decode cX6_legCount 1 = .ok (.getfield 11, 3) := by decide +kernel
theorem dX6_legCount_4 : decode cX6_legCount 4 = .ok (.bipush 77, 2) := by decide +kernel
theorem dX6_legCount_6 : decode cX6_legCount 6 = .ok (.iaload, 1) := by decide +kernel
theorem dX6_legCount_7 : decode cX6_legCount 7 = .ok (.ireturn, 1) := by decide +kernel
theorem dX6_hasThing_0 : decode cX6_hasThing 0 = .ok (.iload_n 1, 1) := by decide +kernel
theorem dX6_hasThing_1 : decode cX6_hasThing 1 = .ok (.ifCond .lt 18, 3) := by decide +kernel
theorem dX6_hasThing_4 : decode cX6_hasThing 4 = .ok (.iload_n 1, 1) := by decide +kernel
theorem dX6_hasThing_5 : decode cX6_hasThing 5 = .ok (.aload_n 0, 1) := by decide +kernel
theorem dX6_hasThing_6 : decode cX6_hasThing 6 = .ok (.getfield 11, 3) := by decide +kernel
theorem dX6_hasThing_9 : decode cX6_hasThing 9 = .ok (.bipush 76, 2) := by decide +kernel
theorem dX6_hasThing_11 : decode cX6_hasThing 11 = .ok (.iaload, 1) := by decide +kernel
theorem dX6_hasThing_12 : decode cX6_hasThing 12 = .ok (.if_icmp .ge 7, 3) := by decide +kernel
theorem dX6_hasThing_15 : decode cX6_hasThing 15 = .ok (.iconst 1, 1) := by decide +kernel
theorem dX6_hasThing_16 : decode cX6_hasThing 16 = .ok (.goto 4, 3) := by decide +kernel
theorem dX6_hasThing_19 : decode cX6_hasThing 19 = .ok (.iconst 0, 1) := by decide +kernel
theorem dX6_hasThing_20 : decode cX6_hasThing 20 = .ok (.ireturn, 1) := by decide +kernel
theorem dX6_hasLeg_0 : decode cX6_hasLeg 0 = .ok (.iload_n 1, 1) := by decide +kernel
theorem dX6_hasLeg_1 : decode cX6_hasLeg 1 = .ok (.ifCond .lt 18, 3) := by decide +kernel
theorem dX6_hasLeg_4 : decode cX6_hasLeg 4 = .ok (.iload_n 1, 1) := by decide +kernel
theorem dX6_hasLeg_5 : decode cX6_hasLeg 5 = .ok (.aload_n 0, 1) := by decide +kernel
theorem dX6_hasLeg_6 : decode cX6_hasLeg 6 = .ok (.getfield 11, 3) := by decide +kernel
theorem dX6_hasLeg_9 : decode cX6_hasLeg 9 = .ok (.bipush 77, 2) := by decide +kernel
theorem dX6_hasLeg_11 : decode cX6_hasLeg 11 = .ok (.iaload, 1) := by decide +kernel
theorem dX6_hasLeg_12 : decode cX6_hasLeg 12 = .ok (.if_icmp .ge 7, 3) := by decide +kernel
theorem dX6_hasLeg_15 : decode cX6_hasLeg 15 = .ok (.iconst 1, 1) := by decide +kernel
theorem dX6_hasLeg_16 : decode cX6_hasLeg 16 = .ok (.goto 4, 3) := by decide +kernel
theorem dX6_hasLeg_19 : decode cX6_hasLeg 19 = .ok (.iconst 0, 1) := by decide +kernel
theorem dX6_hasLeg_20 : decode cX6_hasLeg 20 = .ok (.ireturn, 1) := by decide +kernel
theorem dX6_isMark_0 : decode cX6_isMark 0 = .ok (.aload_n 0, 1) := by decide +kernel
theorem dX6_isMark_1 : decode cX6_isMark 1 = .ok (.iload_n 1, 1) := by decide +kernel
theorem dX6_isMark_2 : decode cX6_isMark 2 = .ok (.invokevirtual 15, 3) := by decide +kernel
theorem dX6_isMark_5 : decode cX6_isMark 5 = .ok (.ifCond .eq 17, 3) := by decide +kernel
theorem dX6_isMark_8 : decode cX6_isMark 8 = .ok (.aload_n 0, 1) := by decide +kernel
theorem dX6_isMark_9 : decode cX6_isMark 9 = .ok (.iload_n 1, 1) := by decide +kernel
theorem dX6_isMark_10 : decode cX6_isMark 10 = .ok (.iconst 0, 1) := by decide +kernel
theorem dX6_isMark_11 : decode cX6_isMark 11 = .ok (.invokevirtual 19, 3) := by decide +kernel
theorem dX6_isMark_14 : decode cX6_isMark 14 = .ok (.iconst 3, 1) := by decide +kernel
theorem dX6_isMark_15 : decode cX6_isMark 15 = .ok (.if_icmp .gt 7, 3) := by decide +kernel
theorem dX6_isMark_18 : decode cX6_isMark 18 = .ok (.iconst 1, 1) := by decide +kernel
theorem dX6_isMark_19 : decode cX6_isMark 19 = .ok (.goto 4, 3) := by decide +kernel
theorem dX6_isMark_22 : decode cX6_isMark 22 = .ok (.iconst 0, 1) := by decide +kernel
theorem dX6_isMark_23 : decode cX6_isMark 23 = .ok (.ireturn, 1) := by decide +kernel
theorem dX6_markCount_0 : decode cX6_markCount 0 = .ok (.iconst 0, 1) := by decide +kernel
theorem dX6_markCount_1 : decode cX6_markCount 1 = .ok (.istore_n 1, 1) := by decide +kernel
theorem dX6_markCount_2 : decode cX6_markCount 2 = .ok (.iconst 0, 1) := by decide +kernel
theorem dX6_markCount_3 : decode cX6_markCount 3 = .ok (.istore_n 2, 1) := by decide +kernel
theorem dX6_markCount_4 : decode cX6_markCount 4 = .ok (.iload_n 2, 1) := by decide +kernel
theorem dX6_markCount_5 : decode cX6_markCount 5 = .ok (.bipush 8, 2) := by decide +kernel
theorem dX6_markCount_7 : decode cX6_markCount 7 = .ok (.if_icmp .ge 20, 3) := by decide +kernel
theorem dX6_markCount_10 : decode cX6_markCount 10 = .ok (.aload_n 0, 1) := by decide +kernel
theorem dX6_markCount_11 : decode cX6_markCount 11 = .ok (.iload_n 2, 1) := by decide +kernel
theorem dX6_markCount_12 : decode cX6_markCount 12 = .ok (.invokevirtual 23, 3) := by decide +kernel
theorem dX6_markCount_15 : decode cX6_markCount 15 = .ok (.ifCond .eq 6, 3) := by decide +kernel
theorem dX6_markCount_18 : decode cX6_markCount 18 = .ok (.iinc 1 1, 3) := by decide +kernel
theorem dX6_markCount_21 : decode cX6_markCount 21 = .ok (.iinc 2 1, 3) := by decide +kernel
theorem dX6_markCount_24 : decode cX6_markCount 24 = .ok (.goto (-20), 3) := by decide +kernel
theorem dX6_markCount_27 : decode cX6_markCount 27 = .ok (.iload_n 1, 1) := by decide +kernel
theorem dX6_markCount_28 : decode cX6_markCount 28 = .ok (.ireturn, 1) := by decide +kernel
theorem dX6_shipCell_0 : decode cX6_shipCell 0 = .ok (.iload_n 1, 1) := by decide +kernel
theorem dX6_shipCell_1 : decode cX6_shipCell 1 = .ok (.ifCond .lt 17, 3) := by decide +kernel
theorem dX6_shipCell_4 : decode cX6_shipCell 4 = .ok (.iload_n 1, 1) := by decide +kernel
theorem dX6_shipCell_5 : decode cX6_shipCell 5 = .ok (.iconst 5, 1) := by decide +kernel
theorem dX6_shipCell_6 : decode cX6_shipCell 6 = .ok (.if_icmp .ge 12, 3) := by decide +kernel
theorem dX6_shipCell_9 : decode cX6_shipCell 9 = .ok (.aload_n 0, 1) := by decide +kernel
theorem dX6_shipCell_10 : decode cX6_shipCell 10 = .ok (.getfield 11, 3) := by decide +kernel
theorem dX6_shipCell_13 : decode cX6_shipCell 13 = .ok (.iload_n 1, 1) := by decide +kernel
theorem dX6_shipCell_14 : decode cX6_shipCell 14 = .ok (.iaload, 1) := by decide +kernel
theorem dX6_shipCell_15 : decode cX6_shipCell 15 = .ok (.goto 4, 3) := by decide +kernel
theorem dX6_shipCell_18 : decode cX6_shipCell 18 = .ok (.iconst 0, 1) := by decide +kernel
theorem dX6_shipCell_19 : decode cX6_shipCell 19 = .ok (.ireturn, 1) := by decide +kernel
theorem dX6_heightCell_0 : decode cX6_heightCell 0 = .ok (.iload_n 1, 1) := by decide +kernel
theorem dX6_heightCell_1 : decode cX6_heightCell 1 = .ok (.ifCond .lt 20, 3) := by decide +kernel
theorem dX6_heightCell_4 : decode cX6_heightCell 4 = .ok (.iload_n 1, 1) := by decide +kernel
theorem dX6_heightCell_5 : decode cX6_heightCell 5 = .ok (.bipush 6, 2) := by decide +kernel
theorem dX6_heightCell_7 : decode cX6_heightCell 7 = .ok (.if_icmp .ge 14, 3) := by decide +kernel
theorem dX6_heightCell_10 : decode cX6_heightCell 10 = .ok (.aload_n 0, 1) := by decide +kernel
theorem dX6_heightCell_11 : decode cX6_heightCell 11 = .ok (.getfield 11, 3) := by decide +kernel
theorem dX6_heightCell_14 : decode cX6_heightCell 14 = .ok (.iconst 5, 1) := by decide +kernel
theorem dX6_heightCell_15 : decode cX6_heightCell 15 = .ok (.iload_n 1, 1) := by decide +kernel
theorem dX6_heightCell_16 : decode cX6_heightCell 16 = .ok (.iadd, 1) := by decide +kernel
theorem dX6_heightCell_17 : decode cX6_heightCell 17 = .ok (.iaload, 1) := by decide +kernel
theorem dX6_heightCell_18 : decode cX6_heightCell 18 = .ok (.goto 4, 3) := by decide +kernel
theorem dX6_heightCell_21 : decode cX6_heightCell 21 = .ok (.iconst 0, 1) := by decide +kernel
theorem dX6_heightCell_22 : decode cX6_heightCell 22 = .ok (.ireturn, 1) := by decide +kernel
theorem dX6_thingCell_0 : decode cX6_thingCell 0 = .ok (.iload_n 1, 1) := by decide +kernel
theorem dX6_thingCell_1 : decode cX6_thingCell 1 = .ok (.ifCond .lt 18, 3) := by decide +kernel
theorem dX6_thingCell_4 : decode cX6_thingCell 4 = .ok (.iload_n 1, 1) := by decide +kernel
theorem dX6_thingCell_5 : decode cX6_thingCell 5 = .ok (.bipush 8, 2) := by decide +kernel
theorem dX6_thingCell_7 : decode cX6_thingCell 7 = .ok (.if_icmp .ge 12, 3) := by decide +kernel
theorem dX6_thingCell_10 : decode cX6_thingCell 10 = .ok (.iload_n 2, 1) := by decide +kernel
theorem dX6_thingCell_11 : decode cX6_thingCell 11 = .ok (.ifCond .lt 8, 3) := by decide +kernel
theorem dX6_thingCell_14 : decode cX6_thingCell 14 = .ok (.iload_n 2, 1) := by decide +kernel
theorem dX6_thingCell_15 : decode cX6_thingCell 15 = .ok (.iconst 5, 1) := by decide +kernel
theorem dX6_thingCell_16 : decode cX6_thingCell 16 = .ok (.if_icmp .lt 5, 3) := by decide +kernel
theorem dX6_thingCell_19 : decode cX6_thingCell 19 = .ok (.iconst 0, 1) := by decide +kernel
theorem dX6_thingCell_20 : decode cX6_thingCell 20 = .ok (.ireturn, 1) := by decide +kernel
theorem dX6_thingCell_21 : decode cX6_thingCell 21 = .ok (.aload_n 0, 1) := by decide +kernel
theorem dX6_thingCell_22 : decode cX6_thingCell 22 = .ok (.getfield 11, 3) := by decide +kernel
theorem dX6_thingCell_25 : decode cX6_thingCell 25 = .ok (.bipush 11, 2) := by decide +kernel
theorem dX6_thingCell_27 : decode cX6_thingCell 27 = .ok (.iload_n 1, 1) := by decide +kernel
theorem dX6_thingCell_28 : decode cX6_thingCell 28 = .ok (.iconst 5, 1) := by decide +kernel
theorem dX6_thingCell_29 : decode cX6_thingCell 29 = .ok (.imul, 1) := by decide +kernel
theorem dX6_thingCell_30 : decode cX6_thingCell 30 = .ok (.iadd, 1) := by decide +kernel
theorem dX6_thingCell_31 : decode cX6_thingCell 31 = .ok (.iload_n 2, 1) := by decide +kernel
theorem dX6_thingCell_32 : decode cX6_thingCell 32 = .ok (.iadd, 1) := by decide +kernel
theorem dX6_thingCell_33 : decode cX6_thingCell 33 = .ok (.iaload, 1) := by decide +kernel
theorem dX6_thingCell_34 : decode cX6_thingCell 34 = .ok (.ireturn, 1) := by decide +kernel
theorem dX6_legCell_0 : decode cX6_legCell 0 = .ok (.iload_n 1, 1) := by decide +kernel
theorem dX6_legCell_1 : decode cX6_legCell 1 = .ok (.ifCond .lt 18, 3) := by decide +kernel
theorem dX6_legCell_4 : decode cX6_legCell 4 = .ok (.iload_n 1, 1) := by decide +kernel
theorem dX6_legCell_5 : decode cX6_legCell 5 = .ok (.bipush 6, 2) := by decide +kernel
theorem dX6_legCell_7 : decode cX6_legCell 7 = .ok (.if_icmp .ge 12, 3) := by decide +kernel
theorem dX6_legCell_10 : decode cX6_legCell 10 = .ok (.iload_n 2, 1) := by decide +kernel
theorem dX6_legCell_11 : decode cX6_legCell 11 = .ok (.ifCond .lt 8, 3) := by decide +kernel
theorem dX6_legCell_14 : decode cX6_legCell 14 = .ok (.iload_n 2, 1) := by decide +kernel
theorem dX6_legCell_15 : decode cX6_legCell 15 = .ok (.iconst 4, 1) := by decide +kernel
theorem dX6_legCell_16 : decode cX6_legCell 16 = .ok (.if_icmp .lt 5, 3) := by decide +kernel
theorem dX6_legCell_19 : decode cX6_legCell 19 = .ok (.iconst 0, 1) := by decide +kernel
theorem dX6_legCell_20 : decode cX6_legCell 20 = .ok (.ireturn, 1) := by decide +kernel
theorem dX6_legCell_21 : decode cX6_legCell 21 = .ok (.aload_n 0, 1) := by decide +kernel
theorem dX6_legCell_22 : decode cX6_legCell 22 = .ok (.getfield 11, 3) := by decide +kernel
theorem dX6_legCell_25 : decode cX6_legCell 25 = .ok (.bipush 51, 2) := by decide +kernel
theorem dX6_legCell_27 : decode cX6_legCell 27 = .ok (.iload_n 1, 1) := by decide +kernel
theorem dX6_legCell_28 : decode cX6_legCell 28 = .ok (.iconst 4, 1) := by decide +kernel
theorem dX6_legCell_29 : decode cX6_legCell 29 = .ok (.imul, 1) := by decide +kernel
theorem dX6_legCell_30 : decode cX6_legCell 30 = .ok (.iadd, 1) := by decide +kernel
theorem dX6_legCell_31 : decode cX6_legCell 31 = .ok (.iload_n 2, 1) := by decide +kernel
theorem dX6_legCell_32 : decode cX6_legCell 32 = .ok (.iadd, 1) := by decide +kernel
theorem dX6_legCell_33 : decode cX6_legCell 33 = .ok (.iaload, 1) := by decide +kernel
theorem dX6_legCell_34 : decode cX6_legCell 34 = .ok (.ireturn, 1) := by decide +kernel
theorem dX6_putShipCell_0 : decode cX6_putShipCell 0 = .ok (.aload_n 0, 1) := by decide +kernel
theorem dX6_putShipCell_1 : decode cX6_putShipCell 1 = .ok (.iload_n 1, 1) := by decide +kernel
theorem dX6_putShipCell_2 : decode cX6_putShipCell 2 = .ok (.invokevirtual 26, 3) := by decide +kernel
theorem dX6_putShipCell_5 : decode cX6_putShipCell 5 = .ok (.istore_n 3, 1) := by decide +kernel
theorem dX6_putShipCell_6 : decode cX6_putShipCell 6 = .ok (.iload_n 1, 1) := by decide +kernel
theorem dX6_putShipCell_7 : decode cX6_putShipCell 7 = .ok (.ifCond .lt 15, 3) := by decide +kernel
theorem dX6_putShipCell_10 : decode cX6_putShipCell 10 = .ok (.iload_n 1, 1) := by decide +kernel
theorem dX6_putShipCell_11 : decode cX6_putShipCell 11 = .ok (.iconst 5, 1) := by decide +kernel
theorem dX6_putShipCell_12 : decode cX6_putShipCell 12 = .ok (.if_icmp .ge 10, 3) := by decide +kernel
theorem dX6_putShipCell_15 : decode cX6_putShipCell 15 = .ok (.aload_n 0, 1) := by decide +kernel
theorem dX6_putShipCell_16 : decode cX6_putShipCell 16 = .ok (.getfield 11, 3) := by decide +kernel
theorem dX6_putShipCell_19 : decode cX6_putShipCell 19 = .ok (.iload_n 1, 1) := by decide +kernel
theorem dX6_putShipCell_20 : decode cX6_putShipCell 20 = .ok (.iload_n 2, 1) := by decide +kernel
theorem dX6_putShipCell_21 : decode cX6_putShipCell 21 = .ok (.iastore, 1) := by decide +kernel
theorem dX6_putShipCell_22 : decode cX6_putShipCell 22 = .ok (.iload_n 3, 1) := by decide +kernel
theorem dX6_putShipCell_23 : decode cX6_putShipCell 23 = .ok (.ireturn, 1) := by decide +kernel
theorem dX6_putHeightCell_0 : decode cX6_putHeightCell 0 = .ok (.aload_n 0, 1) := by decide +kernel
theorem dX6_putHeightCell_1 : decode cX6_putHeightCell 1 = .ok (.iload_n 1, 1) := by decide +kernel
theorem dX6_putHeightCell_2 : decode cX6_putHeightCell 2 = .ok (.invokevirtual 30, 3) := by decide +kernel
theorem dX6_putHeightCell_5 : decode cX6_putHeightCell 5 = .ok (.istore_n 3, 1) := by decide +kernel
theorem dX6_putHeightCell_6 : decode cX6_putHeightCell 6 = .ok (.iload_n 1, 1) := by decide +kernel
theorem dX6_putHeightCell_7 : decode cX6_putHeightCell 7 = .ok (.ifCond .lt 18, 3) := by decide +kernel
theorem dX6_putHeightCell_10 : decode cX6_putHeightCell 10 = .ok (.iload_n 1, 1) := by decide +kernel
theorem dX6_putHeightCell_11 : decode cX6_putHeightCell 11 = .ok (.bipush 6, 2) := by decide +kernel
theorem dX6_putHeightCell_13 : decode cX6_putHeightCell 13 = .ok (.if_icmp .ge 12, 3) := by decide +kernel
theorem dX6_putHeightCell_16 : decode cX6_putHeightCell 16 = .ok (.aload_n 0, 1) := by decide +kernel
theorem dX6_putHeightCell_17 : decode cX6_putHeightCell 17 = .ok (.getfield 11, 3) := by decide +kernel
theorem dX6_putHeightCell_20 : decode cX6_putHeightCell 20 = .ok (.iconst 5, 1) := by decide +kernel
theorem dX6_putHeightCell_21 : decode cX6_putHeightCell 21 = .ok (.iload_n 1, 1) := by decide +kernel
theorem dX6_putHeightCell_22 : decode cX6_putHeightCell 22 = .ok (.iadd, 1) := by decide +kernel
theorem dX6_putHeightCell_23 : decode cX6_putHeightCell 23 = .ok (.iload_n 2, 1) := by decide +kernel
theorem dX6_putHeightCell_24 : decode cX6_putHeightCell 24 = .ok (.iastore, 1) := by decide +kernel
theorem dX6_putHeightCell_25 : decode cX6_putHeightCell 25 = .ok (.iload_n 3, 1) := by decide +kernel
theorem dX6_putHeightCell_26 : decode cX6_putHeightCell 26 = .ok (.ireturn, 1) := by decide +kernel
theorem dX6_putThingCell_0 : decode cX6_putThingCell 0 = .ok (.aload_n 0, 1) := by decide +kernel
theorem dX6_putThingCell_1 : decode cX6_putThingCell 1 = .ok (.iload_n 1, 1) := by decide +kernel
theorem dX6_putThingCell_2 : decode cX6_putThingCell 2 = .ok (.iload_n 2, 1) := by decide +kernel
theorem dX6_putThingCell_3 : decode cX6_putThingCell 3 = .ok (.invokevirtual 19, 3) := by decide +kernel
theorem dX6_putThingCell_6 : decode cX6_putThingCell 6 = .ok (.istore 4, 2) := by decide +kernel
theorem dX6_putThingCell_8 : decode cX6_putThingCell 8 = .ok (.iload_n 1, 1) := by decide +kernel
theorem dX6_putThingCell_9 : decode cX6_putThingCell 9 = .ok (.ifCond .lt 32, 3) := by decide +kernel
theorem dX6_putThingCell_12 : decode cX6_putThingCell 12 = .ok (.iload_n 1, 1) := by decide +kernel
theorem dX6_putThingCell_13 : decode cX6_putThingCell 13 = .ok (.bipush 8, 2) := by decide +kernel
theorem dX6_putThingCell_15 : decode cX6_putThingCell 15 = .ok (.if_icmp .ge 26, 3) := by decide +kernel
theorem dX6_putThingCell_18 : decode cX6_putThingCell 18 = .ok (.iload_n 2, 1) := by decide +kernel
theorem dX6_putThingCell_19 : decode cX6_putThingCell 19 = .ok (.ifCond .lt 22, 3) := by decide +kernel
theorem dX6_putThingCell_22 : decode cX6_putThingCell 22 = .ok (.iload_n 2, 1) := by decide +kernel
theorem dX6_putThingCell_23 : decode cX6_putThingCell 23 = .ok (.iconst 5, 1) := by decide +kernel
theorem dX6_putThingCell_24 : decode cX6_putThingCell 24 = .ok (.if_icmp .ge 17, 3) := by decide +kernel
theorem dX6_putThingCell_27 : decode cX6_putThingCell 27 = .ok (.aload_n 0, 1) := by decide +kernel
theorem dX6_putThingCell_28 : decode cX6_putThingCell 28 = .ok (.getfield 11, 3) := by decide +kernel
theorem dX6_putThingCell_31 : decode cX6_putThingCell 31 = .ok (.bipush 11, 2) := by decide +kernel
theorem dX6_putThingCell_33 : decode cX6_putThingCell 33 = .ok (.iload_n 1, 1) := by decide +kernel
theorem dX6_putThingCell_34 : decode cX6_putThingCell 34 = .ok (.iconst 5, 1) := by decide +kernel
theorem dX6_putThingCell_35 : decode cX6_putThingCell 35 = .ok (.imul, 1) := by decide +kernel
theorem dX6_putThingCell_36 : decode cX6_putThingCell 36 = .ok (.iadd, 1) := by decide +kernel
theorem dX6_putThingCell_37 : decode cX6_putThingCell 37 = .ok (.iload_n 2, 1) := by decide +kernel
theorem dX6_putThingCell_38 : decode cX6_putThingCell 38 = .ok (.iadd, 1) := by decide +kernel
theorem dX6_putThingCell_39 : decode cX6_putThingCell 39 = .ok (.iload_n 3, 1) := by decide +kernel
theorem dX6_putThingCell_40 : decode cX6_putThingCell 40 = .ok (.iastore, 1) := by decide +kernel
theorem dX6_putThingCell_41 : decode cX6_putThingCell 41 = .ok (.iload 4, 2) := by decide +kernel
theorem dX6_putThingCell_43 : decode cX6_putThingCell 43 = .ok (.ireturn, 1) := by decide +kernel
theorem dX6_putLegCell_0 : decode cX6_putLegCell 0 = .ok (.aload_n 0, 1) := by decide +kernel
theorem dX6_putLegCell_1 : decode cX6_putLegCell 1 = .ok (.iload_n 1, 1) := by decide +kernel
theorem dX6_putLegCell_2 : decode cX6_putLegCell 2 = .ok (.iload_n 2, 1) := by decide +kernel
theorem dX6_putLegCell_3 : decode cX6_putLegCell 3 = .ok (.invokevirtual 33, 3) := by decide +kernel
theorem dX6_putLegCell_6 : decode cX6_putLegCell 6 = .ok (.istore 4, 2) := by decide +kernel
theorem dX6_putLegCell_8 : decode cX6_putLegCell 8 = .ok (.iload_n 1, 1) := by decide +kernel
theorem dX6_putLegCell_9 : decode cX6_putLegCell 9 = .ok (.ifCond .lt 32, 3) := by decide +kernel
theorem dX6_putLegCell_12 : decode cX6_putLegCell 12 = .ok (.iload_n 1, 1) := by decide +kernel
theorem dX6_putLegCell_13 : decode cX6_putLegCell 13 = .ok (.bipush 6, 2) := by decide +kernel
theorem dX6_putLegCell_15 : decode cX6_putLegCell 15 = .ok (.if_icmp .ge 26, 3) := by decide +kernel
theorem dX6_putLegCell_18 : decode cX6_putLegCell 18 = .ok (.iload_n 2, 1) := by decide +kernel
theorem dX6_putLegCell_19 : decode cX6_putLegCell 19 = .ok (.ifCond .lt 22, 3) := by decide +kernel
theorem dX6_putLegCell_22 : decode cX6_putLegCell 22 = .ok (.iload_n 2, 1) := by decide +kernel
theorem dX6_putLegCell_23 : decode cX6_putLegCell 23 = .ok (.iconst 4, 1) := by decide +kernel
theorem dX6_putLegCell_24 : decode cX6_putLegCell 24 = .ok (.if_icmp .ge 17, 3) := by decide +kernel
theorem dX6_putLegCell_27 : decode cX6_putLegCell 27 = .ok (.aload_n 0, 1) := by decide +kernel
theorem dX6_putLegCell_28 : decode cX6_putLegCell 28 = .ok (.getfield 11, 3) := by decide +kernel
theorem dX6_putLegCell_31 : decode cX6_putLegCell 31 = .ok (.bipush 51, 2) := by decide +kernel
theorem dX6_putLegCell_33 : decode cX6_putLegCell 33 = .ok (.iload_n 1, 1) := by decide +kernel
theorem dX6_putLegCell_34 : decode cX6_putLegCell 34 = .ok (.iconst 4, 1) := by decide +kernel
theorem dX6_putLegCell_35 : decode cX6_putLegCell 35 = .ok (.imul, 1) := by decide +kernel
theorem dX6_putLegCell_36 : decode cX6_putLegCell 36 = .ok (.iadd, 1) := by decide +kernel
theorem dX6_putLegCell_37 : decode cX6_putLegCell 37 = .ok (.iload_n 2, 1) := by decide +kernel
theorem dX6_putLegCell_38 : decode cX6_putLegCell 38 = .ok (.iadd, 1) := by decide +kernel
theorem dX6_putLegCell_39 : decode cX6_putLegCell 39 = .ok (.iload_n 3, 1) := by decide +kernel
theorem dX6_putLegCell_40 : decode cX6_putLegCell 40 = .ok (.iastore, 1) := by decide +kernel
theorem dX6_putLegCell_41 : decode cX6_putLegCell 41 = .ok (.iload 4, 2) := by decide +kernel
theorem dX6_putLegCell_43 : decode cX6_putLegCell 43 = .ok (.ireturn, 1) := by decide +kernel
theorem dX6_putUntil_0 : decode cX6_putUntil 0 = .ok (.aload_n 0, 1) := by decide +kernel
theorem dX6_putUntil_1 : decode cX6_putUntil 1 = .ok (.iload_n 1, 1) := by decide +kernel
theorem dX6_putUntil_2 : decode cX6_putUntil 2 = .ok (.iconst 2, 1) := by decide +kernel
theorem dX6_putUntil_3 : decode cX6_putUntil 3 = .ok (.iload_n 3, 1) := by decide +kernel
theorem dX6_putUntil_4 : decode cX6_putUntil 4 = .ok (.invokevirtual 36, 3) := by decide +kernel
theorem dX6_putUntil_7 : decode cX6_putUntil 7 = .ok (.pop, 1) := by decide +kernel
theorem dX6_putUntil_8 : decode cX6_putUntil 8 = .ok (.aload_n 0, 1) := by decide +kernel
theorem dX6_putUntil_9 : decode cX6_putUntil 9 = .ok (.iload_n 1, 1) := by decide +kernel
theorem dX6_putUntil_10 : decode cX6_putUntil 10 = .ok (.iconst 3, 1) := by decide +kernel
theorem dX6_putUntil_11 : decode cX6_putUntil 11 = .ok (.iload_n 2, 1) := by decide +kernel
theorem dX6_putUntil_12 : decode cX6_putUntil 12 = .ok (.iconst 2, 1) := by decide +kernel
theorem dX6_putUntil_13 : decode cX6_putUntil 13 = .ok (.if_icmp .ne 8, 3) := by decide +kernel
theorem dX6_putUntil_16 : decode cX6_putUntil 16 = .ok (.iload 4, 2) := by decide +kernel
theorem dX6_putUntil_18 : decode cX6_putUntil 18 = .ok (.goto 5, 3) := by decide +kernel
theorem dX6_putUntil_21 : decode cX6_putUntil 21 = .ok (.ldc 40, 2) := by decide +kernel
theorem dX6_putUntil_23 : decode cX6_putUntil 23 = .ok (.invokevirtual 36, 3) := by decide +kernel
theorem dX6_putUntil_26 : decode cX6_putUntil 26 = .ok (.pop, 1) := by decide +kernel
theorem dX6_putUntil_27 : decode cX6_putUntil 27 = .ok (.aload_n 0, 1) := by decide +kernel
theorem dX6_putUntil_28 : decode cX6_putUntil 28 = .ok (.iload_n 1, 1) := by decide +kernel
theorem dX6_putUntil_29 : decode cX6_putUntil 29 = .ok (.iconst 1, 1) := by decide +kernel
theorem dX6_putUntil_30 : decode cX6_putUntil 30 = .ok (.iload_n 2, 1) := by decide +kernel
theorem dX6_putUntil_31 : decode cX6_putUntil 31 = .ok (.invokevirtual 36, 3) := by decide +kernel
theorem dX6_putUntil_34 : decode cX6_putUntil 34 = .ok (.ireturn, 1) := by decide +kernel
theorem dX6_countHeights_0 : decode cX6_countHeights 0 = .ok (.aload_n 0, 1) := by decide +kernel
theorem dX6_countHeights_1 : decode cX6_countHeights 1 = .ok (.getfield 11, 3) := by decide +kernel
theorem dX6_countHeights_4 : decode cX6_countHeights 4 = .ok (.bipush 75, 2) := by decide +kernel
theorem dX6_countHeights_6 : decode cX6_countHeights 6 = .ok (.iconst 0, 1) := by decide +kernel
theorem dX6_countHeights_7 : decode cX6_countHeights 7 = .ok (.iload_n 1, 1) := by decide +kernel
theorem dX6_countHeights_8 : decode cX6_countHeights 8 = .ok (.bipush 6, 2) := by decide +kernel
theorem dX6_countHeights_10 : decode cX6_countHeights 10 = .ok (.invokestatic 41, 3) := by decide +kernel
theorem dX6_countHeights_13 : decode cX6_countHeights 13 = .ok (.invokestatic 46, 3) := by decide +kernel
theorem dX6_countHeights_16 : decode cX6_countHeights 16 = .ok (.iastore, 1) := by decide +kernel
theorem dX6_countHeights_17 : decode cX6_countHeights 17 = .ok (.return_, 1) := by decide +kernel
theorem dX6_countThings_0 : decode cX6_countThings 0 = .ok (.aload_n 0, 1) := by decide +kernel
theorem dX6_countThings_1 : decode cX6_countThings 1 = .ok (.getfield 11, 3) := by decide +kernel
theorem dX6_countThings_4 : decode cX6_countThings 4 = .ok (.bipush 76, 2) := by decide +kernel
theorem dX6_countThings_6 : decode cX6_countThings 6 = .ok (.iconst 0, 1) := by decide +kernel
theorem dX6_countThings_7 : decode cX6_countThings 7 = .ok (.iload_n 1, 1) := by decide +kernel
theorem dX6_countThings_8 : decode cX6_countThings 8 = .ok (.bipush 8, 2) := by decide +kernel
theorem dX6_countThings_10 : decode cX6_countThings 10 = .ok (.invokestatic 41, 3) := by decide +kernel
theorem dX6_countThings_13 : decode cX6_countThings 13 = .ok (.invokestatic 46, 3) := by decide +kernel
theorem dX6_countThings_16 : decode cX6_countThings 16 = .ok (.iastore, 1) := by decide +kernel
theorem dX6_countThings_17 : decode cX6_countThings 17 = .ok (.return_, 1) := by decide +kernel
theorem dX6_countLegs_0 : decode cX6_countLegs 0 = .ok (.aload_n 0, 1) := by decide +kernel
theorem dX6_countLegs_1 : decode cX6_countLegs 1 = .ok (.getfield 11, 3) := by decide +kernel
theorem dX6_countLegs_4 : decode cX6_countLegs 4 = .ok (.bipush 77, 2) := by decide +kernel
theorem dX6_countLegs_6 : decode cX6_countLegs 6 = .ok (.iconst 0, 1) := by decide +kernel
theorem dX6_countLegs_7 : decode cX6_countLegs 7 = .ok (.iload_n 1, 1) := by decide +kernel
theorem dX6_countLegs_8 : decode cX6_countLegs 8 = .ok (.bipush 6, 2) := by decide +kernel
theorem dX6_countLegs_10 : decode cX6_countLegs 10 = .ok (.invokestatic 41, 3) := by decide +kernel
theorem dX6_countLegs_13 : decode cX6_countLegs 13 = .ok (.invokestatic 46, 3) := by decide +kernel
theorem dX6_countLegs_16 : decode cX6_countLegs 16 = .ok (.iastore, 1) := by decide +kernel
theorem dX6_countLegs_17 : decode cX6_countLegs 17 = .ok (.return_, 1) := by decide +kernel
theorem dX6_openLeg_0 : decode cX6_openLeg 0 = .ok (.aload_n 0, 1) := by decide +kernel
theorem dX6_openLeg_1 : decode cX6_openLeg 1 = .ok (.getfield 11, 3) := by decide +kernel
theorem dX6_openLeg_4 : decode cX6_openLeg 4 = .ok (.bipush 77, 2) := by decide +kernel
theorem dX6_openLeg_6 : decode cX6_openLeg 6 = .ok (.iaload, 1) := by decide +kernel
theorem dX6_openLeg_7 : decode cX6_openLeg 7 = .ok (.istore_n 2, 1) := by decide +kernel
theorem dX6_openLeg_8 : decode cX6_openLeg 8 = .ok (.iload_n 1, 1) := by decide +kernel
theorem dX6_openLeg_9 : decode cX6_openLeg 9 = .ok (.ifCond .lt 14, 3) := by decide +kernel
theorem dX6_openLeg_12 : decode cX6_openLeg 12 = .ok (.iload_n 1, 1) := by decide +kernel
theorem dX6_openLeg_13 : decode cX6_openLeg 13 = .ok (.iload_n 2, 1) := by decide +kernel
theorem dX6_openLeg_14 : decode cX6_openLeg 14 = .ok (.if_icmp .gt 9, 3) := by decide +kernel
theorem dX6_openLeg_17 : decode cX6_openLeg 17 = .ok (.iload_n 2, 1) := by decide +kernel
theorem dX6_openLeg_18 : decode cX6_openLeg 18 = .ok (.bipush 6, 2) := by decide +kernel
theorem dX6_openLeg_20 : decode cX6_openLeg 20 = .ok (.if_icmp .lt 4, 3) := by decide +kernel
theorem dX6_openLeg_23 : decode cX6_openLeg 23 = .ok (.return_, 1) := by decide +kernel
theorem dX6_openLeg_24 : decode cX6_openLeg 24 = .ok (.bipush 51, 2) := by decide +kernel
theorem dX6_openLeg_26 : decode cX6_openLeg 26 = .ok (.iload_n 2, 1) := by decide +kernel
theorem dX6_openLeg_27 : decode cX6_openLeg 27 = .ok (.iconst 1, 1) := by decide +kernel
theorem dX6_openLeg_28 : decode cX6_openLeg 28 = .ok (.iadd, 1) := by decide +kernel
theorem dX6_openLeg_29 : decode cX6_openLeg 29 = .ok (.iconst 4, 1) := by decide +kernel
theorem dX6_openLeg_30 : decode cX6_openLeg 30 = .ok (.imul, 1) := by decide +kernel
theorem dX6_openLeg_31 : decode cX6_openLeg 31 = .ok (.iadd, 1) := by decide +kernel
theorem dX6_openLeg_32 : decode cX6_openLeg 32 = .ok (.iconst 1, 1) := by decide +kernel
theorem dX6_openLeg_33 : decode cX6_openLeg 33 = .ok (.isub, 1) := by decide +kernel
theorem dX6_openLeg_34 : decode cX6_openLeg 34 = .ok (.istore_n 3, 1) := by decide +kernel
theorem dX6_openLeg_35 : decode cX6_openLeg 35 = .ok (.iload_n 3, 1) := by decide +kernel
theorem dX6_openLeg_36 : decode cX6_openLeg 36 = .ok (.bipush 51, 2) := by decide +kernel
theorem dX6_openLeg_38 : decode cX6_openLeg 38 = .ok (.iload_n 1, 1) := by decide +kernel
theorem dX6_openLeg_39 : decode cX6_openLeg 39 = .ok (.iconst 1, 1) := by decide +kernel
theorem dX6_openLeg_40 : decode cX6_openLeg 40 = .ok (.iadd, 1) := by decide +kernel
theorem dX6_openLeg_41 : decode cX6_openLeg 41 = .ok (.iconst 4, 1) := by decide +kernel
theorem dX6_openLeg_42 : decode cX6_openLeg 42 = .ok (.imul, 1) := by decide +kernel
theorem dX6_openLeg_43 : decode cX6_openLeg 43 = .ok (.iadd, 1) := by decide +kernel
theorem dX6_openLeg_44 : decode cX6_openLeg 44 = .ok (.if_icmp .lt 23, 3) := by decide +kernel
theorem dX6_openLeg_47 : decode cX6_openLeg 47 = .ok (.aload_n 0, 1) := by decide +kernel
theorem dX6_openLeg_48 : decode cX6_openLeg 48 = .ok (.getfield 11, 3) := by decide +kernel
theorem dX6_openLeg_51 : decode cX6_openLeg 51 = .ok (.iload_n 3, 1) := by decide +kernel
theorem dX6_openLeg_52 : decode cX6_openLeg 52 = .ok (.aload_n 0, 1) := by decide +kernel
theorem dX6_openLeg_53 : decode cX6_openLeg 53 = .ok (.getfield 11, 3) := by decide +kernel
theorem dX6_openLeg_56 : decode cX6_openLeg 56 = .ok (.iload_n 3, 1) := by decide +kernel
theorem dX6_openLeg_57 : decode cX6_openLeg 57 = .ok (.iconst 4, 1) := by decide +kernel
theorem dX6_openLeg_58 : decode cX6_openLeg 58 = .ok (.isub, 1) := by decide +kernel
theorem dX6_openLeg_59 : decode cX6_openLeg 59 = .ok (.iaload, 1) := by decide +kernel
theorem dX6_openLeg_60 : decode cX6_openLeg 60 = .ok (.iastore, 1) := by decide +kernel
theorem dX6_openLeg_61 : decode cX6_openLeg 61 = .ok (.iinc 3 (-1), 3) := by decide +kernel
theorem dX6_openLeg_64 : decode cX6_openLeg 64 = .ok (.goto (-29), 3) := by decide +kernel
theorem dX6_openLeg_67 : decode cX6_openLeg 67 = .ok (.aload_n 0, 1) := by decide +kernel
theorem dX6_openLeg_68 : decode cX6_openLeg 68 = .ok (.iload_n 2, 1) := by decide +kernel
theorem dX6_openLeg_69 : decode cX6_openLeg 69 = .ok (.iconst 1, 1) := by decide +kernel
theorem dX6_openLeg_70 : decode cX6_openLeg 70 = .ok (.iadd, 1) := by decide +kernel
theorem dX6_openLeg_71 : decode cX6_openLeg 71 = .ok (.invokevirtual 49, 3) := by decide +kernel
theorem dX6_openLeg_74 : decode cX6_openLeg 74 = .ok (.return_, 1) := by decide +kernel
theorem dX6_closeLeg_0 : decode cX6_closeLeg 0 = .ok (.aload_n 0, 1) := by decide +kernel
theorem dX6_closeLeg_1 : decode cX6_closeLeg 1 = .ok (.getfield 11, 3) := by decide +kernel
theorem dX6_closeLeg_4 : decode cX6_closeLeg 4 = .ok (.bipush 77, 2) := by decide +kernel
theorem dX6_closeLeg_6 : decode cX6_closeLeg 6 = .ok (.iaload, 1) := by decide +kernel
theorem dX6_closeLeg_7 : decode cX6_closeLeg 7 = .ok (.istore_n 2, 1) := by decide +kernel
theorem dX6_closeLeg_8 : decode cX6_closeLeg 8 = .ok (.iload_n 1, 1) := by decide +kernel
theorem dX6_closeLeg_9 : decode cX6_closeLeg 9 = .ok (.ifCond .lt 14, 3) := by decide +kernel
theorem dX6_closeLeg_12 : decode cX6_closeLeg 12 = .ok (.iload_n 1, 1) := by decide +kernel
theorem dX6_closeLeg_13 : decode cX6_closeLeg 13 = .ok (.iload_n 2, 1) := by decide +kernel
theorem dX6_closeLeg_14 : decode cX6_closeLeg 14 = .ok (.if_icmp .ge 9, 3) := by decide +kernel
theorem dX6_closeLeg_17 : decode cX6_closeLeg 17 = .ok (.iload_n 2, 1) := by decide +kernel
theorem dX6_closeLeg_18 : decode cX6_closeLeg 18 = .ok (.bipush 6, 2) := by decide +kernel
theorem dX6_closeLeg_20 : decode cX6_closeLeg 20 = .ok (.if_icmp .le 4, 3) := by decide +kernel
theorem dX6_closeLeg_23 : decode cX6_closeLeg 23 = .ok (.return_, 1) := by decide +kernel
theorem dX6_closeLeg_24 : decode cX6_closeLeg 24 = .ok (.bipush 51, 2) := by decide +kernel
theorem dX6_closeLeg_26 : decode cX6_closeLeg 26 = .ok (.iload_n 1, 1) := by decide +kernel
theorem dX6_closeLeg_27 : decode cX6_closeLeg 27 = .ok (.iconst 4, 1) := by decide +kernel
theorem dX6_closeLeg_28 : decode cX6_closeLeg 28 = .ok (.imul, 1) := by decide +kernel
theorem dX6_closeLeg_29 : decode cX6_closeLeg 29 = .ok (.iadd, 1) := by decide +kernel
theorem dX6_closeLeg_30 : decode cX6_closeLeg 30 = .ok (.istore_n 3, 1) := by decide +kernel
theorem dX6_closeLeg_31 : decode cX6_closeLeg 31 = .ok (.iload_n 3, 1) := by decide +kernel
theorem dX6_closeLeg_32 : decode cX6_closeLeg 32 = .ok (.bipush 51, 2) := by decide +kernel
theorem dX6_closeLeg_34 : decode cX6_closeLeg 34 = .ok (.iload_n 2, 1) := by decide +kernel
theorem dX6_closeLeg_35 : decode cX6_closeLeg 35 = .ok (.iconst 1, 1) := by decide +kernel
theorem dX6_closeLeg_36 : decode cX6_closeLeg 36 = .ok (.isub, 1) := by decide +kernel
