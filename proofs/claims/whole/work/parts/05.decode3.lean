theorem dX11_readsShip_36 : decode cX11_readsShip 36 = .ok (.iconst 0, 1) := by decide +kernel
theorem dX11_readsShip_37 : decode cX11_readsShip 37 = .ok (.bipush 60, 2) := by decide +kernel
theorem dX11_readsShip_39 : decode cX11_readsShip 39 = .ok (.invokevirtual 105, 3) := by decide +kernel
theorem dX11_readsShip_42 : decode cX11_readsShip 42 = .ok (.aload_n 0, 1) := by decide +kernel
theorem dX11_readsShip_43 : decode cX11_readsShip 43 = .ok (.bipush 59, 2) := by decide +kernel
theorem dX11_readsShip_45 : decode cX11_readsShip 45 = .ok (.invokevirtual 101, 3) := by decide +kernel
theorem dX11_readsShip_48 : decode cX11_readsShip 48 = .ok (.return_, 1) := by decide +kernel
theorem dX11_readsTide_0 : decode cX11_readsTide 0 = .ok (.aload_n 0, 1) := by decide +kernel
theorem dX11_readsTide_1 : decode cX11_readsTide 1 = .ok (.bipush 116, 2) := by decide +kernel
theorem dX11_readsTide_3 : decode cX11_readsTide 3 = .ok (.invokevirtual 101, 3) := by decide +kernel
theorem dX11_readsTide_6 : decode cX11_readsTide 6 = .ok (.aload_n 0, 1) := by decide +kernel
theorem dX11_readsTide_7 : decode cX11_readsTide 7 = .ok (.bipush 7, 2) := by decide +kernel
theorem dX11_readsTide_9 : decode cX11_readsTide 9 = .ok (.iconst 0, 1) := by decide +kernel
theorem dX11_readsTide_10 : decode cX11_readsTide 10 = .ok (.bipush 20, 2) := by decide +kernel
theorem dX11_readsTide_12 : decode cX11_readsTide 12 = .ok (.invokevirtual 105, 3) := by decide +kernel
theorem dX11_readsTide_15 : decode cX11_readsTide 15 = .ok (.aload_n 0, 1) := by decide +kernel
theorem dX11_readsTide_16 : decode cX11_readsTide 16 = .ok (.getfield 26, 3) := by decide +kernel
theorem dX11_readsTide_19 : decode cX11_readsTide 19 = .ok (.bipush 6, 2) := by decide +kernel
theorem dX11_readsTide_21 : decode cX11_readsTide 21 = .ok (.iconst 1, 1) := by decide +kernel
theorem dX11_readsTide_22 : decode cX11_readsTide 22 = .ok (.iastore, 1) := by decide +kernel
theorem dX11_readsTide_23 : decode cX11_readsTide 23 = .ok (.aload_n 0, 1) := by decide +kernel
theorem dX11_readsTide_24 : decode cX11_readsTide 24 = .ok (.invokevirtual 90, 3) := by decide +kernel
theorem dX11_readsTide_27 : decode cX11_readsTide 27 = .ok (.ifCond .eq 59, 3) := by decide +kernel
theorem dX11_readsTide_30 : decode cX11_readsTide 30 = .ok (.aload_n 0, 1) := by decide +kernel
theorem dX11_readsTide_31 : decode cX11_readsTide 31 = .ok (.getfield 76, 3) := by decide +kernel
theorem dX11_readsTide_34 : decode cX11_readsTide 34 = .ok (.bipush 44, 2) := by decide +kernel
theorem dX11_readsTide_36 : decode cX11_readsTide 36 = .ok (.if_icmp .ne 50, 3) := by decide +kernel
theorem dX11_readsTide_39 : decode cX11_readsTide 39 = .ok (.aload_n 0, 1) := by decide +kernel
theorem dX11_readsTide_40 : decode cX11_readsTide 40 = .ok (.getfield 26, 3) := by decide +kernel
theorem dX11_readsTide_43 : decode cX11_readsTide 43 = .ok (.bipush 6, 2) := by decide +kernel
theorem dX11_readsTide_45 : decode cX11_readsTide 45 = .ok (.iaload, 1) := by decide +kernel
theorem dX11_readsTide_46 : decode cX11_readsTide 46 = .ok (.bipush 6, 2) := by decide +kernel
theorem dX11_readsTide_48 : decode cX11_readsTide 48 = .ok (.if_icmp .ge 38, 3) := by decide +kernel
theorem dX11_readsTide_51 : decode cX11_readsTide 51 = .ok (.aload_n 0, 1) := by decide +kernel
theorem dX11_readsTide_52 : decode cX11_readsTide 52 = .ok (.invokevirtual 98, 3) := by decide +kernel
theorem dX11_readsTide_55 : decode cX11_readsTide 55 = .ok (.aload_n 0, 1) := by decide +kernel
theorem dX11_readsTide_56 : decode cX11_readsTide 56 = .ok (.bipush 7, 2) := by decide +kernel
theorem dX11_readsTide_58 : decode cX11_readsTide 58 = .ok (.aload_n 0, 1) := by decide +kernel
theorem dX11_readsTide_59 : decode cX11_readsTide 59 = .ok (.getfield 26, 3) := by decide +kernel
theorem dX11_readsTide_62 : decode cX11_readsTide 62 = .ok (.bipush 6, 2) := by decide +kernel
theorem dX11_readsTide_64 : decode cX11_readsTide 64 = .ok (.iaload, 1) := by decide +kernel
theorem dX11_readsTide_65 : decode cX11_readsTide 65 = .ok (.iadd, 1) := by decide +kernel
theorem dX11_readsTide_66 : decode cX11_readsTide 66 = .ok (.iconst 0, 1) := by decide +kernel
theorem dX11_readsTide_67 : decode cX11_readsTide 67 = .ok (.bipush 20, 2) := by decide +kernel
theorem dX11_readsTide_69 : decode cX11_readsTide 69 = .ok (.invokevirtual 105, 3) := by decide +kernel
theorem dX11_readsTide_72 : decode cX11_readsTide 72 = .ok (.aload_n 0, 1) := by decide +kernel
theorem dX11_readsTide_73 : decode cX11_readsTide 73 = .ok (.getfield 26, 3) := by decide +kernel
theorem dX11_readsTide_76 : decode cX11_readsTide 76 = .ok (.bipush 6, 2) := by decide +kernel
theorem dX11_readsTide_78 : decode cX11_readsTide 78 = .ok (.dup2, 1) := by decide +kernel
theorem dX11_readsTide_79 : decode cX11_readsTide 79 = .ok (.iaload, 1) := by decide +kernel
theorem dX11_readsTide_80 : decode cX11_readsTide 80 = .ok (.iconst 1, 1) := by decide +kernel
theorem dX11_readsTide_81 : decode cX11_readsTide 81 = .ok (.iadd, 1) := by decide +kernel
theorem dX11_readsTide_82 : decode cX11_readsTide 82 = .ok (.iastore, 1) := by decide +kernel
theorem dX11_readsTide_83 : decode cX11_readsTide 83 = .ok (.goto (-60), 3) := by decide +kernel
theorem dX11_readsTide_86 : decode cX11_readsTide 86 = .ok (.aload_n 0, 1) := by decide +kernel
theorem dX11_readsTide_87 : decode cX11_readsTide 87 = .ok (.bipush 59, 2) := by decide +kernel
theorem dX11_readsTide_89 : decode cX11_readsTide 89 = .ok (.invokevirtual 101, 3) := by decide +kernel
theorem dX11_readsTide_92 : decode cX11_readsTide 92 = .ok (.return_, 1) := by decide +kernel
theorem dX11_sortOf_0 : decode cX11_sortOf 0 = .ok (.iload_n 0, 1) := by decide +kernel
theorem dX11_sortOf_1 : decode cX11_sortOf 1 = .ok (.tableswitch 108 98 117 #[95, 108, 108, 108, 108, 108, 108, 108, 108, 105, 97, 108, 108, 108, 108, 108, 103, 101, 108, 99], 95) := by decide +kernel
theorem dX11_sortOf_96 : decode cX11_sortOf 96 = .ok (.iconst 1, 1) := by decide +kernel
theorem dX11_sortOf_97 : decode cX11_sortOf 97 = .ok (.ireturn, 1) := by decide +kernel
theorem dX11_sortOf_98 : decode cX11_sortOf 98 = .ok (.iconst 2, 1) := by decide +kernel
theorem dX11_sortOf_99 : decode cX11_sortOf 99 = .ok (.ireturn, 1) := by decide +kernel
theorem dX11_sortOf_100 : decode cX11_sortOf 100 = .ok (.iconst 3, 1) := by decide +kernel
theorem dX11_sortOf_101 : decode cX11_sortOf 101 = .ok (.ireturn, 1) := by decide +kernel
theorem dX11_sortOf_102 : decode cX11_sortOf 102 = .ok (.iconst 4, 1) := by decide +kernel
theorem dX11_sortOf_103 : decode cX11_sortOf 103 = .ok (.ireturn, 1) := by decide +kernel
theorem dX11_sortOf_104 : decode cX11_sortOf 104 = .ok (.iconst 5, 1) := by decide +kernel
theorem dX11_sortOf_105 : decode cX11_sortOf 105 = .ok (.ireturn, 1) := by decide +kernel
theorem dX11_sortOf_106 : decode cX11_sortOf 106 = .ok (.bipush 6, 2) := by decide +kernel
theorem dX11_sortOf_108 : decode cX11_sortOf 108 = .ok (.ireturn, 1) := by decide +kernel
theorem dX11_sortOf_109 : decode cX11_sortOf 109 = .ok (.iconst 0, 1) := by decide +kernel
theorem dX11_sortOf_110 : decode cX11_sortOf 110 = .ok (.ireturn, 1) := by decide +kernel
theorem dX11_readsThing_0 : decode cX11_readsThing 0 = .ok (.aload_n 0, 1) := by decide +kernel
theorem dX11_readsThing_1 : decode cX11_readsThing 1 = .ok (.aload_n 0, 1) := by decide +kernel
theorem dX11_readsThing_2 : decode cX11_readsThing 2 = .ok (.getfield 26, 3) := by decide +kernel
theorem dX11_readsThing_5 : decode cX11_readsThing 5 = .ok (.bipush 13, 2) := by decide +kernel
theorem dX11_readsThing_7 : decode cX11_readsThing 7 = .ok (.iaload, 1) := by decide +kernel
theorem dX11_readsThing_8 : decode cX11_readsThing 8 = .ok (.bipush 8, 2) := by decide +kernel
theorem dX11_readsThing_10 : decode cX11_readsThing 10 = .ok (.if_icmp .ge 7, 3) := by decide +kernel
theorem dX11_readsThing_13 : decode cX11_readsThing 13 = .ok (.iconst 1, 1) := by decide +kernel
theorem dX11_readsThing_14 : decode cX11_readsThing 14 = .ok (.goto 4, 3) := by decide +kernel
theorem dX11_readsThing_17 : decode cX11_readsThing 17 = .ok (.iconst 0, 1) := by decide +kernel
theorem dX11_readsThing_18 : decode cX11_readsThing 18 = .ok (.iconst 3, 1) := by decide +kernel
theorem dX11_readsThing_19 : decode cX11_readsThing 19 = .ok (.invokevirtual 94, 3) := by decide +kernel
theorem dX11_readsThing_22 : decode cX11_readsThing 22 = .ok (.aload_n 0, 1) := by decide +kernel
theorem dX11_readsThing_23 : decode cX11_readsThing 23 = .ok (.invokevirtual 90, 3) := by decide +kernel
theorem dX11_readsThing_26 : decode cX11_readsThing 26 = .ok (.ifCond .eq 108, 3) := by decide +kernel
theorem dX11_readsThing_29 : decode cX11_readsThing 29 = .ok (.bipush 14, 2) := by decide +kernel
theorem dX11_readsThing_31 : decode cX11_readsThing 31 = .ok (.iconst 5, 1) := by decide +kernel
theorem dX11_readsThing_32 : decode cX11_readsThing 32 = .ok (.aload_n 0, 1) := by decide +kernel
theorem dX11_readsThing_33 : decode cX11_readsThing 33 = .ok (.getfield 26, 3) := by decide +kernel
theorem dX11_readsThing_36 : decode cX11_readsThing 36 = .ok (.bipush 13, 2) := by decide +kernel
theorem dX11_readsThing_38 : decode cX11_readsThing 38 = .ok (.iaload, 1) := by decide +kernel
theorem dX11_readsThing_39 : decode cX11_readsThing 39 = .ok (.imul, 1) := by decide +kernel
theorem dX11_readsThing_40 : decode cX11_readsThing 40 = .ok (.iadd, 1) := by decide +kernel
theorem dX11_readsThing_41 : decode cX11_readsThing 41 = .ok (.istore_n 1, 1) := by decide +kernel
theorem dX11_readsThing_42 : decode cX11_readsThing 42 = .ok (.aload_n 0, 1) := by decide +kernel
theorem dX11_readsThing_43 : decode cX11_readsThing 43 = .ok (.getfield 26, 3) := by decide +kernel
theorem dX11_readsThing_46 : decode cX11_readsThing 46 = .ok (.iload_n 1, 1) := by decide +kernel
theorem dX11_readsThing_47 : decode cX11_readsThing 47 = .ok (.aload_n 0, 1) := by decide +kernel
theorem dX11_readsThing_48 : decode cX11_readsThing 48 = .ok (.getfield 76, 3) := by decide +kernel
theorem dX11_readsThing_51 : decode cX11_readsThing 51 = .ok (.invokestatic 109, 3) := by decide +kernel
theorem dX11_readsThing_54 : decode cX11_readsThing 54 = .ok (.iastore, 1) := by decide +kernel
theorem dX11_readsThing_55 : decode cX11_readsThing 55 = .ok (.aload_n 0, 1) := by decide +kernel
theorem dX11_readsThing_56 : decode cX11_readsThing 56 = .ok (.invokevirtual 98, 3) := by decide +kernel
theorem dX11_readsThing_59 : decode cX11_readsThing 59 = .ok (.aload_n 0, 1) := by decide +kernel
theorem dX11_readsThing_60 : decode cX11_readsThing 60 = .ok (.iload_n 1, 1) := by decide +kernel
theorem dX11_readsThing_61 : decode cX11_readsThing 61 = .ok (.iconst 1, 1) := by decide +kernel
theorem dX11_readsThing_62 : decode cX11_readsThing 62 = .ok (.iadd, 1) := by decide +kernel
theorem dX11_readsThing_63 : decode cX11_readsThing 63 = .ok (.iconst 0, 1) := by decide +kernel
theorem dX11_readsThing_64 : decode cX11_readsThing 64 = .ok (.bipush 60, 2) := by decide +kernel
theorem dX11_readsThing_66 : decode cX11_readsThing 66 = .ok (.invokevirtual 105, 3) := by decide +kernel
theorem dX11_readsThing_69 : decode cX11_readsThing 69 = .ok (.aload_n 0, 1) := by decide +kernel
theorem dX11_readsThing_70 : decode cX11_readsThing 70 = .ok (.bipush 44, 2) := by decide +kernel
theorem dX11_readsThing_72 : decode cX11_readsThing 72 = .ok (.invokevirtual 101, 3) := by decide +kernel
theorem dX11_readsThing_75 : decode cX11_readsThing 75 = .ok (.aload_n 0, 1) := by decide +kernel
theorem dX11_readsThing_76 : decode cX11_readsThing 76 = .ok (.iload_n 1, 1) := by decide +kernel
theorem dX11_readsThing_77 : decode cX11_readsThing 77 = .ok (.iconst 2, 1) := by decide +kernel
theorem dX11_readsThing_78 : decode cX11_readsThing 78 = .ok (.iadd, 1) := by decide +kernel
theorem dX11_readsThing_79 : decode cX11_readsThing 79 = .ok (.iconst 0, 1) := by decide +kernel
theorem dX11_readsThing_80 : decode cX11_readsThing 80 = .ok (.bipush 60, 2) := by decide +kernel
theorem dX11_readsThing_82 : decode cX11_readsThing 82 = .ok (.invokevirtual 105, 3) := by decide +kernel
theorem dX11_readsThing_85 : decode cX11_readsThing 85 = .ok (.aload_n 0, 1) := by decide +kernel
theorem dX11_readsThing_86 : decode cX11_readsThing 86 = .ok (.bipush 44, 2) := by decide +kernel
theorem dX11_readsThing_88 : decode cX11_readsThing 88 = .ok (.invokevirtual 101, 3) := by decide +kernel
theorem dX11_readsThing_91 : decode cX11_readsThing 91 = .ok (.aload_n 0, 1) := by decide +kernel
theorem dX11_readsThing_92 : decode cX11_readsThing 92 = .ok (.iload_n 1, 1) := by decide +kernel
theorem dX11_readsThing_93 : decode cX11_readsThing 93 = .ok (.iconst 3, 1) := by decide +kernel
theorem dX11_readsThing_94 : decode cX11_readsThing 94 = .ok (.iadd, 1) := by decide +kernel
theorem dX11_readsThing_95 : decode cX11_readsThing 95 = .ok (.iconst 0, 1) := by decide +kernel
theorem dX11_readsThing_96 : decode cX11_readsThing 96 = .ok (.bipush 15, 2) := by decide +kernel
theorem dX11_readsThing_98 : decode cX11_readsThing 98 = .ok (.invokevirtual 105, 3) := by decide +kernel
theorem dX11_readsThing_101 : decode cX11_readsThing 101 = .ok (.aload_n 0, 1) := by decide +kernel
theorem dX11_readsThing_102 : decode cX11_readsThing 102 = .ok (.bipush 44, 2) := by decide +kernel
theorem dX11_readsThing_104 : decode cX11_readsThing 104 = .ok (.invokevirtual 101, 3) := by decide +kernel
theorem dX11_readsThing_107 : decode cX11_readsThing 107 = .ok (.aload_n 0, 1) := by decide +kernel
theorem dX11_readsThing_108 : decode cX11_readsThing 108 = .ok (.iload_n 1, 1) := by decide +kernel
theorem dX11_readsThing_109 : decode cX11_readsThing 109 = .ok (.iconst 4, 1) := by decide +kernel
theorem dX11_readsThing_110 : decode cX11_readsThing 110 = .ok (.iadd, 1) := by decide +kernel
theorem dX11_readsThing_111 : decode cX11_readsThing 111 = .ok (.iconst 0, 1) := by decide +kernel
theorem dX11_readsThing_112 : decode cX11_readsThing 112 = .ok (.bipush 20, 2) := by decide +kernel
theorem dX11_readsThing_114 : decode cX11_readsThing 114 = .ok (.invokevirtual 105, 3) := by decide +kernel
theorem dX11_readsThing_117 : decode cX11_readsThing 117 = .ok (.aload_n 0, 1) := by decide +kernel
theorem dX11_readsThing_118 : decode cX11_readsThing 118 = .ok (.bipush 59, 2) := by decide +kernel
theorem dX11_readsThing_120 : decode cX11_readsThing 120 = .ok (.invokevirtual 101, 3) := by decide +kernel
theorem dX11_readsThing_123 : decode cX11_readsThing 123 = .ok (.aload_n 0, 1) := by decide +kernel
theorem dX11_readsThing_124 : decode cX11_readsThing 124 = .ok (.getfield 26, 3) := by decide +kernel
theorem dX11_readsThing_127 : decode cX11_readsThing 127 = .ok (.bipush 13, 2) := by decide +kernel
theorem dX11_readsThing_129 : decode cX11_readsThing 129 = .ok (.dup2, 1) := by decide +kernel
theorem dX11_readsThing_130 : decode cX11_readsThing 130 = .ok (.iaload, 1) := by decide +kernel
theorem dX11_readsThing_131 : decode cX11_readsThing 131 = .ok (.iconst 1, 1) := by decide +kernel
theorem dX11_readsThing_132 : decode cX11_readsThing 132 = .ok (.iadd, 1) := by decide +kernel
theorem dX11_readsThing_133 : decode cX11_readsThing 133 = .ok (.iastore, 1) := by decide +kernel
theorem dX11_readsThing_134 : decode cX11_readsThing 134 = .ok (.return_, 1) := by decide +kernel
theorem dX11_untilOf_0 : decode cX11_untilOf 0 = .ok (.iload_n 0, 1) := by decide +kernel
theorem dX11_untilOf_1 : decode cX11_untilOf 1 = .ok (.tableswitch 77 97 109 #[69, 77, 77, 75, 73, 77, 77, 77, 71, 77, 77, 77, 67], 67) := by decide +kernel
theorem dX11_untilOf_68 : decode cX11_untilOf 68 = .ok (.iconst 0, 1) := by decide +kernel
theorem dX11_untilOf_69 : decode cX11_untilOf 69 = .ok (.ireturn, 1) := by decide +kernel
theorem dX11_untilOf_70 : decode cX11_untilOf 70 = .ok (.iconst 1, 1) := by decide +kernel
theorem dX11_untilOf_71 : decode cX11_untilOf 71 = .ok (.ireturn, 1) := by decide +kernel
theorem dX11_untilOf_72 : decode cX11_untilOf 72 = .ok (.iconst 2, 1) := by decide +kernel
theorem dX11_untilOf_73 : decode cX11_untilOf 73 = .ok (.ireturn, 1) := by decide +kernel
theorem dX11_untilOf_74 : decode cX11_untilOf 74 = .ok (.iconst 3, 1) := by decide +kernel
theorem dX11_untilOf_75 : decode cX11_untilOf 75 = .ok (.ireturn, 1) := by decide +kernel
theorem dX11_untilOf_76 : decode cX11_untilOf 76 = .ok (.iconst 4, 1) := by decide +kernel
theorem dX11_untilOf_77 : decode cX11_untilOf 77 = .ok (.ireturn, 1) := by decide +kernel
theorem dX11_untilOf_78 : decode cX11_untilOf 78 = .ok (.ldc 75, 2) := by decide +kernel
theorem dX11_untilOf_80 : decode cX11_untilOf 80 = .ok (.ireturn, 1) := by decide +kernel
theorem dX11_readsUntil_0 : decode cX11_readsUntil 0 = .ok (.aload_n 0, 1) := by decide +kernel
theorem dX11_readsUntil_1 : decode cX11_readsUntil 1 = .ok (.invokevirtual 90, 3) := by decide +kernel
theorem dX11_readsUntil_4 : decode cX11_readsUntil 4 = .ok (.ifCond .eq 25, 3) := by decide +kernel
theorem dX11_readsUntil_7 : decode cX11_readsUntil 7 = .ok (.aload_n 0, 1) := by decide +kernel
theorem dX11_readsUntil_8 : decode cX11_readsUntil 8 = .ok (.aload_n 0, 1) := by decide +kernel
theorem dX11_readsUntil_9 : decode cX11_readsUntil 9 = .ok (.getfield 76, 3) := by decide +kernel
theorem dX11_readsUntil_12 : decode cX11_readsUntil 12 = .ok (.invokestatic 113, 3) := by decide +kernel
theorem dX11_readsUntil_15 : decode cX11_readsUntil 15 = .ok (.ldc 75, 2) := by decide +kernel
theorem dX11_readsUntil_17 : decode cX11_readsUntil 17 = .ok (.if_icmp .eq 7, 3) := by decide +kernel
theorem dX11_readsUntil_20 : decode cX11_readsUntil 20 = .ok (.iconst 1, 1) := by decide +kernel
theorem dX11_readsUntil_21 : decode cX11_readsUntil 21 = .ok (.goto 4, 3) := by decide +kernel
theorem dX11_readsUntil_24 : decode cX11_readsUntil 24 = .ok (.iconst 0, 1) := by decide +kernel
theorem dX11_readsUntil_25 : decode cX11_readsUntil 25 = .ok (.iconst 1, 1) := by decide +kernel
theorem dX11_readsUntil_26 : decode cX11_readsUntil 26 = .ok (.invokevirtual 94, 3) := by decide +kernel
theorem dX11_readsUntil_29 : decode cX11_readsUntil 29 = .ok (.aload_n 0, 1) := by decide +kernel
theorem dX11_readsUntil_30 : decode cX11_readsUntil 30 = .ok (.invokevirtual 90, 3) := by decide +kernel
theorem dX11_readsUntil_33 : decode cX11_readsUntil 33 = .ok (.ifCond .eq 87, 3) := by decide +kernel
theorem dX11_readsUntil_36 : decode cX11_readsUntil 36 = .ok (.aload_n 0, 1) := by decide +kernel
theorem dX11_readsUntil_37 : decode cX11_readsUntil 37 = .ok (.getfield 76, 3) := by decide +kernel
theorem dX11_readsUntil_40 : decode cX11_readsUntil 40 = .ok (.invokestatic 113, 3) := by decide +kernel
theorem dX11_readsUntil_43 : decode cX11_readsUntil 43 = .ok (.istore_n 2, 1) := by decide +kernel
theorem dX11_readsUntil_44 : decode cX11_readsUntil 44 = .ok (.aload_n 0, 1) := by decide +kernel
theorem dX11_readsUntil_45 : decode cX11_readsUntil 45 = .ok (.getfield 26, 3) := by decide +kernel
theorem dX11_readsUntil_48 : decode cX11_readsUntil 48 = .ok (.iload_n 1, 1) := by decide +kernel
theorem dX11_readsUntil_49 : decode cX11_readsUntil 49 = .ok (.iconst 1, 1) := by decide +kernel
theorem dX11_readsUntil_50 : decode cX11_readsUntil 50 = .ok (.iadd, 1) := by decide +kernel
theorem dX11_readsUntil_51 : decode cX11_readsUntil 51 = .ok (.iload_n 2, 1) := by decide +kernel
theorem dX11_readsUntil_52 : decode cX11_readsUntil 52 = .ok (.iastore, 1) := by decide +kernel
theorem dX11_readsUntil_53 : decode cX11_readsUntil 53 = .ok (.aload_n 0, 1) := by decide +kernel
theorem dX11_readsUntil_54 : decode cX11_readsUntil 54 = .ok (.getfield 26, 3) := by decide +kernel
theorem dX11_readsUntil_57 : decode cX11_readsUntil 57 = .ok (.iload_n 1, 1) := by decide +kernel
theorem dX11_readsUntil_58 : decode cX11_readsUntil 58 = .ok (.iconst 3, 1) := by decide +kernel
theorem dX11_readsUntil_59 : decode cX11_readsUntil 59 = .ok (.iadd, 1) := by decide +kernel
theorem dX11_readsUntil_60 : decode cX11_readsUntil 60 = .ok (.ldc 75, 2) := by decide +kernel
theorem dX11_readsUntil_62 : decode cX11_readsUntil 62 = .ok (.iastore, 1) := by decide +kernel
theorem dX11_readsUntil_63 : decode cX11_readsUntil 63 = .ok (.aload_n 0, 1) := by decide +kernel
theorem dX11_readsUntil_64 : decode cX11_readsUntil 64 = .ok (.invokevirtual 98, 3) := by decide +kernel
theorem dX11_readsUntil_67 : decode cX11_readsUntil 67 = .ok (.aload_n 0, 1) := by decide +kernel
theorem dX11_readsUntil_68 : decode cX11_readsUntil 68 = .ok (.iload_n 1, 1) := by decide +kernel
theorem dX11_readsUntil_69 : decode cX11_readsUntil 69 = .ok (.iconst 2, 1) := by decide +kernel
theorem dX11_readsUntil_70 : decode cX11_readsUntil 70 = .ok (.iadd, 1) := by decide +kernel
theorem dX11_readsUntil_71 : decode cX11_readsUntil 71 = .ok (.iload_n 2, 1) := by decide +kernel
theorem dX11_readsUntil_72 : decode cX11_readsUntil 72 = .ok (.ifCond .ne 7, 3) := by decide +kernel
theorem dX11_readsUntil_75 : decode cX11_readsUntil 75 = .ok (.iconst 1, 1) := by decide +kernel
theorem dX11_readsUntil_76 : decode cX11_readsUntil 76 = .ok (.goto 4, 3) := by decide +kernel
theorem dX11_readsUntil_79 : decode cX11_readsUntil 79 = .ok (.iconst 0, 1) := by decide +kernel
theorem dX11_readsUntil_80 : decode cX11_readsUntil 80 = .ok (.iload_n 2, 1) := by decide +kernel
theorem dX11_readsUntil_81 : decode cX11_readsUntil 81 = .ok (.ifCond .eq 8, 3) := by decide +kernel
theorem dX11_readsUntil_84 : decode cX11_readsUntil 84 = .ok (.iload_n 2, 1) := by decide +kernel
theorem dX11_readsUntil_85 : decode cX11_readsUntil 85 = .ok (.iconst 4, 1) := by decide +kernel
theorem dX11_readsUntil_86 : decode cX11_readsUntil 86 = .ok (.if_icmp .ne 8, 3) := by decide +kernel
theorem dX11_readsUntil_89 : decode cX11_readsUntil 89 = .ok (.bipush 60, 2) := by decide +kernel
theorem dX11_readsUntil_91 : decode cX11_readsUntil 91 = .ok (.goto 5, 3) := by decide +kernel
theorem dX11_readsUntil_94 : decode cX11_readsUntil 94 = .ok (.bipush 7, 2) := by decide +kernel
theorem dX11_readsUntil_96 : decode cX11_readsUntil 96 = .ok (.invokevirtual 105, 3) := by decide +kernel
theorem dX11_readsUntil_99 : decode cX11_readsUntil 99 = .ok (.iload_n 2, 1) := by decide +kernel
theorem dX11_readsUntil_100 : decode cX11_readsUntil 100 = .ok (.iconst 2, 1) := by decide +kernel
theorem dX11_readsUntil_101 : decode cX11_readsUntil 101 = .ok (.if_icmp .ne 19, 3) := by decide +kernel
theorem dX11_readsUntil_104 : decode cX11_readsUntil 104 = .ok (.aload_n 0, 1) := by decide +kernel
theorem dX11_readsUntil_105 : decode cX11_readsUntil 105 = .ok (.bipush 44, 2) := by decide +kernel
theorem dX11_readsUntil_107 : decode cX11_readsUntil 107 = .ok (.invokevirtual 101, 3) := by decide +kernel
theorem dX11_readsUntil_110 : decode cX11_readsUntil 110 = .ok (.aload_n 0, 1) := by decide +kernel
theorem dX11_readsUntil_111 : decode cX11_readsUntil 111 = .ok (.iload_n 1, 1) := by decide +kernel
theorem dX11_readsUntil_112 : decode cX11_readsUntil 112 = .ok (.iconst 3, 1) := by decide +kernel
theorem dX11_readsUntil_113 : decode cX11_readsUntil 113 = .ok (.iadd, 1) := by decide +kernel
theorem dX11_readsUntil_114 : decode cX11_readsUntil 114 = .ok (.iconst 0, 1) := by decide +kernel
theorem dX11_readsUntil_115 : decode cX11_readsUntil 115 = .ok (.bipush 7, 2) := by decide +kernel
theorem dX11_readsUntil_117 : decode cX11_readsUntil 117 = .ok (.invokevirtual 105, 3) := by decide +kernel
theorem dX11_readsUntil_120 : decode cX11_readsUntil 120 = .ok (.return_, 1) := by decide +kernel
theorem dX11_readsLeg_0 : decode cX11_readsLeg 0 = .ok (.aload_n 0, 1) := by decide +kernel
theorem dX11_readsLeg_1 : decode cX11_readsLeg 1 = .ok (.invokevirtual 90, 3) := by decide +kernel
theorem dX11_readsLeg_4 : decode cX11_readsLeg 4 = .ok (.ifCond .eq 44, 3) := by decide +kernel
theorem dX11_readsLeg_7 : decode cX11_readsLeg 7 = .ok (.aload_n 0, 1) := by decide +kernel
theorem dX11_readsLeg_8 : decode cX11_readsLeg 8 = .ok (.aload_n 0, 1) := by decide +kernel
theorem dX11_readsLeg_9 : decode cX11_readsLeg 9 = .ok (.getfield 76, 3) := by decide +kernel
theorem dX11_readsLeg_12 : decode cX11_readsLeg 12 = .ok (.bipush 103, 2) := by decide +kernel
theorem dX11_readsLeg_14 : decode cX11_readsLeg 14 = .ok (.if_icmp .ne 7, 3) := by decide +kernel
theorem dX11_readsLeg_17 : decode cX11_readsLeg 17 = .ok (.iconst 1, 1) := by decide +kernel
theorem dX11_readsLeg_18 : decode cX11_readsLeg 18 = .ok (.goto 4, 3) := by decide +kernel
theorem dX11_readsLeg_21 : decode cX11_readsLeg 21 = .ok (.iconst 0, 1) := by decide +kernel
theorem dX11_readsLeg_22 : decode cX11_readsLeg 22 = .ok (.iconst 1, 1) := by decide +kernel
theorem dX11_readsLeg_23 : decode cX11_readsLeg 23 = .ok (.invokevirtual 94, 3) := by decide +kernel
theorem dX11_readsLeg_26 : decode cX11_readsLeg 26 = .ok (.aload_n 0, 1) := by decide +kernel
theorem dX11_readsLeg_27 : decode cX11_readsLeg 27 = .ok (.aload_n 0, 1) := by decide +kernel
theorem dX11_readsLeg_28 : decode cX11_readsLeg 28 = .ok (.getfield 26, 3) := by decide +kernel
theorem dX11_readsLeg_31 : decode cX11_readsLeg 31 = .ok (.bipush 54, 2) := by decide +kernel
theorem dX11_readsLeg_33 : decode cX11_readsLeg 33 = .ok (.iaload, 1) := by decide +kernel
theorem dX11_readsLeg_34 : decode cX11_readsLeg 34 = .ok (.bipush 6, 2) := by decide +kernel
theorem dX11_readsLeg_36 : decode cX11_readsLeg 36 = .ok (.if_icmp .ge 7, 3) := by decide +kernel
theorem dX11_readsLeg_39 : decode cX11_readsLeg 39 = .ok (.iconst 1, 1) := by decide +kernel
theorem dX11_readsLeg_40 : decode cX11_readsLeg 40 = .ok (.goto 4, 3) := by decide +kernel
theorem dX11_readsLeg_43 : decode cX11_readsLeg 43 = .ok (.iconst 0, 1) := by decide +kernel
theorem dX11_readsLeg_44 : decode cX11_readsLeg 44 = .ok (.iconst 3, 1) := by decide +kernel
theorem dX11_readsLeg_45 : decode cX11_readsLeg 45 = .ok (.invokevirtual 94, 3) := by decide +kernel
theorem dX11_readsLeg_48 : decode cX11_readsLeg 48 = .ok (.aload_n 0, 1) := by decide +kernel
theorem dX11_readsLeg_49 : decode cX11_readsLeg 49 = .ok (.invokevirtual 90, 3) := by decide +kernel
theorem dX11_readsLeg_52 : decode cX11_readsLeg 52 = .ok (.ifCond .eq 50, 3) := by decide +kernel
theorem dX11_readsLeg_55 : decode cX11_readsLeg 55 = .ok (.bipush 55, 2) := by decide +kernel
theorem dX11_readsLeg_57 : decode cX11_readsLeg 57 = .ok (.iconst 4, 1) := by decide +kernel
theorem dX11_readsLeg_58 : decode cX11_readsLeg 58 = .ok (.aload_n 0, 1) := by decide +kernel
theorem dX11_readsLeg_59 : decode cX11_readsLeg 59 = .ok (.getfield 26, 3) := by decide +kernel
theorem dX11_readsLeg_62 : decode cX11_readsLeg 62 = .ok (.bipush 54, 2) := by decide +kernel
theorem dX11_readsLeg_64 : decode cX11_readsLeg 64 = .ok (.iaload, 1) := by decide +kernel
theorem dX11_readsLeg_65 : decode cX11_readsLeg 65 = .ok (.imul, 1) := by decide +kernel
theorem dX11_readsLeg_66 : decode cX11_readsLeg 66 = .ok (.iadd, 1) := by decide +kernel
theorem dX11_readsLeg_67 : decode cX11_readsLeg 67 = .ok (.istore_n 1, 1) := by decide +kernel
theorem dX11_readsLeg_68 : decode cX11_readsLeg 68 = .ok (.aload_n 0, 1) := by decide +kernel
theorem dX11_readsLeg_69 : decode cX11_readsLeg 69 = .ok (.invokevirtual 98, 3) := by decide +kernel
theorem dX11_readsLeg_72 : decode cX11_readsLeg 72 = .ok (.aload_n 0, 1) := by decide +kernel
theorem dX11_readsLeg_73 : decode cX11_readsLeg 73 = .ok (.iload_n 1, 1) := by decide +kernel
theorem dX11_readsLeg_74 : decode cX11_readsLeg 74 = .ok (.iconst 0, 1) := by decide +kernel
theorem dX11_readsLeg_75 : decode cX11_readsLeg 75 = .ok (.bipush 15, 2) := by decide +kernel
theorem dX11_readsLeg_77 : decode cX11_readsLeg 77 = .ok (.invokevirtual 105, 3) := by decide +kernel
theorem dX11_readsLeg_80 : decode cX11_readsLeg 80 = .ok (.aload_n 0, 1) := by decide +kernel
theorem dX11_readsLeg_81 : decode cX11_readsLeg 81 = .ok (.iload_n 1, 1) := by decide +kernel
theorem dX11_readsLeg_82 : decode cX11_readsLeg 82 = .ok (.invokevirtual 116, 3) := by decide +kernel
theorem dX11_readsLeg_85 : decode cX11_readsLeg 85 = .ok (.aload_n 0, 1) := by decide +kernel
theorem dX11_readsLeg_86 : decode cX11_readsLeg 86 = .ok (.bipush 59, 2) := by decide +kernel
theorem dX11_readsLeg_88 : decode cX11_readsLeg 88 = .ok (.invokevirtual 101, 3) := by decide +kernel
theorem dX11_readsLeg_91 : decode cX11_readsLeg 91 = .ok (.aload_n 0, 1) := by decide +kernel
theorem dX11_readsLeg_92 : decode cX11_readsLeg 92 = .ok (.getfield 26, 3) := by decide +kernel
theorem dX11_readsLeg_95 : decode cX11_readsLeg 95 = .ok (.bipush 54, 2) := by decide +kernel
theorem dX11_readsLeg_97 : decode cX11_readsLeg 97 = .ok (.dup2, 1) := by decide +kernel
theorem dX11_readsLeg_98 : decode cX11_readsLeg 98 = .ok (.iaload, 1) := by decide +kernel
theorem dX11_readsLeg_99 : decode cX11_readsLeg 99 = .ok (.iconst 1, 1) := by decide +kernel
theorem dX11_readsLeg_100 : decode cX11_readsLeg 100 = .ok (.iadd, 1) := by decide +kernel
theorem dX11_readsLeg_101 : decode cX11_readsLeg 101 = .ok (.iastore, 1) := by decide +kernel
theorem dX11_readsLeg_102 : decode cX11_readsLeg 102 = .ok (.return_, 1) := by decide +kernel
theorem dX11_readsAll_0 : decode cX11_readsAll 0 = .ok (.iconst 0, 1) := by decide +kernel
theorem dX11_readsAll_1 : decode cX11_readsAll 1 = .ok (.istore_n 1, 1) := by decide +kernel
theorem dX11_readsAll_2 : decode cX11_readsAll 2 = .ok (.iload_n 1, 1) := by decide +kernel
theorem dX11_readsAll_3 : decode cX11_readsAll 3 = .ok (.bipush 79, 2) := by decide +kernel
theorem dX11_readsAll_5 : decode cX11_readsAll 5 = .ok (.if_icmp .ge 16, 3) := by decide +kernel
theorem dX11_readsAll_8 : decode cX11_readsAll 8 = .ok (.aload_n 0, 1) := by decide +kernel
theorem dX11_readsAll_9 : decode cX11_readsAll 9 = .ok (.getfield 26, 3) := by decide +kernel
theorem dX11_readsAll_12 : decode cX11_readsAll 12 = .ok (.iload_n 1, 1) := by decide +kernel
theorem dX11_readsAll_13 : decode cX11_readsAll 13 = .ok (.iconst 0, 1) := by decide +kernel
theorem dX11_readsAll_14 : decode cX11_readsAll 14 = .ok (.iastore, 1) := by decide +kernel
theorem dX11_readsAll_15 : decode cX11_readsAll 15 = .ok (.iinc 1 1, 3) := by decide +kernel
theorem dX11_readsAll_18 : decode cX11_readsAll 18 = .ok (.goto (-16), 3) := by decide +kernel
theorem dX11_readsAll_21 : decode cX11_readsAll 21 = .ok (.aload_n 0, 1) := by decide +kernel
theorem dX11_readsAll_22 : decode cX11_readsAll 22 = .ok (.iconst 0, 1) := by decide +kernel
theorem dX11_readsAll_23 : decode cX11_readsAll 23 = .ok (.putfield 66, 3) := by decide +kernel
theorem dX11_readsAll_26 : decode cX11_readsAll 26 = .ok (.aload_n 0, 1) := by decide +kernel
theorem dX11_readsAll_27 : decode cX11_readsAll 27 = .ok (.iconst 0, 1) := by decide +kernel
theorem dX11_readsAll_28 : decode cX11_readsAll 28 = .ok (.putfield 87, 3) := by decide +kernel
theorem dX11_readsAll_31 : decode cX11_readsAll 31 = .ok (.aload_n 0, 1) := by decide +kernel
theorem dX11_readsAll_32 : decode cX11_readsAll 32 = .ok (.invokevirtual 98, 3) := by decide +kernel
theorem dX11_readsAll_35 : decode cX11_readsAll 35 = .ok (.aload_n 0, 1) := by decide +kernel
theorem dX11_readsAll_36 : decode cX11_readsAll 36 = .ok (.invokevirtual 119, 3) := by decide +kernel
theorem dX11_readsAll_39 : decode cX11_readsAll 39 = .ok (.aload_n 0, 1) := by decide +kernel
theorem dX11_readsAll_40 : decode cX11_readsAll 40 = .ok (.invokevirtual 122, 3) := by decide +kernel
theorem dX11_readsAll_43 : decode cX11_readsAll 43 = .ok (.aload_n 0, 1) := by decide +kernel
theorem dX11_readsAll_44 : decode cX11_readsAll 44 = .ok (.bipush 122, 2) := by decide +kernel
theorem dX11_readsAll_46 : decode cX11_readsAll 46 = .ok (.invokevirtual 101, 3) := by decide +kernel
theorem dX11_readsAll_49 : decode cX11_readsAll 49 = .ok (.aload_n 0, 1) := by decide +kernel
theorem dX11_readsAll_50 : decode cX11_readsAll 50 = .ok (.iconst 4, 1) := by decide +kernel
theorem dX11_readsAll_51 : decode cX11_readsAll 51 = .ok (.iconst 0, 1) := by decide +kernel
theorem dX11_readsAll_52 : decode cX11_readsAll 52 = .ok (.bipush 60, 2) := by decide +kernel
theorem dX11_readsAll_54 : decode cX11_readsAll 54 = .ok (.invokevirtual 105, 3) := by decide +kernel
theorem dX11_readsAll_57 : decode cX11_readsAll 57 = .ok (.aload_n 0, 1) := by decide +kernel
theorem dX11_readsAll_58 : decode cX11_readsAll 58 = .ok (.bipush 44, 2) := by decide +kernel
theorem dX11_readsAll_60 : decode cX11_readsAll 60 = .ok (.invokevirtual 101, 3) := by decide +kernel
theorem dX11_readsAll_63 : decode cX11_readsAll 63 = .ok (.aload_n 0, 1) := by decide +kernel
theorem dX11_readsAll_64 : decode cX11_readsAll 64 = .ok (.iconst 5, 1) := by decide +kernel
theorem dX11_readsAll_65 : decode cX11_readsAll 65 = .ok (.iconst 0, 1) := by decide +kernel
theorem dX11_readsAll_66 : decode cX11_readsAll 66 = .ok (.bipush 60, 2) := by decide +kernel
theorem dX11_readsAll_68 : decode cX11_readsAll 68 = .ok (.invokevirtual 105, 3) := by decide +kernel
theorem dX11_readsAll_71 : decode cX11_readsAll 71 = .ok (.aload_n 0, 1) := by decide +kernel
theorem dX11_readsAll_72 : decode cX11_readsAll 72 = .ok (.bipush 59, 2) := by decide +kernel
theorem dX11_readsAll_74 : decode cX11_readsAll 74 = .ok (.invokevirtual 101, 3) := by decide +kernel
theorem dX11_readsAll_77 : decode cX11_readsAll 77 = .ok (.aload_n 0, 1) := by decide +kernel
theorem dX11_readsAll_78 : decode cX11_readsAll 78 = .ok (.invokevirtual 90, 3) := by decide +kernel
theorem dX11_readsAll_81 : decode cX11_readsAll 81 = .ok (.ifCond .eq 20, 3) := by decide +kernel
theorem dX11_readsAll_84 : decode cX11_readsAll 84 = .ok (.aload_n 0, 1) := by decide +kernel
theorem dX11_readsAll_85 : decode cX11_readsAll 85 = .ok (.getfield 76, 3) := by decide +kernel
theorem dX11_readsAll_88 : decode cX11_readsAll 88 = .ok (.invokestatic 109, 3) := by decide +kernel
theorem dX11_readsAll_91 : decode cX11_readsAll 91 = .ok (.ifCond .le 10, 3) := by decide +kernel
theorem dX11_readsAll_94 : decode cX11_readsAll 94 = .ok (.aload_n 0, 1) := by decide +kernel
theorem dX11_readsAll_95 : decode cX11_readsAll 95 = .ok (.invokevirtual 125, 3) := by decide +kernel
theorem dX11_readsAll_98 : decode cX11_readsAll 98 = .ok (.goto (-21), 3) := by decide +kernel
theorem dX11_readsAll_101 : decode cX11_readsAll 101 = .ok (.aload_n 0, 1) := by decide +kernel
theorem dX11_readsAll_102 : decode cX11_readsAll 102 = .ok (.invokevirtual 128, 3) := by decide +kernel
theorem dX11_readsAll_105 : decode cX11_readsAll 105 = .ok (.aload_n 0, 1) := by decide +kernel
theorem dX11_readsAll_106 : decode cX11_readsAll 106 = .ok (.invokevirtual 90, 3) := by decide +kernel
theorem dX11_readsAll_109 : decode cX11_readsAll 109 = .ok (.ifCond .eq 19, 3) := by decide +kernel
theorem dX11_readsAll_112 : decode cX11_readsAll 112 = .ok (.aload_n 0, 1) := by decide +kernel
theorem dX11_readsAll_113 : decode cX11_readsAll 113 = .ok (.getfield 76, 3) := by decide +kernel
theorem dX11_readsAll_116 : decode cX11_readsAll 116 = .ok (.ldc 75, 2) := by decide +kernel
theorem dX11_readsAll_118 : decode cX11_readsAll 118 = .ok (.if_icmp .eq 10, 3) := by decide +kernel
theorem dX11_readsAll_121 : decode cX11_readsAll 121 = .ok (.aload_n 0, 1) := by decide +kernel
theorem dX11_readsAll_122 : decode cX11_readsAll 122 = .ok (.invokevirtual 128, 3) := by decide +kernel
theorem dX11_readsAll_125 : decode cX11_readsAll 125 = .ok (.goto (-20), 3) := by decide +kernel
theorem dX11_readsAll_128 : decode cX11_readsAll 128 = .ok (.return_, 1) := by decide +kernel
theorem dX11_feed_0 : decode cX11_feed 0 = .ok (.iload_n 1, 1) := by decide +kernel
theorem dX11_feed_1 : decode cX11_feed 1 = .ok (.i2l, 1) := by decide +kernel
theorem dX11_feed_2 : decode cX11_feed 2 = .ok (.lconst 0, 1) := by decide +kernel
theorem dX11_feed_3 : decode cX11_feed 3 = .ok (.ldc2_w 131, 3) := by decide +kernel
theorem dX11_feed_6 : decode cX11_feed 6 = .ok (.invokestatic 62, 3) := by decide +kernel
theorem dX11_feed_9 : decode cX11_feed 9 = .ok (.ifCond .ne 6, 3) := by decide +kernel
theorem dX11_feed_12 : decode cX11_feed 12 = .ok (.ldc 133, 2) := by decide +kernel
theorem dX11_feed_14 : decode cX11_feed 14 = .ok (.ireturn, 1) := by decide +kernel
theorem dX11_feed_15 : decode cX11_feed 15 = .ok (.aload_n 0, 1) := by decide +kernel
theorem dX11_feed_16 : decode cX11_feed 16 = .ok (.getfield 72, 3) := by decide +kernel
theorem dX11_feed_19 : decode cX11_feed 19 = .ok (.sipush 160, 3) := by decide +kernel
theorem dX11_feed_22 : decode cX11_feed 22 = .ok (.if_icmp .ne 6, 3) := by decide +kernel
theorem dX11_feed_25 : decode cX11_feed 25 = .ok (.ldc 134, 2) := by decide +kernel
theorem dX11_feed_27 : decode cX11_feed 27 = .ok (.ireturn, 1) := by decide +kernel
theorem dX11_feed_28 : decode cX11_feed 28 = .ok (.aload_n 0, 1) := by decide +kernel
theorem dX11_feed_29 : decode cX11_feed 29 = .ok (.getfield 17, 3) := by decide +kernel
theorem dX11_feed_32 : decode cX11_feed 32 = .ok (.aload_n 0, 1) := by decide +kernel
theorem dX11_feed_33 : decode cX11_feed 33 = .ok (.getfield 72, 3) := by decide +kernel
theorem dX11_feed_36 : decode cX11_feed 36 = .ok (.iload_n 1, 1) := by decide +kernel
theorem dX11_feed_37 : decode cX11_feed 37 = .ok (.iastore, 1) := by decide +kernel
theorem dX11_feed_38 : decode cX11_feed 38 = .ok (.aload_n 0, 1) := by decide +kernel
theorem dX11_feed_39 : decode cX11_feed 39 = .ok (.dup, 1) := by decide +kernel
theorem dX11_feed_40 : decode cX11_feed 40 = .ok (.getfield 72, 3) := by decide +kernel
theorem dX11_feed_43 : decode cX11_feed 43 = .ok (.iconst 1, 1) := by decide +kernel
theorem dX11_feed_44 : decode cX11_feed 44 = .ok (.iadd, 1) := by decide +kernel
theorem dX11_feed_45 : decode cX11_feed 45 = .ok (.putfield 72, 3) := by decide +kernel
theorem dX11_feed_48 : decode cX11_feed 48 = .ok (.aload_n 0, 1) := by decide +kernel
theorem dX11_feed_49 : decode cX11_feed 49 = .ok (.getfield 72, 3) := by decide +kernel
theorem dX11_feed_52 : decode cX11_feed 52 = .ok (.ireturn, 1) := by decide +kernel
theorem dX11_sheet_0 : decode cX11_sheet 0 = .ok (.aload_n 0, 1) := by decide +kernel
theorem dX11_sheet_1 : decode cX11_sheet 1 = .ok (.invokevirtual 135, 3) := by decide +kernel
theorem dX11_sheet_4 : decode cX11_sheet 4 = .ok (.aload_n 0, 1) := by decide +kernel
theorem dX11_sheet_5 : decode cX11_sheet 5 = .ok (.iconst 0, 1) := by decide +kernel
theorem dX11_sheet_6 : decode cX11_sheet 6 = .ok (.putfield 72, 3) := by decide +kernel
theorem dX11_sheet_9 : decode cX11_sheet 9 = .ok (.aload_n 0, 1) := by decide +kernel
theorem dX11_sheet_10 : decode cX11_sheet 10 = .ok (.invokevirtual 90, 3) := by decide +kernel
theorem dX11_sheet_13 : decode cX11_sheet 13 = .ok (.ifCond .ne 19, 3) := by decide +kernel
theorem dX11_sheet_16 : decode cX11_sheet 16 = .ok (.aload_n 0, 1) := by decide +kernel
theorem dX11_sheet_17 : decode cX11_sheet 17 = .ok (.aload_n 0, 1) := by decide +kernel
theorem dX11_sheet_18 : decode cX11_sheet 18 = .ok (.getfield 87, 3) := by decide +kernel
theorem dX11_sheet_21 : decode cX11_sheet 21 = .ok (.putfield 138, 3) := by decide +kernel
theorem dX11_sheet_24 : decode cX11_sheet 24 = .ok (.ldc 141, 2) := by decide +kernel
theorem dX11_sheet_26 : decode cX11_sheet 26 = .ok (.aload_n 0, 1) := by decide +kernel
theorem dX11_sheet_27 : decode cX11_sheet 27 = .ok (.getfield 69, 3) := by decide +kernel
theorem dX11_sheet_30 : decode cX11_sheet 30 = .ok (.isub, 1) := by decide +kernel
theorem dX11_sheet_31 : decode cX11_sheet 31 = .ok (.ireturn, 1) := by decide +kernel
theorem dX11_sheet_32 : decode cX11_sheet 32 = .ok (.aload_n 0, 1) := by decide +kernel
theorem dX11_sheet_33 : decode cX11_sheet 33 = .ok (.getfield 26, 3) := by decide +kernel
theorem dX11_sheet_36 : decode cX11_sheet 36 = .ok (.iconst 0, 1) := by decide +kernel
theorem dX11_sheet_37 : decode cX11_sheet 37 = .ok (.iconst 1, 1) := by decide +kernel
theorem dX11_sheet_38 : decode cX11_sheet 38 = .ok (.iastore, 1) := by decide +kernel
theorem dX11_sheet_39 : decode cX11_sheet 39 = .ok (.iconst 0, 1) := by decide +kernel
theorem dX11_sheet_40 : decode cX11_sheet 40 = .ok (.istore_n 1, 1) := by decide +kernel
theorem dX11_sheet_41 : decode cX11_sheet 41 = .ok (.iload_n 1, 1) := by decide +kernel
theorem dX11_sheet_42 : decode cX11_sheet 42 = .ok (.bipush 79, 2) := by decide +kernel
theorem dX11_sheet_44 : decode cX11_sheet 44 = .ok (.if_icmp .ge 21, 3) := by decide +kernel
theorem dX11_sheet_47 : decode cX11_sheet 47 = .ok (.aload_n 0, 1) := by decide +kernel
theorem dX11_sheet_48 : decode cX11_sheet 48 = .ok (.getfield 7, 3) := by decide +kernel
theorem dX11_sheet_51 : decode cX11_sheet 51 = .ok (.iload_n 1, 1) := by decide +kernel
theorem dX11_sheet_52 : decode cX11_sheet 52 = .ok (.aload_n 0, 1) := by decide +kernel
theorem dX11_sheet_53 : decode cX11_sheet 53 = .ok (.getfield 26, 3) := by decide +kernel
theorem dX11_sheet_56 : decode cX11_sheet 56 = .ok (.iload_n 1, 1) := by decide +kernel
theorem dX11_sheet_57 : decode cX11_sheet 57 = .ok (.iaload, 1) := by decide +kernel
theorem dX11_sheet_58 : decode cX11_sheet 58 = .ok (.iastore, 1) := by decide +kernel
theorem dX11_sheet_59 : decode cX11_sheet 59 = .ok (.iinc 1 1, 3) := by decide +kernel
theorem dX11_sheet_62 : decode cX11_sheet 62 = .ok (.goto (-21), 3) := by decide +kernel
theorem dX11_sheet_65 : decode cX11_sheet 65 = .ok (.aload_n 0, 1) := by decide +kernel
theorem dX11_sheet_66 : decode cX11_sheet 66 = .ok (.iconst 0, 1) := by decide +kernel
theorem dX11_sheet_67 : decode cX11_sheet 67 = .ok (.putfield 50, 3) := by decide +kernel
theorem dX11_sheet_70 : decode cX11_sheet 70 = .ok (.aload_n 0, 1) := by decide +kernel
theorem dX11_sheet_71 : decode cX11_sheet 71 = .ok (.getfield 7, 3) := by decide +kernel
theorem dX11_sheet_74 : decode cX11_sheet 74 = .ok (.bipush 54, 2) := by decide +kernel
theorem dX11_sheet_76 : decode cX11_sheet 76 = .ok (.iaload, 1) := by decide +kernel
theorem dX11_sheet_77 : decode cX11_sheet 77 = .ok (.ireturn, 1) := by decide +kernel
theorem dX11_fault_0 : decode cX11_fault 0 = .ok (.aload_n 0, 1) := by decide +kernel
theorem dX11_fault_1 : decode cX11_fault 1 = .ok (.getfield 138, 3) := by decide +kernel
theorem dX11_fault_4 : decode cX11_fault 4 = .ok (.ireturn, 1) := by decide +kernel
theorem dX11_nameAt_0 : decode cX11_nameAt 0 = .ok (.iload_n 0, 1) := by decide +kernel
theorem dX11_nameAt_1 : decode cX11_nameAt 1 = .ok (.iconst 4, 1) := by decide +kernel
theorem dX11_nameAt_2 : decode cX11_nameAt 2 = .ok (.if_icmp .lt 9, 3) := by decide +kernel
theorem dX11_nameAt_5 : decode cX11_nameAt 5 = .ok (.iload_n 0, 1) := by decide +kernel
theorem dX11_nameAt_6 : decode cX11_nameAt 6 = .ok (.bipush 12, 2) := by decide +kernel
theorem dX11_nameAt_8 : decode cX11_nameAt 8 = .ok (.if_icmp .le 8, 3) := by decide +kernel
theorem dX11_nameAt_11 : decode cX11_nameAt 11 = .ok (.bipush 110, 2) := by decide +kernel
theorem dX11_nameAt_13 : decode cX11_nameAt 13 = .ok (.goto 5, 3) := by decide +kernel
theorem dX11_nameAt_16 : decode cX11_nameAt 16 = .ok (.bipush 115, 2) := by decide +kernel
theorem dX11_nameAt_18 : decode cX11_nameAt 18 = .ok (.istore_n 2, 1) := by decide +kernel
theorem dX11_nameAt_19 : decode cX11_nameAt 19 = .ok (.iload_n 0, 1) := by decide +kernel
theorem dX11_nameAt_20 : decode cX11_nameAt 20 = .ok (.bipush 8, 2) := by decide +kernel
theorem dX11_nameAt_22 : decode cX11_nameAt 22 = .ok (.if_icmp .ge 8, 3) := by decide +kernel
theorem dX11_nameAt_25 : decode cX11_nameAt 25 = .ok (.bipush 101, 2) := by decide +kernel
theorem dX11_nameAt_27 : decode cX11_nameAt 27 = .ok (.goto 5, 3) := by decide +kernel
theorem dX11_nameAt_30 : decode cX11_nameAt 30 = .ok (.bipush 119, 2) := by decide +kernel
theorem dX11_nameAt_32 : decode cX11_nameAt 32 = .ok (.istore_n 3, 1) := by decide +kernel
theorem dX11_nameAt_33 : decode cX11_nameAt 33 = .ok (.iload_n 0, 1) := by decide +kernel
theorem dX11_nameAt_34 : decode cX11_nameAt 34 = .ok (.ifCond .ne 8, 3) := by decide +kernel
theorem dX11_nameAt_37 : decode cX11_nameAt 37 = .ok (.bipush 110, 2) := by decide +kernel
theorem dX11_nameAt_39 : decode cX11_nameAt 39 = .ok (.goto 26, 3) := by decide +kernel
theorem dX11_nameAt_42 : decode cX11_nameAt 42 = .ok (.iload_n 0, 1) := by decide +kernel
theorem dX11_nameAt_43 : decode cX11_nameAt 43 = .ok (.iconst 4, 1) := by decide +kernel
theorem dX11_nameAt_44 : decode cX11_nameAt 44 = .ok (.if_icmp .ne 8, 3) := by decide +kernel
theorem dX11_nameAt_47 : decode cX11_nameAt 47 = .ok (.bipush 101, 2) := by decide +kernel
theorem dX11_nameAt_49 : decode cX11_nameAt 49 = .ok (.goto 16, 3) := by decide +kernel
theorem dX11_nameAt_52 : decode cX11_nameAt 52 = .ok (.iload_n 0, 1) := by decide +kernel
theorem dX11_nameAt_53 : decode cX11_nameAt 53 = .ok (.bipush 8, 2) := by decide +kernel
theorem dX11_nameAt_55 : decode cX11_nameAt 55 = .ok (.if_icmp .ne 8, 3) := by decide +kernel
theorem dX11_nameAt_58 : decode cX11_nameAt 58 = .ok (.bipush 115, 2) := by decide +kernel
theorem dX11_nameAt_60 : decode cX11_nameAt 60 = .ok (.goto 5, 3) := by decide +kernel
theorem dX11_nameAt_63 : decode cX11_nameAt 63 = .ok (.bipush 119, 2) := by decide +kernel
theorem dX11_nameAt_65 : decode cX11_nameAt 65 = .ok (.istore 4, 2) := by decide +kernel
theorem dX11_nameAt_67 : decode cX11_nameAt 67 = .ok (.iload_n 0, 1) := by decide +kernel
theorem dX11_nameAt_68 : decode cX11_nameAt 68 = .ok (.iconst 4, 1) := by decide +kernel
theorem dX11_nameAt_69 : decode cX11_nameAt 69 = .ok (.irem, 1) := by decide +kernel
theorem dX11_nameAt_70 : decode cX11_nameAt 70 = .ok (.ifCond .ne 15, 3) := by decide +kernel
theorem dX11_nameAt_73 : decode cX11_nameAt 73 = .ok (.iload_n 1, 1) := by decide +kernel
theorem dX11_nameAt_74 : decode cX11_nameAt 74 = .ok (.ifCond .ne 8, 3) := by decide +kernel
theorem dX11_nameAt_77 : decode cX11_nameAt 77 = .ok (.iload 4, 2) := by decide +kernel
theorem dX11_nameAt_79 : decode cX11_nameAt 79 = .ok (.goto 5, 3) := by decide +kernel
theorem dX11_nameAt_82 : decode cX11_nameAt 82 = .ok (.ldc 75, 2) := by decide +kernel
theorem dX11_nameAt_84 : decode cX11_nameAt 84 = .ok (.ireturn, 1) := by decide +kernel
theorem dX11_nameAt_85 : decode cX11_nameAt 85 = .ok (.iload_n 0, 1) := by decide +kernel
theorem dX11_nameAt_86 : decode cX11_nameAt 86 = .ok (.iconst 4, 1) := by decide +kernel
theorem dX11_nameAt_87 : decode cX11_nameAt 87 = .ok (.irem, 1) := by decide +kernel
theorem dX11_nameAt_88 : decode cX11_nameAt 88 = .ok (.iconst 2, 1) := by decide +kernel
theorem dX11_nameAt_89 : decode cX11_nameAt 89 = .ok (.if_icmp .ne 23, 3) := by decide +kernel
theorem dX11_nameAt_92 : decode cX11_nameAt 92 = .ok (.iload_n 1, 1) := by decide +kernel
theorem dX11_nameAt_93 : decode cX11_nameAt 93 = .ok (.ifCond .ne 7, 3) := by decide +kernel
theorem dX11_nameAt_96 : decode cX11_nameAt 96 = .ok (.iload_n 2, 1) := by decide +kernel
theorem dX11_nameAt_97 : decode cX11_nameAt 97 = .ok (.goto 14, 3) := by decide +kernel
theorem dX11_nameAt_100 : decode cX11_nameAt 100 = .ok (.iload_n 1, 1) := by decide +kernel
theorem dX11_nameAt_101 : decode cX11_nameAt 101 = .ok (.iconst 1, 1) := by decide +kernel
theorem dX11_nameAt_102 : decode cX11_nameAt 102 = .ok (.if_icmp .ne 7, 3) := by decide +kernel
theorem dX11_nameAt_105 : decode cX11_nameAt 105 = .ok (.iload_n 3, 1) := by decide +kernel
theorem dX11_nameAt_106 : decode cX11_nameAt 106 = .ok (.goto 5, 3) := by decide +kernel
theorem dX11_nameAt_109 : decode cX11_nameAt 109 = .ok (.ldc 75, 2) := by decide +kernel
theorem dX11_nameAt_111 : decode cX11_nameAt 111 = .ok (.ireturn, 1) := by decide +kernel
theorem dX11_nameAt_112 : decode cX11_nameAt 112 = .ok (.iload_n 0, 1) := by decide +kernel
theorem dX11_nameAt_113 : decode cX11_nameAt 113 = .ok (.iconst 1, 1) := by decide +kernel
theorem dX11_nameAt_114 : decode cX11_nameAt 114 = .ok (.if_icmp .eq 21, 3) := by decide +kernel
theorem dX11_nameAt_117 : decode cX11_nameAt 117 = .ok (.iload_n 0, 1) := by decide +kernel
theorem dX11_nameAt_118 : decode cX11_nameAt 118 = .ok (.bipush 15, 2) := by decide +kernel
theorem dX11_nameAt_120 : decode cX11_nameAt 120 = .ok (.if_icmp .eq 15, 3) := by decide +kernel
theorem dX11_nameAt_123 : decode cX11_nameAt 123 = .ok (.iload_n 0, 1) := by decide +kernel
theorem dX11_nameAt_124 : decode cX11_nameAt 124 = .ok (.bipush 7, 2) := by decide +kernel
theorem dX11_nameAt_126 : decode cX11_nameAt 126 = .ok (.if_icmp .eq 9, 3) := by decide +kernel
theorem dX11_nameAt_129 : decode cX11_nameAt 129 = .ok (.iload_n 0, 1) := by decide +kernel
theorem dX11_nameAt_130 : decode cX11_nameAt 130 = .ok (.bipush 9, 2) := by decide +kernel
theorem dX11_nameAt_132 : decode cX11_nameAt 132 = .ok (.if_icmp .ne 7, 3) := by decide +kernel
theorem dX11_nameAt_135 : decode cX11_nameAt 135 = .ok (.iconst 1, 1) := by decide +kernel
theorem dX11_nameAt_136 : decode cX11_nameAt 136 = .ok (.goto 4, 3) := by decide +kernel
theorem dX11_nameAt_139 : decode cX11_nameAt 139 = .ok (.iconst 0, 1) := by decide +kernel
theorem dX11_nameAt_140 : decode cX11_nameAt 140 = .ok (.istore 5, 2) := by decide +kernel
theorem dX11_nameAt_142 : decode cX11_nameAt 142 = .ok (.iload_n 1, 1) := by decide +kernel
theorem dX11_nameAt_143 : decode cX11_nameAt 143 = .ok (.ifCond .ne 16, 3) := by decide +kernel
theorem dX11_nameAt_146 : decode cX11_nameAt 146 = .ok (.iload 5, 2) := by decide +kernel
theorem dX11_nameAt_148 : decode cX11_nameAt 148 = .ok (.ifCond .eq 7, 3) := by decide +kernel
theorem dX11_nameAt_151 : decode cX11_nameAt 151 = .ok (.iload_n 2, 1) := by decide +kernel
theorem dX11_nameAt_152 : decode cX11_nameAt 152 = .ok (.goto 27, 3) := by decide +kernel
theorem dX11_nameAt_155 : decode cX11_nameAt 155 = .ok (.iload_n 3, 1) := by decide +kernel
theorem dX11_nameAt_156 : decode cX11_nameAt 156 = .ok (.goto 23, 3) := by decide +kernel
theorem dX11_nameAt_159 : decode cX11_nameAt 159 = .ok (.iload_n 1, 1) := by decide +kernel
theorem dX11_nameAt_160 : decode cX11_nameAt 160 = .ok (.iconst 1, 1) := by decide +kernel
theorem dX11_nameAt_161 : decode cX11_nameAt 161 = .ok (.if_icmp .ne 7, 3) := by decide +kernel
theorem dX11_nameAt_164 : decode cX11_nameAt 164 = .ok (.iload_n 2, 1) := by decide +kernel
theorem dX11_nameAt_165 : decode cX11_nameAt 165 = .ok (.goto 14, 3) := by decide +kernel
theorem dX11_nameAt_168 : decode cX11_nameAt 168 = .ok (.iload_n 1, 1) := by decide +kernel
theorem dX11_nameAt_169 : decode cX11_nameAt 169 = .ok (.iconst 2, 1) := by decide +kernel
theorem dX11_nameAt_170 : decode cX11_nameAt 170 = .ok (.if_icmp .ne 7, 3) := by decide +kernel
theorem dX11_nameAt_173 : decode cX11_nameAt 173 = .ok (.iload_n 3, 1) := by decide +kernel
theorem dX11_nameAt_174 : decode cX11_nameAt 174 = .ok (.goto 5, 3) := by decide +kernel
theorem dX11_nameAt_177 : decode cX11_nameAt 177 = .ok (.ldc 75, 2) := by decide +kernel
theorem dX11_nameAt_179 : decode cX11_nameAt 179 = .ok (.ireturn, 1) := by decide +kernel
theorem dX11_course_0 : decode cX11_course 0 = .ok (.aload_n 0, 1) := by decide +kernel
theorem dX11_course_1 : decode cX11_course 1 = .ok (.getfield 72, 3) := by decide +kernel
theorem dX11_course_4 : decode cX11_course 4 = .ok (.istore_n 1, 1) := by decide +kernel
theorem dX11_course_5 : decode cX11_course 5 = .ok (.aload_n 0, 1) := by decide +kernel
theorem dX11_course_6 : decode cX11_course 6 = .ok (.iconst 0, 1) := by decide +kernel
theorem dX11_course_7 : decode cX11_course 7 = .ok (.putfield 72, 3) := by decide +kernel
theorem dX11_course_10 : decode cX11_course 10 = .ok (.iconst 0, 1) := by decide +kernel
theorem dX11_course_11 : decode cX11_course 11 = .ok (.istore_n 2, 1) := by decide +kernel
theorem dX11_course_12 : decode cX11_course 12 = .ok (.iload_n 2, 1) := by decide +kernel
theorem dX11_course_13 : decode cX11_course 13 = .ok (.bipush 16, 2) := by decide +kernel
theorem dX11_course_15 : decode cX11_course 15 = .ok (.if_icmp .ge 81, 3) := by decide +kernel
theorem dX11_course_18 : decode cX11_course 18 = .ok (.iload_n 1, 1) := by decide +kernel
theorem dX11_course_19 : decode cX11_course 19 = .ok (.ifCond .le 22, 3) := by decide +kernel
theorem dX11_course_22 : decode cX11_course 22 = .ok (.iload_n 1, 1) := by decide +kernel
theorem dX11_course_23 : decode cX11_course 23 = .ok (.iconst 4, 1) := by decide +kernel
theorem dX11_course_24 : decode cX11_course 24 = .ok (.if_icmp .ge 17, 3) := by decide +kernel
theorem dX11_course_27 : decode cX11_course 27 = .ok (.iload_n 2, 1) := by decide +kernel
theorem dX11_course_28 : decode cX11_course 28 = .ok (.iload_n 1, 1) := by decide +kernel
theorem dX11_course_29 : decode cX11_course 29 = .ok (.invokestatic 142, 3) := by decide +kernel
theorem dX11_course_32 : decode cX11_course 32 = .ok (.ldc 75, 2) := by decide +kernel
theorem dX11_course_34 : decode cX11_course 34 = .ok (.if_icmp .ne 7, 3) := by decide +kernel
theorem dX11_course_37 : decode cX11_course 37 = .ok (.iconst 1, 1) := by decide +kernel
theorem dX11_course_38 : decode cX11_course 38 = .ok (.goto 4, 3) := by decide +kernel
theorem dX11_course_41 : decode cX11_course 41 = .ok (.iconst 0, 1) := by decide +kernel
theorem dX11_course_42 : decode cX11_course 42 = .ok (.istore_n 3, 1) := by decide +kernel
theorem dX11_course_43 : decode cX11_course 43 = .ok (.iconst 0, 1) := by decide +kernel
theorem dX11_course_44 : decode cX11_course 44 = .ok (.istore 4, 2) := by decide +kernel
theorem dX11_course_46 : decode cX11_course 46 = .ok (.iload 4, 2) := by decide +kernel
theorem dX11_course_48 : decode cX11_course 48 = .ok (.iload_n 1, 1) := by decide +kernel
theorem dX11_course_49 : decode cX11_course 49 = .ok (.if_icmp .ge 35, 3) := by decide +kernel
theorem dX11_course_52 : decode cX11_course 52 = .ok (.iload_n 3, 1) := by decide +kernel
theorem dX11_course_53 : decode cX11_course 53 = .ok (.ifCond .eq 31, 3) := by decide +kernel
theorem dX11_course_56 : decode cX11_course 56 = .ok (.iload_n 2, 1) := by decide +kernel
theorem dX11_course_57 : decode cX11_course 57 = .ok (.iload 4, 2) := by decide +kernel
theorem dX11_course_59 : decode cX11_course 59 = .ok (.invokestatic 142, 3) := by decide +kernel
theorem dX11_course_62 : decode cX11_course 62 = .ok (.aload_n 0, 1) := by decide +kernel
theorem dX11_course_63 : decode cX11_course 63 = .ok (.getfield 17, 3) := by decide +kernel
theorem dX11_course_66 : decode cX11_course 66 = .ok (.iload 4, 2) := by decide +kernel
theorem dX11_course_68 : decode cX11_course 68 = .ok (.iaload, 1) := by decide +kernel
theorem dX11_course_69 : decode cX11_course 69 = .ok (.if_icmp .ne 7, 3) := by decide +kernel
theorem dX11_course_72 : decode cX11_course 72 = .ok (.iconst 1, 1) := by decide +kernel
theorem dX11_course_73 : decode cX11_course 73 = .ok (.goto 4, 3) := by decide +kernel
theorem dX11_course_76 : decode cX11_course 76 = .ok (.iconst 0, 1) := by decide +kernel
theorem dX11_course_77 : decode cX11_course 77 = .ok (.istore_n 3, 1) := by decide +kernel
theorem dX11_course_78 : decode cX11_course 78 = .ok (.iinc 4 1, 3) := by decide +kernel
theorem dX11_course_81 : decode cX11_course 81 = .ok (.goto (-35), 3) := by decide +kernel
theorem dX11_course_84 : decode cX11_course 84 = .ok (.iload_n 3, 1) := by decide +kernel
theorem dX11_course_85 : decode cX11_course 85 = .ok (.ifCond .eq 5, 3) := by decide +kernel
theorem dX11_course_88 : decode cX11_course 88 = .ok (.iload_n 2, 1) := by decide +kernel
theorem dX11_course_89 : decode cX11_course 89 = .ok (.ireturn, 1) := by decide +kernel
theorem dX11_course_90 : decode cX11_course 90 = .ok (.iinc 2 1, 3) := by decide +kernel
theorem dX11_course_93 : decode cX11_course 93 = .ok (.goto (-81), 3) := by decide +kernel
theorem dX11_course_96 : decode cX11_course 96 = .ok (.ldc 75, 2) := by decide +kernel
theorem dX11_course_98 : decode cX11_course 98 = .ok (.ireturn, 1) := by decide +kernel
theorem dX11_undo_0 : decode cX11_undo 0 = .ok (.aload_n 0, 1) := by decide +kernel
theorem dX11_undo_1 : decode cX11_undo 1 = .ok (.getfield 50, 3) := by decide +kernel
theorem dX11_undo_4 : decode cX11_undo 4 = .ok (.ifCond .ne 6, 3) := by decide +kernel
theorem dX11_undo_7 : decode cX11_undo 7 = .ok (.ldc 146, 2) := by decide +kernel
theorem dX11_undo_9 : decode cX11_undo 9 = .ok (.ireturn, 1) := by decide +kernel
theorem dX11_undo_10 : decode cX11_undo 10 = .ok (.aload_n 0, 1) := by decide +kernel
theorem dX11_undo_11 : decode cX11_undo 11 = .ok (.dup, 1) := by decide +kernel
theorem dX11_undo_12 : decode cX11_undo 12 = .ok (.getfield 50, 3) := by decide +kernel
theorem dX11_undo_15 : decode cX11_undo 15 = .ok (.iconst 1, 1) := by decide +kernel
theorem dX11_undo_16 : decode cX11_undo 16 = .ok (.isub, 1) := by decide +kernel
theorem dX11_undo_17 : decode cX11_undo 17 = .ok (.putfield 50, 3) := by decide +kernel
theorem dX11_undo_20 : decode cX11_undo 20 = .ok (.aload_n 0, 1) := by decide +kernel
theorem dX11_undo_21 : decode cX11_undo 21 = .ok (.sipush 237, 3) := by decide +kernel
theorem dX11_undo_24 : decode cX11_undo 24 = .ok (.bipush 79, 2) := by decide +kernel
theorem dX11_undo_26 : decode cX11_undo 26 = .ok (.aload_n 0, 1) := by decide +kernel
theorem dX11_undo_27 : decode cX11_undo 27 = .ok (.getfield 50, 3) := by decide +kernel
theorem dX11_undo_30 : decode cX11_undo 30 = .ok (.imul, 1) := by decide +kernel
theorem dX11_undo_31 : decode cX11_undo 31 = .ok (.iadd, 1) := by decide +kernel
theorem dX11_undo_32 : decode cX11_undo 32 = .ok (.iconst 0, 1) := by decide +kernel
theorem dX11_undo_33 : decode cX11_undo 33 = .ok (.invokevirtual 54, 3) := by decide +kernel
theorem dX11_undo_36 : decode cX11_undo 36 = .ok (.aload_n 0, 1) := by decide +kernel
theorem dX11_undo_37 : decode cX11_undo 37 = .ok (.getfield 50, 3) := by decide +kernel
theorem dX11_undo_40 : decode cX11_undo 40 = .ok (.ireturn, 1) := by decide +kernel
theorem dX11_isSheet_0 : decode cX11_isSheet 0 = .ok (.aload_n 0, 1) := by decide +kernel
theorem dX11_isSheet_1 : decode cX11_isSheet 1 = .ok (.getfield 7, 3) := by decide +kernel
theorem dX11_isSheet_4 : decode cX11_isSheet 4 = .ok (.iconst 0, 1) := by decide +kernel
theorem dX11_isSheet_5 : decode cX11_isSheet 5 = .ok (.iaload, 1) := by decide +kernel
theorem dX11_isSheet_6 : decode cX11_isSheet 6 = .ok (.iconst 1, 1) := by decide +kernel
theorem dX11_isSheet_7 : decode cX11_isSheet 7 = .ok (.if_icmp .ne 7, 3) := by decide +kernel
theorem dX11_isSheet_10 : decode cX11_isSheet 10 = .ok (.iconst 1, 1) := by decide +kernel
theorem dX11_isSheet_11 : decode cX11_isSheet 11 = .ok (.goto 4, 3) := by decide +kernel
theorem dX11_isSheet_14 : decode cX11_isSheet 14 = .ok (.iconst 0, 1) := by decide +kernel
theorem dX11_isSheet_15 : decode cX11_isSheet 15 = .ok (.ireturn, 1) := by decide +kernel
theorem dX11_isThing_0 : decode cX11_isThing 0 = .ok (.iload_n 1, 1) := by decide +kernel
theorem dX11_isThing_1 : decode cX11_isThing 1 = .ok (.i2l, 1) := by decide +kernel
theorem dX11_isThing_2 : decode cX11_isThing 2 = .ok (.lconst 0, 1) := by decide +kernel
theorem dX11_isThing_3 : decode cX11_isThing 3 = .ok (.aload_n 0, 1) := by decide +kernel
theorem dX11_isThing_4 : decode cX11_isThing 4 = .ok (.getfield 7, 3) := by decide +kernel
theorem dX11_isThing_7 : decode cX11_isThing 7 = .ok (.bipush 13, 2) := by decide +kernel
theorem dX11_isThing_9 : decode cX11_isThing 9 = .ok (.iaload, 1) := by decide +kernel
theorem dX11_isThing_10 : decode cX11_isThing 10 = .ok (.iconst 1, 1) := by decide +kernel
theorem dX11_isThing_11 : decode cX11_isThing 11 = .ok (.isub, 1) := by decide +kernel
theorem dX11_isThing_12 : decode cX11_isThing 12 = .ok (.i2l, 1) := by decide +kernel
theorem dX11_isThing_13 : decode cX11_isThing 13 = .ok (.invokestatic 62, 3) := by decide +kernel
theorem dX11_isThing_16 : decode cX11_isThing 16 = .ok (.ireturn, 1) := by decide +kernel
theorem dX11_isLeg_0 : decode cX11_isLeg 0 = .ok (.iload_n 1, 1) := by decide +kernel
theorem dX11_isLeg_1 : decode cX11_isLeg 1 = .ok (.i2l, 1) := by decide +kernel
theorem dX11_isLeg_2 : decode cX11_isLeg 2 = .ok (.lconst 0, 1) := by decide +kernel
theorem dX11_isLeg_3 : decode cX11_isLeg 3 = .ok (.aload_n 0, 1) := by decide +kernel
theorem dX11_isLeg_4 : decode cX11_isLeg 4 = .ok (.getfield 7, 3) := by decide +kernel
theorem dX11_isLeg_7 : decode cX11_isLeg 7 = .ok (.bipush 54, 2) := by decide +kernel
theorem dX11_isLeg_9 : decode cX11_isLeg 9 = .ok (.iaload, 1) := by decide +kernel
theorem dX11_isLeg_10 : decode cX11_isLeg 10 = .ok (.iconst 1, 1) := by decide +kernel
theorem dX11_isLeg_11 : decode cX11_isLeg 11 = .ok (.isub, 1) := by decide +kernel
theorem dX11_isLeg_12 : decode cX11_isLeg 12 = .ok (.i2l, 1) := by decide +kernel
theorem dX11_isLeg_13 : decode cX11_isLeg 13 = .ok (.invokestatic 62, 3) := by decide +kernel
theorem dX11_isLeg_16 : decode cX11_isLeg 16 = .ok (.ireturn, 1) := by decide +kernel
theorem dX11_of_0 : decode cX11_of 0 = .ok (.aload_n 0, 1) := by decide +kernel
theorem dX11_of_1 : decode cX11_of 1 = .ok (.getfield 7, 3) := by decide +kernel
theorem dX11_of_4 : decode cX11_of 4 = .ok (.bipush 14, 2) := by decide +kernel
theorem dX11_of_6 : decode cX11_of 6 = .ok (.iconst 5, 1) := by decide +kernel
theorem dX11_of_7 : decode cX11_of 7 = .ok (.iload_n 1, 1) := by decide +kernel
theorem dX11_of_8 : decode cX11_of 8 = .ok (.imul, 1) := by decide +kernel
theorem dX11_of_9 : decode cX11_of 9 = .ok (.iadd, 1) := by decide +kernel
theorem dX11_of_10 : decode cX11_of 10 = .ok (.iload_n 2, 1) := by decide +kernel
theorem dX11_of_11 : decode cX11_of 11 = .ok (.iadd, 1) := by decide +kernel
theorem dX11_of_12 : decode cX11_of 12 = .ok (.iaload, 1) := by decide +kernel
theorem dX11_of_13 : decode cX11_of 13 = .ok (.ireturn, 1) := by decide +kernel
theorem dX11_acts_0 : decode cX11_acts 0 = .ok (.aload_n 0, 1) := by decide +kernel
theorem dX11_acts_1 : decode cX11_acts 1 = .ok (.getfield 7, 3) := by decide +kernel
theorem dX11_acts_4 : decode cX11_acts 4 = .ok (.iload_n 1, 1) := by decide +kernel
theorem dX11_acts_5 : decode cX11_acts 5 = .ok (.iaload, 1) := by decide +kernel
theorem dX11_acts_6 : decode cX11_acts 6 = .ok (.istore_n 3, 1) := by decide +kernel
theorem dX11_acts_7 : decode cX11_acts 7 = .ok (.aload_n 0, 1) := by decide +kernel
theorem dX11_acts_8 : decode cX11_acts 8 = .ok (.invokevirtual 147, 3) := by decide +kernel
theorem dX11_acts_11 : decode cX11_acts 11 = .ok (.aload_n 0, 1) := by decide +kernel
theorem dX11_acts_12 : decode cX11_acts 12 = .ok (.getfield 7, 3) := by decide +kernel
theorem dX11_acts_15 : decode cX11_acts 15 = .ok (.iload_n 1, 1) := by decide +kernel
theorem dX11_acts_16 : decode cX11_acts 16 = .ok (.iload_n 2, 1) := by decide +kernel
theorem dX11_acts_17 : decode cX11_acts 17 = .ok (.iastore, 1) := by decide +kernel
theorem dX11_acts_18 : decode cX11_acts 18 = .ok (.iload_n 3, 1) := by decide +kernel
theorem dX11_acts_19 : decode cX11_acts 19 = .ok (.ireturn, 1) := by decide +kernel
theorem dX11_measure_0 : decode cX11_measure 0 = .ok (.aload_n 0, 1) := by decide +kernel
theorem dX11_measure_1 : decode cX11_measure 1 = .ok (.iload_n 1, 1) := by decide +kernel
theorem dX11_measure_2 : decode cX11_measure 2 = .ok (.invokevirtual 150, 3) := by decide +kernel
theorem dX11_measure_5 : decode cX11_measure 5 = .ok (.ifCond .eq 49, 3) := by decide +kernel
theorem dX11_measure_8 : decode cX11_measure 8 = .ok (.iload_n 2, 1) := by decide +kernel
theorem dX11_measure_9 : decode cX11_measure 9 = .ok (.i2l, 1) := by decide +kernel
theorem dX11_measure_10 : decode cX11_measure 10 = .ok (.lconst 0, 1) := by decide +kernel
theorem dX11_measure_11 : decode cX11_measure 11 = .ok (.ldc2_w 153, 3) := by decide +kernel
theorem dX11_measure_14 : decode cX11_measure 14 = .ok (.invokestatic 62, 3) := by decide +kernel
theorem dX11_measure_17 : decode cX11_measure 17 = .ok (.ifCond .eq 37, 3) := by decide +kernel
theorem dX11_measure_20 : decode cX11_measure 20 = .ok (.iload_n 3, 1) := by decide +kernel
theorem dX11_measure_21 : decode cX11_measure 21 = .ok (.i2l, 1) := by decide +kernel
theorem dX11_measure_22 : decode cX11_measure 22 = .ok (.lconst 0, 1) := by decide +kernel
theorem dX11_measure_23 : decode cX11_measure 23 = .ok (.iload_n 2, 1) := by decide +kernel
theorem dX11_measure_24 : decode cX11_measure 24 = .ok (.iconst 2, 1) := by decide +kernel
theorem dX11_measure_25 : decode cX11_measure 25 = .ok (.if_icmp .ge 9, 3) := by decide +kernel
theorem dX11_measure_28 : decode cX11_measure 28 = .ok (.ldc2_w 155, 3) := by decide +kernel
theorem dX11_measure_31 : decode cX11_measure 31 = .ok (.goto 17, 3) := by decide +kernel
theorem dX11_measure_34 : decode cX11_measure 34 = .ok (.iload_n 2, 1) := by decide +kernel
theorem dX11_measure_35 : decode cX11_measure 35 = .ok (.iconst 2, 1) := by decide +kernel
theorem dX11_measure_36 : decode cX11_measure 36 = .ok (.if_icmp .ne 9, 3) := by decide +kernel
theorem dX11_measure_39 : decode cX11_measure 39 = .ok (.ldc2_w 157, 3) := by decide +kernel
theorem dX11_measure_42 : decode cX11_measure 42 = .ok (.goto 6, 3) := by decide +kernel
theorem dX11_measure_45 : decode cX11_measure 45 = .ok (.ldc2_w 159, 3) := by decide +kernel
theorem dX11_measure_48 : decode cX11_measure 48 = .ok (.invokestatic 62, 3) := by decide +kernel
theorem dX11_measure_51 : decode cX11_measure 51 = .ok (.ifCond .ne 6, 3) := by decide +kernel
theorem dX11_measure_54 : decode cX11_measure 54 = .ok (.ldc 133, 2) := by decide +kernel
theorem dX11_measure_56 : decode cX11_measure 56 = .ok (.ireturn, 1) := by decide +kernel
theorem dX11_measure_57 : decode cX11_measure 57 = .ok (.aload_n 0, 1) := by decide +kernel
theorem dX11_measure_58 : decode cX11_measure 58 = .ok (.bipush 14, 2) := by decide +kernel
theorem dX11_measure_60 : decode cX11_measure 60 = .ok (.iconst 5, 1) := by decide +kernel
theorem dX11_measure_61 : decode cX11_measure 61 = .ok (.iload_n 1, 1) := by decide +kernel
theorem dX11_measure_62 : decode cX11_measure 62 = .ok (.imul, 1) := by decide +kernel
theorem dX11_measure_63 : decode cX11_measure 63 = .ok (.iadd, 1) := by decide +kernel
theorem dX11_measure_64 : decode cX11_measure 64 = .ok (.iconst 1, 1) := by decide +kernel
theorem dX11_measure_65 : decode cX11_measure 65 = .ok (.iadd, 1) := by decide +kernel
theorem dX11_measure_66 : decode cX11_measure 66 = .ok (.iload_n 2, 1) := by decide +kernel
theorem dX11_measure_67 : decode cX11_measure 67 = .ok (.iadd, 1) := by decide +kernel
theorem dX11_measure_68 : decode cX11_measure 68 = .ok (.iload_n 3, 1) := by decide +kernel
theorem dX11_measure_69 : decode cX11_measure 69 = .ok (.invokevirtual 161, 3) := by decide +kernel
theorem dX11_measure_72 : decode cX11_measure 72 = .ok (.ireturn, 1) := by decide +kernel
theorem dX11_become_0 : decode cX11_become 0 = .ok (.aload_n 0, 1) := by decide +kernel
theorem dX11_become_1 : decode cX11_become 1 = .ok (.iload_n 1, 1) := by decide +kernel
theorem dX11_become_2 : decode cX11_become 2 = .ok (.invokevirtual 150, 3) := by decide +kernel
theorem dX11_become_5 : decode cX11_become 5 = .ok (.ifCond .eq 15, 3) := by decide +kernel
theorem dX11_become_8 : decode cX11_become 8 = .ok (.iload_n 2, 1) := by decide +kernel
theorem dX11_become_9 : decode cX11_become 9 = .ok (.i2l, 1) := by decide +kernel
theorem dX11_become_10 : decode cX11_become 10 = .ok (.lconst 1, 1) := by decide +kernel
theorem dX11_become_11 : decode cX11_become 11 = .ok (.ldc2_w 164, 3) := by decide +kernel
theorem dX11_become_14 : decode cX11_become 14 = .ok (.invokestatic 62, 3) := by decide +kernel
theorem dX11_become_17 : decode cX11_become 17 = .ok (.ifCond .ne 6, 3) := by decide +kernel
theorem dX11_become_20 : decode cX11_become 20 = .ok (.ldc 133, 2) := by decide +kernel
theorem dX11_become_22 : decode cX11_become 22 = .ok (.ireturn, 1) := by decide +kernel
theorem dX11_become_23 : decode cX11_become 23 = .ok (.aload_n 0, 1) := by decide +kernel
theorem dX11_become_24 : decode cX11_become 24 = .ok (.iload_n 1, 1) := by decide +kernel
theorem dX11_become_25 : decode cX11_become 25 = .ok (.iconst 0, 1) := by decide +kernel
theorem dX11_become_26 : decode cX11_become 26 = .ok (.invokevirtual 166, 3) := by decide +kernel
theorem dX11_become_29 : decode cX11_become 29 = .ok (.iload_n 2, 1) := by decide +kernel
theorem dX11_become_30 : decode cX11_become 30 = .ok (.if_icmp .ne 8, 3) := by decide +kernel
theorem dX11_become_33 : decode cX11_become 33 = .ok (.ldc 146, 2) := by decide +kernel
theorem dX11_become_35 : decode cX11_become 35 = .ok (.goto 14, 3) := by decide +kernel
theorem dX11_become_38 : decode cX11_become 38 = .ok (.aload_n 0, 1) := by decide +kernel
theorem dX11_become_39 : decode cX11_become 39 = .ok (.bipush 14, 2) := by decide +kernel
theorem dX11_become_41 : decode cX11_become 41 = .ok (.iconst 5, 1) := by decide +kernel
theorem dX11_become_42 : decode cX11_become 42 = .ok (.iload_n 1, 1) := by decide +kernel
theorem dX11_become_43 : decode cX11_become 43 = .ok (.imul, 1) := by decide +kernel
theorem dX11_become_44 : decode cX11_become 44 = .ok (.iadd, 1) := by decide +kernel
theorem dX11_become_45 : decode cX11_become 45 = .ok (.iload_n 2, 1) := by decide +kernel
theorem dX11_become_46 : decode cX11_become 46 = .ok (.invokevirtual 161, 3) := by decide +kernel
theorem dX11_become_49 : decode cX11_become 49 = .ok (.ireturn, 1) := by decide +kernel
theorem dX11_ship_0 : decode cX11_ship 0 = .ok (.aload_n 0, 1) := by decide +kernel
theorem dX11_ship_1 : decode cX11_ship 1 = .ok (.invokevirtual 169, 3) := by decide +kernel
theorem dX11_ship_4 : decode cX11_ship 4 = .ok (.ifCond .ne 6, 3) := by decide +kernel
theorem dX11_ship_7 : decode cX11_ship 7 = .ok (.ldc 146, 2) := by decide +kernel
theorem dX11_ship_9 : decode cX11_ship 9 = .ok (.ireturn, 1) := by decide +kernel
theorem dX11_ship_10 : decode cX11_ship 10 = .ok (.iload_n 1, 1) := by decide +kernel
theorem dX11_ship_11 : decode cX11_ship 11 = .ok (.i2l, 1) := by decide +kernel
theorem dX11_ship_12 : decode cX11_ship 12 = .ok (.lconst 0, 1) := by decide +kernel
theorem dX11_ship_13 : decode cX11_ship 13 = .ok (.ldc2_w 172, 3) := by decide +kernel
theorem dX11_ship_16 : decode cX11_ship 16 = .ok (.invokestatic 62, 3) := by decide +kernel
theorem dX11_ship_19 : decode cX11_ship 19 = .ok (.ifCond .eq 25, 3) := by decide +kernel
theorem dX11_ship_22 : decode cX11_ship 22 = .ok (.iload_n 2, 1) := by decide +kernel
theorem dX11_ship_23 : decode cX11_ship 23 = .ok (.i2l, 1) := by decide +kernel
theorem dX11_ship_24 : decode cX11_ship 24 = .ok (.lconst 0, 1) := by decide +kernel
theorem dX11_ship_25 : decode cX11_ship 25 = .ok (.iload_n 1, 1) := by decide +kernel
theorem dX11_ship_26 : decode cX11_ship 26 = .ok (.ifCond .ne 9, 3) := by decide +kernel
theorem dX11_ship_29 : decode cX11_ship 29 = .ok (.ldc2_w 159, 3) := by decide +kernel
theorem dX11_ship_32 : decode cX11_ship 32 = .ok (.goto 6, 3) := by decide +kernel
theorem dX11_ship_35 : decode cX11_ship 35 = .ok (.ldc2_w 155, 3) := by decide +kernel
theorem dX11_ship_38 : decode cX11_ship 38 = .ok (.invokestatic 62, 3) := by decide +kernel
theorem dX11_ship_41 : decode cX11_ship 41 = .ok (.ifCond .ne 8, 3) := by decide +kernel
theorem dX11_ship_44 : decode cX11_ship 44 = .ok (.ldc 133, 2) := by decide +kernel
theorem dX11_ship_46 : decode cX11_ship 46 = .ok (.goto 11, 3) := by decide +kernel
theorem dX11_ship_49 : decode cX11_ship 49 = .ok (.aload_n 0, 1) := by decide +kernel
theorem dX11_ship_50 : decode cX11_ship 50 = .ok (.iconst 1, 1) := by decide +kernel
theorem dX11_ship_51 : decode cX11_ship 51 = .ok (.iload_n 1, 1) := by decide +kernel
theorem dX11_ship_52 : decode cX11_ship 52 = .ok (.iadd, 1) := by decide +kernel
theorem dX11_ship_53 : decode cX11_ship 53 = .ok (.iload_n 2, 1) := by decide +kernel
theorem dX11_ship_54 : decode cX11_ship 54 = .ok (.invokevirtual 161, 3) := by decide +kernel
theorem dX11_ship_57 : decode cX11_ship 57 = .ok (.ireturn, 1) := by decide +kernel
theorem dX11_tide_0 : decode cX11_tide 0 = .ok (.iload_n 1, 1) := by decide +kernel
theorem dX11_tide_1 : decode cX11_tide 1 = .ok (.i2l, 1) := by decide +kernel
theorem dX11_tide_2 : decode cX11_tide 2 = .ok (.lconst 0, 1) := by decide +kernel
theorem dX11_tide_3 : decode cX11_tide 3 = .ok (.aload_n 0, 1) := by decide +kernel
theorem dX11_tide_4 : decode cX11_tide 4 = .ok (.getfield 7, 3) := by decide +kernel
theorem dX11_tide_7 : decode cX11_tide 7 = .ok (.bipush 6, 2) := by decide +kernel
theorem dX11_tide_9 : decode cX11_tide 9 = .ok (.iaload, 1) := by decide +kernel
theorem dX11_tide_10 : decode cX11_tide 10 = .ok (.iconst 1, 1) := by decide +kernel
theorem dX11_tide_11 : decode cX11_tide 11 = .ok (.isub, 1) := by decide +kernel
theorem dX11_tide_12 : decode cX11_tide 12 = .ok (.i2l, 1) := by decide +kernel
theorem dX11_tide_13 : decode cX11_tide 13 = .ok (.invokestatic 62, 3) := by decide +kernel
theorem dX11_tide_16 : decode cX11_tide 16 = .ok (.ifCond .eq 15, 3) := by decide +kernel
theorem dX11_tide_19 : decode cX11_tide 19 = .ok (.iload_n 2, 1) := by decide +kernel
theorem dX11_tide_20 : decode cX11_tide 20 = .ok (.i2l, 1) := by decide +kernel
theorem dX11_tide_21 : decode cX11_tide 21 = .ok (.lconst 0, 1) := by decide +kernel
theorem dX11_tide_22 : decode cX11_tide 22 = .ok (.ldc2_w 159, 3) := by decide +kernel
theorem dX11_tide_25 : decode cX11_tide 25 = .ok (.invokestatic 62, 3) := by decide +kernel
theorem dX11_tide_28 : decode cX11_tide 28 = .ok (.ifCond .ne 8, 3) := by decide +kernel
theorem dX11_tide_31 : decode cX11_tide 31 = .ok (.ldc 133, 2) := by decide +kernel
theorem dX11_tide_33 : decode cX11_tide 33 = .ok (.goto 12, 3) := by decide +kernel
theorem dX11_tide_36 : decode cX11_tide 36 = .ok (.aload_n 0, 1) := by decide +kernel
theorem dX11_tide_37 : decode cX11_tide 37 = .ok (.bipush 7, 2) := by decide +kernel
theorem dX11_tide_39 : decode cX11_tide 39 = .ok (.iload_n 1, 1) := by decide +kernel
theorem dX11_tide_40 : decode cX11_tide 40 = .ok (.iadd, 1) := by decide +kernel
theorem dX11_tide_41 : decode cX11_tide 41 = .ok (.iload_n 2, 1) := by decide +kernel
theorem dX11_tide_42 : decode cX11_tide 42 = .ok (.invokevirtual 161, 3) := by decide +kernel
theorem dX11_tide_45 : decode cX11_tide 45 = .ok (.ireturn, 1) := by decide +kernel
theorem dX11_steer_0 : decode cX11_steer 0 = .ok (.aload_n 0, 1) := by decide +kernel
theorem dX11_steer_1 : decode cX11_steer 1 = .ok (.iload_n 1, 1) := by decide +kernel
theorem dX11_steer_2 : decode cX11_steer 2 = .ok (.invokevirtual 174, 3) := by decide +kernel
theorem dX11_steer_5 : decode cX11_steer 5 = .ok (.ifCond .eq 15, 3) := by decide +kernel
theorem dX11_steer_8 : decode cX11_steer 8 = .ok (.iload_n 2, 1) := by decide +kernel
theorem dX11_steer_9 : decode cX11_steer 9 = .ok (.i2l, 1) := by decide +kernel
theorem dX11_steer_10 : decode cX11_steer 10 = .ok (.lconst 0, 1) := by decide +kernel
theorem dX11_steer_11 : decode cX11_steer 11 = .ok (.ldc2_w 157, 3) := by decide +kernel
theorem dX11_steer_14 : decode cX11_steer 14 = .ok (.invokestatic 62, 3) := by decide +kernel
theorem dX11_steer_17 : decode cX11_steer 17 = .ok (.ifCond .ne 8, 3) := by decide +kernel
theorem dX11_steer_20 : decode cX11_steer 20 = .ok (.ldc 133, 2) := by decide +kernel
theorem dX11_steer_22 : decode cX11_steer 22 = .ok (.goto 14, 3) := by decide +kernel
theorem dX11_steer_25 : decode cX11_steer 25 = .ok (.aload_n 0, 1) := by decide +kernel
theorem dX11_steer_26 : decode cX11_steer 26 = .ok (.bipush 55, 2) := by decide +kernel
theorem dX11_steer_28 : decode cX11_steer 28 = .ok (.iconst 4, 1) := by decide +kernel
theorem dX11_steer_29 : decode cX11_steer 29 = .ok (.iload_n 1, 1) := by decide +kernel
theorem dX11_steer_30 : decode cX11_steer 30 = .ok (.imul, 1) := by decide +kernel
theorem dX11_steer_31 : decode cX11_steer 31 = .ok (.iadd, 1) := by decide +kernel
theorem dX11_steer_32 : decode cX11_steer 32 = .ok (.iload_n 2, 1) := by decide +kernel
theorem dX11_steer_33 : decode cX11_steer 33 = .ok (.invokevirtual 161, 3) := by decide +kernel
theorem dX11_steer_36 : decode cX11_steer 36 = .ok (.ireturn, 1) := by decide +kernel
theorem dX11_isUntil_0 : decode cX11_isUntil 0 = .ok (.iload_n 0, 1) := by decide +kernel
theorem dX11_isUntil_1 : decode cX11_isUntil 1 = .ok (.i2l, 1) := by decide +kernel
theorem dX11_isUntil_2 : decode cX11_isUntil 2 = .ok (.lconst 0, 1) := by decide +kernel
theorem dX11_isUntil_3 : decode cX11_isUntil 3 = .ok (.ldc2_w 172, 3) := by decide +kernel
theorem dX11_isUntil_6 : decode cX11_isUntil 6 = .ok (.invokestatic 62, 3) := by decide +kernel
theorem dX11_isUntil_9 : decode cX11_isUntil 9 = .ok (.ifCond .eq 42, 3) := by decide +kernel
theorem dX11_isUntil_12 : decode cX11_isUntil 12 = .ok (.iload_n 1, 1) := by decide +kernel
theorem dX11_isUntil_13 : decode cX11_isUntil 13 = .ok (.i2l, 1) := by decide +kernel
theorem dX11_isUntil_14 : decode cX11_isUntil 14 = .ok (.iload_n 0, 1) := by decide +kernel
theorem dX11_isUntil_15 : decode cX11_isUntil 15 = .ok (.ifCond .ne 7, 3) := by decide +kernel
theorem dX11_isUntil_18 : decode cX11_isUntil 18 = .ok (.lconst 1, 1) := by decide +kernel
theorem dX11_isUntil_19 : decode cX11_isUntil 19 = .ok (.goto 4, 3) := by decide +kernel
theorem dX11_isUntil_22 : decode cX11_isUntil 22 = .ok (.lconst 0, 1) := by decide +kernel
theorem dX11_isUntil_23 : decode cX11_isUntil 23 = .ok (.iload_n 0, 1) := by decide +kernel
theorem dX11_isUntil_24 : decode cX11_isUntil 24 = .ok (.ifCond .eq 8, 3) := by decide +kernel
theorem dX11_isUntil_27 : decode cX11_isUntil 27 = .ok (.iload_n 0, 1) := by decide +kernel
theorem dX11_isUntil_28 : decode cX11_isUntil 28 = .ok (.iconst 4, 1) := by decide +kernel
theorem dX11_isUntil_29 : decode cX11_isUntil 29 = .ok (.if_icmp .ne 9, 3) := by decide +kernel
theorem dX11_isUntil_32 : decode cX11_isUntil 32 = .ok (.ldc2_w 155, 3) := by decide +kernel
theorem dX11_isUntil_35 : decode cX11_isUntil 35 = .ok (.goto 6, 3) := by decide +kernel
theorem dX11_isUntil_38 : decode cX11_isUntil 38 = .ok (.ldc2_w 177, 3) := by decide +kernel
theorem dX11_isUntil_41 : decode cX11_isUntil 41 = .ok (.invokestatic 62, 3) := by decide +kernel
theorem dX11_isUntil_44 : decode cX11_isUntil 44 = .ok (.ifCond .eq 7, 3) := by decide +kernel
theorem dX11_isUntil_47 : decode cX11_isUntil 47 = .ok (.iconst 1, 1) := by decide +kernel
theorem dX11_isUntil_48 : decode cX11_isUntil 48 = .ok (.goto 4, 3) := by decide +kernel
theorem dX11_isUntil_51 : decode cX11_isUntil 51 = .ok (.iconst 0, 1) := by decide +kernel
theorem dX11_isUntil_52 : decode cX11_isUntil 52 = .ok (.istore_n 3, 1) := by decide +kernel
theorem dX11_isUntil_53 : decode cX11_isUntil 53 = .ok (.iload_n 3, 1) := by decide +kernel
theorem dX11_isUntil_54 : decode cX11_isUntil 54 = .ok (.ifCond .eq 24, 3) := by decide +kernel
theorem dX11_isUntil_57 : decode cX11_isUntil 57 = .ok (.iload_n 0, 1) := by decide +kernel
theorem dX11_isUntil_58 : decode cX11_isUntil 58 = .ok (.iconst 2, 1) := by decide +kernel
theorem dX11_isUntil_59 : decode cX11_isUntil 59 = .ok (.if_icmp .ne 15, 3) := by decide +kernel
theorem dX11_isUntil_62 : decode cX11_isUntil 62 = .ok (.iload_n 2, 1) := by decide +kernel
theorem dX11_isUntil_63 : decode cX11_isUntil 63 = .ok (.i2l, 1) := by decide +kernel
theorem dX11_isUntil_64 : decode cX11_isUntil 64 = .ok (.lconst 0, 1) := by decide +kernel
theorem dX11_isUntil_65 : decode cX11_isUntil 65 = .ok (.ldc2_w 177, 3) := by decide +kernel
theorem dX11_isUntil_68 : decode cX11_isUntil 68 = .ok (.invokestatic 62, 3) := by decide +kernel
theorem dX11_isUntil_71 : decode cX11_isUntil 71 = .ok (.ifCond .eq 7, 3) := by decide +kernel
theorem dX11_isUntil_74 : decode cX11_isUntil 74 = .ok (.iconst 1, 1) := by decide +kernel
theorem dX11_isUntil_75 : decode cX11_isUntil 75 = .ok (.goto 4, 3) := by decide +kernel
theorem dX11_isUntil_78 : decode cX11_isUntil 78 = .ok (.iconst 0, 1) := by decide +kernel
theorem dX11_isUntil_79 : decode cX11_isUntil 79 = .ok (.ireturn, 1) := by decide +kernel
theorem dX11_lays_0 : decode cX11_lays 0 = .ok (.aload_n 0, 1) := by decide +kernel
theorem dX11_lays_1 : decode cX11_lays 1 = .ok (.getfield 7, 3) := by decide +kernel
theorem dX11_lays_4 : decode cX11_lays 4 = .ok (.bipush 55, 2) := by decide +kernel
theorem dX11_lays_6 : decode cX11_lays 6 = .ok (.iconst 4, 1) := by decide +kernel
theorem dX11_lays_7 : decode cX11_lays 7 = .ok (.iload_n 1, 1) := by decide +kernel
theorem dX11_lays_8 : decode cX11_lays 8 = .ok (.imul, 1) := by decide +kernel
theorem dX11_lays_9 : decode cX11_lays 9 = .ok (.iadd, 1) := by decide +kernel
theorem dX11_lays_10 : decode cX11_lays 10 = .ok (.iconst 1, 1) := by decide +kernel
theorem dX11_lays_11 : decode cX11_lays 11 = .ok (.iadd, 1) := by decide +kernel
theorem dX11_lays_12 : decode cX11_lays 12 = .ok (.iload_n 2, 1) := by decide +kernel
theorem dX11_lays_13 : decode cX11_lays 13 = .ok (.iastore, 1) := by decide +kernel
theorem dX11_lays_14 : decode cX11_lays 14 = .ok (.aload_n 0, 1) := by decide +kernel
theorem dX11_lays_15 : decode cX11_lays 15 = .ok (.getfield 7, 3) := by decide +kernel
theorem dX11_lays_18 : decode cX11_lays 18 = .ok (.bipush 55, 2) := by decide +kernel
theorem dX11_lays_20 : decode cX11_lays 20 = .ok (.iconst 4, 1) := by decide +kernel
theorem dX11_lays_21 : decode cX11_lays 21 = .ok (.iload_n 1, 1) := by decide +kernel
theorem dX11_lays_22 : decode cX11_lays 22 = .ok (.imul, 1) := by decide +kernel
theorem dX11_lays_23 : decode cX11_lays 23 = .ok (.iadd, 1) := by decide +kernel
theorem dX11_lays_24 : decode cX11_lays 24 = .ok (.iconst 2, 1) := by decide +kernel
theorem dX11_lays_25 : decode cX11_lays 25 = .ok (.iadd, 1) := by decide +kernel
theorem dX11_lays_26 : decode cX11_lays 26 = .ok (.iload_n 3, 1) := by decide +kernel
theorem dX11_lays_27 : decode cX11_lays 27 = .ok (.iastore, 1) := by decide +kernel
theorem dX11_lays_28 : decode cX11_lays 28 = .ok (.aload_n 0, 1) := by decide +kernel
theorem dX11_lays_29 : decode cX11_lays 29 = .ok (.getfield 7, 3) := by decide +kernel
theorem dX11_lays_32 : decode cX11_lays 32 = .ok (.bipush 55, 2) := by decide +kernel
theorem dX11_lays_34 : decode cX11_lays 34 = .ok (.iconst 4, 1) := by decide +kernel
theorem dX11_lays_35 : decode cX11_lays 35 = .ok (.iload_n 1, 1) := by decide +kernel
theorem dX11_lays_36 : decode cX11_lays 36 = .ok (.imul, 1) := by decide +kernel
theorem dX11_lays_37 : decode cX11_lays 37 = .ok (.iadd, 1) := by decide +kernel
theorem dX11_lays_38 : decode cX11_lays 38 = .ok (.iconst 3, 1) := by decide +kernel
theorem dX11_lays_39 : decode cX11_lays 39 = .ok (.iadd, 1) := by decide +kernel
theorem dX11_lays_40 : decode cX11_lays 40 = .ok (.iload_n 2, 1) := by decide +kernel
theorem dX11_lays_41 : decode cX11_lays 41 = .ok (.iconst 2, 1) := by decide +kernel
theorem dX11_lays_42 : decode cX11_lays 42 = .ok (.if_icmp .ne 8, 3) := by decide +kernel
theorem dX11_lays_45 : decode cX11_lays 45 = .ok (.iload 4, 2) := by decide +kernel
theorem dX11_lays_47 : decode cX11_lays 47 = .ok (.goto 5, 3) := by decide +kernel
theorem dX11_lays_50 : decode cX11_lays 50 = .ok (.ldc 75, 2) := by decide +kernel
theorem dX11_lays_52 : decode cX11_lays 52 = .ok (.iastore, 1) := by decide +kernel
theorem dX11_lays_53 : decode cX11_lays 53 = .ok (.return_, 1) := by decide +kernel
theorem dX11_until_0 : decode cX11_until 0 = .ok (.aload_n 0, 1) := by decide +kernel
theorem dX11_until_1 : decode cX11_until 1 = .ok (.iload_n 1, 1) := by decide +kernel
theorem dX11_until_2 : decode cX11_until 2 = .ok (.invokevirtual 174, 3) := by decide +kernel
theorem dX11_until_5 : decode cX11_until 5 = .ok (.ifCond .eq 13, 3) := by decide +kernel
theorem dX11_until_8 : decode cX11_until 8 = .ok (.iload_n 2, 1) := by decide +kernel
theorem dX11_until_9 : decode cX11_until 9 = .ok (.iload_n 3, 1) := by decide +kernel
theorem dX11_until_10 : decode cX11_until 10 = .ok (.iload 4, 2) := by decide +kernel
theorem dX11_until_12 : decode cX11_until 12 = .ok (.invokestatic 179, 3) := by decide +kernel
theorem dX11_until_15 : decode cX11_until 15 = .ok (.ifCond .ne 6, 3) := by decide +kernel
theorem dX11_until_18 : decode cX11_until 18 = .ok (.ldc 133, 2) := by decide +kernel
theorem dX11_until_20 : decode cX11_until 20 = .ok (.ireturn, 1) := by decide +kernel
theorem dX11_until_21 : decode cX11_until 21 = .ok (.aload_n 0, 1) := by decide +kernel
theorem dX11_until_22 : decode cX11_until 22 = .ok (.getfield 7, 3) := by decide +kernel
theorem dX11_until_25 : decode cX11_until 25 = .ok (.bipush 55, 2) := by decide +kernel
theorem dX11_until_27 : decode cX11_until 27 = .ok (.iconst 4, 1) := by decide +kernel
theorem dX11_until_28 : decode cX11_until 28 = .ok (.iload_n 1, 1) := by decide +kernel
theorem dX11_until_29 : decode cX11_until 29 = .ok (.imul, 1) := by decide +kernel
theorem dX11_until_30 : decode cX11_until 30 = .ok (.iadd, 1) := by decide +kernel
theorem dX11_until_31 : decode cX11_until 31 = .ok (.iconst 1, 1) := by decide +kernel
theorem dX11_until_32 : decode cX11_until 32 = .ok (.iadd, 1) := by decide +kernel
theorem dX11_until_33 : decode cX11_until 33 = .ok (.iaload, 1) := by decide +kernel
theorem dX11_until_34 : decode cX11_until 34 = .ok (.istore 5, 2) := by decide +kernel
theorem dX11_until_36 : decode cX11_until 36 = .ok (.aload_n 0, 1) := by decide +kernel
theorem dX11_until_37 : decode cX11_until 37 = .ok (.invokevirtual 147, 3) := by decide +kernel
theorem dX11_until_40 : decode cX11_until 40 = .ok (.aload_n 0, 1) := by decide +kernel
theorem dX11_until_41 : decode cX11_until 41 = .ok (.iload_n 1, 1) := by decide +kernel
theorem dX11_until_42 : decode cX11_until 42 = .ok (.iload_n 2, 1) := by decide +kernel
theorem dX11_until_43 : decode cX11_until 43 = .ok (.iload_n 3, 1) := by decide +kernel
theorem dX11_until_44 : decode cX11_until 44 = .ok (.iload 4, 2) := by decide +kernel
theorem dX11_until_46 : decode cX11_until 46 = .ok (.invokevirtual 183, 3) := by decide +kernel
theorem dX11_until_49 : decode cX11_until 49 = .ok (.iload 5, 2) := by decide +kernel
theorem dX11_until_51 : decode cX11_until 51 = .ok (.ireturn, 1) := by decide +kernel
theorem dX11_add_0 : decode cX11_add 0 = .ok (.aload_n 0, 1) := by decide +kernel
theorem dX11_add_1 : decode cX11_add 1 = .ok (.invokevirtual 169, 3) := by decide +kernel
theorem dX11_add_4 : decode cX11_add 4 = .ok (.ifCond .ne 6, 3) := by decide +kernel
theorem dX11_add_7 : decode cX11_add 7 = .ok (.ldc 146, 2) := by decide +kernel
theorem dX11_add_9 : decode cX11_add 9 = .ok (.ireturn, 1) := by decide +kernel
theorem dX11_add_10 : decode cX11_add 10 = .ok (.iload_n 1, 1) := by decide +kernel
theorem dX11_add_11 : decode cX11_add 11 = .ok (.i2l, 1) := by decide +kernel
theorem dX11_add_12 : decode cX11_add 12 = .ok (.lconst 0, 1) := by decide +kernel
theorem dX11_add_13 : decode cX11_add 13 = .ok (.aload_n 0, 1) := by decide +kernel
theorem dX11_add_14 : decode cX11_add 14 = .ok (.getfield 7, 3) := by decide +kernel
theorem dX11_add_17 : decode cX11_add 17 = .ok (.bipush 54, 2) := by decide +kernel
theorem dX11_add_19 : decode cX11_add 19 = .ok (.iaload, 1) := by decide +kernel
theorem dX11_add_20 : decode cX11_add 20 = .ok (.i2l, 1) := by decide +kernel
theorem dX11_add_21 : decode cX11_add 21 = .ok (.invokestatic 62, 3) := by decide +kernel
theorem dX11_add_24 : decode cX11_add 24 = .ok (.ifCond .eq 26, 3) := by decide +kernel
theorem dX11_add_27 : decode cX11_add 27 = .ok (.iload_n 2, 1) := by decide +kernel
theorem dX11_add_28 : decode cX11_add 28 = .ok (.i2l, 1) := by decide +kernel
theorem dX11_add_29 : decode cX11_add 29 = .ok (.lconst 0, 1) := by decide +kernel
theorem dX11_add_30 : decode cX11_add 30 = .ok (.ldc2_w 157, 3) := by decide +kernel
theorem dX11_add_33 : decode cX11_add 33 = .ok (.invokestatic 62, 3) := by decide +kernel
theorem dX11_add_36 : decode cX11_add 36 = .ok (.ifCond .eq 14, 3) := by decide +kernel
theorem dX11_add_39 : decode cX11_add 39 = .ok (.iload_n 3, 1) := by decide +kernel
theorem dX11_add_40 : decode cX11_add 40 = .ok (.iload 4, 2) := by decide +kernel
theorem dX11_add_42 : decode cX11_add 42 = .ok (.iload 5, 2) := by decide +kernel
theorem dX11_add_44 : decode cX11_add 44 = .ok (.invokestatic 179, 3) := by decide +kernel
theorem dX11_add_47 : decode cX11_add 47 = .ok (.ifCond .ne 6, 3) := by decide +kernel
theorem dX11_add_50 : decode cX11_add 50 = .ok (.ldc 133, 2) := by decide +kernel
theorem dX11_add_52 : decode cX11_add 52 = .ok (.ireturn, 1) := by decide +kernel
theorem dX11_add_53 : decode cX11_add 53 = .ok (.aload_n 0, 1) := by decide +kernel
theorem dX11_add_54 : decode cX11_add 54 = .ok (.getfield 7, 3) := by decide +kernel
theorem dX11_add_57 : decode cX11_add 57 = .ok (.bipush 54, 2) := by decide +kernel
theorem dX11_add_59 : decode cX11_add 59 = .ok (.iaload, 1) := by decide +kernel
theorem dX11_add_60 : decode cX11_add 60 = .ok (.bipush 6, 2) := by decide +kernel
theorem dX11_add_62 : decode cX11_add 62 = .ok (.if_icmp .ne 6, 3) := by decide +kernel
theorem dX11_add_65 : decode cX11_add 65 = .ok (.ldc 134, 2) := by decide +kernel
theorem dX11_add_67 : decode cX11_add 67 = .ok (.ireturn, 1) := by decide +kernel
theorem dX11_add_68 : decode cX11_add 68 = .ok (.aload_n 0, 1) := by decide +kernel
theorem dX11_add_69 : decode cX11_add 69 = .ok (.invokevirtual 147, 3) := by decide +kernel
theorem dX11_add_72 : decode cX11_add 72 = .ok (.iconst 4, 1) := by decide +kernel
theorem dX11_add_73 : decode cX11_add 73 = .ok (.aload_n 0, 1) := by decide +kernel
theorem dX11_add_74 : decode cX11_add 74 = .ok (.getfield 7, 3) := by decide +kernel
theorem dX11_add_77 : decode cX11_add 77 = .ok (.bipush 54, 2) := by decide +kernel
theorem dX11_add_79 : decode cX11_add 79 = .ok (.iaload, 1) := by decide +kernel
theorem dX11_add_80 : decode cX11_add 80 = .ok (.imul, 1) := by decide +kernel
theorem dX11_add_81 : decode cX11_add 81 = .ok (.iconst 3, 1) := by decide +kernel
theorem dX11_add_82 : decode cX11_add 82 = .ok (.iadd, 1) := by decide +kernel
theorem dX11_add_83 : decode cX11_add 83 = .ok (.istore 6, 2) := by decide +kernel
theorem dX11_add_85 : decode cX11_add 85 = .ok (.iload 6, 2) := by decide +kernel
theorem dX11_add_87 : decode cX11_add 87 = .ok (.iconst 4, 1) := by decide +kernel
theorem dX11_add_88 : decode cX11_add 88 = .ok (.iload_n 1, 1) := by decide +kernel
theorem dX11_add_89 : decode cX11_add 89 = .ok (.imul, 1) := by decide +kernel
theorem dX11_add_90 : decode cX11_add 90 = .ok (.iconst 4, 1) := by decide +kernel
theorem dX11_add_91 : decode cX11_add 91 = .ok (.iadd, 1) := by decide +kernel
theorem dX11_add_92 : decode cX11_add 92 = .ok (.if_icmp .lt 31, 3) := by decide +kernel
theorem dX11_add_95 : decode cX11_add 95 = .ok (.aload_n 0, 1) := by decide +kernel
theorem dX11_add_96 : decode cX11_add 96 = .ok (.getfield 7, 3) := by decide +kernel
theorem dX11_add_99 : decode cX11_add 99 = .ok (.bipush 55, 2) := by decide +kernel
theorem dX11_add_101 : decode cX11_add 101 = .ok (.iload 6, 2) := by decide +kernel
theorem dX11_add_103 : decode cX11_add 103 = .ok (.iadd, 1) := by decide +kernel
theorem dX11_add_104 : decode cX11_add 104 = .ok (.aload_n 0, 1) := by decide +kernel
theorem dX11_add_105 : decode cX11_add 105 = .ok (.getfield 7, 3) := by decide +kernel
theorem dX11_add_108 : decode cX11_add 108 = .ok (.bipush 55, 2) := by decide +kernel
theorem dX11_add_110 : decode cX11_add 110 = .ok (.iload 6, 2) := by decide +kernel
theorem dX11_add_112 : decode cX11_add 112 = .ok (.iadd, 1) := by decide +kernel
theorem dX11_add_113 : decode cX11_add 113 = .ok (.iconst 4, 1) := by decide +kernel
theorem dX11_add_114 : decode cX11_add 114 = .ok (.isub, 1) := by decide +kernel
theorem dX11_add_115 : decode cX11_add 115 = .ok (.iaload, 1) := by decide +kernel
theorem dX11_add_116 : decode cX11_add 116 = .ok (.iastore, 1) := by decide +kernel
theorem dX11_add_117 : decode cX11_add 117 = .ok (.iinc 6 (-1), 3) := by decide +kernel
theorem dX11_add_120 : decode cX11_add 120 = .ok (.goto (-35), 3) := by decide +kernel
theorem dX11_add_123 : decode cX11_add 123 = .ok (.aload_n 0, 1) := by decide +kernel
theorem dX11_add_124 : decode cX11_add 124 = .ok (.getfield 7, 3) := by decide +kernel
theorem dX11_add_127 : decode cX11_add 127 = .ok (.bipush 55, 2) := by decide +kernel
theorem dX11_add_129 : decode cX11_add 129 = .ok (.iconst 4, 1) := by decide +kernel
theorem dX11_add_130 : decode cX11_add 130 = .ok (.iload_n 1, 1) := by decide +kernel
theorem dX11_add_131 : decode cX11_add 131 = .ok (.imul, 1) := by decide +kernel
theorem dX11_add_132 : decode cX11_add 132 = .ok (.iadd, 1) := by decide +kernel
theorem dX11_add_133 : decode cX11_add 133 = .ok (.iload_n 2, 1) := by decide +kernel
theorem dX11_add_134 : decode cX11_add 134 = .ok (.iastore, 1) := by decide +kernel
theorem dX11_add_135 : decode cX11_add 135 = .ok (.aload_n 0, 1) := by decide +kernel
theorem dX11_add_136 : decode cX11_add 136 = .ok (.iload_n 1, 1) := by decide +kernel
theorem dX11_add_137 : decode cX11_add 137 = .ok (.iload_n 3, 1) := by decide +kernel
theorem dX11_add_138 : decode cX11_add 138 = .ok (.iload 4, 2) := by decide +kernel
theorem dX11_add_140 : decode cX11_add 140 = .ok (.iload 5, 2) := by decide +kernel
theorem dX11_add_142 : decode cX11_add 142 = .ok (.invokevirtual 183, 3) := by decide +kernel
theorem dX11_add_145 : decode cX11_add 145 = .ok (.aload_n 0, 1) := by decide +kernel
theorem dX11_add_146 : decode cX11_add 146 = .ok (.getfield 7, 3) := by decide +kernel
theorem dX11_add_149 : decode cX11_add 149 = .ok (.bipush 54, 2) := by decide +kernel
theorem dX11_add_151 : decode cX11_add 151 = .ok (.dup2, 1) := by decide +kernel
theorem dX11_add_152 : decode cX11_add 152 = .ok (.iaload, 1) := by decide +kernel
theorem dX11_add_153 : decode cX11_add 153 = .ok (.iconst 1, 1) := by decide +kernel
theorem dX11_add_154 : decode cX11_add 154 = .ok (.iadd, 1) := by decide +kernel
theorem dX11_add_155 : decode cX11_add 155 = .ok (.iastore, 1) := by decide +kernel
theorem dX11_add_156 : decode cX11_add 156 = .ok (.aload_n 0, 1) := by decide +kernel
theorem dX11_add_157 : decode cX11_add 157 = .ok (.getfield 7, 3) := by decide +kernel
theorem dX11_add_160 : decode cX11_add 160 = .ok (.bipush 54, 2) := by decide +kernel
theorem dX11_add_162 : decode cX11_add 162 = .ok (.iaload, 1) := by decide +kernel
theorem dX11_add_163 : decode cX11_add 163 = .ok (.ireturn, 1) := by decide +kernel
theorem dX11_cut_0 : decode cX11_cut 0 = .ok (.aload_n 0, 1) := by decide +kernel
theorem dX11_cut_1 : decode cX11_cut 1 = .ok (.iload_n 1, 1) := by decide +kernel
theorem dX11_cut_2 : decode cX11_cut 2 = .ok (.invokevirtual 174, 3) := by decide +kernel
theorem dX11_cut_5 : decode cX11_cut 5 = .ok (.ifCond .ne 6, 3) := by decide +kernel
theorem dX11_cut_8 : decode cX11_cut 8 = .ok (.ldc 133, 2) := by decide +kernel
theorem dX11_cut_10 : decode cX11_cut 10 = .ok (.ireturn, 1) := by decide +kernel
theorem dX11_cut_11 : decode cX11_cut 11 = .ok (.aload_n 0, 1) := by decide +kernel
theorem dX11_cut_12 : decode cX11_cut 12 = .ok (.getfield 7, 3) := by decide +kernel
theorem dX11_cut_15 : decode cX11_cut 15 = .ok (.bipush 54, 2) := by decide +kernel
theorem dX11_cut_17 : decode cX11_cut 17 = .ok (.iaload, 1) := by decide +kernel
theorem dX11_cut_18 : decode cX11_cut 18 = .ok (.iconst 1, 1) := by decide +kernel
theorem dX11_cut_19 : decode cX11_cut 19 = .ok (.if_icmp .ne 6, 3) := by decide +kernel
theorem dX11_cut_22 : decode cX11_cut 22 = .ok (.ldc 146, 2) := by decide +kernel
theorem dX11_cut_24 : decode cX11_cut 24 = .ok (.ireturn, 1) := by decide +kernel
theorem dX11_cut_25 : decode cX11_cut 25 = .ok (.aload_n 0, 1) := by decide +kernel
theorem dX11_cut_26 : decode cX11_cut 26 = .ok (.invokevirtual 147, 3) := by decide +kernel
theorem dX11_cut_29 : decode cX11_cut 29 = .ok (.aload_n 0, 1) := by decide +kernel
theorem dX11_cut_30 : decode cX11_cut 30 = .ok (.getfield 7, 3) := by decide +kernel
theorem dX11_cut_33 : decode cX11_cut 33 = .ok (.bipush 54, 2) := by decide +kernel
theorem dX11_cut_35 : decode cX11_cut 35 = .ok (.dup2, 1) := by decide +kernel
theorem dX11_cut_36 : decode cX11_cut 36 = .ok (.iaload, 1) := by decide +kernel
theorem dX11_cut_37 : decode cX11_cut 37 = .ok (.iconst 1, 1) := by decide +kernel
theorem dX11_cut_38 : decode cX11_cut 38 = .ok (.isub, 1) := by decide +kernel
theorem dX11_cut_39 : decode cX11_cut 39 = .ok (.iastore, 1) := by decide +kernel
theorem dX11_cut_40 : decode cX11_cut 40 = .ok (.iconst 4, 1) := by decide +kernel
theorem dX11_cut_41 : decode cX11_cut 41 = .ok (.iload_n 1, 1) := by decide +kernel
theorem dX11_cut_42 : decode cX11_cut 42 = .ok (.imul, 1) := by decide +kernel
theorem dX11_cut_43 : decode cX11_cut 43 = .ok (.istore_n 2, 1) := by decide +kernel
theorem dX11_cut_44 : decode cX11_cut 44 = .ok (.iload_n 2, 1) := by decide +kernel
theorem dX11_cut_45 : decode cX11_cut 45 = .ok (.iconst 4, 1) := by decide +kernel
theorem dX11_cut_46 : decode cX11_cut 46 = .ok (.aload_n 0, 1) := by decide +kernel
theorem dX11_cut_47 : decode cX11_cut 47 = .ok (.getfield 7, 3) := by decide +kernel
theorem dX11_cut_50 : decode cX11_cut 50 = .ok (.bipush 54, 2) := by decide +kernel
theorem dX11_cut_52 : decode cX11_cut 52 = .ok (.iaload, 1) := by decide +kernel
theorem dX11_cut_53 : decode cX11_cut 53 = .ok (.imul, 1) := by decide +kernel
theorem dX11_cut_54 : decode cX11_cut 54 = .ok (.if_icmp .ge 29, 3) := by decide +kernel
theorem dX11_cut_57 : decode cX11_cut 57 = .ok (.aload_n 0, 1) := by decide +kernel
theorem dX11_cut_58 : decode cX11_cut 58 = .ok (.getfield 7, 3) := by decide +kernel
theorem dX11_cut_61 : decode cX11_cut 61 = .ok (.bipush 55, 2) := by decide +kernel
theorem dX11_cut_63 : decode cX11_cut 63 = .ok (.iload_n 2, 1) := by decide +kernel
theorem dX11_cut_64 : decode cX11_cut 64 = .ok (.iadd, 1) := by decide +kernel
theorem dX11_cut_65 : decode cX11_cut 65 = .ok (.aload_n 0, 1) := by decide +kernel
theorem dX11_cut_66 : decode cX11_cut 66 = .ok (.getfield 7, 3) := by decide +kernel
theorem dX11_cut_69 : decode cX11_cut 69 = .ok (.bipush 55, 2) := by decide +kernel
theorem dX11_cut_71 : decode cX11_cut 71 = .ok (.iload_n 2, 1) := by decide +kernel
theorem dX11_cut_72 : decode cX11_cut 72 = .ok (.iadd, 1) := by decide +kernel
theorem dX11_cut_73 : decode cX11_cut 73 = .ok (.iconst 4, 1) := by decide +kernel
theorem dX11_cut_74 : decode cX11_cut 74 = .ok (.iadd, 1) := by decide +kernel
theorem dX11_cut_75 : decode cX11_cut 75 = .ok (.iaload, 1) := by decide +kernel
theorem dX11_cut_76 : decode cX11_cut 76 = .ok (.iastore, 1) := by decide +kernel
theorem dX11_cut_77 : decode cX11_cut 77 = .ok (.iinc 2 1, 3) := by decide +kernel
theorem dX11_cut_80 : decode cX11_cut 80 = .ok (.goto (-36), 3) := by decide +kernel
theorem dX11_cut_83 : decode cX11_cut 83 = .ok (.aload_n 0, 1) := by decide +kernel
theorem dX11_cut_84 : decode cX11_cut 84 = .ok (.getfield 7, 3) := by decide +kernel
theorem dX11_cut_87 : decode cX11_cut 87 = .ok (.bipush 54, 2) := by decide +kernel
theorem dX11_cut_89 : decode cX11_cut 89 = .ok (.iaload, 1) := by decide +kernel
theorem dX11_cut_90 : decode cX11_cut 90 = .ok (.ireturn, 1) := by decide +kernel
theorem dX11_thing_0 : decode cX11_thing 0 = .ok (.aload_n 0, 1) := by decide +kernel
theorem dX11_thing_1 : decode cX11_thing 1 = .ok (.iload_n 1, 1) := by decide +kernel
theorem dX11_thing_2 : decode cX11_thing 2 = .ok (.invokevirtual 150, 3) := by decide +kernel
theorem dX11_thing_5 : decode cX11_thing 5 = .ok (.ifCond .eq 15, 3) := by decide +kernel
theorem dX11_thing_8 : decode cX11_thing 8 = .ok (.iload_n 2, 1) := by decide +kernel
theorem dX11_thing_9 : decode cX11_thing 9 = .ok (.i2l, 1) := by decide +kernel
theorem dX11_thing_10 : decode cX11_thing 10 = .ok (.lconst 0, 1) := by decide +kernel
theorem dX11_thing_11 : decode cX11_thing 11 = .ok (.ldc2_w 172, 3) := by decide +kernel
theorem dX11_thing_14 : decode cX11_thing 14 = .ok (.invokestatic 62, 3) := by decide +kernel
theorem dX11_thing_17 : decode cX11_thing 17 = .ok (.ifCond .ne 8, 3) := by decide +kernel
theorem dX11_thing_20 : decode cX11_thing 20 = .ok (.ldc 133, 2) := by decide +kernel
theorem dX11_thing_22 : decode cX11_thing 22 = .ok (.goto 9, 3) := by decide +kernel
theorem dX11_thing_25 : decode cX11_thing 25 = .ok (.aload_n 0, 1) := by decide +kernel
theorem dX11_thing_26 : decode cX11_thing 26 = .ok (.iload_n 1, 1) := by decide +kernel
theorem dX11_thing_27 : decode cX11_thing 27 = .ok (.iload_n 2, 1) := by decide +kernel
theorem dX11_thing_28 : decode cX11_thing 28 = .ok (.invokevirtual 166, 3) := by decide +kernel
theorem dX11_thing_31 : decode cX11_thing 31 = .ok (.ireturn, 1) := by decide +kernel
theorem dX11_leg_0 : decode cX11_leg 0 = .ok (.aload_n 0, 1) := by decide +kernel
theorem dX11_leg_1 : decode cX11_leg 1 = .ok (.iload_n 1, 1) := by decide +kernel
theorem dX11_leg_2 : decode cX11_leg 2 = .ok (.invokevirtual 174, 3) := by decide +kernel
theorem dX11_leg_5 : decode cX11_leg 5 = .ok (.ifCond .eq 15, 3) := by decide +kernel
theorem dX11_leg_8 : decode cX11_leg 8 = .ok (.iload_n 2, 1) := by decide +kernel
theorem dX11_leg_9 : decode cX11_leg 9 = .ok (.i2l, 1) := by decide +kernel
theorem dX11_leg_10 : decode cX11_leg 10 = .ok (.lconst 0, 1) := by decide +kernel
theorem dX11_leg_11 : decode cX11_leg 11 = .ok (.ldc2_w 153, 3) := by decide +kernel
theorem dX11_leg_14 : decode cX11_leg 14 = .ok (.invokestatic 62, 3) := by decide +kernel
theorem dX11_leg_17 : decode cX11_leg 17 = .ok (.ifCond .ne 8, 3) := by decide +kernel
theorem dX11_leg_20 : decode cX11_leg 20 = .ok (.ldc 133, 2) := by decide +kernel
theorem dX11_leg_22 : decode cX11_leg 22 = .ok (.goto 16, 3) := by decide +kernel
theorem dX11_leg_25 : decode cX11_leg 25 = .ok (.aload_n 0, 1) := by decide +kernel
theorem dX11_leg_26 : decode cX11_leg 26 = .ok (.getfield 7, 3) := by decide +kernel
theorem dX11_leg_29 : decode cX11_leg 29 = .ok (.bipush 55, 2) := by decide +kernel
theorem dX11_leg_31 : decode cX11_leg 31 = .ok (.iconst 4, 1) := by decide +kernel
theorem dX11_leg_32 : decode cX11_leg 32 = .ok (.iload_n 1, 1) := by decide +kernel
theorem dX11_leg_33 : decode cX11_leg 33 = .ok (.imul, 1) := by decide +kernel
theorem dX11_leg_34 : decode cX11_leg 34 = .ok (.iadd, 1) := by decide +kernel
theorem dX11_leg_35 : decode cX11_leg 35 = .ok (.iload_n 2, 1) := by decide +kernel
theorem dX11_leg_36 : decode cX11_leg 36 = .ok (.iadd, 1) := by decide +kernel
theorem dX11_leg_37 : decode cX11_leg 37 = .ok (.iaload, 1) := by decide +kernel
theorem dX11_leg_38 : decode cX11_leg 38 = .ok (.ireturn, 1) := by decide +kernel
theorem dX11_tideAt_0 : decode cX11_tideAt 0 = .ok (.aload_n 0, 1) := by decide +kernel
theorem dX11_tideAt_1 : decode cX11_tideAt 1 = .ok (.getfield 7, 3) := by decide +kernel
theorem dX11_tideAt_4 : decode cX11_tideAt 4 = .ok (.bipush 6, 2) := by decide +kernel
theorem dX11_tideAt_6 : decode cX11_tideAt 6 = .ok (.iaload, 1) := by decide +kernel
theorem dX11_tideAt_7 : decode cX11_tideAt 7 = .ok (.istore_n 2, 1) := by decide +kernel
theorem dX11_tideAt_8 : decode cX11_tideAt 8 = .ok (.aload_n 0, 1) := by decide +kernel
theorem dX11_tideAt_9 : decode cX11_tideAt 9 = .ok (.getfield 7, 3) := by decide +kernel
theorem dX11_tideAt_12 : decode cX11_tideAt 12 = .ok (.bipush 7, 2) := by decide +kernel
theorem dX11_tideAt_14 : decode cX11_tideAt 14 = .ok (.iload_n 1, 1) := by decide +kernel
theorem dX11_tideAt_15 : decode cX11_tideAt 15 = .ok (.bipush 10, 2) := by decide +kernel
theorem dX11_tideAt_17 : decode cX11_tideAt 17 = .ok (.idiv, 1) := by decide +kernel
theorem dX11_tideAt_18 : decode cX11_tideAt 18 = .ok (.iload_n 2, 1) := by decide +kernel
theorem dX11_tideAt_19 : decode cX11_tideAt 19 = .ok (.irem, 1) := by decide +kernel
theorem dX11_tideAt_20 : decode cX11_tideAt 20 = .ok (.iadd, 1) := by decide +kernel
theorem dX11_tideAt_21 : decode cX11_tideAt 21 = .ok (.iaload, 1) := by decide +kernel
theorem dX11_tideAt_22 : decode cX11_tideAt 22 = .ok (.istore_n 3, 1) := by decide +kernel
theorem dX11_tideAt_23 : decode cX11_tideAt 23 = .ok (.aload_n 0, 1) := by decide +kernel
theorem dX11_tideAt_24 : decode cX11_tideAt 24 = .ok (.getfield 7, 3) := by decide +kernel
theorem dX11_tideAt_27 : decode cX11_tideAt 27 = .ok (.bipush 7, 2) := by decide +kernel
theorem dX11_tideAt_29 : decode cX11_tideAt 29 = .ok (.iload_n 1, 1) := by decide +kernel
theorem dX11_tideAt_30 : decode cX11_tideAt 30 = .ok (.bipush 10, 2) := by decide +kernel
theorem dX11_tideAt_32 : decode cX11_tideAt 32 = .ok (.idiv, 1) := by decide +kernel
theorem dX11_tideAt_33 : decode cX11_tideAt 33 = .ok (.iconst 1, 1) := by decide +kernel
theorem dX11_tideAt_34 : decode cX11_tideAt 34 = .ok (.iadd, 1) := by decide +kernel
theorem dX11_tideAt_35 : decode cX11_tideAt 35 = .ok (.iload_n 2, 1) := by decide +kernel
theorem dX11_tideAt_36 : decode cX11_tideAt 36 = .ok (.irem, 1) := by decide +kernel
theorem dX11_tideAt_37 : decode cX11_tideAt 37 = .ok (.iadd, 1) := by decide +kernel
theorem dX11_tideAt_38 : decode cX11_tideAt 38 = .ok (.iaload, 1) := by decide +kernel
theorem dX11_tideAt_39 : decode cX11_tideAt 39 = .ok (.istore 4, 2) := by decide +kernel
theorem dX11_tideAt_41 : decode cX11_tideAt 41 = .ok (.iload_n 3, 1) := by decide +kernel
theorem dX11_tideAt_42 : decode cX11_tideAt 42 = .ok (.iload 4, 2) := by decide +kernel
theorem dX11_tideAt_44 : decode cX11_tideAt 44 = .ok (.iload_n 3, 1) := by decide +kernel
theorem dX11_tideAt_45 : decode cX11_tideAt 45 = .ok (.isub, 1) := by decide +kernel
theorem dX11_tideAt_46 : decode cX11_tideAt 46 = .ok (.iload_n 1, 1) := by decide +kernel
theorem dX11_tideAt_47 : decode cX11_tideAt 47 = .ok (.bipush 10, 2) := by decide +kernel
theorem dX11_tideAt_49 : decode cX11_tideAt 49 = .ok (.irem, 1) := by decide +kernel
theorem dX11_tideAt_50 : decode cX11_tideAt 50 = .ok (.imul, 1) := by decide +kernel
theorem dX11_tideAt_51 : decode cX11_tideAt 51 = .ok (.bipush 10, 2) := by decide +kernel
theorem dX11_tideAt_53 : decode cX11_tideAt 53 = .ok (.idiv, 1) := by decide +kernel
theorem dX11_tideAt_54 : decode cX11_tideAt 54 = .ok (.iadd, 1) := by decide +kernel
theorem dX11_tideAt_55 : decode cX11_tideAt 55 = .ok (.ireturn, 1) := by decide +kernel
theorem dX11_square_0 : decode cX11_square 0 = .ok (.iload_n 0, 1) := by decide +kernel
theorem dX11_square_1 : decode cX11_square 1 = .ok (.iload_n 0, 1) := by decide +kernel
theorem dX11_square_2 : decode cX11_square 2 = .ok (.imul, 1) := by decide +kernel
theorem dX11_square_3 : decode cX11_square 3 = .ok (.iload_n 1, 1) := by decide +kernel
theorem dX11_square_4 : decode cX11_square 4 = .ok (.iload_n 1, 1) := by decide +kernel
theorem dX11_square_5 : decode cX11_square 5 = .ok (.imul, 1) := by decide +kernel
theorem dX11_square_6 : decode cX11_square 6 = .ok (.iadd, 1) := by decide +kernel
theorem dX11_square_7 : decode cX11_square 7 = .ok (.ireturn, 1) := by decide +kernel
theorem dX11_plain_0 : decode cX11_plain 0 = .ok (.iload_n 0, 1) := by decide +kernel
theorem dX11_plain_1 : decode cX11_plain 1 = .ok (.ifCond .ge 8, 3) := by decide +kernel
theorem dX11_plain_4 : decode cX11_plain 4 = .ok (.iload_n 0, 1) := by decide +kernel
theorem dX11_plain_5 : decode cX11_plain 5 = .ok (.ineg, 1) := by decide +kernel
theorem dX11_plain_6 : decode cX11_plain 6 = .ok (.goto 4, 3) := by decide +kernel
theorem dX11_plain_9 : decode cX11_plain 9 = .ok (.iload_n 0, 1) := by decide +kernel
theorem dX11_plain_10 : decode cX11_plain 10 = .ok (.ireturn, 1) := by decide +kernel
theorem dX11_isMark_0 : decode cX11_isMark 0 = .ok (.aload_n 0, 1) := by decide +kernel
theorem dX11_isMark_1 : decode cX11_isMark 1 = .ok (.iload_n 1, 1) := by decide +kernel
theorem dX11_isMark_2 : decode cX11_isMark 2 = .ok (.invokevirtual 150, 3) := by decide +kernel
theorem dX11_isMark_5 : decode cX11_isMark 5 = .ok (.ifCond .eq 17, 3) := by decide +kernel
theorem dX11_isMark_8 : decode cX11_isMark 8 = .ok (.aload_n 0, 1) := by decide +kernel
theorem dX11_isMark_9 : decode cX11_isMark 9 = .ok (.iload_n 1, 1) := by decide +kernel
theorem dX11_isMark_10 : decode cX11_isMark 10 = .ok (.iconst 0, 1) := by decide +kernel
theorem dX11_isMark_11 : decode cX11_isMark 11 = .ok (.invokevirtual 166, 3) := by decide +kernel
theorem dX11_isMark_14 : decode cX11_isMark 14 = .ok (.iconst 3, 1) := by decide +kernel
theorem dX11_isMark_15 : decode cX11_isMark 15 = .ok (.if_icmp .gt 7, 3) := by decide +kernel
theorem dX11_isMark_18 : decode cX11_isMark 18 = .ok (.iconst 1, 1) := by decide +kernel
theorem dX11_isMark_19 : decode cX11_isMark 19 = .ok (.goto 4, 3) := by decide +kernel
theorem dX11_isMark_22 : decode cX11_isMark 22 = .ok (.iconst 0, 1) := by decide +kernel
theorem dX11_isMark_23 : decode cX11_isMark 23 = .ok (.ireturn, 1) := by decide +kernel
theorem dX11_isShoal_0 : decode cX11_isShoal 0 = .ok (.aload_n 0, 1) := by decide +kernel
theorem dX11_isShoal_1 : decode cX11_isShoal 1 = .ok (.iload_n 1, 1) := by decide +kernel
theorem dX11_isShoal_2 : decode cX11_isShoal 2 = .ok (.iconst 0, 1) := by decide +kernel
theorem dX11_isShoal_3 : decode cX11_isShoal 3 = .ok (.invokevirtual 166, 3) := by decide +kernel
theorem dX11_isShoal_6 : decode cX11_isShoal 6 = .ok (.iconst 4, 1) := by decide +kernel
theorem dX11_isShoal_7 : decode cX11_isShoal 7 = .ok (.if_icmp .lt 7, 3) := by decide +kernel
theorem dX11_isShoal_10 : decode cX11_isShoal 10 = .ok (.iconst 1, 1) := by decide +kernel
theorem dX11_isShoal_11 : decode cX11_isShoal 11 = .ok (.goto 4, 3) := by decide +kernel
theorem dX11_isShoal_14 : decode cX11_isShoal 14 = .ok (.iconst 0, 1) := by decide +kernel
theorem dX11_isShoal_15 : decode cX11_isShoal 15 = .ok (.ireturn, 1) := by decide +kernel
theorem dX11_lies_0 : decode cX11_lies 0 = .ok (.iload_n 2, 1) := by decide +kernel
theorem dX11_lies_1 : decode cX11_lies 1 = .ok (.aload_n 0, 1) := by decide +kernel
theorem dX11_lies_2 : decode cX11_lies 2 = .ok (.iload_n 1, 1) := by decide +kernel
theorem dX11_lies_3 : decode cX11_lies 3 = .ok (.iconst 1, 1) := by decide +kernel
theorem dX11_lies_4 : decode cX11_lies 4 = .ok (.invokevirtual 166, 3) := by decide +kernel
theorem dX11_lies_7 : decode cX11_lies 7 = .ok (.isub, 1) := by decide +kernel
theorem dX11_lies_8 : decode cX11_lies 8 = .ok (.invokestatic 187, 3) := by decide +kernel
theorem dX11_lies_11 : decode cX11_lies 11 = .ok (.istore 4, 2) := by decide +kernel
theorem dX11_lies_13 : decode cX11_lies 13 = .ok (.iload_n 3, 1) := by decide +kernel
theorem dX11_lies_14 : decode cX11_lies 14 = .ok (.aload_n 0, 1) := by decide +kernel
theorem dX11_lies_15 : decode cX11_lies 15 = .ok (.iload_n 1, 1) := by decide +kernel
theorem dX11_lies_16 : decode cX11_lies 16 = .ok (.iconst 2, 1) := by decide +kernel
theorem dX11_lies_17 : decode cX11_lies 17 = .ok (.invokevirtual 166, 3) := by decide +kernel
theorem dX11_lies_20 : decode cX11_lies 20 = .ok (.isub, 1) := by decide +kernel
theorem dX11_lies_21 : decode cX11_lies 21 = .ok (.invokestatic 187, 3) := by decide +kernel
theorem dX11_lies_24 : decode cX11_lies 24 = .ok (.istore 5, 2) := by decide +kernel
theorem dX11_lies_26 : decode cX11_lies 26 = .ok (.aload_n 0, 1) := by decide +kernel
theorem dX11_lies_27 : decode cX11_lies 27 = .ok (.iload_n 1, 1) := by decide +kernel
theorem dX11_lies_28 : decode cX11_lies 28 = .ok (.iconst 3, 1) := by decide +kernel
theorem dX11_lies_29 : decode cX11_lies 29 = .ok (.invokevirtual 166, 3) := by decide +kernel
theorem dX11_lies_32 : decode cX11_lies 32 = .ok (.istore 6, 2) := by decide +kernel
theorem dX11_lies_34 : decode cX11_lies 34 = .ok (.aload_n 0, 1) := by decide +kernel
theorem dX11_lies_35 : decode cX11_lies 35 = .ok (.iload_n 1, 1) := by decide +kernel
theorem dX11_lies_36 : decode cX11_lies 36 = .ok (.iconst 0, 1) := by decide +kernel
theorem dX11_lies_37 : decode cX11_lies 37 = .ok (.invokevirtual 166, 3) := by decide +kernel
theorem dX11_lies_40 : decode cX11_lies 40 = .ok (.bipush 6, 2) := by decide +kernel
theorem dX11_lies_42 : decode cX11_lies 42 = .ok (.if_icmp .ne 25, 3) := by decide +kernel
theorem dX11_lies_45 : decode cX11_lies 45 = .ok (.iload 4, 2) := by decide +kernel
theorem dX11_lies_47 : decode cX11_lies 47 = .ok (.iload 6, 2) := by decide +kernel
theorem dX11_lies_49 : decode cX11_lies 49 = .ok (.if_icmp .gt 14, 3) := by decide +kernel
theorem dX11_lies_52 : decode cX11_lies 52 = .ok (.iload 5, 2) := by decide +kernel
theorem dX11_lies_54 : decode cX11_lies 54 = .ok (.iload 6, 2) := by decide +kernel
theorem dX11_lies_56 : decode cX11_lies 56 = .ok (.if_icmp .gt 7, 3) := by decide +kernel
theorem dX11_lies_59 : decode cX11_lies 59 = .ok (.iconst 1, 1) := by decide +kernel
theorem dX11_lies_60 : decode cX11_lies 60 = .ok (.goto 27, 3) := by decide +kernel
theorem dX11_lies_63 : decode cX11_lies 63 = .ok (.iconst 0, 1) := by decide +kernel
theorem dX11_lies_64 : decode cX11_lies 64 = .ok (.goto 23, 3) := by decide +kernel
theorem dX11_lies_67 : decode cX11_lies 67 = .ok (.iload 4, 2) := by decide +kernel
theorem dX11_lies_69 : decode cX11_lies 69 = .ok (.iload 5, 2) := by decide +kernel
theorem dX11_lies_71 : decode cX11_lies 71 = .ok (.invokestatic 190, 3) := by decide +kernel
theorem dX11_lies_74 : decode cX11_lies 74 = .ok (.iload 6, 2) := by decide +kernel
theorem dX11_lies_76 : decode cX11_lies 76 = .ok (.iload 6, 2) := by decide +kernel
theorem dX11_lies_78 : decode cX11_lies 78 = .ok (.imul, 1) := by decide +kernel
theorem dX11_lies_79 : decode cX11_lies 79 = .ok (.if_icmp .gt 7, 3) := by decide +kernel
theorem dX11_lies_82 : decode cX11_lies 82 = .ok (.iconst 1, 1) := by decide +kernel
theorem dX11_lies_83 : decode cX11_lies 83 = .ok (.goto 4, 3) := by decide +kernel
theorem dX11_lies_86 : decode cX11_lies 86 = .ok (.iconst 0, 1) := by decide +kernel
theorem dX11_lies_87 : decode cX11_lies 87 = .ok (.ireturn, 1) := by decide +kernel
theorem dX11_depthOf_0 : decode cX11_depthOf 0 = .ok (.aload_n 0, 1) := by decide +kernel
theorem dX11_depthOf_1 : decode cX11_depthOf 1 = .ok (.iload_n 1, 1) := by decide +kernel
theorem dX11_depthOf_2 : decode cX11_depthOf 2 = .ok (.iconst 0, 1) := by decide +kernel
theorem dX11_depthOf_3 : decode cX11_depthOf 3 = .ok (.invokevirtual 166, 3) := by decide +kernel
theorem dX11_depthOf_6 : decode cX11_depthOf 6 = .ok (.iconst 5, 1) := by decide +kernel
theorem dX11_depthOf_7 : decode cX11_depthOf 7 = .ok (.if_icmp .ne 13, 3) := by decide +kernel
theorem dX11_depthOf_10 : decode cX11_depthOf 10 = .ok (.aload_n 0, 1) := by decide +kernel
theorem dX11_depthOf_11 : decode cX11_depthOf 11 = .ok (.iload_n 1, 1) := by decide +kernel
theorem dX11_depthOf_12 : decode cX11_depthOf 12 = .ok (.iconst 4, 1) := by decide +kernel
theorem dX11_depthOf_13 : decode cX11_depthOf 13 = .ok (.invokevirtual 166, 3) := by decide +kernel
theorem dX11_depthOf_16 : decode cX11_depthOf 16 = .ok (.ineg, 1) := by decide +kernel
theorem dX11_depthOf_17 : decode cX11_depthOf 17 = .ok (.goto 9, 3) := by decide +kernel
theorem dX11_depthOf_20 : decode cX11_depthOf 20 = .ok (.aload_n 0, 1) := by decide +kernel
theorem dX11_depthOf_21 : decode cX11_depthOf 21 = .ok (.iload_n 1, 1) := by decide +kernel
theorem dX11_depthOf_22 : decode cX11_depthOf 22 = .ok (.iconst 4, 1) := by decide +kernel
theorem dX11_depthOf_23 : decode cX11_depthOf 23 = .ok (.invokevirtual 166, 3) := by decide +kernel
theorem dX11_depthOf_26 : decode cX11_depthOf 26 = .ok (.ireturn, 1) := by decide +kernel
theorem dX11_shoalAt_0 : decode cX11_shoalAt 0 = .ok (.ldc 75, 2) := by decide +kernel
theorem dX11_shoalAt_2 : decode cX11_shoalAt 2 = .ok (.istore_n 3, 1) := by decide +kernel
theorem dX11_shoalAt_3 : decode cX11_shoalAt 3 = .ok (.iconst 0, 1) := by decide +kernel
theorem dX11_shoalAt_4 : decode cX11_shoalAt 4 = .ok (.istore 4, 2) := by decide +kernel
theorem dX11_shoalAt_6 : decode cX11_shoalAt 6 = .ok (.iload 4, 2) := by decide +kernel
theorem dX11_shoalAt_8 : decode cX11_shoalAt 8 = .ok (.aload_n 0, 1) := by decide +kernel
theorem dX11_shoalAt_9 : decode cX11_shoalAt 9 = .ok (.getfield 7, 3) := by decide +kernel
theorem dX11_shoalAt_12 : decode cX11_shoalAt 12 = .ok (.bipush 13, 2) := by decide +kernel
theorem dX11_shoalAt_14 : decode cX11_shoalAt 14 = .ok (.iaload, 1) := by decide +kernel
theorem dX11_shoalAt_15 : decode cX11_shoalAt 15 = .ok (.if_icmp .ge 52, 3) := by decide +kernel
theorem dX11_shoalAt_18 : decode cX11_shoalAt 18 = .ok (.aload_n 0, 1) := by decide +kernel
theorem dX11_shoalAt_19 : decode cX11_shoalAt 19 = .ok (.iload 4, 2) := by decide +kernel
theorem dX11_shoalAt_21 : decode cX11_shoalAt 21 = .ok (.invokevirtual 193, 3) := by decide +kernel
theorem dX11_shoalAt_24 : decode cX11_shoalAt 24 = .ok (.ifCond .eq 37, 3) := by decide +kernel
theorem dX11_shoalAt_27 : decode cX11_shoalAt 27 = .ok (.aload_n 0, 1) := by decide +kernel
theorem dX11_shoalAt_28 : decode cX11_shoalAt 28 = .ok (.iload 4, 2) := by decide +kernel
theorem dX11_shoalAt_30 : decode cX11_shoalAt 30 = .ok (.iload_n 1, 1) := by decide +kernel
theorem dX11_shoalAt_31 : decode cX11_shoalAt 31 = .ok (.iload_n 2, 1) := by decide +kernel
theorem dX11_shoalAt_32 : decode cX11_shoalAt 32 = .ok (.invokevirtual 196, 3) := by decide +kernel
theorem dX11_shoalAt_35 : decode cX11_shoalAt 35 = .ok (.ifCond .eq 26, 3) := by decide +kernel
theorem dX11_shoalAt_38 : decode cX11_shoalAt 38 = .ok (.iload_n 3, 1) := by decide +kernel
theorem dX11_shoalAt_39 : decode cX11_shoalAt 39 = .ok (.ldc 75, 2) := by decide +kernel
theorem dX11_shoalAt_41 : decode cX11_shoalAt 41 = .ok (.if_icmp .eq 17, 3) := by decide +kernel
theorem dX11_shoalAt_44 : decode cX11_shoalAt 44 = .ok (.aload_n 0, 1) := by decide +kernel
theorem dX11_shoalAt_45 : decode cX11_shoalAt 45 = .ok (.iload 4, 2) := by decide +kernel
theorem dX11_shoalAt_47 : decode cX11_shoalAt 47 = .ok (.invokevirtual 199, 3) := by decide +kernel
theorem dX11_shoalAt_50 : decode cX11_shoalAt 50 = .ok (.aload_n 0, 1) := by decide +kernel
theorem dX11_shoalAt_51 : decode cX11_shoalAt 51 = .ok (.iload_n 3, 1) := by decide +kernel
theorem dX11_shoalAt_52 : decode cX11_shoalAt 52 = .ok (.invokevirtual 199, 3) := by decide +kernel
theorem dX11_shoalAt_55 : decode cX11_shoalAt 55 = .ok (.if_icmp .ge 6, 3) := by decide +kernel
theorem dX11_shoalAt_58 : decode cX11_shoalAt 58 = .ok (.iload 4, 2) := by decide +kernel
theorem dX11_shoalAt_60 : decode cX11_shoalAt 60 = .ok (.istore_n 3, 1) := by decide +kernel
theorem dX11_shoalAt_61 : decode cX11_shoalAt 61 = .ok (.iinc 4 1, 3) := by decide +kernel
theorem dX11_shoalAt_64 : decode cX11_shoalAt 64 = .ok (.goto (-58), 3) := by decide +kernel
theorem dX11_shoalAt_67 : decode cX11_shoalAt 67 = .ok (.iload_n 3, 1) := by decide +kernel
theorem dX11_shoalAt_68 : decode cX11_shoalAt 68 = .ok (.ireturn, 1) := by decide +kernel
theorem dX11_charted_0 : decode cX11_charted 0 = .ok (.aload_n 0, 1) := by decide +kernel
theorem dX11_charted_1 : decode cX11_charted 1 = .ok (.iload_n 1, 1) := by decide +kernel
theorem dX11_charted_2 : decode cX11_charted 2 = .ok (.iload_n 2, 1) := by decide +kernel
theorem dX11_charted_3 : decode cX11_charted 3 = .ok (.invokevirtual 202, 3) := by decide +kernel
theorem dX11_charted_6 : decode cX11_charted 6 = .ok (.istore_n 3, 1) := by decide +kernel
theorem dX11_charted_7 : decode cX11_charted 7 = .ok (.iload_n 3, 1) := by decide +kernel
theorem dX11_charted_8 : decode cX11_charted 8 = .ok (.ldc 75, 2) := by decide +kernel
theorem dX11_charted_10 : decode cX11_charted 10 = .ok (.if_icmp .ne 8, 3) := by decide +kernel
theorem dX11_charted_13 : decode cX11_charted 13 = .ok (.bipush 40, 2) := by decide +kernel
theorem dX11_charted_15 : decode cX11_charted 15 = .ok (.goto 8, 3) := by decide +kernel
theorem dX11_charted_18 : decode cX11_charted 18 = .ok (.aload_n 0, 1) := by decide +kernel
theorem dX11_charted_19 : decode cX11_charted 19 = .ok (.iload_n 3, 1) := by decide +kernel
theorem dX11_charted_20 : decode cX11_charted 20 = .ok (.invokevirtual 199, 3) := by decide +kernel
theorem dX11_charted_23 : decode cX11_charted 23 = .ok (.ireturn, 1) := by decide +kernel
theorem dX11_eastOf_0 : decode cX11_eastOf 0 = .ok (.aload_n 0, 1) := by decide +kernel
theorem dX11_eastOf_1 : decode cX11_eastOf 1 = .ok (.iload_n 1, 1) := by decide +kernel
theorem dX11_eastOf_2 : decode cX11_eastOf 2 = .ok (.iconst 1, 1) := by decide +kernel
theorem dX11_eastOf_3 : decode cX11_eastOf 3 = .ok (.invokevirtual 166, 3) := by decide +kernel
theorem dX11_eastOf_6 : decode cX11_eastOf 6 = .ok (.aload_n 0, 1) := by decide +kernel
theorem dX11_eastOf_7 : decode cX11_eastOf 7 = .ok (.iload_n 1, 1) := by decide +kernel
theorem dX11_eastOf_8 : decode cX11_eastOf 8 = .ok (.iconst 0, 1) := by decide +kernel
theorem dX11_eastOf_9 : decode cX11_eastOf 9 = .ok (.invokevirtual 166, 3) := by decide +kernel
theorem dX11_eastOf_12 : decode cX11_eastOf 12 = .ok (.iconst 3, 1) := by decide +kernel
theorem dX11_eastOf_13 : decode cX11_eastOf 13 = .ok (.if_icmp .ne 13, 3) := by decide +kernel
theorem dX11_eastOf_16 : decode cX11_eastOf 16 = .ok (.aload_n 0, 1) := by decide +kernel
theorem dX11_eastOf_17 : decode cX11_eastOf 17 = .ok (.iload_n 2, 1) := by decide +kernel
theorem dX11_eastOf_18 : decode cX11_eastOf 18 = .ok (.invokevirtual 205, 3) := by decide +kernel
theorem dX11_eastOf_21 : decode cX11_eastOf 21 = .ok (.iconst 4, 1) := by decide +kernel
theorem dX11_eastOf_22 : decode cX11_eastOf 22 = .ok (.idiv, 1) := by decide +kernel
theorem dX11_eastOf_23 : decode cX11_eastOf 23 = .ok (.goto 4, 3) := by decide +kernel
theorem dX11_eastOf_26 : decode cX11_eastOf 26 = .ok (.iconst 0, 1) := by decide +kernel
theorem dX11_eastOf_27 : decode cX11_eastOf 27 = .ok (.iadd, 1) := by decide +kernel
theorem dX11_eastOf_28 : decode cX11_eastOf 28 = .ok (.ireturn, 1) := by decide +kernel
theorem dX11_turn_0 : decode cX11_turn 0 = .ok (.iconst 0, 1) := by decide +kernel
theorem dX11_turn_1 : decode cX11_turn 1 = .ok (.istore_n 3, 1) := by decide +kernel
theorem dX11_turn_2 : decode cX11_turn 2 = .ok (.iconst 0, 1) := by decide +kernel
theorem dX11_turn_3 : decode cX11_turn 3 = .ok (.istore 4, 2) := by decide +kernel
theorem dX11_turn_5 : decode cX11_turn 5 = .ok (.iload 4, 2) := by decide +kernel
theorem dX11_turn_7 : decode cX11_turn 7 = .ok (.bipush 16, 2) := by decide +kernel
theorem dX11_turn_9 : decode cX11_turn 9 = .ok (.if_icmp .ge 132, 3) := by decide +kernel
theorem dX11_turn_12 : decode cX11_turn 12 = .ok (.iload 4, 2) := by decide +kernel
theorem dX11_turn_14 : decode cX11_turn 14 = .ok (.iconst 1, 1) := by decide +kernel
theorem dX11_turn_15 : decode cX11_turn 15 = .ok (.iadd, 1) := by decide +kernel
theorem dX11_turn_16 : decode cX11_turn 16 = .ok (.bipush 16, 2) := by decide +kernel
theorem dX11_turn_18 : decode cX11_turn 18 = .ok (.irem, 1) := by decide +kernel
theorem dX11_turn_19 : decode cX11_turn 19 = .ok (.istore 5, 2) := by decide +kernel
theorem dX11_turn_21 : decode cX11_turn 21 = .ok (.aload_n 0, 1) := by decide +kernel
theorem dX11_turn_22 : decode cX11_turn 22 = .ok (.getfield 20, 3) := by decide +kernel
theorem dX11_turn_25 : decode cX11_turn 25 = .ok (.iload 4, 2) := by decide +kernel
theorem dX11_turn_27 : decode cX11_turn 27 = .ok (.iaload, 1) := by decide +kernel
theorem dX11_turn_28 : decode cX11_turn 28 = .ok (.iload_n 2, 1) := by decide +kernel
theorem dX11_turn_29 : decode cX11_turn 29 = .ok (.imul, 1) := by decide +kernel
theorem dX11_turn_30 : decode cX11_turn 30 = .ok (.aload_n 0, 1) := by decide +kernel
theorem dX11_turn_31 : decode cX11_turn 31 = .ok (.getfield 23, 3) := by decide +kernel
theorem dX11_turn_34 : decode cX11_turn 34 = .ok (.iload 4, 2) := by decide +kernel
theorem dX11_turn_36 : decode cX11_turn 36 = .ok (.iaload, 1) := by decide +kernel
theorem dX11_turn_37 : decode cX11_turn 37 = .ok (.iload_n 1, 1) := by decide +kernel
theorem dX11_turn_38 : decode cX11_turn 38 = .ok (.imul, 1) := by decide +kernel
theorem dX11_turn_39 : decode cX11_turn 39 = .ok (.isub, 1) := by decide +kernel
theorem dX11_turn_40 : decode cX11_turn 40 = .ok (.istore 6, 2) := by decide +kernel
theorem dX11_turn_42 : decode cX11_turn 42 = .ok (.aload_n 0, 1) := by decide +kernel
theorem dX11_turn_43 : decode cX11_turn 43 = .ok (.getfield 20, 3) := by decide +kernel
theorem dX11_turn_46 : decode cX11_turn 46 = .ok (.iload 5, 2) := by decide +kernel
theorem dX11_turn_48 : decode cX11_turn 48 = .ok (.iaload, 1) := by decide +kernel
theorem dX11_turn_49 : decode cX11_turn 49 = .ok (.iload_n 2, 1) := by decide +kernel
theorem dX11_turn_50 : decode cX11_turn 50 = .ok (.imul, 1) := by decide +kernel
theorem dX11_turn_51 : decode cX11_turn 51 = .ok (.aload_n 0, 1) := by decide +kernel
theorem dX11_turn_52 : decode cX11_turn 52 = .ok (.getfield 23, 3) := by decide +kernel
theorem dX11_turn_55 : decode cX11_turn 55 = .ok (.iload 5, 2) := by decide +kernel
theorem dX11_turn_57 : decode cX11_turn 57 = .ok (.iaload, 1) := by decide +kernel
theorem dX11_turn_58 : decode cX11_turn 58 = .ok (.iload_n 1, 1) := by decide +kernel
theorem dX11_turn_59 : decode cX11_turn 59 = .ok (.imul, 1) := by decide +kernel
theorem dX11_turn_60 : decode cX11_turn 60 = .ok (.isub, 1) := by decide +kernel
theorem dX11_turn_61 : decode cX11_turn 61 = .ok (.istore 7, 2) := by decide +kernel
theorem dX11_turn_63 : decode cX11_turn 63 = .ok (.aload_n 0, 1) := by decide +kernel
theorem dX11_turn_64 : decode cX11_turn 64 = .ok (.getfield 20, 3) := by decide +kernel
theorem dX11_turn_67 : decode cX11_turn 67 = .ok (.iload 4, 2) := by decide +kernel
theorem dX11_turn_69 : decode cX11_turn 69 = .ok (.iaload, 1) := by decide +kernel
theorem dX11_turn_70 : decode cX11_turn 70 = .ok (.iload_n 1, 1) := by decide +kernel
theorem dX11_turn_71 : decode cX11_turn 71 = .ok (.imul, 1) := by decide +kernel
theorem dX11_turn_72 : decode cX11_turn 72 = .ok (.aload_n 0, 1) := by decide +kernel
theorem dX11_turn_73 : decode cX11_turn 73 = .ok (.getfield 23, 3) := by decide +kernel
theorem dX11_turn_76 : decode cX11_turn 76 = .ok (.iload 4, 2) := by decide +kernel
theorem dX11_turn_78 : decode cX11_turn 78 = .ok (.iaload, 1) := by decide +kernel
theorem dX11_turn_79 : decode cX11_turn 79 = .ok (.iload_n 2, 1) := by decide +kernel
theorem dX11_turn_80 : decode cX11_turn 80 = .ok (.imul, 1) := by decide +kernel
theorem dX11_turn_81 : decode cX11_turn 81 = .ok (.iadd, 1) := by decide +kernel
theorem dX11_turn_82 : decode cX11_turn 82 = .ok (.ifCond .le 7, 3) := by decide +kernel
theorem dX11_turn_85 : decode cX11_turn 85 = .ok (.iconst 1, 1) := by decide +kernel
theorem dX11_turn_86 : decode cX11_turn 86 = .ok (.goto 4, 3) := by decide +kernel
theorem dX11_turn_89 : decode cX11_turn 89 = .ok (.iconst 0, 1) := by decide +kernel
theorem dX11_turn_90 : decode cX11_turn 90 = .ok (.istore 8, 2) := by decide +kernel
theorem dX11_turn_92 : decode cX11_turn 92 = .ok (.iload 8, 2) := by decide +kernel
theorem dX11_turn_94 : decode cX11_turn 94 = .ok (.ifCond .eq 15, 3) := by decide +kernel
theorem dX11_turn_97 : decode cX11_turn 97 = .ok (.iload 6, 2) := by decide +kernel
theorem dX11_turn_99 : decode cX11_turn 99 = .ok (.ifCond .ne 10, 3) := by decide +kernel
theorem dX11_turn_102 : decode cX11_turn 102 = .ok (.iconst 2, 1) := by decide +kernel
theorem dX11_turn_103 : decode cX11_turn 103 = .ok (.iload 4, 2) := by decide +kernel
theorem dX11_turn_105 : decode cX11_turn 105 = .ok (.imul, 1) := by decide +kernel
theorem dX11_turn_106 : decode cX11_turn 106 = .ok (.goto 28, 3) := by decide +kernel
theorem dX11_turn_109 : decode cX11_turn 109 = .ok (.iload 8, 2) := by decide +kernel
theorem dX11_turn_111 : decode cX11_turn 111 = .ok (.ifCond .eq 22, 3) := by decide +kernel
theorem dX11_turn_114 : decode cX11_turn 114 = .ok (.iload 6, 2) := by decide +kernel
theorem dX11_turn_116 : decode cX11_turn 116 = .ok (.ifCond .ge 17, 3) := by decide +kernel
theorem dX11_turn_119 : decode cX11_turn 119 = .ok (.iload 7, 2) := by decide +kernel
theorem dX11_turn_121 : decode cX11_turn 121 = .ok (.ifCond .le 12, 3) := by decide +kernel
theorem dX11_turn_124 : decode cX11_turn 124 = .ok (.iconst 2, 1) := by decide +kernel
theorem dX11_turn_125 : decode cX11_turn 125 = .ok (.iload 4, 2) := by decide +kernel
theorem dX11_turn_127 : decode cX11_turn 127 = .ok (.imul, 1) := by decide +kernel
theorem dX11_turn_128 : decode cX11_turn 128 = .ok (.iconst 1, 1) := by decide +kernel
theorem dX11_turn_129 : decode cX11_turn 129 = .ok (.iadd, 1) := by decide +kernel
theorem dX11_turn_130 : decode cX11_turn 130 = .ok (.goto 4, 3) := by decide +kernel
theorem dX11_turn_133 : decode cX11_turn 133 = .ok (.iload_n 3, 1) := by decide +kernel
theorem dX11_turn_134 : decode cX11_turn 134 = .ok (.istore_n 3, 1) := by decide +kernel
theorem dX11_turn_135 : decode cX11_turn 135 = .ok (.iinc 4 1, 3) := by decide +kernel
theorem dX11_turn_138 : decode cX11_turn 138 = .ok (.goto (-133), 3) := by decide +kernel
theorem dX11_turn_141 : decode cX11_turn 141 = .ok (.iload_n 3, 1) := by decide +kernel
theorem dX11_turn_142 : decode cX11_turn 142 = .ok (.ireturn, 1) := by decide +kernel
theorem dX11_isInSector_0 : decode cX11_isInSector 0 = .ok (.iload_n 2, 1) := by decide +kernel
theorem dX11_isInSector_1 : decode cX11_isInSector 1 = .ok (.aload_n 0, 1) := by decide +kernel
theorem dX11_isInSector_2 : decode cX11_isInSector 2 = .ok (.iload_n 1, 1) := by decide +kernel
theorem dX11_isInSector_3 : decode cX11_isInSector 3 = .ok (.iconst 1, 1) := by decide +kernel
theorem dX11_isInSector_4 : decode cX11_isInSector 4 = .ok (.invokevirtual 166, 3) := by decide +kernel
theorem dX11_isInSector_7 : decode cX11_isInSector 7 = .ok (.isub, 1) := by decide +kernel
theorem dX11_isInSector_8 : decode cX11_isInSector 8 = .ok (.istore 4, 2) := by decide +kernel
theorem dX11_isInSector_10 : decode cX11_isInSector 10 = .ok (.iload_n 3, 1) := by decide +kernel
theorem dX11_isInSector_11 : decode cX11_isInSector 11 = .ok (.aload_n 0, 1) := by decide +kernel
theorem dX11_isInSector_12 : decode cX11_isInSector 12 = .ok (.iload_n 1, 1) := by decide +kernel
theorem dX11_isInSector_13 : decode cX11_isInSector 13 = .ok (.iconst 2, 1) := by decide +kernel
theorem dX11_isInSector_14 : decode cX11_isInSector 14 = .ok (.invokevirtual 166, 3) := by decide +kernel
theorem dX11_isInSector_17 : decode cX11_isInSector 17 = .ok (.isub, 1) := by decide +kernel
theorem dX11_isInSector_18 : decode cX11_isInSector 18 = .ok (.istore 5, 2) := by decide +kernel
theorem dX11_isInSector_20 : decode cX11_isInSector 20 = .ok (.aload_n 0, 1) := by decide +kernel
theorem dX11_isInSector_21 : decode cX11_isInSector 21 = .ok (.iload_n 1, 1) := by decide +kernel
theorem dX11_isInSector_22 : decode cX11_isInSector 22 = .ok (.iconst 3, 1) := by decide +kernel
theorem dX11_isInSector_23 : decode cX11_isInSector 23 = .ok (.invokevirtual 166, 3) := by decide +kernel
theorem dX11_isInSector_26 : decode cX11_isInSector 26 = .ok (.istore 6, 2) := by decide +kernel
theorem dX11_isInSector_28 : decode cX11_isInSector 28 = .ok (.aload_n 0, 1) := by decide +kernel
theorem dX11_isInSector_29 : decode cX11_isInSector 29 = .ok (.iload_n 1, 1) := by decide +kernel
theorem dX11_isInSector_30 : decode cX11_isInSector 30 = .ok (.iconst 4, 1) := by decide +kernel
theorem dX11_isInSector_31 : decode cX11_isInSector 31 = .ok (.invokevirtual 166, 3) := by decide +kernel
theorem dX11_isInSector_34 : decode cX11_isInSector 34 = .ok (.bipush 16, 2) := by decide +kernel
theorem dX11_isInSector_36 : decode cX11_isInSector 36 = .ok (.irem, 1) := by decide +kernel
theorem dX11_isInSector_37 : decode cX11_isInSector 37 = .ok (.istore 7, 2) := by decide +kernel
theorem dX11_isInSector_39 : decode cX11_isInSector 39 = .ok (.iload 6, 2) := by decide +kernel
theorem dX11_isInSector_41 : decode cX11_isInSector 41 = .ok (.iload 7, 2) := by decide +kernel
theorem dX11_isInSector_43 : decode cX11_isInSector 43 = .ok (.if_icmp .eq 13, 3) := by decide +kernel
theorem dX11_isInSector_46 : decode cX11_isInSector 46 = .ok (.iload 4, 2) := by decide +kernel
theorem dX11_isInSector_48 : decode cX11_isInSector 48 = .ok (.ifCond .ne 10, 3) := by decide +kernel
theorem dX11_isInSector_51 : decode cX11_isInSector 51 = .ok (.iload 5, 2) := by decide +kernel
theorem dX11_isInSector_53 : decode cX11_isInSector 53 = .ok (.ifCond .ne 5, 3) := by decide +kernel
theorem dX11_isInSector_56 : decode cX11_isInSector 56 = .ok (.iconst 1, 1) := by decide +kernel
theorem dX11_isInSector_57 : decode cX11_isInSector 57 = .ok (.ireturn, 1) := by decide +kernel
theorem dX11_isInSector_58 : decode cX11_isInSector 58 = .ok (.aload_n 0, 1) := by decide +kernel
theorem dX11_isInSector_59 : decode cX11_isInSector 59 = .ok (.iload 4, 2) := by decide +kernel
theorem dX11_isInSector_61 : decode cX11_isInSector 61 = .ok (.iload 5, 2) := by decide +kernel
theorem dX11_isInSector_63 : decode cX11_isInSector 63 = .ok (.invokevirtual 208, 3) := by decide +kernel
theorem dX11_isInSector_66 : decode cX11_isInSector 66 = .ok (.iconst 2, 1) := by decide +kernel
theorem dX11_isInSector_67 : decode cX11_isInSector 67 = .ok (.iload 6, 2) := by decide +kernel
theorem dX11_isInSector_69 : decode cX11_isInSector 69 = .ok (.imul, 1) := by decide +kernel
theorem dX11_isInSector_70 : decode cX11_isInSector 70 = .ok (.isub, 1) := by decide +kernel
theorem dX11_isInSector_71 : decode cX11_isInSector 71 = .ok (.bipush 32, 2) := by decide +kernel
theorem dX11_isInSector_73 : decode cX11_isInSector 73 = .ok (.iadd, 1) := by decide +kernel
theorem dX11_isInSector_74 : decode cX11_isInSector 74 = .ok (.bipush 32, 2) := by decide +kernel
theorem dX11_isInSector_76 : decode cX11_isInSector 76 = .ok (.irem, 1) := by decide +kernel
theorem dX11_isInSector_77 : decode cX11_isInSector 77 = .ok (.iconst 2, 1) := by decide +kernel
theorem dX11_isInSector_78 : decode cX11_isInSector 78 = .ok (.iload 7, 2) := by decide +kernel
theorem dX11_isInSector_80 : decode cX11_isInSector 80 = .ok (.imul, 1) := by decide +kernel
theorem dX11_isInSector_81 : decode cX11_isInSector 81 = .ok (.iconst 2, 1) := by decide +kernel
theorem dX11_isInSector_82 : decode cX11_isInSector 82 = .ok (.iload 6, 2) := by decide +kernel
theorem dX11_isInSector_84 : decode cX11_isInSector 84 = .ok (.imul, 1) := by decide +kernel
theorem dX11_isInSector_85 : decode cX11_isInSector 85 = .ok (.isub, 1) := by decide +kernel
theorem dX11_isInSector_86 : decode cX11_isInSector 86 = .ok (.bipush 32, 2) := by decide +kernel
theorem dX11_isInSector_88 : decode cX11_isInSector 88 = .ok (.iadd, 1) := by decide +kernel
theorem dX11_isInSector_89 : decode cX11_isInSector 89 = .ok (.bipush 32, 2) := by decide +kernel
theorem dX11_isInSector_91 : decode cX11_isInSector 91 = .ok (.irem, 1) := by decide +kernel
theorem dX11_isInSector_92 : decode cX11_isInSector 92 = .ok (.if_icmp .ge 7, 3) := by decide +kernel
theorem dX11_isInSector_95 : decode cX11_isInSector 95 = .ok (.iconst 1, 1) := by decide +kernel
theorem dX11_isInSector_96 : decode cX11_isInSector 96 = .ok (.goto 4, 3) := by decide +kernel
theorem dX11_isInSector_99 : decode cX11_isInSector 99 = .ok (.iconst 0, 1) := by decide +kernel
theorem dX11_isInSector_100 : decode cX11_isInSector 100 = .ok (.ireturn, 1) := by decide +kernel
theorem dX11_isSeen_0 : decode cX11_isSeen 0 = .ok (.aload_n 0, 1) := by decide +kernel
theorem dX11_isSeen_1 : decode cX11_isSeen 1 = .ok (.getfield 211, 3) := by decide +kernel
theorem dX11_isSeen_4 : decode cX11_isSeen 4 = .ok (.iload_n 1, 1) := by decide +kernel
theorem dX11_isSeen_5 : decode cX11_isSeen 5 = .ok (.invokestatic 214, 3) := by decide +kernel
theorem dX11_isSeen_8 : decode cX11_isSeen 8 = .ok (.ifCond .eq 5, 3) := by decide +kernel
theorem dX11_isSeen_11 : decode cX11_isSeen 11 = .ok (.iconst 0, 1) := by decide +kernel
theorem dX11_isSeen_12 : decode cX11_isSeen 12 = .ok (.ireturn, 1) := by decide +kernel
theorem dX11_isSeen_13 : decode cX11_isSeen 13 = .ok (.iload_n 2, 1) := by decide +kernel
theorem dX11_isSeen_14 : decode cX11_isSeen 14 = .ok (.aload_n 0, 1) := by decide +kernel
theorem dX11_isSeen_15 : decode cX11_isSeen 15 = .ok (.iload_n 1, 1) := by decide +kernel
theorem dX11_isSeen_16 : decode cX11_isSeen 16 = .ok (.iload 4, 2) := by decide +kernel
theorem dX11_isSeen_18 : decode cX11_isSeen 18 = .ok (.invokevirtual 218, 3) := by decide +kernel
theorem dX11_isSeen_21 : decode cX11_isSeen 21 = .ok (.isub, 1) := by decide +kernel
theorem dX11_isSeen_22 : decode cX11_isSeen 22 = .ok (.iload_n 3, 1) := by decide +kernel
theorem dX11_isSeen_23 : decode cX11_isSeen 23 = .ok (.aload_n 0, 1) := by decide +kernel
theorem dX11_isSeen_24 : decode cX11_isSeen 24 = .ok (.iload_n 1, 1) := by decide +kernel
theorem dX11_isSeen_25 : decode cX11_isSeen 25 = .ok (.iconst 2, 1) := by decide +kernel
theorem dX11_isSeen_26 : decode cX11_isSeen 26 = .ok (.invokevirtual 166, 3) := by decide +kernel
theorem dX11_isSeen_29 : decode cX11_isSeen 29 = .ok (.isub, 1) := by decide +kernel
theorem dX11_isSeen_30 : decode cX11_isSeen 30 = .ok (.invokestatic 190, 3) := by decide +kernel
theorem dX11_isSeen_33 : decode cX11_isSeen 33 = .ok (.istore 5, 2) := by decide +kernel
theorem dX11_isSeen_35 : decode cX11_isSeen 35 = .ok (.aload_n 0, 1) := by decide +kernel
theorem dX11_isSeen_36 : decode cX11_isSeen 36 = .ok (.iload_n 1, 1) := by decide +kernel
theorem dX11_isSeen_37 : decode cX11_isSeen 37 = .ok (.iconst 0, 1) := by decide +kernel
theorem dX11_isSeen_38 : decode cX11_isSeen 38 = .ok (.invokevirtual 166, 3) := by decide +kernel
theorem dX11_isSeen_41 : decode cX11_isSeen 41 = .ok (.iconst 2, 1) := by decide +kernel
theorem dX11_isSeen_42 : decode cX11_isSeen 42 = .ok (.if_icmp .ne 13, 3) := by decide +kernel
theorem dX11_isSeen_45 : decode cX11_isSeen 45 = .ok (.aload_n 0, 1) := by decide +kernel
theorem dX11_isSeen_46 : decode cX11_isSeen 46 = .ok (.iload_n 1, 1) := by decide +kernel
theorem dX11_isSeen_47 : decode cX11_isSeen 47 = .ok (.iload_n 2, 1) := by decide +kernel
theorem dX11_isSeen_48 : decode cX11_isSeen 48 = .ok (.iload_n 3, 1) := by decide +kernel
theorem dX11_isSeen_49 : decode cX11_isSeen 49 = .ok (.invokevirtual 221, 3) := by decide +kernel
theorem dX11_isSeen_52 : decode cX11_isSeen 52 = .ok (.goto 31, 3) := by decide +kernel
theorem dX11_isSeen_55 : decode cX11_isSeen 55 = .ok (.iload 5, 2) := by decide +kernel
theorem dX11_isSeen_57 : decode cX11_isSeen 57 = .ok (.aload_n 0, 1) := by decide +kernel
theorem dX11_isSeen_58 : decode cX11_isSeen 58 = .ok (.iload_n 1, 1) := by decide +kernel
theorem dX11_isSeen_59 : decode cX11_isSeen 59 = .ok (.iconst 0, 1) := by decide +kernel
theorem dX11_isSeen_60 : decode cX11_isSeen 60 = .ok (.invokevirtual 166, 3) := by decide +kernel
theorem dX11_isSeen_63 : decode cX11_isSeen 63 = .ok (.iconst 1, 1) := by decide +kernel
theorem dX11_isSeen_64 : decode cX11_isSeen 64 = .ok (.if_icmp .ne 9, 3) := by decide +kernel
theorem dX11_isSeen_67 : decode cX11_isSeen 67 = .ok (.sipush 400, 3) := by decide +kernel
theorem dX11_isSeen_70 : decode cX11_isSeen 70 = .ok (.goto 5, 3) := by decide +kernel
theorem dX11_isSeen_73 : decode cX11_isSeen 73 = .ok (.bipush 100, 2) := by decide +kernel
theorem dX11_isSeen_75 : decode cX11_isSeen 75 = .ok (.if_icmp .gt 7, 3) := by decide +kernel
theorem dX11_isSeen_78 : decode cX11_isSeen 78 = .ok (.iconst 1, 1) := by decide +kernel
theorem dX11_isSeen_79 : decode cX11_isSeen 79 = .ok (.goto 4, 3) := by decide +kernel
theorem dX11_isSeen_82 : decode cX11_isSeen 82 = .ok (.iconst 0, 1) := by decide +kernel
theorem dX11_isSeen_83 : decode cX11_isSeen 83 = .ok (.ireturn, 1) := by decide +kernel
theorem dX11_isMinute_0 : decode cX11_isMinute 0 = .ok (.iload_n 0, 1) := by decide +kernel
theorem dX11_isMinute_1 : decode cX11_isMinute 1 = .ok (.i2l, 1) := by decide +kernel
theorem dX11_isMinute_2 : decode cX11_isMinute 2 = .ok (.lconst 0, 1) := by decide +kernel
theorem dX11_isMinute_3 : decode cX11_isMinute 3 = .ok (.ldc2_w 224, 3) := by decide +kernel
theorem dX11_isMinute_6 : decode cX11_isMinute 6 = .ok (.invokestatic 62, 3) := by decide +kernel
theorem dX11_isMinute_9 : decode cX11_isMinute 9 = .ok (.ireturn, 1) := by decide +kernel
theorem dX11_isPlace_0 : decode cX11_isPlace 0 = .ok (.iload_n 0, 1) := by decide +kernel
theorem dX11_isPlace_1 : decode cX11_isPlace 1 = .ok (.i2l, 1) := by decide +kernel
theorem dX11_isPlace_2 : decode cX11_isPlace 2 = .ok (.lconst 0, 1) := by decide +kernel
theorem dX11_isPlace_3 : decode cX11_isPlace 3 = .ok (.ldc2_w 155, 3) := by decide +kernel
theorem dX11_isPlace_6 : decode cX11_isPlace 6 = .ok (.invokestatic 62, 3) := by decide +kernel
theorem dX11_isPlace_9 : decode cX11_isPlace 9 = .ok (.ifCond .eq 19, 3) := by decide +kernel
theorem dX11_isPlace_12 : decode cX11_isPlace 12 = .ok (.iload_n 1, 1) := by decide +kernel
theorem dX11_isPlace_13 : decode cX11_isPlace 13 = .ok (.i2l, 1) := by decide +kernel
theorem dX11_isPlace_14 : decode cX11_isPlace 14 = .ok (.lconst 0, 1) := by decide +kernel
theorem dX11_isPlace_15 : decode cX11_isPlace 15 = .ok (.ldc2_w 155, 3) := by decide +kernel
theorem dX11_isPlace_18 : decode cX11_isPlace 18 = .ok (.invokestatic 62, 3) := by decide +kernel
theorem dX11_isPlace_21 : decode cX11_isPlace 21 = .ok (.ifCond .eq 7, 3) := by decide +kernel
theorem dX11_isPlace_24 : decode cX11_isPlace 24 = .ok (.iconst 1, 1) := by decide +kernel
theorem dX11_isPlace_25 : decode cX11_isPlace 25 = .ok (.goto 4, 3) := by decide +kernel
theorem dX11_isPlace_28 : decode cX11_isPlace 28 = .ok (.iconst 0, 1) := by decide +kernel
theorem dX11_isPlace_29 : decode cX11_isPlace 29 = .ok (.ireturn, 1) := by decide +kernel
theorem dX11_height_0 : decode cX11_height 0 = .ok (.aload_n 0, 1) := by decide +kernel
theorem dX11_height_1 : decode cX11_height 1 = .ok (.invokevirtual 169, 3) := by decide +kernel
theorem dX11_height_4 : decode cX11_height 4 = .ok (.ifCond .ne 8, 3) := by decide +kernel
theorem dX11_height_7 : decode cX11_height 7 = .ok (.ldc 146, 2) := by decide +kernel
theorem dX11_height_9 : decode cX11_height 9 = .ok (.goto 20, 3) := by decide +kernel
theorem dX11_height_12 : decode cX11_height 12 = .ok (.iload_n 1, 1) := by decide +kernel
theorem dX11_height_13 : decode cX11_height 13 = .ok (.invokestatic 226, 3) := by decide +kernel
theorem dX11_height_16 : decode cX11_height 16 = .ok (.ifCond .ne 8, 3) := by decide +kernel
theorem dX11_height_19 : decode cX11_height 19 = .ok (.ldc 133, 2) := by decide +kernel
theorem dX11_height_21 : decode cX11_height 21 = .ok (.goto 8, 3) := by decide +kernel
theorem dX11_height_24 : decode cX11_height 24 = .ok (.aload_n 0, 1) := by decide +kernel
theorem dX11_height_25 : decode cX11_height 25 = .ok (.iload_n 1, 1) := by decide +kernel
theorem dX11_height_26 : decode cX11_height 26 = .ok (.invokevirtual 205, 3) := by decide +kernel
theorem dX11_height_29 : decode cX11_height 29 = .ok (.ireturn, 1) := by decide +kernel
theorem dX11_water_0 : decode cX11_water 0 = .ok (.aload_n 0, 1) := by decide +kernel
theorem dX11_water_1 : decode cX11_water 1 = .ok (.invokevirtual 169, 3) := by decide +kernel
theorem dX11_water_4 : decode cX11_water 4 = .ok (.ifCond .ne 6, 3) := by decide +kernel
theorem dX11_water_7 : decode cX11_water 7 = .ok (.ldc 146, 2) := by decide +kernel
theorem dX11_water_9 : decode cX11_water 9 = .ok (.ireturn, 1) := by decide +kernel
theorem dX11_water_10 : decode cX11_water 10 = .ok (.iload_n 1, 1) := by decide +kernel
theorem dX11_water_11 : decode cX11_water 11 = .ok (.iload_n 2, 1) := by decide +kernel
theorem dX11_water_12 : decode cX11_water 12 = .ok (.invokestatic 229, 3) := by decide +kernel
theorem dX11_water_15 : decode cX11_water 15 = .ok (.ifCond .eq 13, 3) := by decide +kernel
theorem dX11_water_18 : decode cX11_water 18 = .ok (.iload_n 3, 1) := by decide +kernel
theorem dX11_water_19 : decode cX11_water 19 = .ok (.i2l, 1) := by decide +kernel
theorem dX11_water_20 : decode cX11_water 20 = .ok (.lconst 0, 1) := by decide +kernel
theorem dX11_water_21 : decode cX11_water 21 = .ok (.lconst 1, 1) := by decide +kernel
theorem dX11_water_22 : decode cX11_water 22 = .ok (.invokestatic 62, 3) := by decide +kernel
theorem dX11_water_25 : decode cX11_water 25 = .ok (.ifCond .ne 8, 3) := by decide +kernel
theorem dX11_water_28 : decode cX11_water 28 = .ok (.ldc 133, 2) := by decide +kernel
theorem dX11_water_30 : decode cX11_water 30 = .ok (.goto 22, 3) := by decide +kernel
theorem dX11_water_33 : decode cX11_water 33 = .ok (.iload_n 3, 1) := by decide +kernel
theorem dX11_water_34 : decode cX11_water 34 = .ok (.ifCond .ne 12, 3) := by decide +kernel
theorem dX11_water_37 : decode cX11_water 37 = .ok (.aload_n 0, 1) := by decide +kernel
theorem dX11_water_38 : decode cX11_water 38 = .ok (.iload_n 1, 1) := by decide +kernel
theorem dX11_water_39 : decode cX11_water 39 = .ok (.iload_n 2, 1) := by decide +kernel
theorem dX11_water_40 : decode cX11_water 40 = .ok (.invokevirtual 232, 3) := by decide +kernel
theorem dX11_water_43 : decode cX11_water 43 = .ok (.goto 9, 3) := by decide +kernel
theorem dX11_water_46 : decode cX11_water 46 = .ok (.aload_n 0, 1) := by decide +kernel
theorem dX11_water_47 : decode cX11_water 47 = .ok (.iload_n 1, 1) := by decide +kernel
theorem dX11_water_48 : decode cX11_water 48 = .ok (.iload_n 2, 1) := by decide +kernel
theorem dX11_water_49 : decode cX11_water 49 = .ok (.invokevirtual 202, 3) := by decide +kernel
theorem dX11_water_52 : decode cX11_water 52 = .ok (.ireturn, 1) := by decide +kernel
theorem dX11_mark_0 : decode cX11_mark 0 = .ok (.aload_n 0, 1) := by decide +kernel
theorem dX11_mark_1 : decode cX11_mark 1 = .ok (.iload_n 1, 1) := by decide +kernel
theorem dX11_mark_2 : decode cX11_mark 2 = .ok (.invokevirtual 150, 3) := by decide +kernel
theorem dX11_mark_5 : decode cX11_mark 5 = .ok (.ifCond .eq 20, 3) := by decide +kernel
theorem dX11_mark_8 : decode cX11_mark 8 = .ok (.iload_n 2, 1) := by decide +kernel
theorem dX11_mark_9 : decode cX11_mark 9 = .ok (.invokestatic 226, 3) := by decide +kernel
theorem dX11_mark_12 : decode cX11_mark 12 = .ok (.ifCond .eq 13, 3) := by decide +kernel
theorem dX11_mark_15 : decode cX11_mark 15 = .ok (.iload_n 3, 1) := by decide +kernel
theorem dX11_mark_16 : decode cX11_mark 16 = .ok (.i2l, 1) := by decide +kernel
theorem dX11_mark_17 : decode cX11_mark 17 = .ok (.lconst 0, 1) := by decide +kernel
theorem dX11_mark_18 : decode cX11_mark 18 = .ok (.lconst 1, 1) := by decide +kernel
theorem dX11_mark_19 : decode cX11_mark 19 = .ok (.invokestatic 62, 3) := by decide +kernel
theorem dX11_mark_22 : decode cX11_mark 22 = .ok (.ifCond .ne 6, 3) := by decide +kernel
theorem dX11_mark_25 : decode cX11_mark 25 = .ok (.ldc 133, 2) := by decide +kernel
theorem dX11_mark_27 : decode cX11_mark 27 = .ok (.ireturn, 1) := by decide +kernel
theorem dX11_mark_28 : decode cX11_mark 28 = .ok (.aload_n 0, 1) := by decide +kernel
theorem dX11_mark_29 : decode cX11_mark 29 = .ok (.iload_n 1, 1) := by decide +kernel
theorem dX11_mark_30 : decode cX11_mark 30 = .ok (.invokevirtual 235, 3) := by decide +kernel
theorem dX11_mark_33 : decode cX11_mark 33 = .ok (.ifCond .ne 8, 3) := by decide +kernel
theorem dX11_mark_36 : decode cX11_mark 36 = .ok (.ldc 146, 2) := by decide +kernel
theorem dX11_mark_38 : decode cX11_mark 38 = .ok (.goto 22, 3) := by decide +kernel
theorem dX11_mark_41 : decode cX11_mark 41 = .ok (.iload_n 3, 1) := by decide +kernel
theorem dX11_mark_42 : decode cX11_mark 42 = .ok (.ifCond .ne 12, 3) := by decide +kernel
theorem dX11_mark_45 : decode cX11_mark 45 = .ok (.aload_n 0, 1) := by decide +kernel
theorem dX11_mark_46 : decode cX11_mark 46 = .ok (.iload_n 1, 1) := by decide +kernel
theorem dX11_mark_47 : decode cX11_mark 47 = .ok (.iload_n 2, 1) := by decide +kernel
theorem dX11_mark_48 : decode cX11_mark 48 = .ok (.invokevirtual 218, 3) := by decide +kernel
theorem dX11_mark_51 : decode cX11_mark 51 = .ok (.goto 9, 3) := by decide +kernel
theorem dX11_mark_54 : decode cX11_mark 54 = .ok (.aload_n 0, 1) := by decide +kernel
theorem dX11_mark_55 : decode cX11_mark 55 = .ok (.iload_n 1, 1) := by decide +kernel
theorem dX11_mark_56 : decode cX11_mark 56 = .ok (.iconst 2, 1) := by decide +kernel
theorem dX11_mark_57 : decode cX11_mark 57 = .ok (.invokevirtual 166, 3) := by decide +kernel
theorem dX11_mark_60 : decode cX11_mark 60 = .ok (.ireturn, 1) := by decide +kernel
theorem dX11_seen_0 : decode cX11_seen 0 = .ok (.aload_n 0, 1) := by decide +kernel
theorem dX11_seen_1 : decode cX11_seen 1 = .ok (.iload_n 1, 1) := by decide +kernel
theorem dX11_seen_2 : decode cX11_seen 2 = .ok (.invokevirtual 150, 3) := by decide +kernel
theorem dX11_seen_5 : decode cX11_seen 5 = .ok (.ifCond .eq 19, 3) := by decide +kernel
theorem dX11_seen_8 : decode cX11_seen 8 = .ok (.iload_n 2, 1) := by decide +kernel
theorem dX11_seen_9 : decode cX11_seen 9 = .ok (.iload_n 3, 1) := by decide +kernel
theorem dX11_seen_10 : decode cX11_seen 10 = .ok (.invokestatic 229, 3) := by decide +kernel
theorem dX11_seen_13 : decode cX11_seen 13 = .ok (.ifCond .eq 11, 3) := by decide +kernel
theorem dX11_seen_16 : decode cX11_seen 16 = .ok (.iload 4, 2) := by decide +kernel
theorem dX11_seen_18 : decode cX11_seen 18 = .ok (.invokestatic 226, 3) := by decide +kernel
theorem dX11_seen_21 : decode cX11_seen 21 = .ok (.ifCond .ne 6, 3) := by decide +kernel
theorem dX11_seen_24 : decode cX11_seen 24 = .ok (.ldc 133, 2) := by decide +kernel
theorem dX11_seen_26 : decode cX11_seen 26 = .ok (.ireturn, 1) := by decide +kernel
theorem dX11_seen_27 : decode cX11_seen 27 = .ok (.aload_n 0, 1) := by decide +kernel
theorem dX11_seen_28 : decode cX11_seen 28 = .ok (.iload_n 1, 1) := by decide +kernel
theorem dX11_seen_29 : decode cX11_seen 29 = .ok (.invokevirtual 235, 3) := by decide +kernel
theorem dX11_seen_32 : decode cX11_seen 32 = .ok (.ifCond .ne 8, 3) := by decide +kernel
theorem dX11_seen_35 : decode cX11_seen 35 = .ok (.ldc 146, 2) := by decide +kernel
theorem dX11_seen_37 : decode cX11_seen 37 = .ok (.goto 20, 3) := by decide +kernel
theorem dX11_seen_40 : decode cX11_seen 40 = .ok (.aload_n 0, 1) := by decide +kernel
theorem dX11_seen_41 : decode cX11_seen 41 = .ok (.iload_n 1, 1) := by decide +kernel
theorem dX11_seen_42 : decode cX11_seen 42 = .ok (.iload_n 2, 1) := by decide +kernel
theorem dX11_seen_43 : decode cX11_seen 43 = .ok (.iload_n 3, 1) := by decide +kernel
theorem dX11_seen_44 : decode cX11_seen 44 = .ok (.iload 4, 2) := by decide +kernel
theorem dX11_seen_46 : decode cX11_seen 46 = .ok (.invokevirtual 238, 3) := by decide +kernel
theorem dX11_seen_49 : decode cX11_seen 49 = .ok (.ifCond .eq 7, 3) := by decide +kernel
theorem dX11_seen_52 : decode cX11_seen 52 = .ok (.iconst 1, 1) := by decide +kernel
theorem dX11_seen_53 : decode cX11_seen 53 = .ok (.goto 4, 3) := by decide +kernel
theorem dX11_seen_56 : decode cX11_seen 56 = .ok (.iconst 0, 1) := by decide +kernel
theorem dX11_seen_57 : decode cX11_seen 57 = .ok (.ireturn, 1) := by decide +kernel
theorem dX11_areTwo_0 : decode cX11_areTwo 0 = .ok (.aload_n 0, 1) := by decide +kernel
theorem dX11_areTwo_1 : decode cX11_areTwo 1 = .ok (.iload_n 1, 1) := by decide +kernel
theorem dX11_areTwo_2 : decode cX11_areTwo 2 = .ok (.invokevirtual 150, 3) := by decide +kernel
theorem dX11_areTwo_5 : decode cX11_areTwo 5 = .ok (.ifCond .eq 20, 3) := by decide +kernel
theorem dX11_areTwo_8 : decode cX11_areTwo 8 = .ok (.aload_n 0, 1) := by decide +kernel
theorem dX11_areTwo_9 : decode cX11_areTwo 9 = .ok (.iload_n 2, 1) := by decide +kernel
theorem dX11_areTwo_10 : decode cX11_areTwo 10 = .ok (.invokevirtual 150, 3) := by decide +kernel
theorem dX11_areTwo_13 : decode cX11_areTwo 13 = .ok (.ifCond .eq 12, 3) := by decide +kernel
theorem dX11_areTwo_16 : decode cX11_areTwo 16 = .ok (.iload_n 1, 1) := by decide +kernel
theorem dX11_areTwo_17 : decode cX11_areTwo 17 = .ok (.iload_n 2, 1) := by decide +kernel
theorem dX11_areTwo_18 : decode cX11_areTwo 18 = .ok (.if_icmp .eq 7, 3) := by decide +kernel
theorem dX11_areTwo_21 : decode cX11_areTwo 21 = .ok (.iconst 1, 1) := by decide +kernel
theorem dX11_areTwo_22 : decode cX11_areTwo 22 = .ok (.goto 4, 3) := by decide +kernel
theorem dX11_areTwo_25 : decode cX11_areTwo 25 = .ok (.iconst 0, 1) := by decide +kernel
theorem dX11_areTwo_26 : decode cX11_areTwo 26 = .ok (.ireturn, 1) := by decide +kernel
theorem dX11_areApart_0 : decode cX11_areApart 0 = .ok (.aload_n 0, 1) := by decide +kernel
theorem dX11_areApart_1 : decode cX11_areApart 1 = .ok (.iload_n 1, 1) := by decide +kernel
theorem dX11_areApart_2 : decode cX11_areApart 2 = .ok (.iconst 1, 1) := by decide +kernel
theorem dX11_areApart_3 : decode cX11_areApart 3 = .ok (.invokevirtual 166, 3) := by decide +kernel
theorem dX11_areApart_6 : decode cX11_areApart 6 = .ok (.aload_n 0, 1) := by decide +kernel
theorem dX11_areApart_7 : decode cX11_areApart 7 = .ok (.iload_n 2, 1) := by decide +kernel
theorem dX11_areApart_8 : decode cX11_areApart 8 = .ok (.iconst 1, 1) := by decide +kernel
theorem dX11_areApart_9 : decode cX11_areApart 9 = .ok (.invokevirtual 166, 3) := by decide +kernel
theorem dX11_areApart_12 : decode cX11_areApart 12 = .ok (.if_icmp .ne 18, 3) := by decide +kernel
theorem dX11_areApart_15 : decode cX11_areApart 15 = .ok (.aload_n 0, 1) := by decide +kernel
theorem dX11_areApart_16 : decode cX11_areApart 16 = .ok (.iload_n 1, 1) := by decide +kernel
theorem dX11_areApart_17 : decode cX11_areApart 17 = .ok (.iconst 2, 1) := by decide +kernel
theorem dX11_areApart_18 : decode cX11_areApart 18 = .ok (.invokevirtual 166, 3) := by decide +kernel
theorem dX11_areApart_21 : decode cX11_areApart 21 = .ok (.aload_n 0, 1) := by decide +kernel
theorem dX11_areApart_22 : decode cX11_areApart 22 = .ok (.iload_n 2, 1) := by decide +kernel
theorem dX11_areApart_23 : decode cX11_areApart 23 = .ok (.iconst 2, 1) := by decide +kernel
theorem dX11_areApart_24 : decode cX11_areApart 24 = .ok (.invokevirtual 166, 3) := by decide +kernel
theorem dX11_areApart_27 : decode cX11_areApart 27 = .ok (.if_icmp .eq 7, 3) := by decide +kernel
theorem dX11_areApart_30 : decode cX11_areApart 30 = .ok (.iconst 1, 1) := by decide +kernel
theorem dX11_areApart_31 : decode cX11_areApart 31 = .ok (.goto 4, 3) := by decide +kernel
theorem dX11_areApart_34 : decode cX11_areApart 34 = .ok (.iconst 0, 1) := by decide +kernel
theorem dX11_areApart_35 : decode cX11_areApart 35 = .ok (.ireturn, 1) := by decide +kernel
theorem dX11_side_0 : decode cX11_side 0 = .ok (.aload_n 0, 1) := by decide +kernel
theorem dX11_side_1 : decode cX11_side 1 = .ok (.iload_n 2, 1) := by decide +kernel
theorem dX11_side_2 : decode cX11_side 2 = .ok (.iconst 1, 1) := by decide +kernel
theorem dX11_side_3 : decode cX11_side 3 = .ok (.invokevirtual 166, 3) := by decide +kernel
theorem dX11_side_6 : decode cX11_side 6 = .ok (.aload_n 0, 1) := by decide +kernel
theorem dX11_side_7 : decode cX11_side 7 = .ok (.iload_n 1, 1) := by decide +kernel
theorem dX11_side_8 : decode cX11_side 8 = .ok (.iconst 1, 1) := by decide +kernel
theorem dX11_side_9 : decode cX11_side 9 = .ok (.invokevirtual 166, 3) := by decide +kernel
theorem dX11_side_12 : decode cX11_side 12 = .ok (.isub, 1) := by decide +kernel
theorem dX11_side_13 : decode cX11_side 13 = .ok (.iload 4, 2) := by decide +kernel
theorem dX11_side_15 : decode cX11_side 15 = .ok (.aload_n 0, 1) := by decide +kernel
theorem dX11_side_16 : decode cX11_side 16 = .ok (.iload_n 1, 1) := by decide +kernel
theorem dX11_side_17 : decode cX11_side 17 = .ok (.iconst 2, 1) := by decide +kernel
theorem dX11_side_18 : decode cX11_side 18 = .ok (.invokevirtual 166, 3) := by decide +kernel
theorem dX11_side_21 : decode cX11_side 21 = .ok (.isub, 1) := by decide +kernel
theorem dX11_side_22 : decode cX11_side 22 = .ok (.imul, 1) := by decide +kernel
theorem dX11_side_23 : decode cX11_side 23 = .ok (.aload_n 0, 1) := by decide +kernel
theorem dX11_side_24 : decode cX11_side 24 = .ok (.iload_n 2, 1) := by decide +kernel
theorem dX11_side_25 : decode cX11_side 25 = .ok (.iconst 2, 1) := by decide +kernel
theorem dX11_side_26 : decode cX11_side 26 = .ok (.invokevirtual 166, 3) := by decide +kernel
theorem dX11_side_29 : decode cX11_side 29 = .ok (.aload_n 0, 1) := by decide +kernel
theorem dX11_side_30 : decode cX11_side 30 = .ok (.iload_n 1, 1) := by decide +kernel
theorem dX11_side_31 : decode cX11_side 31 = .ok (.iconst 2, 1) := by decide +kernel
theorem dX11_side_32 : decode cX11_side 32 = .ok (.invokevirtual 166, 3) := by decide +kernel
theorem dX11_side_35 : decode cX11_side 35 = .ok (.isub, 1) := by decide +kernel
theorem dX11_side_36 : decode cX11_side 36 = .ok (.iload_n 3, 1) := by decide +kernel
theorem dX11_side_37 : decode cX11_side 37 = .ok (.aload_n 0, 1) := by decide +kernel
theorem dX11_side_38 : decode cX11_side 38 = .ok (.iload_n 1, 1) := by decide +kernel
theorem dX11_side_39 : decode cX11_side 39 = .ok (.iconst 1, 1) := by decide +kernel
theorem dX11_side_40 : decode cX11_side 40 = .ok (.invokevirtual 166, 3) := by decide +kernel
theorem dX11_side_43 : decode cX11_side 43 = .ok (.isub, 1) := by decide +kernel
theorem dX11_side_44 : decode cX11_side 44 = .ok (.imul, 1) := by decide +kernel
theorem dX11_side_45 : decode cX11_side 45 = .ok (.isub, 1) := by decide +kernel
theorem dX11_side_46 : decode cX11_side 46 = .ok (.ireturn, 1) := by decide +kernel
theorem dX11_signOf_0 : decode cX11_signOf 0 = .ok (.iload_n 0, 1) := by decide +kernel
theorem dX11_signOf_1 : decode cX11_signOf 1 = .ok (.ifCond .ge 7, 3) := by decide +kernel
theorem dX11_signOf_4 : decode cX11_signOf 4 = .ok (.iconst (-1), 1) := by decide +kernel
theorem dX11_signOf_5 : decode cX11_signOf 5 = .ok (.goto 12, 3) := by decide +kernel
theorem dX11_signOf_8 : decode cX11_signOf 8 = .ok (.iload_n 0, 1) := by decide +kernel
theorem dX11_signOf_9 : decode cX11_signOf 9 = .ok (.ifCond .le 7, 3) := by decide +kernel
theorem dX11_signOf_12 : decode cX11_signOf 12 = .ok (.iconst 1, 1) := by decide +kernel
theorem dX11_signOf_13 : decode cX11_signOf 13 = .ok (.goto 4, 3) := by decide +kernel
theorem dX11_signOf_16 : decode cX11_signOf 16 = .ok (.iconst 0, 1) := by decide +kernel
theorem dX11_signOf_17 : decode cX11_signOf 17 = .ok (.ireturn, 1) := by decide +kernel
theorem dX11_line_0 : decode cX11_line 0 = .ok (.aload_n 0, 1) := by decide +kernel
theorem dX11_line_1 : decode cX11_line 1 = .ok (.iload_n 1, 1) := by decide +kernel
theorem dX11_line_2 : decode cX11_line 2 = .ok (.iload_n 2, 1) := by decide +kernel
theorem dX11_line_3 : decode cX11_line 3 = .ok (.invokevirtual 242, 3) := by decide +kernel
theorem dX11_line_6 : decode cX11_line 6 = .ok (.ifCond .eq 12, 3) := by decide +kernel
theorem dX11_line_9 : decode cX11_line 9 = .ok (.iload_n 3, 1) := by decide +kernel
theorem dX11_line_10 : decode cX11_line 10 = .ok (.iload 4, 2) := by decide +kernel
theorem dX11_line_12 : decode cX11_line 12 = .ok (.invokestatic 229, 3) := by decide +kernel
theorem dX11_line_15 : decode cX11_line 15 = .ok (.ifCond .ne 6, 3) := by decide +kernel
theorem dX11_line_18 : decode cX11_line 18 = .ok (.ldc 133, 2) := by decide +kernel
theorem dX11_line_20 : decode cX11_line 20 = .ok (.ireturn, 1) := by decide +kernel
theorem dX11_line_21 : decode cX11_line 21 = .ok (.aload_n 0, 1) := by decide +kernel
theorem dX11_line_22 : decode cX11_line 22 = .ok (.iload_n 1, 1) := by decide +kernel
theorem dX11_line_23 : decode cX11_line 23 = .ok (.iload_n 2, 1) := by decide +kernel
theorem dX11_line_24 : decode cX11_line 24 = .ok (.invokevirtual 245, 3) := by decide +kernel
theorem dX11_line_27 : decode cX11_line 27 = .ok (.ifCond .ne 8, 3) := by decide +kernel
theorem dX11_line_30 : decode cX11_line 30 = .ok (.ldc 146, 2) := by decide +kernel
theorem dX11_line_32 : decode cX11_line 32 = .ok (.goto 15, 3) := by decide +kernel
theorem dX11_line_35 : decode cX11_line 35 = .ok (.aload_n 0, 1) := by decide +kernel
theorem dX11_line_36 : decode cX11_line 36 = .ok (.iload_n 1, 1) := by decide +kernel
theorem dX11_line_37 : decode cX11_line 37 = .ok (.iload_n 2, 1) := by decide +kernel
theorem dX11_line_38 : decode cX11_line 38 = .ok (.iload_n 3, 1) := by decide +kernel
theorem dX11_line_39 : decode cX11_line 39 = .ok (.iload 4, 2) := by decide +kernel
theorem dX11_line_41 : decode cX11_line 41 = .ok (.invokevirtual 248, 3) := by decide +kernel
theorem dX11_line_44 : decode cX11_line 44 = .ok (.invokestatic 252, 3) := by decide +kernel
theorem dX11_line_47 : decode cX11_line 47 = .ok (.ireturn, 1) := by decide +kernel
theorem dX11_wholly_0 : decode cX11_wholly 0 = .ok (.aload_n 0, 1) := by decide +kernel
theorem dX11_wholly_1 : decode cX11_wholly 1 = .ok (.iload_n 3, 1) := by decide +kernel
theorem dX11_wholly_2 : decode cX11_wholly 2 = .ok (.iconst 1, 1) := by decide +kernel
theorem dX11_wholly_3 : decode cX11_wholly 3 = .ok (.invokevirtual 166, 3) := by decide +kernel
theorem dX11_wholly_6 : decode cX11_wholly 6 = .ok (.istore 4, 2) := by decide +kernel
theorem dX11_wholly_8 : decode cX11_wholly 8 = .ok (.aload_n 0, 1) := by decide +kernel
theorem dX11_wholly_9 : decode cX11_wholly 9 = .ok (.iload_n 3, 1) := by decide +kernel
theorem dX11_wholly_10 : decode cX11_wholly 10 = .ok (.iconst 2, 1) := by decide +kernel
theorem dX11_wholly_11 : decode cX11_wholly 11 = .ok (.invokevirtual 166, 3) := by decide +kernel
theorem dX11_wholly_14 : decode cX11_wholly 14 = .ok (.istore 5, 2) := by decide +kernel
theorem dX11_wholly_16 : decode cX11_wholly 16 = .ok (.aload_n 0, 1) := by decide +kernel
theorem dX11_wholly_17 : decode cX11_wholly 17 = .ok (.iload_n 3, 1) := by decide +kernel
theorem dX11_wholly_18 : decode cX11_wholly 18 = .ok (.iconst 3, 1) := by decide +kernel
theorem dX11_wholly_19 : decode cX11_wholly 19 = .ok (.invokevirtual 166, 3) := by decide +kernel
theorem dX11_wholly_22 : decode cX11_wholly 22 = .ok (.istore 6, 2) := by decide +kernel
theorem dX11_wholly_24 : decode cX11_wholly 24 = .ok (.aload_n 0, 1) := by decide +kernel
theorem dX11_wholly_25 : decode cX11_wholly 25 = .ok (.iload_n 1, 1) := by decide +kernel
theorem dX11_wholly_26 : decode cX11_wholly 26 = .ok (.iload_n 2, 1) := by decide +kernel
theorem dX11_wholly_27 : decode cX11_wholly 27 = .ok (.iload 4, 2) := by decide +kernel
theorem dX11_wholly_29 : decode cX11_wholly 29 = .ok (.iload 5, 2) := by decide +kernel
theorem dX11_wholly_31 : decode cX11_wholly 31 = .ok (.invokevirtual 248, 3) := by decide +kernel
theorem dX11_wholly_34 : decode cX11_wholly 34 = .ok (.istore 7, 2) := by decide +kernel
theorem dX11_wholly_36 : decode cX11_wholly 36 = .ok (.aload_n 0, 1) := by decide +kernel
theorem dX11_wholly_37 : decode cX11_wholly 37 = .ok (.iload_n 3, 1) := by decide +kernel
theorem dX11_wholly_38 : decode cX11_wholly 38 = .ok (.iconst 0, 1) := by decide +kernel
theorem dX11_wholly_39 : decode cX11_wholly 39 = .ok (.invokevirtual 166, 3) := by decide +kernel
theorem dX11_wholly_42 : decode cX11_wholly 42 = .ok (.bipush 6, 2) := by decide +kernel
theorem dX11_wholly_44 : decode cX11_wholly 44 = .ok (.if_icmp .ne 89, 3) := by decide +kernel
theorem dX11_wholly_47 : decode cX11_wholly 47 = .ok (.aload_n 0, 1) := by decide +kernel
theorem dX11_wholly_48 : decode cX11_wholly 48 = .ok (.iload_n 1, 1) := by decide +kernel
theorem dX11_wholly_49 : decode cX11_wholly 49 = .ok (.iload_n 2, 1) := by decide +kernel
theorem dX11_wholly_50 : decode cX11_wholly 50 = .ok (.iload 4, 2) := by decide +kernel
theorem dX11_wholly_52 : decode cX11_wholly 52 = .ok (.iload 6, 2) := by decide +kernel
theorem dX11_wholly_54 : decode cX11_wholly 54 = .ok (.isub, 1) := by decide +kernel
theorem dX11_wholly_55 : decode cX11_wholly 55 = .ok (.iload 5, 2) := by decide +kernel
theorem dX11_wholly_57 : decode cX11_wholly 57 = .ok (.iload 6, 2) := by decide +kernel
theorem dX11_wholly_59 : decode cX11_wholly 59 = .ok (.isub, 1) := by decide +kernel
theorem dX11_wholly_60 : decode cX11_wholly 60 = .ok (.invokevirtual 248, 3) := by decide +kernel
theorem dX11_wholly_63 : decode cX11_wholly 63 = .ok (.invokestatic 252, 3) := by decide +kernel
theorem dX11_wholly_66 : decode cX11_wholly 66 = .ok (.aload_n 0, 1) := by decide +kernel
theorem dX11_wholly_67 : decode cX11_wholly 67 = .ok (.iload_n 1, 1) := by decide +kernel
theorem dX11_wholly_68 : decode cX11_wholly 68 = .ok (.iload_n 2, 1) := by decide +kernel
theorem dX11_wholly_69 : decode cX11_wholly 69 = .ok (.iload 4, 2) := by decide +kernel
theorem dX11_wholly_71 : decode cX11_wholly 71 = .ok (.iload 6, 2) := by decide +kernel
theorem dX11_wholly_73 : decode cX11_wholly 73 = .ok (.isub, 1) := by decide +kernel
theorem dX11_wholly_74 : decode cX11_wholly 74 = .ok (.iload 5, 2) := by decide +kernel
theorem dX11_wholly_76 : decode cX11_wholly 76 = .ok (.iload 6, 2) := by decide +kernel
theorem dX11_wholly_78 : decode cX11_wholly 78 = .ok (.iadd, 1) := by decide +kernel
theorem dX11_wholly_79 : decode cX11_wholly 79 = .ok (.invokevirtual 248, 3) := by decide +kernel
theorem dX11_wholly_82 : decode cX11_wholly 82 = .ok (.invokestatic 252, 3) := by decide +kernel
theorem dX11_wholly_85 : decode cX11_wholly 85 = .ok (.iadd, 1) := by decide +kernel
theorem dX11_wholly_86 : decode cX11_wholly 86 = .ok (.aload_n 0, 1) := by decide +kernel
theorem dX11_wholly_87 : decode cX11_wholly 87 = .ok (.iload_n 1, 1) := by decide +kernel
theorem dX11_wholly_88 : decode cX11_wholly 88 = .ok (.iload_n 2, 1) := by decide +kernel
theorem dX11_wholly_89 : decode cX11_wholly 89 = .ok (.iload 4, 2) := by decide +kernel
theorem dX11_wholly_91 : decode cX11_wholly 91 = .ok (.iload 6, 2) := by decide +kernel
theorem dX11_wholly_93 : decode cX11_wholly 93 = .ok (.iadd, 1) := by decide +kernel
theorem dX11_wholly_94 : decode cX11_wholly 94 = .ok (.iload 5, 2) := by decide +kernel
theorem dX11_wholly_96 : decode cX11_wholly 96 = .ok (.iload 6, 2) := by decide +kernel
theorem dX11_wholly_98 : decode cX11_wholly 98 = .ok (.isub, 1) := by decide +kernel
theorem dX11_wholly_99 : decode cX11_wholly 99 = .ok (.invokevirtual 248, 3) := by decide +kernel
theorem dX11_wholly_102 : decode cX11_wholly 102 = .ok (.invokestatic 252, 3) := by decide +kernel
theorem dX11_wholly_105 : decode cX11_wholly 105 = .ok (.iadd, 1) := by decide +kernel
theorem dX11_wholly_106 : decode cX11_wholly 106 = .ok (.aload_n 0, 1) := by decide +kernel
theorem dX11_wholly_107 : decode cX11_wholly 107 = .ok (.iload_n 1, 1) := by decide +kernel
theorem dX11_wholly_108 : decode cX11_wholly 108 = .ok (.iload_n 2, 1) := by decide +kernel
theorem dX11_wholly_109 : decode cX11_wholly 109 = .ok (.iload 4, 2) := by decide +kernel
theorem dX11_wholly_111 : decode cX11_wholly 111 = .ok (.iload 6, 2) := by decide +kernel
theorem dX11_wholly_113 : decode cX11_wholly 113 = .ok (.iadd, 1) := by decide +kernel
theorem dX11_wholly_114 : decode cX11_wholly 114 = .ok (.iload 5, 2) := by decide +kernel
theorem dX11_wholly_116 : decode cX11_wholly 116 = .ok (.iload 6, 2) := by decide +kernel
theorem dX11_wholly_118 : decode cX11_wholly 118 = .ok (.iadd, 1) := by decide +kernel
theorem dX11_wholly_119 : decode cX11_wholly 119 = .ok (.invokevirtual 248, 3) := by decide +kernel
theorem dX11_wholly_122 : decode cX11_wholly 122 = .ok (.invokestatic 252, 3) := by decide +kernel
theorem dX11_wholly_125 : decode cX11_wholly 125 = .ok (.iadd, 1) := by decide +kernel
theorem dX11_wholly_126 : decode cX11_wholly 126 = .ok (.istore 8, 2) := by decide +kernel
theorem dX11_wholly_128 : decode cX11_wholly 128 = .ok (.iload 8, 2) := by decide +kernel
theorem dX11_wholly_130 : decode cX11_wholly 130 = .ok (.iconst 4, 1) := by decide +kernel
theorem dX11_wholly_131 : decode cX11_wholly 131 = .ok (.idiv, 1) := by decide +kernel
theorem dX11_wholly_132 : decode cX11_wholly 132 = .ok (.ireturn, 1) := by decide +kernel
theorem dX11_wholly_133 : decode cX11_wholly 133 = .ok (.aload_n 0, 1) := by decide +kernel
theorem dX11_wholly_134 : decode cX11_wholly 134 = .ok (.iload_n 2, 1) := by decide +kernel
theorem dX11_wholly_135 : decode cX11_wholly 135 = .ok (.iconst 1, 1) := by decide +kernel
theorem dX11_wholly_136 : decode cX11_wholly 136 = .ok (.invokevirtual 166, 3) := by decide +kernel
theorem dX11_wholly_139 : decode cX11_wholly 139 = .ok (.aload_n 0, 1) := by decide +kernel
theorem dX11_wholly_140 : decode cX11_wholly 140 = .ok (.iload_n 1, 1) := by decide +kernel
theorem dX11_wholly_141 : decode cX11_wholly 141 = .ok (.iconst 1, 1) := by decide +kernel
theorem dX11_wholly_142 : decode cX11_wholly 142 = .ok (.invokevirtual 166, 3) := by decide +kernel
theorem dX11_wholly_145 : decode cX11_wholly 145 = .ok (.isub, 1) := by decide +kernel
theorem dX11_wholly_146 : decode cX11_wholly 146 = .ok (.aload_n 0, 1) := by decide +kernel
theorem dX11_wholly_147 : decode cX11_wholly 147 = .ok (.iload_n 2, 1) := by decide +kernel
theorem dX11_wholly_148 : decode cX11_wholly 148 = .ok (.iconst 2, 1) := by decide +kernel
theorem dX11_wholly_149 : decode cX11_wholly 149 = .ok (.invokevirtual 166, 3) := by decide +kernel
theorem dX11_wholly_152 : decode cX11_wholly 152 = .ok (.aload_n 0, 1) := by decide +kernel
theorem dX11_wholly_153 : decode cX11_wholly 153 = .ok (.iload_n 1, 1) := by decide +kernel
theorem dX11_wholly_154 : decode cX11_wholly 154 = .ok (.iconst 2, 1) := by decide +kernel
theorem dX11_wholly_155 : decode cX11_wholly 155 = .ok (.invokevirtual 166, 3) := by decide +kernel
theorem dX11_wholly_158 : decode cX11_wholly 158 = .ok (.isub, 1) := by decide +kernel
theorem dX11_wholly_159 : decode cX11_wholly 159 = .ok (.invokestatic 190, 3) := by decide +kernel
theorem dX11_wholly_162 : decode cX11_wholly 162 = .ok (.istore 8, 2) := by decide +kernel
theorem dX11_wholly_164 : decode cX11_wholly 164 = .ok (.iload 7, 2) := by decide +kernel
theorem dX11_wholly_166 : decode cX11_wholly 166 = .ok (.iload 7, 2) := by decide +kernel
theorem dX11_wholly_168 : decode cX11_wholly 168 = .ok (.imul, 1) := by decide +kernel
theorem dX11_wholly_169 : decode cX11_wholly 169 = .ok (.iload 6, 2) := by decide +kernel
theorem dX11_wholly_171 : decode cX11_wholly 171 = .ok (.iload 6, 2) := by decide +kernel
theorem dX11_wholly_173 : decode cX11_wholly 173 = .ok (.imul, 1) := by decide +kernel
theorem dX11_wholly_174 : decode cX11_wholly 174 = .ok (.iload 8, 2) := by decide +kernel
theorem dX11_wholly_176 : decode cX11_wholly 176 = .ok (.imul, 1) := by decide +kernel
theorem dX11_wholly_177 : decode cX11_wholly 177 = .ok (.if_icmp .le 11, 3) := by decide +kernel
theorem dX11_wholly_180 : decode cX11_wholly 180 = .ok (.iload 7, 2) := by decide +kernel
theorem dX11_wholly_182 : decode cX11_wholly 182 = .ok (.invokestatic 252, 3) := by decide +kernel
theorem dX11_wholly_185 : decode cX11_wholly 185 = .ok (.goto 4, 3) := by decide +kernel
theorem dX11_wholly_188 : decode cX11_wholly 188 = .ok (.iconst 0, 1) := by decide +kernel
theorem dX11_wholly_189 : decode cX11_wholly 189 = .ok (.ireturn, 1) := by decide +kernel
theorem dX11_lines_0 : decode cX11_lines 0 = .ok (.aload_n 0, 1) := by decide +kernel
theorem dX11_lines_1 : decode cX11_lines 1 = .ok (.iload_n 1, 1) := by decide +kernel
theorem dX11_lines_2 : decode cX11_lines 2 = .ok (.iload_n 2, 1) := by decide +kernel
theorem dX11_lines_3 : decode cX11_lines 3 = .ok (.invokevirtual 242, 3) := by decide +kernel
theorem dX11_lines_6 : decode cX11_lines 6 = .ok (.ifCond .eq 15, 3) := by decide +kernel
theorem dX11_lines_9 : decode cX11_lines 9 = .ok (.iload_n 3, 1) := by decide +kernel
theorem dX11_lines_10 : decode cX11_lines 10 = .ok (.i2l, 1) := by decide +kernel
theorem dX11_lines_11 : decode cX11_lines 11 = .ok (.lconst 0, 1) := by decide +kernel
theorem dX11_lines_12 : decode cX11_lines 12 = .ok (.ldc2_w 255, 3) := by decide +kernel
theorem dX11_lines_15 : decode cX11_lines 15 = .ok (.invokestatic 62, 3) := by decide +kernel
theorem dX11_lines_18 : decode cX11_lines 18 = .ok (.ifCond .ne 6, 3) := by decide +kernel
theorem dX11_lines_21 : decode cX11_lines 21 = .ok (.ldc 133, 2) := by decide +kernel
theorem dX11_lines_23 : decode cX11_lines 23 = .ok (.ireturn, 1) := by decide +kernel
theorem dX11_lines_24 : decode cX11_lines 24 = .ok (.aload_n 0, 1) := by decide +kernel
theorem dX11_lines_25 : decode cX11_lines 25 = .ok (.iload_n 1, 1) := by decide +kernel
theorem dX11_lines_26 : decode cX11_lines 26 = .ok (.iload_n 2, 1) := by decide +kernel
theorem dX11_lines_27 : decode cX11_lines 27 = .ok (.invokevirtual 245, 3) := by decide +kernel
theorem dX11_lines_30 : decode cX11_lines 30 = .ok (.ifCond .ne 6, 3) := by decide +kernel
theorem dX11_lines_33 : decode cX11_lines 33 = .ok (.ldc 146, 2) := by decide +kernel
theorem dX11_lines_35 : decode cX11_lines 35 = .ok (.ireturn, 1) := by decide +kernel
theorem dX11_lines_36 : decode cX11_lines 36 = .ok (.iconst 0, 1) := by decide +kernel
theorem dX11_lines_37 : decode cX11_lines 37 = .ok (.istore 4, 2) := by decide +kernel
theorem dX11_lines_39 : decode cX11_lines 39 = .ok (.iconst 0, 1) := by decide +kernel
theorem dX11_lines_40 : decode cX11_lines 40 = .ok (.istore 5, 2) := by decide +kernel
theorem dX11_lines_42 : decode cX11_lines 42 = .ok (.iload 5, 2) := by decide +kernel
theorem dX11_lines_44 : decode cX11_lines 44 = .ok (.aload_n 0, 1) := by decide +kernel
theorem dX11_lines_45 : decode cX11_lines 45 = .ok (.getfield 7, 3) := by decide +kernel
theorem dX11_lines_48 : decode cX11_lines 48 = .ok (.bipush 13, 2) := by decide +kernel
theorem dX11_lines_50 : decode cX11_lines 50 = .ok (.iaload, 1) := by decide +kernel
theorem dX11_lines_51 : decode cX11_lines 51 = .ok (.if_icmp .ge 60, 3) := by decide +kernel
theorem dX11_lines_54 : decode cX11_lines 54 = .ok (.iload 4, 2) := by decide +kernel
theorem dX11_lines_56 : decode cX11_lines 56 = .ok (.aload_n 0, 1) := by decide +kernel
theorem dX11_lines_57 : decode cX11_lines 57 = .ok (.iload 5, 2) := by decide +kernel
theorem dX11_lines_59 : decode cX11_lines 59 = .ok (.invokevirtual 193, 3) := by decide +kernel
theorem dX11_lines_62 : decode cX11_lines 62 = .ok (.ifCond .eq 39, 3) := by decide +kernel
theorem dX11_lines_65 : decode cX11_lines 65 = .ok (.aload_n 0, 1) := by decide +kernel
theorem dX11_lines_66 : decode cX11_lines 66 = .ok (.iload_n 1, 1) := by decide +kernel
theorem dX11_lines_67 : decode cX11_lines 67 = .ok (.iload_n 2, 1) := by decide +kernel
theorem dX11_lines_68 : decode cX11_lines 68 = .ok (.iload 5, 2) := by decide +kernel
theorem dX11_lines_70 : decode cX11_lines 70 = .ok (.invokevirtual 257, 3) := by decide +kernel
theorem dX11_lines_73 : decode cX11_lines 73 = .ok (.iload_n 3, 1) := by decide +kernel
theorem dX11_lines_74 : decode cX11_lines 74 = .ok (.ifCond .ne 7, 3) := by decide +kernel
theorem dX11_lines_77 : decode cX11_lines 77 = .ok (.iconst 1, 1) := by decide +kernel
theorem dX11_lines_78 : decode cX11_lines 78 = .ok (.goto 13, 3) := by decide +kernel
theorem dX11_lines_81 : decode cX11_lines 81 = .ok (.iload_n 3, 1) := by decide +kernel
theorem dX11_lines_82 : decode cX11_lines 82 = .ok (.iconst 1, 1) := by decide +kernel
theorem dX11_lines_83 : decode cX11_lines 83 = .ok (.if_icmp .ne 7, 3) := by decide +kernel
theorem dX11_lines_86 : decode cX11_lines 86 = .ok (.iconst (-1), 1) := by decide +kernel
theorem dX11_lines_87 : decode cX11_lines 87 = .ok (.goto 4, 3) := by decide +kernel
theorem dX11_lines_90 : decode cX11_lines 90 = .ok (.iconst 0, 1) := by decide +kernel
theorem dX11_lines_91 : decode cX11_lines 91 = .ok (.if_icmp .ne 10, 3) := by decide +kernel
theorem dX11_lines_94 : decode cX11_lines 94 = .ok (.iconst 1, 1) := by decide +kernel
theorem dX11_lines_95 : decode cX11_lines 95 = .ok (.iload 5, 2) := by decide +kernel
theorem dX11_lines_97 : decode cX11_lines 97 = .ok (.ishl, 1) := by decide +kernel
theorem dX11_lines_98 : decode cX11_lines 98 = .ok (.goto 4, 3) := by decide +kernel
theorem dX11_lines_101 : decode cX11_lines 101 = .ok (.iconst 0, 1) := by decide +kernel
theorem dX11_lines_102 : decode cX11_lines 102 = .ok (.ior, 1) := by decide +kernel
theorem dX11_lines_103 : decode cX11_lines 103 = .ok (.istore 4, 2) := by decide +kernel
theorem dX11_lines_105 : decode cX11_lines 105 = .ok (.iinc 5 1, 3) := by decide +kernel
theorem dX11_lines_108 : decode cX11_lines 108 = .ok (.goto (-66), 3) := by decide +kernel
theorem dX11_lines_111 : decode cX11_lines 111 = .ok (.iload 4, 2) := by decide +kernel
theorem dX11_lines_113 : decode cX11_lines 113 = .ok (.ireturn, 1) := by decide +kernel
theorem dX11_by_0 : decode cX11_by 0 = .ok (.aload_n 0, 1) := by decide +kernel
theorem dX11_by_1 : decode cX11_by 1 = .ok (.getfield 41, 3) := by decide +kernel
theorem dX11_by_4 : decode cX11_by 4 = .ok (.aload_n 0, 1) := by decide +kernel
theorem dX11_by_5 : decode cX11_by 5 = .ok (.getfield 261, 3) := by decide +kernel
theorem dX11_by_8 : decode cX11_by 8 = .ok (.iload_n 1, 1) := by decide +kernel
theorem dX11_by_9 : decode cX11_by 9 = .ok (.iastore, 1) := by decide +kernel
theorem dX11_by_10 : decode cX11_by 10 = .ok (.aload_n 0, 1) := by decide +kernel
theorem dX11_by_11 : decode cX11_by 11 = .ok (.getfield 44, 3) := by decide +kernel
theorem dX11_by_14 : decode cX11_by 14 = .ok (.aload_n 0, 1) := by decide +kernel
theorem dX11_by_15 : decode cX11_by 15 = .ok (.getfield 261, 3) := by decide +kernel
theorem dX11_by_18 : decode cX11_by 18 = .ok (.iload_n 2, 1) := by decide +kernel
theorem dX11_by_19 : decode cX11_by 19 = .ok (.iastore, 1) := by decide +kernel
theorem dX11_by_20 : decode cX11_by 20 = .ok (.aload_n 0, 1) := by decide +kernel
theorem dX11_by_21 : decode cX11_by 21 = .ok (.dup, 1) := by decide +kernel
theorem dX11_by_22 : decode cX11_by 22 = .ok (.getfield 261, 3) := by decide +kernel
theorem dX11_by_25 : decode cX11_by 25 = .ok (.iconst 1, 1) := by decide +kernel
theorem dX11_by_26 : decode cX11_by 26 = .ok (.iadd, 1) := by decide +kernel
theorem dX11_by_27 : decode cX11_by 27 = .ok (.putfield 261, 3) := by decide +kernel
theorem dX11_by_30 : decode cX11_by 30 = .ok (.return_, 1) := by decide +kernel
theorem dX11_legOf_0 : decode cX11_legOf 0 = .ok (.aload_n 0, 1) := by decide +kernel
theorem dX11_legOf_1 : decode cX11_legOf 1 = .ok (.getfield 7, 3) := by decide +kernel
theorem dX11_legOf_4 : decode cX11_legOf 4 = .ok (.bipush 55, 2) := by decide +kernel
theorem dX11_legOf_6 : decode cX11_legOf 6 = .ok (.iconst 4, 1) := by decide +kernel
theorem dX11_legOf_7 : decode cX11_legOf 7 = .ok (.iload_n 1, 1) := by decide +kernel
theorem dX11_legOf_8 : decode cX11_legOf 8 = .ok (.imul, 1) := by decide +kernel
theorem dX11_legOf_9 : decode cX11_legOf 9 = .ok (.iadd, 1) := by decide +kernel
theorem dX11_legOf_10 : decode cX11_legOf 10 = .ok (.iload_n 2, 1) := by decide +kernel
theorem dX11_legOf_11 : decode cX11_legOf 11 = .ok (.iadd, 1) := by decide +kernel
theorem dX11_legOf_12 : decode cX11_legOf 12 = .ok (.iaload, 1) := by decide +kernel
theorem dX11_legOf_13 : decode cX11_legOf 13 = .ok (.ireturn, 1) := by decide +kernel
theorem dX11_mistaken_0 : decode cX11_mistaken 0 = .ok (.aload_n 0, 1) := by decide +kernel
theorem dX11_mistaken_1 : decode cX11_mistaken 1 = .ok (.iload_n 1, 1) := by decide +kernel
theorem dX11_mistaken_2 : decode cX11_mistaken 2 = .ok (.iconst 1, 1) := by decide +kernel
theorem dX11_mistaken_3 : decode cX11_mistaken 3 = .ok (.invokevirtual 264, 3) := by decide +kernel
theorem dX11_mistaken_6 : decode cX11_mistaken 6 = .ok (.istore_n 2, 1) := by decide +kernel
theorem dX11_mistaken_7 : decode cX11_mistaken 7 = .ok (.iload_n 2, 1) := by decide +kernel
theorem dX11_mistaken_8 : decode cX11_mistaken 8 = .ok (.ifCond .eq 8, 3) := by decide +kernel
theorem dX11_mistaken_11 : decode cX11_mistaken 11 = .ok (.iload_n 2, 1) := by decide +kernel
theorem dX11_mistaken_12 : decode cX11_mistaken 12 = .ok (.iconst 4, 1) := by decide +kernel
theorem dX11_mistaken_13 : decode cX11_mistaken 13 = .ok (.if_icmp .ne 6, 3) := by decide +kernel
theorem dX11_mistaken_16 : decode cX11_mistaken 16 = .ok (.ldc 75, 2) := by decide +kernel
theorem dX11_mistaken_18 : decode cX11_mistaken 18 = .ok (.ireturn, 1) := by decide +kernel
theorem dX11_mistaken_19 : decode cX11_mistaken 19 = .ok (.aload_n 0, 1) := by decide +kernel
theorem dX11_mistaken_20 : decode cX11_mistaken 20 = .ok (.iload_n 1, 1) := by decide +kernel
theorem dX11_mistaken_21 : decode cX11_mistaken 21 = .ok (.iconst 2, 1) := by decide +kernel
theorem dX11_mistaken_22 : decode cX11_mistaken 22 = .ok (.invokevirtual 264, 3) := by decide +kernel
theorem dX11_mistaken_25 : decode cX11_mistaken 25 = .ok (.istore_n 3, 1) := by decide +kernel
theorem dX11_mistaken_26 : decode cX11_mistaken 26 = .ok (.aload_n 0, 1) := by decide +kernel
theorem dX11_mistaken_27 : decode cX11_mistaken 27 = .ok (.iload_n 1, 1) := by decide +kernel
theorem dX11_mistaken_28 : decode cX11_mistaken 28 = .ok (.iconst 3, 1) := by decide +kernel
theorem dX11_mistaken_29 : decode cX11_mistaken 29 = .ok (.invokevirtual 264, 3) := by decide +kernel
theorem dX11_mistaken_32 : decode cX11_mistaken 32 = .ok (.istore 4, 2) := by decide +kernel
theorem dX11_mistaken_34 : decode cX11_mistaken 34 = .ok (.aload_n 0, 1) := by decide +kernel
theorem dX11_mistaken_35 : decode cX11_mistaken 35 = .ok (.iload_n 3, 1) := by decide +kernel
theorem dX11_mistaken_36 : decode cX11_mistaken 36 = .ok (.invokevirtual 235, 3) := by decide +kernel
theorem dX11_mistaken_39 : decode cX11_mistaken 39 = .ok (.ifCond .eq 18, 3) := by decide +kernel
theorem dX11_mistaken_42 : decode cX11_mistaken 42 = .ok (.iload_n 2, 1) := by decide +kernel
theorem dX11_mistaken_43 : decode cX11_mistaken 43 = .ok (.iconst 3, 1) := by decide +kernel
theorem dX11_mistaken_44 : decode cX11_mistaken 44 = .ok (.if_icmp .ne 15, 3) := by decide +kernel
theorem dX11_mistaken_47 : decode cX11_mistaken 47 = .ok (.aload_n 0, 1) := by decide +kernel
theorem dX11_mistaken_48 : decode cX11_mistaken 48 = .ok (.iload_n 3, 1) := by decide +kernel
theorem dX11_mistaken_49 : decode cX11_mistaken 49 = .ok (.iconst 0, 1) := by decide +kernel
theorem dX11_mistaken_50 : decode cX11_mistaken 50 = .ok (.invokevirtual 166, 3) := by decide +kernel
theorem dX11_mistaken_53 : decode cX11_mistaken 53 = .ok (.iconst 2, 1) := by decide +kernel
theorem dX11_mistaken_54 : decode cX11_mistaken 54 = .ok (.if_icmp .eq 5, 3) := by decide +kernel
theorem dX11_mistaken_57 : decode cX11_mistaken 57 = .ok (.iload_n 3, 1) := by decide +kernel
theorem dX11_mistaken_58 : decode cX11_mistaken 58 = .ok (.ireturn, 1) := by decide +kernel
theorem dX11_mistaken_59 : decode cX11_mistaken 59 = .ok (.iload_n 2, 1) := by decide +kernel
theorem dX11_mistaken_60 : decode cX11_mistaken 60 = .ok (.iconst 2, 1) := by decide +kernel
theorem dX11_mistaken_61 : decode cX11_mistaken 61 = .ok (.if_icmp .ne 17, 3) := by decide +kernel
theorem dX11_mistaken_64 : decode cX11_mistaken 64 = .ok (.aload_n 0, 1) := by decide +kernel
theorem dX11_mistaken_65 : decode cX11_mistaken 65 = .ok (.iload 4, 2) := by decide +kernel
theorem dX11_mistaken_67 : decode cX11_mistaken 67 = .ok (.invokevirtual 235, 3) := by decide +kernel
theorem dX11_mistaken_70 : decode cX11_mistaken 70 = .ok (.ifCond .ne 8, 3) := by decide +kernel
theorem dX11_mistaken_73 : decode cX11_mistaken 73 = .ok (.iload 4, 2) := by decide +kernel
theorem dX11_mistaken_75 : decode cX11_mistaken 75 = .ok (.goto 5, 3) := by decide +kernel
theorem dX11_mistaken_78 : decode cX11_mistaken 78 = .ok (.ldc 75, 2) := by decide +kernel
theorem dX11_mistaken_80 : decode cX11_mistaken 80 = .ok (.ireturn, 1) := by decide +kernel
theorem dX11_lineOf_0 : decode cX11_lineOf 0 = .ok (.aload_n 0, 1) := by decide +kernel
theorem dX11_lineOf_1 : decode cX11_lineOf 1 = .ok (.iload_n 1, 1) := by decide +kernel
theorem dX11_lineOf_2 : decode cX11_lineOf 2 = .ok (.iload 5, 2) := by decide +kernel
theorem dX11_lineOf_4 : decode cX11_lineOf 4 = .ok (.invokevirtual 218, 3) := by decide +kernel
theorem dX11_lineOf_7 : decode cX11_lineOf 7 = .ok (.iload_n 3, 1) := by decide +kernel
theorem dX11_lineOf_8 : decode cX11_lineOf 8 = .ok (.isub, 1) := by decide +kernel
theorem dX11_lineOf_9 : decode cX11_lineOf 9 = .ok (.aload_n 0, 1) := by decide +kernel
theorem dX11_lineOf_10 : decode cX11_lineOf 10 = .ok (.iload_n 2, 1) := by decide +kernel
theorem dX11_lineOf_11 : decode cX11_lineOf 11 = .ok (.iconst 2, 1) := by decide +kernel
theorem dX11_lineOf_12 : decode cX11_lineOf 12 = .ok (.invokevirtual 166, 3) := by decide +kernel
theorem dX11_lineOf_15 : decode cX11_lineOf 15 = .ok (.iload 4, 2) := by decide +kernel
theorem dX11_lineOf_17 : decode cX11_lineOf 17 = .ok (.isub, 1) := by decide +kernel
theorem dX11_lineOf_18 : decode cX11_lineOf 18 = .ok (.imul, 1) := by decide +kernel
theorem dX11_lineOf_19 : decode cX11_lineOf 19 = .ok (.aload_n 0, 1) := by decide +kernel
theorem dX11_lineOf_20 : decode cX11_lineOf 20 = .ok (.iload_n 1, 1) := by decide +kernel
theorem dX11_lineOf_21 : decode cX11_lineOf 21 = .ok (.iconst 2, 1) := by decide +kernel
theorem dX11_lineOf_22 : decode cX11_lineOf 22 = .ok (.invokevirtual 166, 3) := by decide +kernel
theorem dX11_lineOf_25 : decode cX11_lineOf 25 = .ok (.iload 4, 2) := by decide +kernel
theorem dX11_lineOf_27 : decode cX11_lineOf 27 = .ok (.isub, 1) := by decide +kernel
theorem dX11_lineOf_28 : decode cX11_lineOf 28 = .ok (.aload_n 0, 1) := by decide +kernel
theorem dX11_lineOf_29 : decode cX11_lineOf 29 = .ok (.iload_n 2, 1) := by decide +kernel
theorem dX11_lineOf_30 : decode cX11_lineOf 30 = .ok (.iload 5, 2) := by decide +kernel
theorem dX11_lineOf_32 : decode cX11_lineOf 32 = .ok (.invokevirtual 218, 3) := by decide +kernel
theorem dX11_lineOf_35 : decode cX11_lineOf 35 = .ok (.iload_n 3, 1) := by decide +kernel
theorem dX11_lineOf_36 : decode cX11_lineOf 36 = .ok (.isub, 1) := by decide +kernel
theorem dX11_lineOf_37 : decode cX11_lineOf 37 = .ok (.imul, 1) := by decide +kernel
theorem dX11_lineOf_38 : decode cX11_lineOf 38 = .ok (.isub, 1) := by decide +kernel
theorem dX11_lineOf_39 : decode cX11_lineOf 39 = .ok (.ireturn, 1) := by decide +kernel
theorem dX11_comes_0 : decode cX11_comes 0 = .ok (.aload_n 0, 1) := by decide +kernel
theorem dX11_comes_1 : decode cX11_comes 1 = .ok (.iload_n 1, 1) := by decide +kernel
theorem dX11_comes_2 : decode cX11_comes 2 = .ok (.iconst 2, 1) := by decide +kernel
theorem dX11_comes_3 : decode cX11_comes 3 = .ok (.invokevirtual 264, 3) := by decide +kernel
theorem dX11_comes_6 : decode cX11_comes 6 = .ok (.istore 5, 2) := by decide +kernel
theorem dX11_comes_8 : decode cX11_comes 8 = .ok (.aload_n 0, 1) := by decide +kernel
theorem dX11_comes_9 : decode cX11_comes 9 = .ok (.iload_n 1, 1) := by decide +kernel
theorem dX11_comes_10 : decode cX11_comes 10 = .ok (.iconst 3, 1) := by decide +kernel
theorem dX11_comes_11 : decode cX11_comes 11 = .ok (.invokevirtual 264, 3) := by decide +kernel
theorem dX11_comes_14 : decode cX11_comes 14 = .ok (.istore 6, 2) := by decide +kernel
theorem dX11_comes_16 : decode cX11_comes 16 = .ok (.aload_n 0, 1) := by decide +kernel
theorem dX11_comes_17 : decode cX11_comes 17 = .ok (.getfield 29, 3) := by decide +kernel
theorem dX11_comes_20 : decode cX11_comes 20 = .ok (.iload_n 3, 1) := by decide +kernel
theorem dX11_comes_21 : decode cX11_comes 21 = .ok (.iaload, 1) := by decide +kernel
theorem dX11_comes_22 : decode cX11_comes 22 = .ok (.istore 7, 2) := by decide +kernel
theorem dX11_comes_24 : decode cX11_comes 24 = .ok (.aload_n 0, 1) := by decide +kernel
theorem dX11_comes_25 : decode cX11_comes 25 = .ok (.getfield 32, 3) := by decide +kernel
theorem dX11_comes_28 : decode cX11_comes 28 = .ok (.iload_n 3, 1) := by decide +kernel
theorem dX11_comes_29 : decode cX11_comes 29 = .ok (.iaload, 1) := by decide +kernel
theorem dX11_comes_30 : decode cX11_comes 30 = .ok (.istore 8, 2) := by decide +kernel
theorem dX11_comes_32 : decode cX11_comes 32 = .ok (.iload 4, 2) := by decide +kernel
theorem dX11_comes_34 : decode cX11_comes 34 = .ok (.iload_n 3, 1) := by decide +kernel
theorem dX11_comes_35 : decode cX11_comes 35 = .ok (.iadd, 1) := by decide +kernel
theorem dX11_comes_36 : decode cX11_comes 36 = .ok (.istore 9, 2) := by decide +kernel
theorem dX11_comes_38 : decode cX11_comes 38 = .ok (.aload_n 0, 1) := by decide +kernel
theorem dX11_comes_39 : decode cX11_comes 39 = .ok (.iload_n 1, 1) := by decide +kernel
theorem dX11_comes_40 : decode cX11_comes 40 = .ok (.iconst 1, 1) := by decide +kernel
theorem dX11_comes_41 : decode cX11_comes 41 = .ok (.invokevirtual 264, 3) := by decide +kernel
theorem dX11_comes_44 : decode cX11_comes 44 = .ok (.tableswitch 256 0 3 #[32, 46, 116, 213], 32) := by decide +kernel
theorem dX11_comes_76 : decode cX11_comes 76 = .ok (.iload_n 3, 1) := by decide +kernel
theorem dX11_comes_77 : decode cX11_comes 77 = .ok (.iload_n 2, 1) := by decide +kernel
theorem dX11_comes_78 : decode cX11_comes 78 = .ok (.isub, 1) := by decide +kernel
theorem dX11_comes_79 : decode cX11_comes 79 = .ok (.iload 5, 2) := by decide +kernel
theorem dX11_comes_81 : decode cX11_comes 81 = .ok (.if_icmp .lt 7, 3) := by decide +kernel
theorem dX11_comes_84 : decode cX11_comes 84 = .ok (.iconst 1, 1) := by decide +kernel
theorem dX11_comes_85 : decode cX11_comes 85 = .ok (.goto 4, 3) := by decide +kernel
theorem dX11_comes_88 : decode cX11_comes 88 = .ok (.iconst 0, 1) := by decide +kernel
theorem dX11_comes_89 : decode cX11_comes 89 = .ok (.ireturn, 1) := by decide +kernel
theorem dX11_comes_90 : decode cX11_comes 90 = .ok (.aload_n 0, 1) := by decide +kernel
theorem dX11_comes_91 : decode cX11_comes 91 = .ok (.iload_n 1, 1) := by decide +kernel
theorem dX11_comes_92 : decode cX11_comes 92 = .ok (.iconst 0, 1) := by decide +kernel
theorem dX11_comes_93 : decode cX11_comes 93 = .ok (.invokevirtual 264, 3) := by decide +kernel
theorem dX11_comes_96 : decode cX11_comes 96 = .ok (.istore 10, 2) := by decide +kernel
theorem dX11_comes_98 : decode cX11_comes 98 = .ok (.aload_n 0, 1) := by decide +kernel
theorem dX11_comes_99 : decode cX11_comes 99 = .ok (.iload 5, 2) := by decide +kernel
theorem dX11_comes_101 : decode cX11_comes 101 = .ok (.iload 7, 2) := by decide +kernel
theorem dX11_comes_103 : decode cX11_comes 103 = .ok (.iload 8, 2) := by decide +kernel
theorem dX11_comes_105 : decode cX11_comes 105 = .ok (.iload 9, 2) := by decide +kernel
theorem dX11_comes_107 : decode cX11_comes 107 = .ok (.invokevirtual 238, 3) := by decide +kernel
theorem dX11_comes_110 : decode cX11_comes 110 = .ok (.ifCond .eq 48, 3) := by decide +kernel
theorem dX11_comes_113 : decode cX11_comes 113 = .ok (.aload_n 0, 1) := by decide +kernel
theorem dX11_comes_114 : decode cX11_comes 114 = .ok (.getfield 20, 3) := by decide +kernel
theorem dX11_comes_117 : decode cX11_comes 117 = .ok (.iload 10, 2) := by decide +kernel
theorem dX11_comes_119 : decode cX11_comes 119 = .ok (.iaload, 1) := by decide +kernel
theorem dX11_comes_120 : decode cX11_comes 120 = .ok (.aload_n 0, 1) := by decide +kernel
theorem dX11_comes_121 : decode cX11_comes 121 = .ok (.iload 5, 2) := by decide +kernel
theorem dX11_comes_123 : decode cX11_comes 123 = .ok (.iload 9, 2) := by decide +kernel
theorem dX11_comes_125 : decode cX11_comes 125 = .ok (.invokevirtual 218, 3) := by decide +kernel
theorem dX11_comes_128 : decode cX11_comes 128 = .ok (.iload 7, 2) := by decide +kernel
theorem dX11_comes_130 : decode cX11_comes 130 = .ok (.isub, 1) := by decide +kernel
theorem dX11_comes_131 : decode cX11_comes 131 = .ok (.imul, 1) := by decide +kernel
theorem dX11_comes_132 : decode cX11_comes 132 = .ok (.aload_n 0, 1) := by decide +kernel
theorem dX11_comes_133 : decode cX11_comes 133 = .ok (.getfield 23, 3) := by decide +kernel
theorem dX11_comes_136 : decode cX11_comes 136 = .ok (.iload 10, 2) := by decide +kernel
theorem dX11_comes_138 : decode cX11_comes 138 = .ok (.iaload, 1) := by decide +kernel
theorem dX11_comes_139 : decode cX11_comes 139 = .ok (.aload_n 0, 1) := by decide +kernel
theorem dX11_comes_140 : decode cX11_comes 140 = .ok (.iload 5, 2) := by decide +kernel
theorem dX11_comes_142 : decode cX11_comes 142 = .ok (.iconst 2, 1) := by decide +kernel
theorem dX11_comes_143 : decode cX11_comes 143 = .ok (.invokevirtual 166, 3) := by decide +kernel
theorem dX11_comes_146 : decode cX11_comes 146 = .ok (.iload 8, 2) := by decide +kernel
theorem dX11_comes_148 : decode cX11_comes 148 = .ok (.isub, 1) := by decide +kernel
theorem dX11_comes_149 : decode cX11_comes 149 = .ok (.imul, 1) := by decide +kernel
theorem dX11_comes_150 : decode cX11_comes 150 = .ok (.iadd, 1) := by decide +kernel
theorem dX11_comes_151 : decode cX11_comes 151 = .ok (.ifCond .gt 7, 3) := by decide +kernel
theorem dX11_comes_154 : decode cX11_comes 154 = .ok (.iconst 1, 1) := by decide +kernel
theorem dX11_comes_155 : decode cX11_comes 155 = .ok (.goto 4, 3) := by decide +kernel
theorem dX11_comes_158 : decode cX11_comes 158 = .ok (.iconst 0, 1) := by decide +kernel
theorem dX11_comes_159 : decode cX11_comes 159 = .ok (.ireturn, 1) := by decide +kernel
theorem dX11_comes_160 : decode cX11_comes 160 = .ok (.aload_n 0, 1) := by decide +kernel
theorem dX11_comes_161 : decode cX11_comes 161 = .ok (.iload 5, 2) := by decide +kernel
theorem dX11_comes_163 : decode cX11_comes 163 = .ok (.iload 6, 2) := by decide +kernel
theorem dX11_comes_165 : decode cX11_comes 165 = .ok (.iload 7, 2) := by decide +kernel
theorem dX11_comes_167 : decode cX11_comes 167 = .ok (.iload 8, 2) := by decide +kernel
theorem dX11_comes_169 : decode cX11_comes 169 = .ok (.iload 9, 2) := by decide +kernel
theorem dX11_comes_171 : decode cX11_comes 171 = .ok (.invokevirtual 267, 3) := by decide +kernel
theorem dX11_comes_174 : decode cX11_comes 174 = .ok (.invokestatic 252, 3) := by decide +kernel
theorem dX11_comes_177 : decode cX11_comes 177 = .ok (.istore 11, 2) := by decide +kernel
theorem dX11_comes_179 : decode cX11_comes 179 = .ok (.aload_n 0, 1) := by decide +kernel
theorem dX11_comes_180 : decode cX11_comes 180 = .ok (.iload 5, 2) := by decide +kernel
theorem dX11_comes_182 : decode cX11_comes 182 = .ok (.iload 6, 2) := by decide +kernel
theorem dX11_comes_184 : decode cX11_comes 184 = .ok (.aload_n 0, 1) := by decide +kernel
theorem dX11_comes_185 : decode cX11_comes 185 = .ok (.getfield 29, 3) := by decide +kernel
theorem dX11_comes_188 : decode cX11_comes 188 = .ok (.iload_n 2, 1) := by decide +kernel
theorem dX11_comes_189 : decode cX11_comes 189 = .ok (.iaload, 1) := by decide +kernel
theorem dX11_comes_190 : decode cX11_comes 190 = .ok (.aload_n 0, 1) := by decide +kernel
theorem dX11_comes_191 : decode cX11_comes 191 = .ok (.getfield 32, 3) := by decide +kernel
theorem dX11_comes_194 : decode cX11_comes 194 = .ok (.iload_n 2, 1) := by decide +kernel
theorem dX11_comes_195 : decode cX11_comes 195 = .ok (.iaload, 1) := by decide +kernel
theorem dX11_comes_196 : decode cX11_comes 196 = .ok (.iload 4, 2) := by decide +kernel
theorem dX11_comes_198 : decode cX11_comes 198 = .ok (.iload_n 2, 1) := by decide +kernel
theorem dX11_comes_199 : decode cX11_comes 199 = .ok (.iadd, 1) := by decide +kernel
theorem dX11_comes_200 : decode cX11_comes 200 = .ok (.invokevirtual 267, 3) := by decide +kernel
theorem dX11_comes_203 : decode cX11_comes 203 = .ok (.invokestatic 252, 3) := by decide +kernel
theorem dX11_comes_206 : decode cX11_comes 206 = .ok (.istore 12, 2) := by decide +kernel
theorem dX11_comes_208 : decode cX11_comes 208 = .ok (.aload_n 0, 1) := by decide +kernel
theorem dX11_comes_209 : decode cX11_comes 209 = .ok (.iload 5, 2) := by decide +kernel
theorem dX11_comes_211 : decode cX11_comes 211 = .ok (.iload 7, 2) := by decide +kernel
theorem dX11_comes_213 : decode cX11_comes 213 = .ok (.iload 8, 2) := by decide +kernel
theorem dX11_comes_215 : decode cX11_comes 215 = .ok (.iload 9, 2) := by decide +kernel
theorem dX11_comes_217 : decode cX11_comes 217 = .ok (.invokevirtual 238, 3) := by decide +kernel
theorem dX11_comes_220 : decode cX11_comes 220 = .ok (.ifCond .eq 35, 3) := by decide +kernel
theorem dX11_comes_223 : decode cX11_comes 223 = .ok (.aload_n 0, 1) := by decide +kernel
theorem dX11_comes_224 : decode cX11_comes 224 = .ok (.iload 6, 2) := by decide +kernel
theorem dX11_comes_226 : decode cX11_comes 226 = .ok (.iload 7, 2) := by decide +kernel
theorem dX11_comes_228 : decode cX11_comes 228 = .ok (.iload 8, 2) := by decide +kernel
theorem dX11_comes_230 : decode cX11_comes 230 = .ok (.iload 9, 2) := by decide +kernel
theorem dX11_comes_232 : decode cX11_comes 232 = .ok (.invokevirtual 238, 3) := by decide +kernel
theorem dX11_comes_235 : decode cX11_comes 235 = .ok (.ifCond .eq 20, 3) := by decide +kernel
theorem dX11_comes_238 : decode cX11_comes 238 = .ok (.iload 11, 2) := by decide +kernel
theorem dX11_comes_240 : decode cX11_comes 240 = .ok (.ifCond .eq 11, 3) := by decide +kernel
theorem dX11_comes_243 : decode cX11_comes 243 = .ok (.iload 11, 2) := by decide +kernel
theorem dX11_comes_245 : decode cX11_comes 245 = .ok (.iload 12, 2) := by decide +kernel
theorem dX11_comes_247 : decode cX11_comes 247 = .ok (.iadd, 1) := by decide +kernel
theorem dX11_comes_248 : decode cX11_comes 248 = .ok (.ifCond .ne 7, 3) := by decide +kernel
theorem dX11_comes_251 : decode cX11_comes 251 = .ok (.iconst 1, 1) := by decide +kernel
theorem dX11_comes_252 : decode cX11_comes 252 = .ok (.goto 4, 3) := by decide +kernel
theorem dX11_comes_255 : decode cX11_comes 255 = .ok (.iconst 0, 1) := by decide +kernel
theorem dX11_comes_256 : decode cX11_comes 256 = .ok (.ireturn, 1) := by decide +kernel
theorem dX11_comes_257 : decode cX11_comes 257 = .ok (.aload_n 0, 1) := by decide +kernel
theorem dX11_comes_258 : decode cX11_comes 258 = .ok (.iload 5, 2) := by decide +kernel
theorem dX11_comes_260 : decode cX11_comes 260 = .ok (.iload 7, 2) := by decide +kernel
theorem dX11_comes_262 : decode cX11_comes 262 = .ok (.iload 8, 2) := by decide +kernel
theorem dX11_comes_264 : decode cX11_comes 264 = .ok (.iload 9, 2) := by decide +kernel
theorem dX11_comes_266 : decode cX11_comes 266 = .ok (.invokevirtual 238, 3) := by decide +kernel
theorem dX11_comes_269 : decode cX11_comes 269 = .ok (.aload_n 0, 1) := by decide +kernel
theorem dX11_comes_270 : decode cX11_comes 270 = .ok (.iload 5, 2) := by decide +kernel
theorem dX11_comes_272 : decode cX11_comes 272 = .ok (.aload_n 0, 1) := by decide +kernel
theorem dX11_comes_273 : decode cX11_comes 273 = .ok (.getfield 29, 3) := by decide +kernel
theorem dX11_comes_276 : decode cX11_comes 276 = .ok (.iload_n 2, 1) := by decide +kernel
theorem dX11_comes_277 : decode cX11_comes 277 = .ok (.iaload, 1) := by decide +kernel
theorem dX11_comes_278 : decode cX11_comes 278 = .ok (.aload_n 0, 1) := by decide +kernel
theorem dX11_comes_279 : decode cX11_comes 279 = .ok (.getfield 32, 3) := by decide +kernel
theorem dX11_comes_282 : decode cX11_comes 282 = .ok (.iload_n 2, 1) := by decide +kernel
theorem dX11_comes_283 : decode cX11_comes 283 = .ok (.iaload, 1) := by decide +kernel
theorem dX11_comes_284 : decode cX11_comes 284 = .ok (.iload 4, 2) := by decide +kernel
theorem dX11_comes_286 : decode cX11_comes 286 = .ok (.iload_n 2, 1) := by decide +kernel
theorem dX11_comes_287 : decode cX11_comes 287 = .ok (.iadd, 1) := by decide +kernel
theorem dX11_comes_288 : decode cX11_comes 288 = .ok (.invokevirtual 238, 3) := by decide +kernel
theorem dX11_comes_291 : decode cX11_comes 291 = .ok (.if_icmp .eq 7, 3) := by decide +kernel
theorem dX11_comes_294 : decode cX11_comes 294 = .ok (.iconst 1, 1) := by decide +kernel
theorem dX11_comes_295 : decode cX11_comes 295 = .ok (.goto 4, 3) := by decide +kernel
theorem dX11_comes_298 : decode cX11_comes 298 = .ok (.iconst 0, 1) := by decide +kernel
theorem dX11_comes_299 : decode cX11_comes 299 = .ok (.ireturn, 1) := by decide +kernel
theorem dX11_comes_300 : decode cX11_comes 300 = .ok (.aload_n 0, 1) := by decide +kernel
theorem dX11_comes_301 : decode cX11_comes 301 = .ok (.iload 7, 2) := by decide +kernel
theorem dX11_comes_303 : decode cX11_comes 303 = .ok (.iload 8, 2) := by decide +kernel
theorem dX11_comes_305 : decode cX11_comes 305 = .ok (.invokevirtual 232, 3) := by decide +kernel
theorem dX11_comes_308 : decode cX11_comes 308 = .ok (.aload_n 0, 1) := by decide +kernel
theorem dX11_comes_309 : decode cX11_comes 309 = .ok (.iload 9, 2) := by decide +kernel
theorem dX11_comes_311 : decode cX11_comes 311 = .ok (.invokevirtual 205, 3) := by decide +kernel
theorem dX11_comes_314 : decode cX11_comes 314 = .ok (.iadd, 1) := by decide +kernel
theorem dX11_comes_315 : decode cX11_comes 315 = .ok (.iload 5, 2) := by decide +kernel
theorem dX11_comes_317 : decode cX11_comes 317 = .ok (.if_icmp .gt 7, 3) := by decide +kernel
theorem dX11_comes_320 : decode cX11_comes 320 = .ok (.iconst 1, 1) := by decide +kernel
theorem dX11_comes_321 : decode cX11_comes 321 = .ok (.goto 4, 3) := by decide +kernel
theorem dX11_comes_324 : decode cX11_comes 324 = .ok (.iconst 0, 1) := by decide +kernel
theorem dX11_comes_325 : decode cX11_comes 325 = .ok (.ireturn, 1) := by decide +kernel
theorem dX11_greatestHeight_0 : decode cX11_greatestHeight 0 = .ok (.iconst 0, 1) := by decide +kernel
theorem dX11_greatestHeight_1 : decode cX11_greatestHeight 1 = .ok (.istore_n 1, 1) := by decide +kernel
theorem dX11_greatestHeight_2 : decode cX11_greatestHeight 2 = .ok (.iconst 0, 1) := by decide +kernel
theorem dX11_greatestHeight_3 : decode cX11_greatestHeight 3 = .ok (.istore_n 2, 1) := by decide +kernel
theorem dX11_greatestHeight_4 : decode cX11_greatestHeight 4 = .ok (.iload_n 2, 1) := by decide +kernel
theorem dX11_greatestHeight_5 : decode cX11_greatestHeight 5 = .ok (.aload_n 0, 1) := by decide +kernel
theorem dX11_greatestHeight_6 : decode cX11_greatestHeight 6 = .ok (.getfield 7, 3) := by decide +kernel
theorem dX11_greatestHeight_9 : decode cX11_greatestHeight 9 = .ok (.bipush 6, 2) := by decide +kernel
theorem dX11_greatestHeight_11 : decode cX11_greatestHeight 11 = .ok (.iaload, 1) := by decide +kernel
theorem dX11_greatestHeight_12 : decode cX11_greatestHeight 12 = .ok (.if_icmp .ge 36, 3) := by decide +kernel
theorem dX11_greatestHeight_15 : decode cX11_greatestHeight 15 = .ok (.aload_n 0, 1) := by decide +kernel
theorem dX11_greatestHeight_16 : decode cX11_greatestHeight 16 = .ok (.getfield 7, 3) := by decide +kernel
theorem dX11_greatestHeight_19 : decode cX11_greatestHeight 19 = .ok (.bipush 7, 2) := by decide +kernel
theorem dX11_greatestHeight_21 : decode cX11_greatestHeight 21 = .ok (.iload_n 2, 1) := by decide +kernel
theorem dX11_greatestHeight_22 : decode cX11_greatestHeight 22 = .ok (.iadd, 1) := by decide +kernel
theorem dX11_greatestHeight_23 : decode cX11_greatestHeight 23 = .ok (.iaload, 1) := by decide +kernel
theorem dX11_greatestHeight_24 : decode cX11_greatestHeight 24 = .ok (.iload_n 1, 1) := by decide +kernel
theorem dX11_greatestHeight_25 : decode cX11_greatestHeight 25 = .ok (.if_icmp .le 15, 3) := by decide +kernel
theorem dX11_greatestHeight_28 : decode cX11_greatestHeight 28 = .ok (.aload_n 0, 1) := by decide +kernel
theorem dX11_greatestHeight_29 : decode cX11_greatestHeight 29 = .ok (.getfield 7, 3) := by decide +kernel
theorem dX11_greatestHeight_32 : decode cX11_greatestHeight 32 = .ok (.bipush 7, 2) := by decide +kernel
theorem dX11_greatestHeight_34 : decode cX11_greatestHeight 34 = .ok (.iload_n 2, 1) := by decide +kernel
theorem dX11_greatestHeight_35 : decode cX11_greatestHeight 35 = .ok (.iadd, 1) := by decide +kernel
theorem dX11_greatestHeight_36 : decode cX11_greatestHeight 36 = .ok (.iaload, 1) := by decide +kernel
theorem dX11_greatestHeight_37 : decode cX11_greatestHeight 37 = .ok (.goto 4, 3) := by decide +kernel
theorem dX11_greatestHeight_40 : decode cX11_greatestHeight 40 = .ok (.iload_n 1, 1) := by decide +kernel
theorem dX11_greatestHeight_41 : decode cX11_greatestHeight 41 = .ok (.istore_n 1, 1) := by decide +kernel
theorem dX11_greatestHeight_42 : decode cX11_greatestHeight 42 = .ok (.iinc 2 1, 3) := by decide +kernel
theorem dX11_greatestHeight_45 : decode cX11_greatestHeight 45 = .ok (.goto (-41), 3) := by decide +kernel
theorem dX11_greatestHeight_48 : decode cX11_greatestHeight 48 = .ok (.iload_n 1, 1) := by decide +kernel
theorem dX11_greatestHeight_49 : decode cX11_greatestHeight 49 = .ok (.ireturn, 1) := by decide +kernel
theorem dX11_overdue_0 : decode cX11_overdue 0 = .ok (.aload_n 0, 1) := by decide +kernel
theorem dX11_overdue_1 : decode cX11_overdue 1 = .ok (.iload_n 1, 1) := by decide +kernel
theorem dX11_overdue_2 : decode cX11_overdue 2 = .ok (.iconst 1, 1) := by decide +kernel
theorem dX11_overdue_3 : decode cX11_overdue 3 = .ok (.invokevirtual 264, 3) := by decide +kernel
theorem dX11_overdue_6 : decode cX11_overdue 6 = .ok (.istore_n 3, 1) := by decide +kernel
theorem dX11_overdue_7 : decode cX11_overdue 7 = .ok (.aload_n 0, 1) := by decide +kernel
theorem dX11_overdue_8 : decode cX11_overdue 8 = .ok (.iconst 5, 1) := by decide +kernel
theorem dX11_overdue_9 : decode cX11_overdue 9 = .ok (.iload_n 3, 1) := by decide +kernel
theorem dX11_overdue_10 : decode cX11_overdue 10 = .ok (.invokevirtual 271, 3) := by decide +kernel
theorem dX11_overdue_13 : decode cX11_overdue 13 = .ok (.iconst 2, 1) := by decide +kernel
theorem dX11_overdue_14 : decode cX11_overdue 14 = .ok (.istore 4, 2) := by decide +kernel
theorem dX11_overdue_16 : decode cX11_overdue 16 = .ok (.iload 4, 2) := by decide +kernel
theorem dX11_overdue_18 : decode cX11_overdue 18 = .ok (.iconst 4, 1) := by decide +kernel
theorem dX11_overdue_19 : decode cX11_overdue 19 = .ok (.if_icmp .ge 84, 3) := by decide +kernel
theorem dX11_overdue_22 : decode cX11_overdue 22 = .ok (.aload_n 0, 1) := by decide +kernel
theorem dX11_overdue_23 : decode cX11_overdue 23 = .ok (.getfield 261, 3) := by decide +kernel
theorem dX11_overdue_26 : decode cX11_overdue 26 = .ok (.iconst 4, 1) := by decide +kernel
theorem dX11_overdue_27 : decode cX11_overdue 27 = .ok (.if_icmp .ge 76, 3) := by decide +kernel
theorem dX11_overdue_30 : decode cX11_overdue 30 = .ok (.iload_n 3, 1) := by decide +kernel
theorem dX11_overdue_31 : decode cX11_overdue 31 = .ok (.iconst 1, 1) := by decide +kernel
theorem dX11_overdue_32 : decode cX11_overdue 32 = .ok (.if_icmp .ne 9, 3) := by decide +kernel
theorem dX11_overdue_35 : decode cX11_overdue 35 = .ok (.iload 4, 2) := by decide +kernel
theorem dX11_overdue_37 : decode cX11_overdue 37 = .ok (.iconst 2, 1) := by decide +kernel
theorem dX11_overdue_38 : decode cX11_overdue 38 = .ok (.if_icmp .eq 8, 3) := by decide +kernel
theorem dX11_overdue_41 : decode cX11_overdue 41 = .ok (.iload_n 3, 1) := by decide +kernel
theorem dX11_overdue_42 : decode cX11_overdue 42 = .ok (.iconst 2, 1) := by decide +kernel
theorem dX11_overdue_43 : decode cX11_overdue 43 = .ok (.if_icmp .ne 60, 3) := by decide +kernel
theorem dX11_overdue_46 : decode cX11_overdue 46 = .ok (.aload_n 0, 1) := by decide +kernel
theorem dX11_overdue_47 : decode cX11_overdue 47 = .ok (.aload_n 0, 1) := by decide +kernel
theorem dX11_overdue_48 : decode cX11_overdue 48 = .ok (.iload_n 1, 1) := by decide +kernel
theorem dX11_overdue_49 : decode cX11_overdue 49 = .ok (.iload 4, 2) := by decide +kernel
theorem dX11_overdue_51 : decode cX11_overdue 51 = .ok (.invokevirtual 264, 3) := by decide +kernel
theorem dX11_overdue_54 : decode cX11_overdue 54 = .ok (.aload_n 0, 1) := by decide +kernel
theorem dX11_overdue_55 : decode cX11_overdue 55 = .ok (.getfield 29, 3) := by decide +kernel
theorem dX11_overdue_58 : decode cX11_overdue 58 = .ok (.aload_n 0, 1) := by decide +kernel
theorem dX11_overdue_59 : decode cX11_overdue 59 = .ok (.getfield 274, 3) := by decide +kernel
theorem dX11_overdue_62 : decode cX11_overdue 62 = .ok (.iaload, 1) := by decide +kernel
theorem dX11_overdue_63 : decode cX11_overdue 63 = .ok (.aload_n 0, 1) := by decide +kernel
theorem dX11_overdue_64 : decode cX11_overdue 64 = .ok (.getfield 32, 3) := by decide +kernel
theorem dX11_overdue_67 : decode cX11_overdue 67 = .ok (.aload_n 0, 1) := by decide +kernel
theorem dX11_overdue_68 : decode cX11_overdue 68 = .ok (.getfield 274, 3) := by decide +kernel
theorem dX11_overdue_71 : decode cX11_overdue 71 = .ok (.iaload, 1) := by decide +kernel
theorem dX11_overdue_72 : decode cX11_overdue 72 = .ok (.iload_n 2, 1) := by decide +kernel
theorem dX11_overdue_73 : decode cX11_overdue 73 = .ok (.aload_n 0, 1) := by decide +kernel
theorem dX11_overdue_74 : decode cX11_overdue 74 = .ok (.getfield 274, 3) := by decide +kernel
theorem dX11_overdue_77 : decode cX11_overdue 77 = .ok (.iadd, 1) := by decide +kernel
theorem dX11_overdue_78 : decode cX11_overdue 78 = .ok (.invokevirtual 238, 3) := by decide +kernel
theorem dX11_overdue_81 : decode cX11_overdue 81 = .ok (.ifCond .ne 16, 3) := by decide +kernel
theorem dX11_overdue_84 : decode cX11_overdue 84 = .ok (.aload_n 0, 1) := by decide +kernel
theorem dX11_overdue_85 : decode cX11_overdue 85 = .ok (.bipush 8, 2) := by decide +kernel
theorem dX11_overdue_87 : decode cX11_overdue 87 = .ok (.aload_n 0, 1) := by decide +kernel
theorem dX11_overdue_88 : decode cX11_overdue 88 = .ok (.iload_n 1, 1) := by decide +kernel
theorem dX11_overdue_89 : decode cX11_overdue 89 = .ok (.iload 4, 2) := by decide +kernel
theorem dX11_overdue_91 : decode cX11_overdue 91 = .ok (.invokevirtual 264, 3) := by decide +kernel
theorem dX11_overdue_94 : decode cX11_overdue 94 = .ok (.invokevirtual 271, 3) := by decide +kernel
theorem dX11_overdue_97 : decode cX11_overdue 97 = .ok (.iinc 4 1, 3) := by decide +kernel
theorem dX11_overdue_100 : decode cX11_overdue 100 = .ok (.goto (-84), 3) := by decide +kernel
theorem dX11_overdue_103 : decode cX11_overdue 103 = .ok (.return_, 1) := by decide +kernel
theorem dX11_goesOn_0 : decode cX11_goesOn 0 = .ok (.aload_n 0, 1) := by decide +kernel
theorem dX11_goesOn_1 : decode cX11_goesOn 1 = .ok (.getfield 29, 3) := by decide +kernel
theorem dX11_goesOn_4 : decode cX11_goesOn 4 = .ok (.aload_n 0, 1) := by decide +kernel
theorem dX11_goesOn_5 : decode cX11_goesOn 5 = .ok (.getfield 274, 3) := by decide +kernel
theorem dX11_goesOn_8 : decode cX11_goesOn 8 = .ok (.iaload, 1) := by decide +kernel
theorem dX11_goesOn_9 : decode cX11_goesOn 9 = .ok (.istore 5, 2) := by decide +kernel
theorem dX11_goesOn_11 : decode cX11_goesOn 11 = .ok (.aload_n 0, 1) := by decide +kernel
theorem dX11_goesOn_12 : decode cX11_goesOn 12 = .ok (.getfield 32, 3) := by decide +kernel
theorem dX11_goesOn_15 : decode cX11_goesOn 15 = .ok (.aload_n 0, 1) := by decide +kernel
theorem dX11_goesOn_16 : decode cX11_goesOn 16 = .ok (.getfield 274, 3) := by decide +kernel
theorem dX11_goesOn_19 : decode cX11_goesOn 19 = .ok (.iaload, 1) := by decide +kernel
theorem dX11_goesOn_20 : decode cX11_goesOn 20 = .ok (.istore 6, 2) := by decide +kernel
theorem dX11_goesOn_22 : decode cX11_goesOn 22 = .ok (.iload 5, 2) := by decide +kernel
theorem dX11_goesOn_24 : decode cX11_goesOn 24 = .ok (.iload 6, 2) := by decide +kernel
theorem dX11_goesOn_26 : decode cX11_goesOn 26 = .ok (.invokestatic 229, 3) := by decide +kernel
theorem dX11_goesOn_29 : decode cX11_goesOn 29 = .ok (.ifCond .ne 55, 3) := by decide +kernel
theorem dX11_goesOn_32 : decode cX11_goesOn 32 = .ok (.aload_n 0, 1) := by decide +kernel
theorem dX11_goesOn_33 : decode cX11_goesOn 33 = .ok (.iconst 1, 1) := by decide +kernel
theorem dX11_goesOn_34 : decode cX11_goesOn 34 = .ok (.iload_n 1, 1) := by decide +kernel
theorem dX11_goesOn_35 : decode cX11_goesOn 35 = .ok (.invokevirtual 271, 3) := by decide +kernel
theorem dX11_goesOn_38 : decode cX11_goesOn 38 = .ok (.aload_n 0, 1) := by decide +kernel
theorem dX11_goesOn_39 : decode cX11_goesOn 39 = .ok (.iconst 2, 1) := by decide +kernel
theorem dX11_goesOn_40 : decode cX11_goesOn 40 = .ok (.aload_n 0, 1) := by decide +kernel
theorem dX11_goesOn_41 : decode cX11_goesOn 41 = .ok (.getfield 274, 3) := by decide +kernel
theorem dX11_goesOn_44 : decode cX11_goesOn 44 = .ok (.invokevirtual 271, 3) := by decide +kernel
theorem dX11_goesOn_47 : decode cX11_goesOn 47 = .ok (.aload_n 0, 1) := by decide +kernel
theorem dX11_goesOn_48 : decode cX11_goesOn 48 = .ok (.iconst 3, 1) := by decide +kernel
theorem dX11_goesOn_49 : decode cX11_goesOn 49 = .ok (.iload 5, 2) := by decide +kernel
theorem dX11_goesOn_51 : decode cX11_goesOn 51 = .ok (.ifCond .ge 7, 3) := by decide +kernel
theorem dX11_goesOn_54 : decode cX11_goesOn 54 = .ok (.iconst 0, 1) := by decide +kernel
theorem dX11_goesOn_55 : decode cX11_goesOn 55 = .ok (.goto 24, 3) := by decide +kernel
theorem dX11_goesOn_58 : decode cX11_goesOn 58 = .ok (.iload 5, 2) := by decide +kernel
theorem dX11_goesOn_60 : decode cX11_goesOn 60 = .ok (.bipush 60, 2) := by decide +kernel
theorem dX11_goesOn_62 : decode cX11_goesOn 62 = .ok (.if_icmp .le 7, 3) := by decide +kernel
theorem dX11_goesOn_65 : decode cX11_goesOn 65 = .ok (.iconst 1, 1) := by decide +kernel
theorem dX11_goesOn_66 : decode cX11_goesOn 66 = .ok (.goto 13, 3) := by decide +kernel
theorem dX11_goesOn_69 : decode cX11_goesOn 69 = .ok (.iload 6, 2) := by decide +kernel
theorem dX11_goesOn_71 : decode cX11_goesOn 71 = .ok (.ifCond .ge 7, 3) := by decide +kernel
theorem dX11_goesOn_74 : decode cX11_goesOn 74 = .ok (.iconst 2, 1) := by decide +kernel
theorem dX11_goesOn_75 : decode cX11_goesOn 75 = .ok (.goto 4, 3) := by decide +kernel
theorem dX11_goesOn_78 : decode cX11_goesOn 78 = .ok (.iconst 3, 1) := by decide +kernel
theorem dX11_goesOn_79 : decode cX11_goesOn 79 = .ok (.invokevirtual 271, 3) := by decide +kernel
theorem dX11_goesOn_82 : decode cX11_goesOn 82 = .ok (.iconst 0, 1) := by decide +kernel
theorem dX11_goesOn_83 : decode cX11_goesOn 83 = .ok (.ireturn, 1) := by decide +kernel
theorem dX11_goesOn_84 : decode cX11_goesOn 84 = .ok (.aload_n 0, 1) := by decide +kernel
theorem dX11_goesOn_85 : decode cX11_goesOn 85 = .ok (.iload 5, 2) := by decide +kernel
theorem dX11_goesOn_87 : decode cX11_goesOn 87 = .ok (.iload 6, 2) := by decide +kernel
theorem dX11_goesOn_89 : decode cX11_goesOn 89 = .ok (.invokevirtual 232, 3) := by decide +kernel
theorem dX11_goesOn_92 : decode cX11_goesOn 92 = .ok (.istore 7, 2) := by decide +kernel
theorem dX11_goesOn_94 : decode cX11_goesOn 94 = .ok (.iload 7, 2) := by decide +kernel
theorem dX11_goesOn_96 : decode cX11_goesOn 96 = .ok (.aload_n 0, 1) := by decide +kernel
theorem dX11_goesOn_97 : decode cX11_goesOn 97 = .ok (.iload_n 3, 1) := by decide +kernel
theorem dX11_goesOn_98 : decode cX11_goesOn 98 = .ok (.aload_n 0, 1) := by decide +kernel
theorem dX11_goesOn_99 : decode cX11_goesOn 99 = .ok (.getfield 274, 3) := by decide +kernel
theorem dX11_goesOn_102 : decode cX11_goesOn 102 = .ok (.iadd, 1) := by decide +kernel
theorem dX11_goesOn_103 : decode cX11_goesOn 103 = .ok (.invokevirtual 205, 3) := by decide +kernel
theorem dX11_goesOn_106 : decode cX11_goesOn 106 = .ok (.iadd, 1) := by decide +kernel
theorem dX11_goesOn_107 : decode cX11_goesOn 107 = .ok (.iload 4, 2) := by decide +kernel
theorem dX11_goesOn_109 : decode cX11_goesOn 109 = .ok (.isub, 1) := by decide +kernel
theorem dX11_goesOn_110 : decode cX11_goesOn 110 = .ok (.istore 8, 2) := by decide +kernel
theorem dX11_goesOn_112 : decode cX11_goesOn 112 = .ok (.aload_n 0, 1) := by decide +kernel
theorem dX11_goesOn_113 : decode cX11_goesOn 113 = .ok (.getfield 277, 3) := by decide +kernel
theorem dX11_goesOn_116 : decode cX11_goesOn 116 = .ok (.ldc 75, 2) := by decide +kernel
theorem dX11_goesOn_118 : decode cX11_goesOn 118 = .ok (.if_icmp .eq 12, 3) := by decide +kernel
theorem dX11_goesOn_121 : decode cX11_goesOn 121 = .ok (.iload 8, 2) := by decide +kernel
theorem dX11_goesOn_123 : decode cX11_goesOn 123 = .ok (.aload_n 0, 1) := by decide +kernel
theorem dX11_goesOn_124 : decode cX11_goesOn 124 = .ok (.getfield 280, 3) := by decide +kernel
theorem dX11_goesOn_127 : decode cX11_goesOn 127 = .ok (.if_icmp .ge 17, 3) := by decide +kernel
theorem dX11_goesOn_130 : decode cX11_goesOn 130 = .ok (.aload_n 0, 1) := by decide +kernel
theorem dX11_goesOn_131 : decode cX11_goesOn 131 = .ok (.iload 8, 2) := by decide +kernel
theorem dX11_goesOn_133 : decode cX11_goesOn 133 = .ok (.putfield 280, 3) := by decide +kernel
theorem dX11_goesOn_136 : decode cX11_goesOn 136 = .ok (.aload_n 0, 1) := by decide +kernel
theorem dX11_goesOn_137 : decode cX11_goesOn 137 = .ok (.aload_n 0, 1) := by decide +kernel
theorem dX11_goesOn_138 : decode cX11_goesOn 138 = .ok (.getfield 274, 3) := by decide +kernel
theorem dX11_goesOn_141 : decode cX11_goesOn 141 = .ok (.putfield 277, 3) := by decide +kernel
theorem dX11_goesOn_144 : decode cX11_goesOn 144 = .ok (.iload 8, 2) := by decide +kernel
theorem dX11_goesOn_146 : decode cX11_goesOn 146 = .ok (.ifCond .ge 75, 3) := by decide +kernel
theorem dX11_goesOn_149 : decode cX11_goesOn 149 = .ok (.aload_n 0, 1) := by decide +kernel
theorem dX11_goesOn_150 : decode cX11_goesOn 150 = .ok (.iconst 1, 1) := by decide +kernel
theorem dX11_goesOn_151 : decode cX11_goesOn 151 = .ok (.iload_n 1, 1) := by decide +kernel
theorem dX11_goesOn_152 : decode cX11_goesOn 152 = .ok (.invokevirtual 271, 3) := by decide +kernel
theorem dX11_goesOn_155 : decode cX11_goesOn 155 = .ok (.aload_n 0, 1) := by decide +kernel
theorem dX11_goesOn_156 : decode cX11_goesOn 156 = .ok (.iconst 2, 1) := by decide +kernel
theorem dX11_goesOn_157 : decode cX11_goesOn 157 = .ok (.aload_n 0, 1) := by decide +kernel
theorem dX11_goesOn_158 : decode cX11_goesOn 158 = .ok (.getfield 274, 3) := by decide +kernel
theorem dX11_goesOn_161 : decode cX11_goesOn 161 = .ok (.invokevirtual 271, 3) := by decide +kernel
theorem dX11_goesOn_164 : decode cX11_goesOn 164 = .ok (.aload_n 0, 1) := by decide +kernel
theorem dX11_goesOn_165 : decode cX11_goesOn 165 = .ok (.iconst 4, 1) := by decide +kernel
theorem dX11_goesOn_166 : decode cX11_goesOn 166 = .ok (.aload_n 0, 1) := by decide +kernel
theorem dX11_goesOn_167 : decode cX11_goesOn 167 = .ok (.iload 5, 2) := by decide +kernel
theorem dX11_goesOn_169 : decode cX11_goesOn 169 = .ok (.iload 6, 2) := by decide +kernel
theorem dX11_goesOn_171 : decode cX11_goesOn 171 = .ok (.invokevirtual 202, 3) := by decide +kernel
theorem dX11_goesOn_174 : decode cX11_goesOn 174 = .ok (.invokevirtual 271, 3) := by decide +kernel
theorem dX11_goesOn_177 : decode cX11_goesOn 177 = .ok (.iload 7, 2) := by decide +kernel
theorem dX11_goesOn_179 : decode cX11_goesOn 179 = .ok (.aload_n 0, 1) := by decide +kernel
theorem dX11_goesOn_180 : decode cX11_goesOn 180 = .ok (.invokevirtual 283, 3) := by decide +kernel
theorem dX11_goesOn_183 : decode cX11_goesOn 183 = .ok (.iadd, 1) := by decide +kernel
theorem dX11_goesOn_184 : decode cX11_goesOn 184 = .ok (.iload 4, 2) := by decide +kernel
theorem dX11_goesOn_186 : decode cX11_goesOn 186 = .ok (.isub, 1) := by decide +kernel
theorem dX11_goesOn_187 : decode cX11_goesOn 187 = .ok (.istore 9, 2) := by decide +kernel
theorem dX11_goesOn_189 : decode cX11_goesOn 189 = .ok (.aload_n 0, 1) := by decide +kernel
theorem dX11_goesOn_190 : decode cX11_goesOn 190 = .ok (.iload 9, 2) := by decide +kernel
theorem dX11_goesOn_192 : decode cX11_goesOn 192 = .ok (.ifCond .lt 8, 3) := by decide +kernel
theorem dX11_goesOn_195 : decode cX11_goesOn 195 = .ok (.bipush 6, 2) := by decide +kernel
theorem dX11_goesOn_197 : decode cX11_goesOn 197 = .ok (.goto 5, 3) := by decide +kernel
theorem dX11_goesOn_200 : decode cX11_goesOn 200 = .ok (.bipush 7, 2) := by decide +kernel
theorem dX11_goesOn_202 : decode cX11_goesOn 202 = .ok (.iload 9, 2) := by decide +kernel
theorem dX11_goesOn_204 : decode cX11_goesOn 204 = .ok (.ifCond .lt 9, 3) := by decide +kernel
theorem dX11_goesOn_207 : decode cX11_goesOn 207 = .ok (.iload 8, 2) := by decide +kernel
theorem dX11_goesOn_209 : decode cX11_goesOn 209 = .ok (.ineg, 1) := by decide +kernel
theorem dX11_goesOn_210 : decode cX11_goesOn 210 = .ok (.goto 6, 3) := by decide +kernel
theorem dX11_goesOn_213 : decode cX11_goesOn 213 = .ok (.iload 9, 2) := by decide +kernel
theorem dX11_goesOn_215 : decode cX11_goesOn 215 = .ok (.ineg, 1) := by decide +kernel
theorem dX11_goesOn_216 : decode cX11_goesOn 216 = .ok (.invokevirtual 271, 3) := by decide +kernel
theorem dX11_goesOn_219 : decode cX11_goesOn 219 = .ok (.iconst 0, 1) := by decide +kernel
theorem dX11_goesOn_220 : decode cX11_goesOn 220 = .ok (.ireturn, 1) := by decide +kernel
theorem dX11_goesOn_221 : decode cX11_goesOn 221 = .ok (.aload_n 0, 1) := by decide +kernel
theorem dX11_goesOn_222 : decode cX11_goesOn 222 = .ok (.iload_n 1, 1) := by decide +kernel
theorem dX11_goesOn_223 : decode cX11_goesOn 223 = .ok (.iload_n 2, 1) := by decide +kernel
theorem dX11_goesOn_224 : decode cX11_goesOn 224 = .ok (.aload_n 0, 1) := by decide +kernel
theorem dX11_goesOn_225 : decode cX11_goesOn 225 = .ok (.getfield 274, 3) := by decide +kernel
theorem dX11_goesOn_228 : decode cX11_goesOn 228 = .ok (.iload_n 3, 1) := by decide +kernel
theorem dX11_goesOn_229 : decode cX11_goesOn 229 = .ok (.invokevirtual 287, 3) := by decide +kernel
theorem dX11_goesOn_232 : decode cX11_goesOn 232 = .ok (.ifCond .eq 15, 3) := by decide +kernel
theorem dX11_goesOn_235 : decode cX11_goesOn 235 = .ok (.aload_n 0, 1) := by decide +kernel
theorem dX11_goesOn_236 : decode cX11_goesOn 236 = .ok (.dup, 1) := by decide +kernel
theorem dX11_goesOn_237 : decode cX11_goesOn 237 = .ok (.getfield 290, 3) := by decide +kernel
theorem dX11_goesOn_240 : decode cX11_goesOn 240 = .ok (.iconst 1, 1) := by decide +kernel
theorem dX11_goesOn_241 : decode cX11_goesOn 241 = .ok (.iadd, 1) := by decide +kernel
theorem dX11_goesOn_242 : decode cX11_goesOn 242 = .ok (.putfield 290, 3) := by decide +kernel
theorem dX11_goesOn_245 : decode cX11_goesOn 245 = .ok (.iconst 0, 1) := by decide +kernel
theorem dX11_goesOn_246 : decode cX11_goesOn 246 = .ok (.ireturn, 1) := by decide +kernel
theorem dX11_goesOn_247 : decode cX11_goesOn 247 = .ok (.aload_n 0, 1) := by decide +kernel
theorem dX11_goesOn_248 : decode cX11_goesOn 248 = .ok (.getfield 274, 3) := by decide +kernel
theorem dX11_goesOn_251 : decode cX11_goesOn 251 = .ok (.iload_n 2, 1) := by decide +kernel
theorem dX11_goesOn_252 : decode cX11_goesOn 252 = .ok (.isub, 1) := by decide +kernel
theorem dX11_goesOn_253 : decode cX11_goesOn 253 = .ok (.bipush 60, 2) := by decide +kernel
theorem dX11_goesOn_255 : decode cX11_goesOn 255 = .ok (.if_icmp .ne 26, 3) := by decide +kernel
theorem dX11_goesOn_258 : decode cX11_goesOn 258 = .ok (.aload_n 0, 1) := by decide +kernel
theorem dX11_goesOn_259 : decode cX11_goesOn 259 = .ok (.iconst 1, 1) := by decide +kernel
theorem dX11_goesOn_260 : decode cX11_goesOn 260 = .ok (.iload_n 1, 1) := by decide +kernel
theorem dX11_goesOn_261 : decode cX11_goesOn 261 = .ok (.invokevirtual 271, 3) := by decide +kernel
theorem dX11_goesOn_264 : decode cX11_goesOn 264 = .ok (.aload_n 0, 1) := by decide +kernel
theorem dX11_goesOn_265 : decode cX11_goesOn 265 = .ok (.iconst 2, 1) := by decide +kernel
theorem dX11_goesOn_266 : decode cX11_goesOn 266 = .ok (.aload_n 0, 1) := by decide +kernel
theorem dX11_goesOn_267 : decode cX11_goesOn 267 = .ok (.getfield 274, 3) := by decide +kernel
theorem dX11_goesOn_270 : decode cX11_goesOn 270 = .ok (.invokevirtual 271, 3) := by decide +kernel
theorem dX11_goesOn_273 : decode cX11_goesOn 273 = .ok (.aload_n 0, 1) := by decide +kernel
theorem dX11_goesOn_274 : decode cX11_goesOn 274 = .ok (.iload_n 1, 1) := by decide +kernel
theorem dX11_goesOn_275 : decode cX11_goesOn 275 = .ok (.iload_n 3, 1) := by decide +kernel
theorem dX11_goesOn_276 : decode cX11_goesOn 276 = .ok (.invokevirtual 293, 3) := by decide +kernel
theorem dX11_goesOn_279 : decode cX11_goesOn 279 = .ok (.iconst 0, 1) := by decide +kernel
theorem dX11_goesOn_280 : decode cX11_goesOn 280 = .ok (.ireturn, 1) := by decide +kernel
theorem dX11_goesOn_281 : decode cX11_goesOn 281 = .ok (.iconst 1, 1) := by decide +kernel
theorem dX11_goesOn_282 : decode cX11_goesOn 282 = .ok (.ireturn, 1) := by decide +kernel
theorem dX11_sails_0 : decode cX11_sails 0 = .ok (.aload_n 0, 1) := by decide +kernel
theorem dX11_sails_1 : decode cX11_sails 1 = .ok (.iconst 0, 1) := by decide +kernel
theorem dX11_sails_2 : decode cX11_sails 2 = .ok (.putfield 274, 3) := by decide +kernel
theorem dX11_sails_5 : decode cX11_sails 5 = .ok (.aload_n 0, 1) := by decide +kernel
theorem dX11_sails_6 : decode cX11_sails 6 = .ok (.iconst 0, 1) := by decide +kernel
theorem dX11_sails_7 : decode cX11_sails 7 = .ok (.putfield 290, 3) := by decide +kernel
theorem dX11_sails_10 : decode cX11_sails 10 = .ok (.aload_n 0, 1) := by decide +kernel
theorem dX11_sails_11 : decode cX11_sails 11 = .ok (.iconst 0, 1) := by decide +kernel
theorem dX11_sails_12 : decode cX11_sails 12 = .ok (.putfield 296, 3) := by decide +kernel
theorem dX11_sails_15 : decode cX11_sails 15 = .ok (.aload_n 0, 1) := by decide +kernel
theorem dX11_sails_16 : decode cX11_sails 16 = .ok (.ldc 75, 2) := by decide +kernel
theorem dX11_sails_18 : decode cX11_sails 18 = .ok (.putfield 280, 3) := by decide +kernel
theorem dX11_sails_21 : decode cX11_sails 21 = .ok (.aload_n 0, 1) := by decide +kernel
theorem dX11_sails_22 : decode cX11_sails 22 = .ok (.ldc 75, 2) := by decide +kernel
theorem dX11_sails_24 : decode cX11_sails 24 = .ok (.putfield 277, 3) := by decide +kernel
theorem dX11_sails_27 : decode cX11_sails 27 = .ok (.aload_n 0, 1) := by decide +kernel
theorem dX11_sails_28 : decode cX11_sails 28 = .ok (.iconst 0, 1) := by decide +kernel
theorem dX11_sails_29 : decode cX11_sails 29 = .ok (.putfield 261, 3) := by decide +kernel
theorem dX11_sails_32 : decode cX11_sails 32 = .ok (.aload_n 0, 1) := by decide +kernel
theorem dX11_sails_33 : decode cX11_sails 33 = .ok (.getfield 29, 3) := by decide +kernel
theorem dX11_sails_36 : decode cX11_sails 36 = .ok (.iconst 0, 1) := by decide +kernel
theorem dX11_sails_37 : decode cX11_sails 37 = .ok (.aload_n 0, 1) := by decide +kernel
theorem dX11_sails_38 : decode cX11_sails 38 = .ok (.getfield 7, 3) := by decide +kernel
theorem dX11_sails_41 : decode cX11_sails 41 = .ok (.iconst 2, 1) := by decide +kernel
theorem dX11_sails_42 : decode cX11_sails 42 = .ok (.iaload, 1) := by decide +kernel
theorem dX11_sails_43 : decode cX11_sails 43 = .ok (.iastore, 1) := by decide +kernel
theorem dX11_sails_44 : decode cX11_sails 44 = .ok (.aload_n 0, 1) := by decide +kernel
theorem dX11_sails_45 : decode cX11_sails 45 = .ok (.getfield 32, 3) := by decide +kernel
theorem dX11_sails_48 : decode cX11_sails 48 = .ok (.iconst 0, 1) := by decide +kernel
theorem dX11_sails_49 : decode cX11_sails 49 = .ok (.aload_n 0, 1) := by decide +kernel
theorem dX11_sails_50 : decode cX11_sails 50 = .ok (.getfield 7, 3) := by decide +kernel
theorem dX11_sails_53 : decode cX11_sails 53 = .ok (.iconst 3, 1) := by decide +kernel
theorem dX11_sails_54 : decode cX11_sails 54 = .ok (.iaload, 1) := by decide +kernel
theorem dX11_sails_55 : decode cX11_sails 55 = .ok (.iastore, 1) := by decide +kernel
theorem dX11_sails_56 : decode cX11_sails 56 = .ok (.aload_n 0, 1) := by decide +kernel
theorem dX11_sails_57 : decode cX11_sails 57 = .ok (.getfield 35, 3) := by decide +kernel
theorem dX11_sails_60 : decode cX11_sails 60 = .ok (.iconst 0, 1) := by decide +kernel
theorem dX11_sails_61 : decode cX11_sails 61 = .ok (.ldc 75, 2) := by decide +kernel
theorem dX11_sails_63 : decode cX11_sails 63 = .ok (.iastore, 1) := by decide +kernel
theorem dX11_sails_64 : decode cX11_sails 64 = .ok (.iconst 0, 1) := by decide +kernel
theorem dX11_sails_65 : decode cX11_sails 65 = .ok (.istore_n 3, 1) := by decide +kernel
theorem dX11_sails_66 : decode cX11_sails 66 = .ok (.iload_n 3, 1) := by decide +kernel
theorem dX11_sails_67 : decode cX11_sails 67 = .ok (.aload_n 0, 1) := by decide +kernel
theorem dX11_sails_68 : decode cX11_sails 68 = .ok (.getfield 7, 3) := by decide +kernel
theorem dX11_sails_71 : decode cX11_sails 71 = .ok (.bipush 54, 2) := by decide +kernel
theorem dX11_sails_73 : decode cX11_sails 73 = .ok (.iaload, 1) := by decide +kernel
theorem dX11_sails_74 : decode cX11_sails 74 = .ok (.if_icmp .ge 184, 3) := by decide +kernel
theorem dX11_sails_77 : decode cX11_sails 77 = .ok (.aload_n 0, 1) := by decide +kernel
theorem dX11_sails_78 : decode cX11_sails 78 = .ok (.getfield 261, 3) := by decide +kernel
theorem dX11_sails_81 : decode cX11_sails 81 = .ok (.ifCond .ne 177, 3) := by decide +kernel
theorem dX11_sails_84 : decode cX11_sails 84 = .ok (.aload_n 0, 1) := by decide +kernel
theorem dX11_sails_85 : decode cX11_sails 85 = .ok (.getfield 38, 3) := by decide +kernel
theorem dX11_sails_88 : decode cX11_sails 88 = .ok (.iload_n 3, 1) := by decide +kernel
theorem dX11_sails_89 : decode cX11_sails 89 = .ok (.iconst 0, 1) := by decide +kernel
theorem dX11_sails_90 : decode cX11_sails 90 = .ok (.iastore, 1) := by decide +kernel
theorem dX11_sails_91 : decode cX11_sails 91 = .ok (.aload_n 0, 1) := by decide +kernel
theorem dX11_sails_92 : decode cX11_sails 92 = .ok (.iload_n 3, 1) := by decide +kernel
theorem dX11_sails_93 : decode cX11_sails 93 = .ok (.invokevirtual 300, 3) := by decide +kernel
theorem dX11_sails_96 : decode cX11_sails 96 = .ok (.istore 4, 2) := by decide +kernel
theorem dX11_sails_98 : decode cX11_sails 98 = .ok (.iload 4, 2) := by decide +kernel
theorem dX11_sails_100 : decode cX11_sails 100 = .ok (.ldc 75, 2) := by decide +kernel
theorem dX11_sails_102 : decode cX11_sails 102 = .ok (.if_icmp .eq 17, 3) := by decide +kernel
theorem dX11_sails_105 : decode cX11_sails 105 = .ok (.aload_n 0, 1) := by decide +kernel
theorem dX11_sails_106 : decode cX11_sails 106 = .ok (.iconst 1, 1) := by decide +kernel
theorem dX11_sails_107 : decode cX11_sails 107 = .ok (.iload_n 3, 1) := by decide +kernel
theorem dX11_sails_108 : decode cX11_sails 108 = .ok (.invokevirtual 271, 3) := by decide +kernel
theorem dX11_sails_111 : decode cX11_sails 111 = .ok (.aload_n 0, 1) := by decide +kernel
theorem dX11_sails_112 : decode cX11_sails 112 = .ok (.bipush 9, 2) := by decide +kernel
theorem dX11_sails_114 : decode cX11_sails 114 = .ok (.iload 4, 2) := by decide +kernel
theorem dX11_sails_116 : decode cX11_sails 116 = .ok (.invokevirtual 271, 3) := by decide +kernel
theorem dX11_sails_119 : decode cX11_sails 119 = .ok (.aload_n 0, 1) := by decide +kernel
theorem dX11_sails_120 : decode cX11_sails 120 = .ok (.getfield 274, 3) := by decide +kernel
theorem dX11_sails_123 : decode cX11_sails 123 = .ok (.istore 5, 2) := by decide +kernel
