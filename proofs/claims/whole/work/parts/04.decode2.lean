theorem dX6_closeLeg_37 : decode cX6_closeLeg 37 = .ok (.iconst 4, 1) := by decide +kernel
theorem dX6_closeLeg_38 : decode cX6_closeLeg 38 = .ok (.imul, 1) := by decide +kernel
theorem dX6_closeLeg_39 : decode cX6_closeLeg 39 = .ok (.iadd, 1) := by decide +kernel
theorem dX6_closeLeg_40 : decode cX6_closeLeg 40 = .ok (.if_icmp .ge 23, 3) := by decide +kernel
theorem dX6_closeLeg_43 : decode cX6_closeLeg 43 = .ok (.aload_n 0, 1) := by decide +kernel
theorem dX6_closeLeg_44 : decode cX6_closeLeg 44 = .ok (.getfield 11, 3) := by decide +kernel
theorem dX6_closeLeg_47 : decode cX6_closeLeg 47 = .ok (.iload_n 3, 1) := by decide +kernel
theorem dX6_closeLeg_48 : decode cX6_closeLeg 48 = .ok (.aload_n 0, 1) := by decide +kernel
theorem dX6_closeLeg_49 : decode cX6_closeLeg 49 = .ok (.getfield 11, 3) := by decide +kernel
theorem dX6_closeLeg_52 : decode cX6_closeLeg 52 = .ok (.iload_n 3, 1) := by decide +kernel
theorem dX6_closeLeg_53 : decode cX6_closeLeg 53 = .ok (.iconst 4, 1) := by decide +kernel
theorem dX6_closeLeg_54 : decode cX6_closeLeg 54 = .ok (.iadd, 1) := by decide +kernel
theorem dX6_closeLeg_55 : decode cX6_closeLeg 55 = .ok (.iaload, 1) := by decide +kernel
theorem dX6_closeLeg_56 : decode cX6_closeLeg 56 = .ok (.iastore, 1) := by decide +kernel
theorem dX6_closeLeg_57 : decode cX6_closeLeg 57 = .ok (.iinc 3 1, 3) := by decide +kernel
theorem dX6_closeLeg_60 : decode cX6_closeLeg 60 = .ok (.goto (-29), 3) := by decide +kernel
theorem dX6_closeLeg_63 : decode cX6_closeLeg 63 = .ok (.aload_n 0, 1) := by decide +kernel
theorem dX6_closeLeg_64 : decode cX6_closeLeg 64 = .ok (.iload_n 2, 1) := by decide +kernel
theorem dX6_closeLeg_65 : decode cX6_closeLeg 65 = .ok (.iconst 1, 1) := by decide +kernel
theorem dX6_closeLeg_66 : decode cX6_closeLeg 66 = .ok (.isub, 1) := by decide +kernel
theorem dX6_closeLeg_67 : decode cX6_closeLeg 67 = .ok (.invokevirtual 49, 3) := by decide +kernel
theorem dX6_closeLeg_70 : decode cX6_closeLeg 70 = .ok (.return_, 1) := by decide +kernel
theorem dX6_copyFrom_0 : decode cX6_copyFrom 0 = .ok (.aload_n 1, 1) := by decide +kernel
theorem dX6_copyFrom_1 : decode cX6_copyFrom 1 = .ok (.getfield 11, 3) := by decide +kernel
theorem dX6_copyFrom_4 : decode cX6_copyFrom 4 = .ok (.iconst 0, 1) := by decide +kernel
theorem dX6_copyFrom_5 : decode cX6_copyFrom 5 = .ok (.aload_n 0, 1) := by decide +kernel
theorem dX6_copyFrom_6 : decode cX6_copyFrom 6 = .ok (.getfield 11, 3) := by decide +kernel
theorem dX6_copyFrom_9 : decode cX6_copyFrom 9 = .ok (.iconst 0, 1) := by decide +kernel
theorem dX6_copyFrom_10 : decode cX6_copyFrom 10 = .ok (.bipush 78, 2) := by decide +kernel
theorem dX6_copyFrom_12 : decode cX6_copyFrom 12 = .ok (.invokestatic 53, 3) := by decide +kernel
theorem dX6_copyFrom_15 : decode cX6_copyFrom 15 = .ok (.return_, 1) := by decide +kernel
theorem dX6_copyToRow_0 : decode cX6_copyToRow 0 = .ok (.iload_n 2, 1) := by decide +kernel
theorem dX6_copyToRow_1 : decode cX6_copyToRow 1 = .ok (.ifCond .lt 27, 3) := by decide +kernel
theorem dX6_copyToRow_4 : decode cX6_copyToRow 4 = .ok (.iload_n 2, 1) := by decide +kernel
theorem dX6_copyToRow_5 : decode cX6_copyToRow 5 = .ok (.aload_n 1, 1) := by decide +kernel
theorem dX6_copyToRow_6 : decode cX6_copyToRow 6 = .ok (.arraylength, 1) := by decide +kernel
theorem dX6_copyToRow_7 : decode cX6_copyToRow 7 = .ok (.bipush 78, 2) := by decide +kernel
theorem dX6_copyToRow_9 : decode cX6_copyToRow 9 = .ok (.idiv, 1) := by decide +kernel
theorem dX6_copyToRow_10 : decode cX6_copyToRow 10 = .ok (.if_icmp .ge 18, 3) := by decide +kernel
theorem dX6_copyToRow_13 : decode cX6_copyToRow 13 = .ok (.aload_n 0, 1) := by decide +kernel
theorem dX6_copyToRow_14 : decode cX6_copyToRow 14 = .ok (.getfield 11, 3) := by decide +kernel
theorem dX6_copyToRow_17 : decode cX6_copyToRow 17 = .ok (.iconst 0, 1) := by decide +kernel
theorem dX6_copyToRow_18 : decode cX6_copyToRow 18 = .ok (.aload_n 1, 1) := by decide +kernel
theorem dX6_copyToRow_19 : decode cX6_copyToRow 19 = .ok (.iload_n 2, 1) := by decide +kernel
theorem dX6_copyToRow_20 : decode cX6_copyToRow 20 = .ok (.bipush 78, 2) := by decide +kernel
theorem dX6_copyToRow_22 : decode cX6_copyToRow 22 = .ok (.imul, 1) := by decide +kernel
theorem dX6_copyToRow_23 : decode cX6_copyToRow 23 = .ok (.bipush 78, 2) := by decide +kernel
theorem dX6_copyToRow_25 : decode cX6_copyToRow 25 = .ok (.invokestatic 53, 3) := by decide +kernel
theorem dX6_copyToRow_28 : decode cX6_copyToRow 28 = .ok (.return_, 1) := by decide +kernel
theorem dX6_copyFromRow_0 : decode cX6_copyFromRow 0 = .ok (.iload_n 2, 1) := by decide +kernel
theorem dX6_copyFromRow_1 : decode cX6_copyFromRow 1 = .ok (.ifCond .lt 27, 3) := by decide +kernel
theorem dX6_copyFromRow_4 : decode cX6_copyFromRow 4 = .ok (.iload_n 2, 1) := by decide +kernel
theorem dX6_copyFromRow_5 : decode cX6_copyFromRow 5 = .ok (.aload_n 1, 1) := by decide +kernel
theorem dX6_copyFromRow_6 : decode cX6_copyFromRow 6 = .ok (.arraylength, 1) := by decide +kernel
theorem dX6_copyFromRow_7 : decode cX6_copyFromRow 7 = .ok (.bipush 78, 2) := by decide +kernel
theorem dX6_copyFromRow_9 : decode cX6_copyFromRow 9 = .ok (.idiv, 1) := by decide +kernel
theorem dX6_copyFromRow_10 : decode cX6_copyFromRow 10 = .ok (.if_icmp .ge 18, 3) := by decide +kernel
theorem dX6_copyFromRow_13 : decode cX6_copyFromRow 13 = .ok (.aload_n 1, 1) := by decide +kernel
theorem dX6_copyFromRow_14 : decode cX6_copyFromRow 14 = .ok (.iload_n 2, 1) := by decide +kernel
theorem dX6_copyFromRow_15 : decode cX6_copyFromRow 15 = .ok (.bipush 78, 2) := by decide +kernel
theorem dX6_copyFromRow_17 : decode cX6_copyFromRow 17 = .ok (.imul, 1) := by decide +kernel
theorem dX6_copyFromRow_18 : decode cX6_copyFromRow 18 = .ok (.aload_n 0, 1) := by decide +kernel
theorem dX6_copyFromRow_19 : decode cX6_copyFromRow 19 = .ok (.getfield 11, 3) := by decide +kernel
theorem dX6_copyFromRow_22 : decode cX6_copyFromRow 22 = .ok (.iconst 0, 1) := by decide +kernel
theorem dX6_copyFromRow_23 : decode cX6_copyFromRow 23 = .ok (.bipush 78, 2) := by decide +kernel
theorem dX6_copyFromRow_25 : decode cX6_copyFromRow 25 = .ok (.invokestatic 53, 3) := by decide +kernel
theorem dX6_copyFromRow_28 : decode cX6_copyFromRow 28 = .ok (.return_, 1) := by decide +kernel
theorem dX7_init_0 : decode cX7_init 0 = .ok (.aload_n 0, 1) := by decide +kernel
theorem dX7_init_1 : decode cX7_init 1 = .ok (.invokespecial 1, 3) := by decide +kernel
theorem dX7_init_4 : decode cX7_init 4 = .ok (.aload_n 0, 1) := by decide +kernel
theorem dX7_init_5 : decode cX7_init 5 = .ok (.sipush 160, 3) := by decide +kernel
theorem dX7_init_8 : decode cX7_init 8 = .ok (.newarray .int, 2) := by decide +kernel
theorem dX7_init_10 : decode cX7_init 10 = .ok (.putfield 9, 3) := by decide +kernel
theorem dX7_init_13 : decode cX7_init 13 = .ok (.aload_n 0, 1) := by decide +kernel
theorem dX7_init_14 : decode cX7_init 14 = .ok (.iconst 0, 1) := by decide +kernel
theorem dX7_init_15 : decode cX7_init 15 = .ok (.putfield 13, 3) := by decide +kernel
theorem dX7_init_18 : decode cX7_init 18 = .ok (.return_, 1) := by decide +kernel
theorem dX7_size_0 : decode cX7_size 0 = .ok (.aload_n 0, 1) := by decide +kernel
theorem dX7_size_1 : decode cX7_size 1 = .ok (.getfield 13, 3) := by decide +kernel
theorem dX7_size_4 : decode cX7_size 4 = .ok (.ireturn, 1) := by decide +kernel
theorem dX7_isFull_0 : decode cX7_isFull 0 = .ok (.aload_n 0, 1) := by decide +kernel
theorem dX7_isFull_1 : decode cX7_isFull 1 = .ok (.getfield 13, 3) := by decide +kernel
theorem dX7_isFull_4 : decode cX7_isFull 4 = .ok (.sipush 160, 3) := by decide +kernel
theorem dX7_isFull_7 : decode cX7_isFull 7 = .ok (.if_icmp .lt 7, 3) := by decide +kernel
theorem dX7_isFull_10 : decode cX7_isFull 10 = .ok (.iconst 1, 1) := by decide +kernel
theorem dX7_isFull_11 : decode cX7_isFull 11 = .ok (.goto 4, 3) := by decide +kernel
theorem dX7_isFull_14 : decode cX7_isFull 14 = .ok (.iconst 0, 1) := by decide +kernel
theorem dX7_isFull_15 : decode cX7_isFull 15 = .ok (.ireturn, 1) := by decide +kernel
theorem dX7_append_0 : decode cX7_append 0 = .ok (.aload_n 0, 1) := by decide +kernel
theorem dX7_append_1 : decode cX7_append 1 = .ok (.getfield 13, 3) := by decide +kernel
theorem dX7_append_4 : decode cX7_append 4 = .ok (.sipush 160, 3) := by decide +kernel
theorem dX7_append_7 : decode cX7_append 7 = .ok (.if_icmp .ge 23, 3) := by decide +kernel
theorem dX7_append_10 : decode cX7_append 10 = .ok (.aload_n 0, 1) := by decide +kernel
theorem dX7_append_11 : decode cX7_append 11 = .ok (.getfield 9, 3) := by decide +kernel
theorem dX7_append_14 : decode cX7_append 14 = .ok (.aload_n 0, 1) := by decide +kernel
theorem dX7_append_15 : decode cX7_append 15 = .ok (.getfield 13, 3) := by decide +kernel
theorem dX7_append_18 : decode cX7_append 18 = .ok (.iload_n 1, 1) := by decide +kernel
theorem dX7_append_19 : decode cX7_append 19 = .ok (.iastore, 1) := by decide +kernel
theorem dX7_append_20 : decode cX7_append 20 = .ok (.aload_n 0, 1) := by decide +kernel
theorem dX7_append_21 : decode cX7_append 21 = .ok (.dup, 1) := by decide +kernel
theorem dX7_append_22 : decode cX7_append 22 = .ok (.getfield 13, 3) := by decide +kernel
theorem dX7_append_25 : decode cX7_append 25 = .ok (.iconst 1, 1) := by decide +kernel
theorem dX7_append_26 : decode cX7_append 26 = .ok (.iadd, 1) := by decide +kernel
theorem dX7_append_27 : decode cX7_append 27 = .ok (.putfield 13, 3) := by decide +kernel
theorem dX7_append_30 : decode cX7_append 30 = .ok (.aload_n 0, 1) := by decide +kernel
theorem dX7_append_31 : decode cX7_append 31 = .ok (.getfield 13, 3) := by decide +kernel
theorem dX7_append_34 : decode cX7_append 34 = .ok (.ireturn, 1) := by decide +kernel
theorem dX7_clear_0 : decode cX7_clear 0 = .ok (.aload_n 0, 1) := by decide +kernel
theorem dX7_clear_1 : decode cX7_clear 1 = .ok (.iconst 0, 1) := by decide +kernel
theorem dX7_clear_2 : decode cX7_clear 2 = .ok (.putfield 13, 3) := by decide +kernel
theorem dX7_clear_5 : decode cX7_clear 5 = .ok (.return_, 1) := by decide +kernel
theorem dX7_byteAt_0 : decode cX7_byteAt 0 = .ok (.iload_n 1, 1) := by decide +kernel
theorem dX7_byteAt_1 : decode cX7_byteAt 1 = .ok (.ifCond .lt 27, 3) := by decide +kernel
theorem dX7_byteAt_4 : decode cX7_byteAt 4 = .ok (.iload_n 1, 1) := by decide +kernel
theorem dX7_byteAt_5 : decode cX7_byteAt 5 = .ok (.aload_n 0, 1) := by decide +kernel
theorem dX7_byteAt_6 : decode cX7_byteAt 6 = .ok (.getfield 13, 3) := by decide +kernel
theorem dX7_byteAt_9 : decode cX7_byteAt 9 = .ok (.if_icmp .ge 19, 3) := by decide +kernel
theorem dX7_byteAt_12 : decode cX7_byteAt 12 = .ok (.iload_n 1, 1) := by decide +kernel
theorem dX7_byteAt_13 : decode cX7_byteAt 13 = .ok (.sipush 160, 3) := by decide +kernel
theorem dX7_byteAt_16 : decode cX7_byteAt 16 = .ok (.if_icmp .ge 12, 3) := by decide +kernel
theorem dX7_byteAt_19 : decode cX7_byteAt 19 = .ok (.aload_n 0, 1) := by decide +kernel
theorem dX7_byteAt_20 : decode cX7_byteAt 20 = .ok (.getfield 9, 3) := by decide +kernel
theorem dX7_byteAt_23 : decode cX7_byteAt 23 = .ok (.iload_n 1, 1) := by decide +kernel
theorem dX7_byteAt_24 : decode cX7_byteAt 24 = .ok (.iaload, 1) := by decide +kernel
theorem dX7_byteAt_25 : decode cX7_byteAt 25 = .ok (.goto 4, 3) := by decide +kernel
theorem dX7_byteAt_28 : decode cX7_byteAt 28 = .ok (.iconst (-1), 1) := by decide +kernel
theorem dX7_byteAt_29 : decode cX7_byteAt 29 = .ok (.ireturn, 1) := by decide +kernel
theorem dX7_holds_0 : decode cX7_holds 0 = .ok (.aload_n 1, 1) := by decide +kernel
theorem dX7_holds_1 : decode cX7_holds 1 = .ok (.invokevirtual 17, 3) := by decide +kernel
theorem dX7_holds_4 : decode cX7_holds 4 = .ok (.aload_n 0, 1) := by decide +kernel
theorem dX7_holds_5 : decode cX7_holds 5 = .ok (.getfield 13, 3) := by decide +kernel
theorem dX7_holds_8 : decode cX7_holds 8 = .ok (.if_icmp .eq 5, 3) := by decide +kernel
theorem dX7_holds_11 : decode cX7_holds 11 = .ok (.iconst 0, 1) := by decide +kernel
theorem dX7_holds_12 : decode cX7_holds 12 = .ok (.ireturn, 1) := by decide +kernel
theorem dX7_holds_13 : decode cX7_holds 13 = .ok (.iconst 0, 1) := by decide +kernel
theorem dX7_holds_14 : decode cX7_holds 14 = .ok (.istore_n 2, 1) := by decide +kernel
theorem dX7_holds_15 : decode cX7_holds 15 = .ok (.iload_n 2, 1) := by decide +kernel
theorem dX7_holds_16 : decode cX7_holds 16 = .ok (.aload_n 1, 1) := by decide +kernel
theorem dX7_holds_17 : decode cX7_holds 17 = .ok (.invokevirtual 17, 3) := by decide +kernel
theorem dX7_holds_20 : decode cX7_holds 20 = .ok (.if_icmp .ge 24, 3) := by decide +kernel
theorem dX7_holds_23 : decode cX7_holds 23 = .ok (.aload_n 0, 1) := by decide +kernel
theorem dX7_holds_24 : decode cX7_holds 24 = .ok (.iload_n 2, 1) := by decide +kernel
theorem dX7_holds_25 : decode cX7_holds 25 = .ok (.invokevirtual 23, 3) := by decide +kernel
theorem dX7_holds_28 : decode cX7_holds 28 = .ok (.aload_n 1, 1) := by decide +kernel
theorem dX7_holds_29 : decode cX7_holds 29 = .ok (.iload_n 2, 1) := by decide +kernel
theorem dX7_holds_30 : decode cX7_holds 30 = .ok (.invokevirtual 27, 3) := by decide +kernel
theorem dX7_holds_33 : decode cX7_holds 33 = .ok (.if_icmp .eq 5, 3) := by decide +kernel
theorem dX7_holds_36 : decode cX7_holds 36 = .ok (.iconst 0, 1) := by decide +kernel
theorem dX7_holds_37 : decode cX7_holds 37 = .ok (.ireturn, 1) := by decide +kernel
theorem dX7_holds_38 : decode cX7_holds 38 = .ok (.iinc 2 1, 3) := by decide +kernel
theorem dX7_holds_41 : decode cX7_holds 41 = .ok (.goto (-26), 3) := by decide +kernel
theorem dX7_holds_44 : decode cX7_holds 44 = .ok (.iconst 1, 1) := by decide +kernel
theorem dX7_holds_45 : decode cX7_holds 45 = .ok (.ireturn, 1) := by decide +kernel
theorem dX8_init_0 : decode cX8_init 0 = .ok (.aload_n 0, 1) := by decide +kernel
theorem dX8_init_1 : decode cX8_init 1 = .ok (.invokespecial 7, 3) := by decide +kernel
theorem dX8_init_4 : decode cX8_init 4 = .ok (.aload_n 0, 1) := by decide +kernel
theorem dX8_init_5 : decode cX8_init 5 = .ok (.iconst 0, 1) := by decide +kernel
theorem dX8_init_6 : decode cX8_init 6 = .ok (.putfield 13, 3) := by decide +kernel
theorem dX8_init_9 : decode cX8_init 9 = .ok (.aload_n 0, 1) := by decide +kernel
theorem dX8_init_10 : decode cX8_init 10 = .ok (.iconst 0, 1) := by decide +kernel
theorem dX8_init_11 : decode cX8_init 11 = .ok (.putfield 17, 3) := by decide +kernel
theorem dX8_init_14 : decode cX8_init 14 = .ok (.aload_n 0, 1) := by decide +kernel
theorem dX8_init_15 : decode cX8_init 15 = .ok (.iconst 0, 1) := by decide +kernel
theorem dX8_init_16 : decode cX8_init 16 = .ok (.putfield 20, 3) := by decide +kernel
theorem dX8_init_19 : decode cX8_init 19 = .ok (.aload_n 0, 1) := by decide +kernel
theorem dX8_init_20 : decode cX8_init 20 = .ok (.iconst 0, 1) := by decide +kernel
theorem dX8_init_21 : decode cX8_init 21 = .ok (.putfield 23, 3) := by decide +kernel
theorem dX8_init_24 : decode cX8_init 24 = .ok (.aload_n 0, 1) := by decide +kernel
theorem dX8_init_25 : decode cX8_init 25 = .ok (.iconst 0, 1) := by decide +kernel
theorem dX8_init_26 : decode cX8_init 26 = .ok (.putfield 26, 3) := by decide +kernel
theorem dX8_init_29 : decode cX8_init 29 = .ok (.aload_n 0, 1) := by decide +kernel
theorem dX8_init_30 : decode cX8_init 30 = .ok (.iconst 0, 1) := by decide +kernel
theorem dX8_init_31 : decode cX8_init 31 = .ok (.putfield 29, 3) := by decide +kernel
theorem dX8_init_34 : decode cX8_init 34 = .ok (.aload_n 0, 1) := by decide +kernel
theorem dX8_init_35 : decode cX8_init 35 = .ok (.iconst 0, 1) := by decide +kernel
theorem dX8_init_36 : decode cX8_init 36 = .ok (.putfield 32, 3) := by decide +kernel
theorem dX8_init_39 : decode cX8_init 39 = .ok (.aload_n 0, 1) := by decide +kernel
theorem dX8_init_40 : decode cX8_init 40 = .ok (.iconst 0, 1) := by decide +kernel
theorem dX8_init_41 : decode cX8_init 41 = .ok (.putfield 35, 3) := by decide +kernel
theorem dX8_init_44 : decode cX8_init 44 = .ok (.aload_n 0, 1) := by decide +kernel
theorem dX8_init_45 : decode cX8_init 45 = .ok (.ldc 38, 2) := by decide +kernel
theorem dX8_init_47 : decode cX8_init 47 = .ok (.putfield 39, 3) := by decide +kernel
theorem dX8_init_50 : decode cX8_init 50 = .ok (.aload_n 0, 1) := by decide +kernel
theorem dX8_init_51 : decode cX8_init 51 = .ok (.ldc 38, 2) := by decide +kernel
theorem dX8_init_53 : decode cX8_init 53 = .ok (.putfield 42, 3) := by decide +kernel
theorem dX8_init_56 : decode cX8_init 56 = .ok (.aload_n 0, 1) := by decide +kernel
theorem dX8_init_57 : decode cX8_init 57 = .ok (.ldc 38, 2) := by decide +kernel
theorem dX8_init_59 : decode cX8_init 59 = .ok (.putfield 45, 3) := by decide +kernel
theorem dX8_init_62 : decode cX8_init 62 = .ok (.aload_n 0, 1) := by decide +kernel
theorem dX8_init_63 : decode cX8_init 63 = .ok (.sipush 361, 3) := by decide +kernel
theorem dX8_init_66 : decode cX8_init 66 = .ok (.newarray .int, 2) := by decide +kernel
theorem dX8_init_68 : decode cX8_init 68 = .ok (.putfield 48, 3) := by decide +kernel
theorem dX8_init_71 : decode cX8_init 71 = .ok (.aload_n 0, 1) := by decide +kernel
theorem dX8_init_72 : decode cX8_init 72 = .ok (.sipush 361, 3) := by decide +kernel
theorem dX8_init_75 : decode cX8_init 75 = .ok (.newarray .int, 2) := by decide +kernel
theorem dX8_init_77 : decode cX8_init 77 = .ok (.putfield 52, 3) := by decide +kernel
theorem dX8_init_80 : decode cX8_init 80 = .ok (.aload_n 0, 1) := by decide +kernel
theorem dX8_init_81 : decode cX8_init 81 = .ok (.sipush 361, 3) := by decide +kernel
theorem dX8_init_84 : decode cX8_init 84 = .ok (.newarray .int, 2) := by decide +kernel
theorem dX8_init_86 : decode cX8_init 86 = .ok (.putfield 55, 3) := by decide +kernel
theorem dX8_init_89 : decode cX8_init 89 = .ok (.aload_n 0, 1) := by decide +kernel
theorem dX8_init_90 : decode cX8_init 90 = .ok (.bipush 6, 2) := by decide +kernel
theorem dX8_init_92 : decode cX8_init 92 = .ok (.newarray .int, 2) := by decide +kernel
theorem dX8_init_94 : decode cX8_init 94 = .ok (.putfield 58, 3) := by decide +kernel
theorem dX8_init_97 : decode cX8_init 97 = .ok (.aload_n 0, 1) := by decide +kernel
theorem dX8_init_98 : decode cX8_init 98 = .ok (.aload_n 1, 1) := by decide +kernel
theorem dX8_init_99 : decode cX8_init 99 = .ok (.putfield 61, 3) := by decide +kernel
theorem dX8_init_102 : decode cX8_init 102 = .ok (.aload_n 0, 1) := by decide +kernel
theorem dX8_init_103 : decode cX8_init 103 = .ok (.aload_n 2, 1) := by decide +kernel
theorem dX8_init_104 : decode cX8_init 104 = .ok (.putfield 65, 3) := by decide +kernel
theorem dX8_init_107 : decode cX8_init 107 = .ok (.aload_n 0, 1) := by decide +kernel
theorem dX8_init_108 : decode cX8_init 108 = .ok (.new 69, 3) := by decide +kernel
theorem dX8_init_111 : decode cX8_init 111 = .ok (.dup, 1) := by decide +kernel
theorem dX8_init_112 : decode cX8_init 112 = .ok (.aload_n 1, 1) := by decide +kernel
theorem dX8_init_113 : decode cX8_init 113 = .ok (.aload_n 2, 1) := by decide +kernel
theorem dX8_init_114 : decode cX8_init 114 = .ok (.invokespecial 71, 3) := by decide +kernel
theorem dX8_init_117 : decode cX8_init 117 = .ok (.putfield 74, 3) := by decide +kernel
theorem dX8_init_120 : decode cX8_init 120 = .ok (.return_, 1) := by decide +kernel
theorem dX8_make_0 : decode cX8_make 0 = .ok (.aload_n 0, 1) := by decide +kernel
theorem dX8_make_1 : decode cX8_make 1 = .ok (.iload_n 1, 1) := by decide +kernel
theorem dX8_make_2 : decode cX8_make 2 = .ok (.putfield 13, 3) := by decide +kernel
theorem dX8_make_5 : decode cX8_make 5 = .ok (.aload_n 0, 1) := by decide +kernel
theorem dX8_make_6 : decode cX8_make 6 = .ok (.iload_n 2, 1) := by decide +kernel
theorem dX8_make_7 : decode cX8_make 7 = .ok (.putfield 17, 3) := by decide +kernel
theorem dX8_make_10 : decode cX8_make 10 = .ok (.aload_n 0, 1) := by decide +kernel
theorem dX8_make_11 : decode cX8_make 11 = .ok (.iconst 0, 1) := by decide +kernel
theorem dX8_make_12 : decode cX8_make 12 = .ok (.putfield 20, 3) := by decide +kernel
theorem dX8_make_15 : decode cX8_make 15 = .ok (.aload_n 0, 1) := by decide +kernel
theorem dX8_make_16 : decode cX8_make 16 = .ok (.aload_n 0, 1) := by decide +kernel
theorem dX8_make_17 : decode cX8_make 17 = .ok (.getfield 61, 3) := by decide +kernel
theorem dX8_make_20 : decode cX8_make 20 = .ok (.iconst 1, 1) := by decide +kernel
theorem dX8_make_21 : decode cX8_make 21 = .ok (.invokevirtual 78, 3) := by decide +kernel
theorem dX8_make_24 : decode cX8_make 24 = .ok (.putfield 23, 3) := by decide +kernel
theorem dX8_make_27 : decode cX8_make 27 = .ok (.aload_n 0, 1) := by decide +kernel
theorem dX8_make_28 : decode cX8_make 28 = .ok (.aload_n 0, 1) := by decide +kernel
theorem dX8_make_29 : decode cX8_make 29 = .ok (.getfield 61, 3) := by decide +kernel
theorem dX8_make_32 : decode cX8_make 32 = .ok (.iconst 2, 1) := by decide +kernel
theorem dX8_make_33 : decode cX8_make 33 = .ok (.invokevirtual 78, 3) := by decide +kernel
theorem dX8_make_36 : decode cX8_make 36 = .ok (.putfield 26, 3) := by decide +kernel
theorem dX8_make_39 : decode cX8_make 39 = .ok (.aload_n 0, 1) := by decide +kernel
theorem dX8_make_40 : decode cX8_make 40 = .ok (.iconst 0, 1) := by decide +kernel
theorem dX8_make_41 : decode cX8_make 41 = .ok (.putfield 29, 3) := by decide +kernel
theorem dX8_make_44 : decode cX8_make 44 = .ok (.aload_n 0, 1) := by decide +kernel
theorem dX8_make_45 : decode cX8_make 45 = .ok (.iconst 0, 1) := by decide +kernel
theorem dX8_make_46 : decode cX8_make 46 = .ok (.putfield 32, 3) := by decide +kernel
theorem dX8_make_49 : decode cX8_make 49 = .ok (.aload_n 0, 1) := by decide +kernel
theorem dX8_make_50 : decode cX8_make 50 = .ok (.iconst (-1), 1) := by decide +kernel
theorem dX8_make_51 : decode cX8_make 51 = .ok (.putfield 35, 3) := by decide +kernel
theorem dX8_make_54 : decode cX8_make 54 = .ok (.aload_n 0, 1) := by decide +kernel
theorem dX8_make_55 : decode cX8_make 55 = .ok (.ldc 38, 2) := by decide +kernel
theorem dX8_make_57 : decode cX8_make 57 = .ok (.putfield 39, 3) := by decide +kernel
theorem dX8_make_60 : decode cX8_make 60 = .ok (.aload_n 0, 1) := by decide +kernel
theorem dX8_make_61 : decode cX8_make 61 = .ok (.ldc 38, 2) := by decide +kernel
theorem dX8_make_63 : decode cX8_make 63 = .ok (.putfield 42, 3) := by decide +kernel
theorem dX8_make_66 : decode cX8_make 66 = .ok (.aload_n 0, 1) := by decide +kernel
theorem dX8_make_67 : decode cX8_make 67 = .ok (.ldc 38, 2) := by decide +kernel
theorem dX8_make_69 : decode cX8_make 69 = .ok (.putfield 45, 3) := by decide +kernel
theorem dX8_make_72 : decode cX8_make 72 = .ok (.aload_n 0, 1) := by decide +kernel
theorem dX8_make_73 : decode cX8_make 73 = .ok (.ldc 38, 2) := by decide +kernel
theorem dX8_make_75 : decode cX8_make 75 = .ok (.invokevirtual 82, 3) := by decide +kernel
theorem dX8_make_78 : decode cX8_make 78 = .ok (.iconst 0, 1) := by decide +kernel
theorem dX8_make_79 : decode cX8_make 79 = .ok (.istore 6, 2) := by decide +kernel
theorem dX8_make_81 : decode cX8_make 81 = .ok (.iload 6, 2) := by decide +kernel
theorem dX8_make_83 : decode cX8_make 83 = .ok (.aload_n 0, 1) := by decide +kernel
theorem dX8_make_84 : decode cX8_make 84 = .ok (.getfield 61, 3) := by decide +kernel
theorem dX8_make_87 : decode cX8_make 87 = .ok (.invokevirtual 86, 3) := by decide +kernel
theorem dX8_make_90 : decode cX8_make 90 = .ok (.if_icmp .ge 98, 3) := by decide +kernel
theorem dX8_make_93 : decode cX8_make 93 = .ok (.aload_n 0, 1) := by decide +kernel
theorem dX8_make_94 : decode cX8_make 94 = .ok (.getfield 35, 3) := by decide +kernel
theorem dX8_make_97 : decode cX8_make 97 = .ok (.iconst (-1), 1) := by decide +kernel
theorem dX8_make_98 : decode cX8_make 98 = .ok (.if_icmp .ne 90, 3) := by decide +kernel
theorem dX8_make_101 : decode cX8_make 101 = .ok (.iload 6, 2) := by decide +kernel
theorem dX8_make_103 : decode cX8_make 103 = .ok (.iload 4, 2) := by decide +kernel
theorem dX8_make_105 : decode cX8_make 105 = .ok (.if_icmp .ne 8, 3) := by decide +kernel
theorem dX8_make_108 : decode cX8_make 108 = .ok (.iload 5, 2) := by decide +kernel
theorem dX8_make_110 : decode cX8_make 110 = .ok (.goto 13, 3) := by decide +kernel
theorem dX8_make_113 : decode cX8_make 113 = .ok (.aload_n 0, 1) := by decide +kernel
theorem dX8_make_114 : decode cX8_make 114 = .ok (.getfield 61, 3) := by decide +kernel
theorem dX8_make_117 : decode cX8_make 117 = .ok (.iload 6, 2) := by decide +kernel
theorem dX8_make_119 : decode cX8_make 119 = .ok (.iconst 0, 1) := by decide +kernel
theorem dX8_make_120 : decode cX8_make 120 = .ok (.invokevirtual 90, 3) := by decide +kernel
theorem dX8_make_123 : decode cX8_make 123 = .ok (.istore 7, 2) := by decide +kernel
theorem dX8_make_125 : decode cX8_make 125 = .ok (.aload_n 0, 1) := by decide +kernel
theorem dX8_make_126 : decode cX8_make 126 = .ok (.iload 6, 2) := by decide +kernel
theorem dX8_make_128 : decode cX8_make 128 = .ok (.iconst 1, 1) := by decide +kernel
theorem dX8_make_129 : decode cX8_make 129 = .ok (.iadd, 1) := by decide +kernel
theorem dX8_make_130 : decode cX8_make 130 = .ok (.putfield 29, 3) := by decide +kernel
theorem dX8_make_133 : decode cX8_make 133 = .ok (.aload_n 0, 1) := by decide +kernel
theorem dX8_make_134 : decode cX8_make 134 = .ok (.iload 6, 2) := by decide +kernel
theorem dX8_make_136 : decode cX8_make 136 = .ok (.iconst 0, 1) := by decide +kernel
theorem dX8_make_137 : decode cX8_make 137 = .ok (.invokevirtual 94, 3) := by decide +kernel
theorem dX8_make_140 : decode cX8_make 140 = .ok (.aload_n 0, 1) := by decide +kernel
theorem dX8_make_141 : decode cX8_make 141 = .ok (.aload_n 0, 1) := by decide +kernel
theorem dX8_make_142 : decode cX8_make 142 = .ok (.getfield 74, 3) := by decide +kernel
theorem dX8_make_145 : decode cX8_make 145 = .ok (.iload 6, 2) := by decide +kernel
theorem dX8_make_147 : decode cX8_make 147 = .ok (.iload 7, 2) := by decide +kernel
theorem dX8_make_149 : decode cX8_make 149 = .ok (.iload_n 3, 1) := by decide +kernel
theorem dX8_make_150 : decode cX8_make 150 = .ok (.invokevirtual 98, 3) := by decide +kernel
theorem dX8_make_153 : decode cX8_make 153 = .ok (.putfield 39, 3) := by decide +kernel
theorem dX8_make_156 : decode cX8_make 156 = .ok (.aload_n 0, 1) := by decide +kernel
theorem dX8_make_157 : decode cX8_make 157 = .ok (.getfield 39, 3) := by decide +kernel
theorem dX8_make_160 : decode cX8_make 160 = .ok (.ldc 38, 2) := by decide +kernel
theorem dX8_make_162 : decode cX8_make 162 = .ok (.if_icmp .eq 12, 3) := by decide +kernel
theorem dX8_make_165 : decode cX8_make 165 = .ok (.aload_n 0, 1) := by decide +kernel
theorem dX8_make_166 : decode cX8_make 166 = .ok (.bipush 9, 2) := by decide +kernel
theorem dX8_make_168 : decode cX8_make 168 = .ok (.putfield 35, 3) := by decide +kernel
theorem dX8_make_171 : decode cX8_make 171 = .ok (.goto 11, 3) := by decide +kernel
theorem dX8_make_174 : decode cX8_make 174 = .ok (.aload_n 0, 1) := by decide +kernel
theorem dX8_make_175 : decode cX8_make 175 = .ok (.iload 6, 2) := by decide +kernel
theorem dX8_make_177 : decode cX8_make 177 = .ok (.iload 7, 2) := by decide +kernel
theorem dX8_make_179 : decode cX8_make 179 = .ok (.invokevirtual 102, 3) := by decide +kernel
theorem dX8_make_182 : decode cX8_make 182 = .ok (.iinc 6 1, 3) := by decide +kernel
theorem dX8_make_185 : decode cX8_make 185 = .ok (.goto (-104), 3) := by decide +kernel
theorem dX8_make_188 : decode cX8_make 188 = .ok (.aload_n 0, 1) := by decide +kernel
theorem dX8_make_189 : decode cX8_make 189 = .ok (.getfield 35, 3) := by decide +kernel
theorem dX8_make_192 : decode cX8_make 192 = .ok (.iconst (-1), 1) := by decide +kernel
theorem dX8_make_193 : decode cX8_make 193 = .ok (.if_icmp .ne 22, 3) := by decide +kernel
theorem dX8_make_196 : decode cX8_make 196 = .ok (.aload_n 0, 1) := by decide +kernel
theorem dX8_make_197 : decode cX8_make 197 = .ok (.aload_n 0, 1) := by decide +kernel
theorem dX8_make_198 : decode cX8_make 198 = .ok (.invokevirtual 105, 3) := by decide +kernel
theorem dX8_make_201 : decode cX8_make 201 = .ok (.bipush 9, 2) := by decide +kernel
theorem dX8_make_203 : decode cX8_make 203 = .ok (.if_icmp .gt 7, 3) := by decide +kernel
theorem dX8_make_206 : decode cX8_make 206 = .ok (.iconst 0, 1) := by decide +kernel
theorem dX8_make_207 : decode cX8_make 207 = .ok (.goto 5, 3) := by decide +kernel
theorem dX8_make_210 : decode cX8_make 210 = .ok (.bipush 10, 2) := by decide +kernel
theorem dX8_make_212 : decode cX8_make 212 = .ok (.putfield 35, 3) := by decide +kernel
theorem dX8_make_215 : decode cX8_make 215 = .ok (.return_, 1) := by decide +kernel
theorem dX8_goLeg_0 : decode cX8_goLeg 0 = .ok (.aload_n 0, 1) := by decide +kernel
theorem dX8_goLeg_1 : decode cX8_goLeg 1 = .ok (.getfield 74, 3) := by decide +kernel
theorem dX8_goLeg_4 : decode cX8_goLeg 4 = .ok (.aload_n 0, 1) := by decide +kernel
theorem dX8_goLeg_5 : decode cX8_goLeg 5 = .ok (.getfield 23, 3) := by decide +kernel
theorem dX8_goLeg_8 : decode cX8_goLeg 8 = .ok (.aload_n 0, 1) := by decide +kernel
theorem dX8_goLeg_9 : decode cX8_goLeg 9 = .ok (.getfield 26, 3) := by decide +kernel
theorem dX8_goLeg_12 : decode cX8_goLeg 12 = .ok (.aload_n 0, 1) := by decide +kernel
theorem dX8_goLeg_13 : decode cX8_goLeg 13 = .ok (.getfield 65, 3) := by decide +kernel
theorem dX8_goLeg_16 : decode cX8_goLeg 16 = .ok (.aload_n 0, 1) := by decide +kernel
theorem dX8_goLeg_17 : decode cX8_goLeg 17 = .ok (.getfield 13, 3) := by decide +kernel
theorem dX8_goLeg_20 : decode cX8_goLeg 20 = .ok (.aload_n 0, 1) := by decide +kernel
theorem dX8_goLeg_21 : decode cX8_goLeg 21 = .ok (.getfield 20, 3) := by decide +kernel
theorem dX8_goLeg_24 : decode cX8_goLeg 24 = .ok (.iadd, 1) := by decide +kernel
theorem dX8_goLeg_25 : decode cX8_goLeg 25 = .ok (.invokevirtual 108, 3) := by decide +kernel
theorem dX8_goLeg_28 : decode cX8_goLeg 28 = .ok (.invokevirtual 113, 3) := by decide +kernel
theorem dX8_goLeg_31 : decode cX8_goLeg 31 = .ok (.iconst 1, 1) := by decide +kernel
theorem dX8_goLeg_32 : decode cX8_goLeg 32 = .ok (.istore_n 3, 1) := by decide +kernel
theorem dX8_goLeg_33 : decode cX8_goLeg 33 = .ok (.iload_n 3, 1) := by decide +kernel
theorem dX8_goLeg_34 : decode cX8_goLeg 34 = .ok (.bipush 60, 2) := by decide +kernel
theorem dX8_goLeg_36 : decode cX8_goLeg 36 = .ok (.if_icmp .gt 171, 3) := by decide +kernel
theorem dX8_goLeg_39 : decode cX8_goLeg 39 = .ok (.aload_n 0, 1) := by decide +kernel
theorem dX8_goLeg_40 : decode cX8_goLeg 40 = .ok (.dup, 1) := by decide +kernel
theorem dX8_goLeg_41 : decode cX8_goLeg 41 = .ok (.getfield 23, 3) := by decide +kernel
theorem dX8_goLeg_44 : decode cX8_goLeg 44 = .ok (.iload_n 2, 1) := by decide +kernel
theorem dX8_goLeg_45 : decode cX8_goLeg 45 = .ok (.invokestatic 117, 3) := by decide +kernel
theorem dX8_goLeg_48 : decode cX8_goLeg 48 = .ok (.iadd, 1) := by decide +kernel
theorem dX8_goLeg_49 : decode cX8_goLeg 49 = .ok (.putfield 23, 3) := by decide +kernel
theorem dX8_goLeg_52 : decode cX8_goLeg 52 = .ok (.aload_n 0, 1) := by decide +kernel
theorem dX8_goLeg_53 : decode cX8_goLeg 53 = .ok (.dup, 1) := by decide +kernel
theorem dX8_goLeg_54 : decode cX8_goLeg 54 = .ok (.getfield 26, 3) := by decide +kernel
theorem dX8_goLeg_57 : decode cX8_goLeg 57 = .ok (.iload_n 2, 1) := by decide +kernel
theorem dX8_goLeg_58 : decode cX8_goLeg 58 = .ok (.invokestatic 122, 3) := by decide +kernel
theorem dX8_goLeg_61 : decode cX8_goLeg 61 = .ok (.iadd, 1) := by decide +kernel
theorem dX8_goLeg_62 : decode cX8_goLeg 62 = .ok (.putfield 26, 3) := by decide +kernel
theorem dX8_goLeg_65 : decode cX8_goLeg 65 = .ok (.aload_n 0, 1) := by decide +kernel
theorem dX8_goLeg_66 : decode cX8_goLeg 66 = .ok (.dup, 1) := by decide +kernel
theorem dX8_goLeg_67 : decode cX8_goLeg 67 = .ok (.getfield 20, 3) := by decide +kernel
theorem dX8_goLeg_70 : decode cX8_goLeg 70 = .ok (.iconst 1, 1) := by decide +kernel
theorem dX8_goLeg_71 : decode cX8_goLeg 71 = .ok (.iadd, 1) := by decide +kernel
theorem dX8_goLeg_72 : decode cX8_goLeg 72 = .ok (.putfield 20, 3) := by decide +kernel
theorem dX8_goLeg_75 : decode cX8_goLeg 75 = .ok (.aload_n 0, 1) := by decide +kernel
theorem dX8_goLeg_76 : decode cX8_goLeg 76 = .ok (.iload_n 1, 1) := by decide +kernel
theorem dX8_goLeg_77 : decode cX8_goLeg 77 = .ok (.invokevirtual 82, 3) := by decide +kernel
theorem dX8_goLeg_80 : decode cX8_goLeg 80 = .ok (.aload_n 0, 1) := by decide +kernel
theorem dX8_goLeg_81 : decode cX8_goLeg 81 = .ok (.iload_n 1, 1) := by decide +kernel
theorem dX8_goLeg_82 : decode cX8_goLeg 82 = .ok (.iload_n 3, 1) := by decide +kernel
theorem dX8_goLeg_83 : decode cX8_goLeg 83 = .ok (.invokevirtual 94, 3) := by decide +kernel
theorem dX8_goLeg_86 : decode cX8_goLeg 86 = .ok (.aload_n 0, 1) := by decide +kernel
theorem dX8_goLeg_87 : decode cX8_goLeg 87 = .ok (.getfield 23, 3) := by decide +kernel
theorem dX8_goLeg_90 : decode cX8_goLeg 90 = .ok (.aload_n 0, 1) := by decide +kernel
theorem dX8_goLeg_91 : decode cX8_goLeg 91 = .ok (.getfield 26, 3) := by decide +kernel
theorem dX8_goLeg_94 : decode cX8_goLeg 94 = .ok (.invokestatic 125, 3) := by decide +kernel
theorem dX8_goLeg_97 : decode cX8_goLeg 97 = .ok (.ifCond .ne 9, 3) := by decide +kernel
theorem dX8_goLeg_100 : decode cX8_goLeg 100 = .ok (.aload_n 0, 1) := by decide +kernel
theorem dX8_goLeg_101 : decode cX8_goLeg 101 = .ok (.iconst 3, 1) := by decide +kernel
theorem dX8_goLeg_102 : decode cX8_goLeg 102 = .ok (.putfield 35, 3) := by decide +kernel
theorem dX8_goLeg_105 : decode cX8_goLeg 105 = .ok (.return_, 1) := by decide +kernel
theorem dX8_goLeg_106 : decode cX8_goLeg 106 = .ok (.aload_n 0, 1) := by decide +kernel
theorem dX8_goLeg_107 : decode cX8_goLeg 107 = .ok (.getfield 65, 3) := by decide +kernel
theorem dX8_goLeg_110 : decode cX8_goLeg 110 = .ok (.aload_n 0, 1) := by decide +kernel
theorem dX8_goLeg_111 : decode cX8_goLeg 111 = .ok (.getfield 13, 3) := by decide +kernel
theorem dX8_goLeg_114 : decode cX8_goLeg 114 = .ok (.aload_n 0, 1) := by decide +kernel
theorem dX8_goLeg_115 : decode cX8_goLeg 115 = .ok (.getfield 20, 3) := by decide +kernel
theorem dX8_goLeg_118 : decode cX8_goLeg 118 = .ok (.iadd, 1) := by decide +kernel
theorem dX8_goLeg_119 : decode cX8_goLeg 119 = .ok (.invokevirtual 108, 3) := by decide +kernel
theorem dX8_goLeg_122 : decode cX8_goLeg 122 = .ok (.istore 4, 2) := by decide +kernel
theorem dX8_goLeg_124 : decode cX8_goLeg 124 = .ok (.aload_n 0, 1) := by decide +kernel
theorem dX8_goLeg_125 : decode cX8_goLeg 125 = .ok (.getfield 65, 3) := by decide +kernel
theorem dX8_goLeg_128 : decode cX8_goLeg 128 = .ok (.aload_n 0, 1) := by decide +kernel
theorem dX8_goLeg_129 : decode cX8_goLeg 129 = .ok (.getfield 23, 3) := by decide +kernel
theorem dX8_goLeg_132 : decode cX8_goLeg 132 = .ok (.aload_n 0, 1) := by decide +kernel
theorem dX8_goLeg_133 : decode cX8_goLeg 133 = .ok (.getfield 26, 3) := by decide +kernel
theorem dX8_goLeg_136 : decode cX8_goLeg 136 = .ok (.invokevirtual 129, 3) := by decide +kernel
theorem dX8_goLeg_139 : decode cX8_goLeg 139 = .ok (.iload 4, 2) := by decide +kernel
theorem dX8_goLeg_141 : decode cX8_goLeg 141 = .ok (.iadd, 1) := by decide +kernel
theorem dX8_goLeg_142 : decode cX8_goLeg 142 = .ok (.istore 5, 2) := by decide +kernel
theorem dX8_goLeg_144 : decode cX8_goLeg 144 = .ok (.aload_n 0, 1) := by decide +kernel
theorem dX8_goLeg_145 : decode cX8_goLeg 145 = .ok (.iload 5, 2) := by decide +kernel
theorem dX8_goLeg_147 : decode cX8_goLeg 147 = .ok (.aload_n 0, 1) := by decide +kernel
theorem dX8_goLeg_148 : decode cX8_goLeg 148 = .ok (.getfield 17, 3) := by decide +kernel
theorem dX8_goLeg_151 : decode cX8_goLeg 151 = .ok (.isub, 1) := by decide +kernel
theorem dX8_goLeg_152 : decode cX8_goLeg 152 = .ok (.invokevirtual 132, 3) := by decide +kernel
theorem dX8_goLeg_155 : decode cX8_goLeg 155 = .ok (.iload 5, 2) := by decide +kernel
theorem dX8_goLeg_157 : decode cX8_goLeg 157 = .ok (.aload_n 0, 1) := by decide +kernel
theorem dX8_goLeg_158 : decode cX8_goLeg 158 = .ok (.getfield 17, 3) := by decide +kernel
theorem dX8_goLeg_161 : decode cX8_goLeg 161 = .ok (.if_icmp .ge 9, 3) := by decide +kernel
theorem dX8_goLeg_164 : decode cX8_goLeg 164 = .ok (.aload_n 0, 1) := by decide +kernel
theorem dX8_goLeg_165 : decode cX8_goLeg 165 = .ok (.iconst 4, 1) := by decide +kernel
theorem dX8_goLeg_166 : decode cX8_goLeg 166 = .ok (.putfield 35, 3) := by decide +kernel
theorem dX8_goLeg_169 : decode cX8_goLeg 169 = .ok (.return_, 1) := by decide +kernel
theorem dX8_goLeg_170 : decode cX8_goLeg 170 = .ok (.aload_n 0, 1) := by decide +kernel
theorem dX8_goLeg_171 : decode cX8_goLeg 171 = .ok (.getfield 74, 3) := by decide +kernel
theorem dX8_goLeg_174 : decode cX8_goLeg 174 = .ok (.iload_n 3, 1) := by decide +kernel
theorem dX8_goLeg_175 : decode cX8_goLeg 175 = .ok (.aload_n 0, 1) := by decide +kernel
theorem dX8_goLeg_176 : decode cX8_goLeg 176 = .ok (.getfield 23, 3) := by decide +kernel
theorem dX8_goLeg_179 : decode cX8_goLeg 179 = .ok (.aload_n 0, 1) := by decide +kernel
theorem dX8_goLeg_180 : decode cX8_goLeg 180 = .ok (.getfield 26, 3) := by decide +kernel
theorem dX8_goLeg_183 : decode cX8_goLeg 183 = .ok (.iload 4, 2) := by decide +kernel
theorem dX8_goLeg_185 : decode cX8_goLeg 185 = .ok (.iload 5, 2) := by decide +kernel
theorem dX8_goLeg_187 : decode cX8_goLeg 187 = .ok (.invokevirtual 135, 3) := by decide +kernel
theorem dX8_goLeg_190 : decode cX8_goLeg 190 = .ok (.ifCond .eq 11, 3) := by decide +kernel
theorem dX8_goLeg_193 : decode cX8_goLeg 193 = .ok (.aload_n 0, 1) := by decide +kernel
theorem dX8_goLeg_194 : decode cX8_goLeg 194 = .ok (.iload_n 1, 1) := by decide +kernel
theorem dX8_goLeg_195 : decode cX8_goLeg 195 = .ok (.iconst 1, 1) := by decide +kernel
theorem dX8_goLeg_196 : decode cX8_goLeg 196 = .ok (.iadd, 1) := by decide +kernel
theorem dX8_goLeg_197 : decode cX8_goLeg 197 = .ok (.putfield 32, 3) := by decide +kernel
theorem dX8_goLeg_200 : decode cX8_goLeg 200 = .ok (.return_, 1) := by decide +kernel
theorem dX8_goLeg_201 : decode cX8_goLeg 201 = .ok (.iinc 3 1, 3) := by decide +kernel
theorem dX8_goLeg_204 : decode cX8_goLeg 204 = .ok (.goto (-171), 3) := by decide +kernel
theorem dX8_goLeg_207 : decode cX8_goLeg 207 = .ok (.aload_n 0, 1) := by decide +kernel
theorem dX8_goLeg_208 : decode cX8_goLeg 208 = .ok (.iconst 5, 1) := by decide +kernel
theorem dX8_goLeg_209 : decode cX8_goLeg 209 = .ok (.putfield 35, 3) := by decide +kernel
theorem dX8_goLeg_212 : decode cX8_goLeg 212 = .ok (.return_, 1) := by decide +kernel
theorem dX8_noteTrack_0 : decode cX8_noteTrack 0 = .ok (.aload_n 0, 1) := by decide +kernel
theorem dX8_noteTrack_1 : decode cX8_noteTrack 1 = .ok (.getfield 20, 3) := by decide +kernel
theorem dX8_noteTrack_4 : decode cX8_noteTrack 4 = .ok (.ifCond .lt 49, 3) := by decide +kernel
theorem dX8_noteTrack_7 : decode cX8_noteTrack 7 = .ok (.aload_n 0, 1) := by decide +kernel
theorem dX8_noteTrack_8 : decode cX8_noteTrack 8 = .ok (.getfield 20, 3) := by decide +kernel
theorem dX8_noteTrack_11 : decode cX8_noteTrack 11 = .ok (.sipush 360, 3) := by decide +kernel
theorem dX8_noteTrack_14 : decode cX8_noteTrack 14 = .ok (.if_icmp .gt 39, 3) := by decide +kernel
theorem dX8_noteTrack_17 : decode cX8_noteTrack 17 = .ok (.aload_n 0, 1) := by decide +kernel
theorem dX8_noteTrack_18 : decode cX8_noteTrack 18 = .ok (.getfield 48, 3) := by decide +kernel
theorem dX8_noteTrack_21 : decode cX8_noteTrack 21 = .ok (.aload_n 0, 1) := by decide +kernel
theorem dX8_noteTrack_22 : decode cX8_noteTrack 22 = .ok (.getfield 20, 3) := by decide +kernel
theorem dX8_noteTrack_25 : decode cX8_noteTrack 25 = .ok (.aload_n 0, 1) := by decide +kernel
theorem dX8_noteTrack_26 : decode cX8_noteTrack 26 = .ok (.getfield 23, 3) := by decide +kernel
theorem dX8_noteTrack_29 : decode cX8_noteTrack 29 = .ok (.iastore, 1) := by decide +kernel
theorem dX8_noteTrack_30 : decode cX8_noteTrack 30 = .ok (.aload_n 0, 1) := by decide +kernel
theorem dX8_noteTrack_31 : decode cX8_noteTrack 31 = .ok (.getfield 52, 3) := by decide +kernel
theorem dX8_noteTrack_34 : decode cX8_noteTrack 34 = .ok (.aload_n 0, 1) := by decide +kernel
theorem dX8_noteTrack_35 : decode cX8_noteTrack 35 = .ok (.getfield 20, 3) := by decide +kernel
theorem dX8_noteTrack_38 : decode cX8_noteTrack 38 = .ok (.aload_n 0, 1) := by decide +kernel
theorem dX8_noteTrack_39 : decode cX8_noteTrack 39 = .ok (.getfield 26, 3) := by decide +kernel
theorem dX8_noteTrack_42 : decode cX8_noteTrack 42 = .ok (.iastore, 1) := by decide +kernel
theorem dX8_noteTrack_43 : decode cX8_noteTrack 43 = .ok (.aload_n 0, 1) := by decide +kernel
theorem dX8_noteTrack_44 : decode cX8_noteTrack 44 = .ok (.getfield 55, 3) := by decide +kernel
theorem dX8_noteTrack_47 : decode cX8_noteTrack 47 = .ok (.aload_n 0, 1) := by decide +kernel
theorem dX8_noteTrack_48 : decode cX8_noteTrack 48 = .ok (.getfield 20, 3) := by decide +kernel
theorem dX8_noteTrack_51 : decode cX8_noteTrack 51 = .ok (.iload_n 1, 1) := by decide +kernel
theorem dX8_noteTrack_52 : decode cX8_noteTrack 52 = .ok (.iastore, 1) := by decide +kernel
theorem dX8_noteTrack_53 : decode cX8_noteTrack 53 = .ok (.return_, 1) := by decide +kernel
theorem dX8_noteMinutes_0 : decode cX8_noteMinutes 0 = .ok (.iload_n 1, 1) := by decide +kernel
theorem dX8_noteMinutes_1 : decode cX8_noteMinutes 1 = .ok (.ifCond .lt 16, 3) := by decide +kernel
theorem dX8_noteMinutes_4 : decode cX8_noteMinutes 4 = .ok (.iload_n 1, 1) := by decide +kernel
theorem dX8_noteMinutes_5 : decode cX8_noteMinutes 5 = .ok (.bipush 6, 2) := by decide +kernel
theorem dX8_noteMinutes_7 : decode cX8_noteMinutes 7 = .ok (.if_icmp .ge 10, 3) := by decide +kernel
theorem dX8_noteMinutes_10 : decode cX8_noteMinutes 10 = .ok (.aload_n 0, 1) := by decide +kernel
theorem dX8_noteMinutes_11 : decode cX8_noteMinutes 11 = .ok (.getfield 58, 3) := by decide +kernel
theorem dX8_noteMinutes_14 : decode cX8_noteMinutes 14 = .ok (.iload_n 1, 1) := by decide +kernel
theorem dX8_noteMinutes_15 : decode cX8_noteMinutes 15 = .ok (.iload_n 2, 1) := by decide +kernel
theorem dX8_noteMinutes_16 : decode cX8_noteMinutes 16 = .ok (.iastore, 1) := by decide +kernel
theorem dX8_noteMinutes_17 : decode cX8_noteMinutes 17 = .ok (.return_, 1) := by decide +kernel
theorem dX8_noteKeel_0 : decode cX8_noteKeel 0 = .ok (.aload_n 0, 1) := by decide +kernel
theorem dX8_noteKeel_1 : decode cX8_noteKeel 1 = .ok (.getfield 45, 3) := by decide +kernel
theorem dX8_noteKeel_4 : decode cX8_noteKeel 4 = .ok (.ldc 38, 2) := by decide +kernel
theorem dX8_noteKeel_6 : decode cX8_noteKeel 6 = .ok (.if_icmp .eq 11, 3) := by decide +kernel
theorem dX8_noteKeel_9 : decode cX8_noteKeel 9 = .ok (.iload_n 1, 1) := by decide +kernel
theorem dX8_noteKeel_10 : decode cX8_noteKeel 10 = .ok (.aload_n 0, 1) := by decide +kernel
theorem dX8_noteKeel_11 : decode cX8_noteKeel 11 = .ok (.getfield 42, 3) := by decide +kernel
theorem dX8_noteKeel_14 : decode cX8_noteKeel 14 = .ok (.if_icmp .ge 16, 3) := by decide +kernel
theorem dX8_noteKeel_17 : decode cX8_noteKeel 17 = .ok (.aload_n 0, 1) := by decide +kernel
theorem dX8_noteKeel_18 : decode cX8_noteKeel 18 = .ok (.iload_n 1, 1) := by decide +kernel
theorem dX8_noteKeel_19 : decode cX8_noteKeel 19 = .ok (.putfield 42, 3) := by decide +kernel
theorem dX8_noteKeel_22 : decode cX8_noteKeel 22 = .ok (.aload_n 0, 1) := by decide +kernel
theorem dX8_noteKeel_23 : decode cX8_noteKeel 23 = .ok (.aload_n 0, 1) := by decide +kernel
theorem dX8_noteKeel_24 : decode cX8_noteKeel 24 = .ok (.getfield 20, 3) := by decide +kernel
theorem dX8_noteKeel_27 : decode cX8_noteKeel 27 = .ok (.putfield 45, 3) := by decide +kernel
theorem dX8_noteKeel_30 : decode cX8_noteKeel 30 = .ok (.return_, 1) := by decide +kernel
theorem dX8_arrives_0 : decode cX8_arrives 0 = .ok (.aload_n 0, 1) := by decide +kernel
theorem dX8_arrives_1 : decode cX8_arrives 1 = .ok (.getfield 35, 3) := by decide +kernel
theorem dX8_arrives_4 : decode cX8_arrives 4 = .ok (.ifCond .ne 7, 3) := by decide +kernel
theorem dX8_arrives_7 : decode cX8_arrives 7 = .ok (.iconst 1, 1) := by decide +kernel
theorem dX8_arrives_8 : decode cX8_arrives 8 = .ok (.goto 4, 3) := by decide +kernel
theorem dX8_arrives_11 : decode cX8_arrives 11 = .ok (.iconst 0, 1) := by decide +kernel
theorem dX8_arrives_12 : decode cX8_arrives 12 = .ok (.ireturn, 1) := by decide +kernel
theorem dX8_harbourSquare_0 : decode cX8_harbourSquare 0 = .ok (.aload_n 0, 1) := by decide +kernel
theorem dX8_harbourSquare_1 : decode cX8_harbourSquare 1 = .ok (.getfield 23, 3) := by decide +kernel
theorem dX8_harbourSquare_4 : decode cX8_harbourSquare 4 = .ok (.aload_n 0, 1) := by decide +kernel
theorem dX8_harbourSquare_5 : decode cX8_harbourSquare 5 = .ok (.getfield 61, 3) := by decide +kernel
theorem dX8_harbourSquare_8 : decode cX8_harbourSquare 8 = .ok (.iconst 3, 1) := by decide +kernel
theorem dX8_harbourSquare_9 : decode cX8_harbourSquare 9 = .ok (.invokevirtual 78, 3) := by decide +kernel
theorem dX8_harbourSquare_12 : decode cX8_harbourSquare 12 = .ok (.isub, 1) := by decide +kernel
theorem dX8_harbourSquare_13 : decode cX8_harbourSquare 13 = .ok (.istore_n 1, 1) := by decide +kernel
theorem dX8_harbourSquare_14 : decode cX8_harbourSquare 14 = .ok (.aload_n 0, 1) := by decide +kernel
theorem dX8_harbourSquare_15 : decode cX8_harbourSquare 15 = .ok (.getfield 26, 3) := by decide +kernel
theorem dX8_harbourSquare_18 : decode cX8_harbourSquare 18 = .ok (.aload_n 0, 1) := by decide +kernel
theorem dX8_harbourSquare_19 : decode cX8_harbourSquare 19 = .ok (.getfield 61, 3) := by decide +kernel
theorem dX8_harbourSquare_22 : decode cX8_harbourSquare 22 = .ok (.iconst 4, 1) := by decide +kernel
theorem dX8_harbourSquare_23 : decode cX8_harbourSquare 23 = .ok (.invokevirtual 78, 3) := by decide +kernel
theorem dX8_harbourSquare_26 : decode cX8_harbourSquare 26 = .ok (.isub, 1) := by decide +kernel
theorem dX8_harbourSquare_27 : decode cX8_harbourSquare 27 = .ok (.istore_n 2, 1) := by decide +kernel
theorem dX8_harbourSquare_28 : decode cX8_harbourSquare 28 = .ok (.iload_n 1, 1) := by decide +kernel
theorem dX8_harbourSquare_29 : decode cX8_harbourSquare 29 = .ok (.iload_n 1, 1) := by decide +kernel
theorem dX8_harbourSquare_30 : decode cX8_harbourSquare 30 = .ok (.imul, 1) := by decide +kernel
theorem dX8_harbourSquare_31 : decode cX8_harbourSquare 31 = .ok (.iload_n 2, 1) := by decide +kernel
theorem dX8_harbourSquare_32 : decode cX8_harbourSquare 32 = .ok (.iload_n 2, 1) := by decide +kernel
theorem dX8_harbourSquare_33 : decode cX8_harbourSquare 33 = .ok (.imul, 1) := by decide +kernel
theorem dX8_harbourSquare_34 : decode cX8_harbourSquare 34 = .ok (.iadd, 1) := by decide +kernel
theorem dX8_harbourSquare_35 : decode cX8_harbourSquare 35 = .ok (.ireturn, 1) := by decide +kernel
theorem dX8_minutesOf_0 : decode cX8_minutesOf 0 = .ok (.iload_n 1, 1) := by decide +kernel
theorem dX8_minutesOf_1 : decode cX8_minutesOf 1 = .ok (.ifCond .lt 18, 3) := by decide +kernel
theorem dX8_minutesOf_4 : decode cX8_minutesOf 4 = .ok (.iload_n 1, 1) := by decide +kernel
theorem dX8_minutesOf_5 : decode cX8_minutesOf 5 = .ok (.bipush 6, 2) := by decide +kernel
theorem dX8_minutesOf_7 : decode cX8_minutesOf 7 = .ok (.if_icmp .ge 12, 3) := by decide +kernel
theorem dX8_minutesOf_10 : decode cX8_minutesOf 10 = .ok (.aload_n 0, 1) := by decide +kernel
theorem dX8_minutesOf_11 : decode cX8_minutesOf 11 = .ok (.getfield 58, 3) := by decide +kernel
theorem dX8_minutesOf_14 : decode cX8_minutesOf 14 = .ok (.iload_n 1, 1) := by decide +kernel
theorem dX8_minutesOf_15 : decode cX8_minutesOf 15 = .ok (.iaload, 1) := by decide +kernel
theorem dX8_minutesOf_16 : decode cX8_minutesOf 16 = .ok (.goto 4, 3) := by decide +kernel
theorem dX8_minutesOf_19 : decode cX8_minutesOf 19 = .ok (.iconst 0, 1) := by decide +kernel
theorem dX8_minutesOf_20 : decode cX8_minutesOf 20 = .ok (.ireturn, 1) := by decide +kernel
theorem dX8_trackCell_0 : decode cX8_trackCell 0 = .ok (.iload_n 1, 1) := by decide +kernel
theorem dX8_trackCell_1 : decode cX8_trackCell 1 = .ok (.ifCond .lt 18, 3) := by decide +kernel
theorem dX8_trackCell_4 : decode cX8_trackCell 4 = .ok (.iload_n 1, 1) := by decide +kernel
theorem dX8_trackCell_5 : decode cX8_trackCell 5 = .ok (.aload_n 0, 1) := by decide +kernel
theorem dX8_trackCell_6 : decode cX8_trackCell 6 = .ok (.getfield 20, 3) := by decide +kernel
theorem dX8_trackCell_9 : decode cX8_trackCell 9 = .ok (.if_icmp .gt 10, 3) := by decide +kernel
theorem dX8_trackCell_12 : decode cX8_trackCell 12 = .ok (.iload_n 1, 1) := by decide +kernel
theorem dX8_trackCell_13 : decode cX8_trackCell 13 = .ok (.sipush 360, 3) := by decide +kernel
theorem dX8_trackCell_16 : decode cX8_trackCell 16 = .ok (.if_icmp .le 6, 3) := by decide +kernel
theorem dX8_trackCell_19 : decode cX8_trackCell 19 = .ok (.ldc 38, 2) := by decide +kernel
theorem dX8_trackCell_21 : decode cX8_trackCell 21 = .ok (.ireturn, 1) := by decide +kernel
theorem dX8_trackCell_22 : decode cX8_trackCell 22 = .ok (.iload_n 2, 1) := by decide +kernel
theorem dX8_trackCell_23 : decode cX8_trackCell 23 = .ok (.ifCond .ne 12, 3) := by decide +kernel
theorem dX8_trackCell_26 : decode cX8_trackCell 26 = .ok (.aload_n 0, 1) := by decide +kernel
theorem dX8_trackCell_27 : decode cX8_trackCell 27 = .ok (.getfield 48, 3) := by decide +kernel
theorem dX8_trackCell_30 : decode cX8_trackCell 30 = .ok (.iload_n 1, 1) := by decide +kernel
theorem dX8_trackCell_31 : decode cX8_trackCell 31 = .ok (.iaload, 1) := by decide +kernel
theorem dX8_trackCell_32 : decode cX8_trackCell 32 = .ok (.goto 23, 3) := by decide +kernel
theorem dX8_trackCell_35 : decode cX8_trackCell 35 = .ok (.iload_n 2, 1) := by decide +kernel
theorem dX8_trackCell_36 : decode cX8_trackCell 36 = .ok (.iconst 1, 1) := by decide +kernel
theorem dX8_trackCell_37 : decode cX8_trackCell 37 = .ok (.if_icmp .ne 12, 3) := by decide +kernel
theorem dX8_trackCell_40 : decode cX8_trackCell 40 = .ok (.aload_n 0, 1) := by decide +kernel
theorem dX8_trackCell_41 : decode cX8_trackCell 41 = .ok (.getfield 52, 3) := by decide +kernel
theorem dX8_trackCell_44 : decode cX8_trackCell 44 = .ok (.iload_n 1, 1) := by decide +kernel
theorem dX8_trackCell_45 : decode cX8_trackCell 45 = .ok (.iaload, 1) := by decide +kernel
theorem dX8_trackCell_46 : decode cX8_trackCell 46 = .ok (.goto 9, 3) := by decide +kernel
theorem dX8_trackCell_49 : decode cX8_trackCell 49 = .ok (.aload_n 0, 1) := by decide +kernel
theorem dX8_trackCell_50 : decode cX8_trackCell 50 = .ok (.getfield 55, 3) := by decide +kernel
theorem dX8_trackCell_53 : decode cX8_trackCell 53 = .ok (.iload_n 1, 1) := by decide +kernel
theorem dX8_trackCell_54 : decode cX8_trackCell 54 = .ok (.iaload, 1) := by decide +kernel
theorem dX8_trackCell_55 : decode cX8_trackCell 55 = .ok (.ireturn, 1) := by decide +kernel
theorem dX9_init_0 : decode cX9_init 0 = .ok (.aload_n 0, 1) := by decide +kernel
theorem dX9_init_1 : decode cX9_init 1 = .ok (.invokespecial 3, 3) := by decide +kernel
theorem dX9_init_4 : decode cX9_init 4 = .ok (.aload_n 0, 1) := by decide +kernel
theorem dX9_init_5 : decode cX9_init 5 = .ok (.iconst 0, 1) := by decide +kernel
theorem dX9_init_6 : decode cX9_init 6 = .ok (.putfield 9, 3) := by decide +kernel
theorem dX9_init_9 : decode cX9_init 9 = .ok (.aload_n 0, 1) := by decide +kernel
theorem dX9_init_10 : decode cX9_init 10 = .ok (.iconst 0, 1) := by decide +kernel
theorem dX9_init_11 : decode cX9_init 11 = .ok (.putfield 15, 3) := by decide +kernel
theorem dX9_init_14 : decode cX9_init 14 = .ok (.aload_n 0, 1) := by decide +kernel
theorem dX9_init_15 : decode cX9_init 15 = .ok (.iconst 0, 1) := by decide +kernel
theorem dX9_init_16 : decode cX9_init 16 = .ok (.putfield 18, 3) := by decide +kernel
theorem dX9_init_19 : decode cX9_init 19 = .ok (.aload_n 0, 1) := by decide +kernel
theorem dX9_init_20 : decode cX9_init 20 = .ok (.iconst 0, 1) := by decide +kernel
theorem dX9_init_21 : decode cX9_init 21 = .ok (.putfield 21, 3) := by decide +kernel
theorem dX9_init_24 : decode cX9_init 24 = .ok (.aload_n 0, 1) := by decide +kernel
theorem dX9_init_25 : decode cX9_init 25 = .ok (.iconst 0, 1) := by decide +kernel
theorem dX9_init_26 : decode cX9_init 26 = .ok (.putfield 24, 3) := by decide +kernel
theorem dX9_init_29 : decode cX9_init 29 = .ok (.aload_n 0, 1) := by decide +kernel
theorem dX9_init_30 : decode cX9_init 30 = .ok (.iconst 0, 1) := by decide +kernel
theorem dX9_init_31 : decode cX9_init 31 = .ok (.putfield 27, 3) := by decide +kernel
theorem dX9_init_34 : decode cX9_init 34 = .ok (.aload_n 0, 1) := by decide +kernel
theorem dX9_init_35 : decode cX9_init 35 = .ok (.iconst 0, 1) := by decide +kernel
theorem dX9_init_36 : decode cX9_init 36 = .ok (.putfield 31, 3) := by decide +kernel
theorem dX9_init_39 : decode cX9_init 39 = .ok (.aload_n 0, 1) := by decide +kernel
theorem dX9_init_40 : decode cX9_init 40 = .ok (.aload_n 1, 1) := by decide +kernel
theorem dX9_init_41 : decode cX9_init 41 = .ok (.putfield 34, 3) := by decide +kernel
theorem dX9_init_44 : decode cX9_init 44 = .ok (.aload_n 0, 1) := by decide +kernel
theorem dX9_init_45 : decode cX9_init 45 = .ok (.aload_n 2, 1) := by decide +kernel
theorem dX9_init_46 : decode cX9_init 46 = .ok (.putfield 38, 3) := by decide +kernel
theorem dX9_init_49 : decode cX9_init 49 = .ok (.return_, 1) := by decide +kernel
theorem dX9_takeUp_0 : decode cX9_takeUp 0 = .ok (.aload_n 0, 1) := by decide +kernel
theorem dX9_takeUp_1 : decode cX9_takeUp 1 = .ok (.iload_n 3, 1) := by decide +kernel
theorem dX9_takeUp_2 : decode cX9_takeUp 2 = .ok (.putfield 9, 3) := by decide +kernel
theorem dX9_takeUp_5 : decode cX9_takeUp 5 = .ok (.aload_n 0, 1) := by decide +kernel
theorem dX9_takeUp_6 : decode cX9_takeUp 6 = .ok (.iload_n 2, 1) := by decide +kernel
theorem dX9_takeUp_7 : decode cX9_takeUp 7 = .ok (.putfield 24, 3) := by decide +kernel
theorem dX9_takeUp_10 : decode cX9_takeUp 10 = .ok (.aload_n 0, 1) := by decide +kernel
theorem dX9_takeUp_11 : decode cX9_takeUp 11 = .ok (.aload_n 0, 1) := by decide +kernel
theorem dX9_takeUp_12 : decode cX9_takeUp 12 = .ok (.getfield 34, 3) := by decide +kernel
theorem dX9_takeUp_15 : decode cX9_takeUp 15 = .ok (.iload_n 1, 1) := by decide +kernel
theorem dX9_takeUp_16 : decode cX9_takeUp 16 = .ok (.iconst 1, 1) := by decide +kernel
theorem dX9_takeUp_17 : decode cX9_takeUp 17 = .ok (.invokevirtual 44, 3) := by decide +kernel
theorem dX9_takeUp_20 : decode cX9_takeUp 20 = .ok (.putfield 15, 3) := by decide +kernel
theorem dX9_takeUp_23 : decode cX9_takeUp 23 = .ok (.aload_n 0, 1) := by decide +kernel
theorem dX9_takeUp_24 : decode cX9_takeUp 24 = .ok (.aload_n 0, 1) := by decide +kernel
theorem dX9_takeUp_25 : decode cX9_takeUp 25 = .ok (.getfield 34, 3) := by decide +kernel
theorem dX9_takeUp_28 : decode cX9_takeUp 28 = .ok (.iload_n 1, 1) := by decide +kernel
theorem dX9_takeUp_29 : decode cX9_takeUp 29 = .ok (.iconst 2, 1) := by decide +kernel
theorem dX9_takeUp_30 : decode cX9_takeUp 30 = .ok (.invokevirtual 44, 3) := by decide +kernel
theorem dX9_takeUp_33 : decode cX9_takeUp 33 = .ok (.putfield 18, 3) := by decide +kernel
theorem dX9_takeUp_36 : decode cX9_takeUp 36 = .ok (.aload_n 0, 1) := by decide +kernel
theorem dX9_takeUp_37 : decode cX9_takeUp 37 = .ok (.aload_n 0, 1) := by decide +kernel
theorem dX9_takeUp_38 : decode cX9_takeUp 38 = .ok (.getfield 34, 3) := by decide +kernel
theorem dX9_takeUp_41 : decode cX9_takeUp 41 = .ok (.iload_n 1, 1) := by decide +kernel
theorem dX9_takeUp_42 : decode cX9_takeUp 42 = .ok (.iconst 3, 1) := by decide +kernel
theorem dX9_takeUp_43 : decode cX9_takeUp 43 = .ok (.invokevirtual 44, 3) := by decide +kernel
theorem dX9_takeUp_46 : decode cX9_takeUp 46 = .ok (.putfield 21, 3) := by decide +kernel
theorem dX9_takeUp_49 : decode cX9_takeUp 49 = .ok (.aload_n 0, 1) := by decide +kernel
theorem dX9_takeUp_50 : decode cX9_takeUp 50 = .ok (.getfield 15, 3) := by decide +kernel
theorem dX9_takeUp_53 : decode cX9_takeUp 53 = .ok (.ifCond .eq 11, 3) := by decide +kernel
theorem dX9_takeUp_56 : decode cX9_takeUp 56 = .ok (.aload_n 0, 1) := by decide +kernel
theorem dX9_takeUp_57 : decode cX9_takeUp 57 = .ok (.getfield 15, 3) := by decide +kernel
theorem dX9_takeUp_60 : decode cX9_takeUp 60 = .ok (.iconst 4, 1) := by decide +kernel
theorem dX9_takeUp_61 : decode cX9_takeUp 61 = .ok (.if_icmp .ne 6, 3) := by decide +kernel
theorem dX9_takeUp_64 : decode cX9_takeUp 64 = .ok (.ldc 48, 2) := by decide +kernel
theorem dX9_takeUp_66 : decode cX9_takeUp 66 = .ok (.ireturn, 1) := by decide +kernel
theorem dX9_takeUp_67 : decode cX9_takeUp 67 = .ok (.aload_n 0, 1) := by decide +kernel
theorem dX9_takeUp_68 : decode cX9_takeUp 68 = .ok (.getfield 34, 3) := by decide +kernel
theorem dX9_takeUp_71 : decode cX9_takeUp 71 = .ok (.aload_n 0, 1) := by decide +kernel
theorem dX9_takeUp_72 : decode cX9_takeUp 72 = .ok (.getfield 18, 3) := by decide +kernel
theorem dX9_takeUp_75 : decode cX9_takeUp 75 = .ok (.invokevirtual 49, 3) := by decide +kernel
theorem dX9_takeUp_78 : decode cX9_takeUp 78 = .ok (.ifCond .ne 8, 3) := by decide +kernel
theorem dX9_takeUp_81 : decode cX9_takeUp 81 = .ok (.aload_n 0, 1) := by decide +kernel
theorem dX9_takeUp_82 : decode cX9_takeUp 82 = .ok (.getfield 18, 3) := by decide +kernel
theorem dX9_takeUp_85 : decode cX9_takeUp 85 = .ok (.ireturn, 1) := by decide +kernel
theorem dX9_takeUp_86 : decode cX9_takeUp 86 = .ok (.aload_n 0, 1) := by decide +kernel
theorem dX9_takeUp_87 : decode cX9_takeUp 87 = .ok (.getfield 15, 3) := by decide +kernel
theorem dX9_takeUp_90 : decode cX9_takeUp 90 = .ok (.iconst 3, 1) := by decide +kernel
theorem dX9_takeUp_91 : decode cX9_takeUp 91 = .ok (.if_icmp .ne 24, 3) := by decide +kernel
theorem dX9_takeUp_94 : decode cX9_takeUp 94 = .ok (.aload_n 0, 1) := by decide +kernel
theorem dX9_takeUp_95 : decode cX9_takeUp 95 = .ok (.getfield 34, 3) := by decide +kernel
theorem dX9_takeUp_98 : decode cX9_takeUp 98 = .ok (.aload_n 0, 1) := by decide +kernel
theorem dX9_takeUp_99 : decode cX9_takeUp 99 = .ok (.getfield 18, 3) := by decide +kernel
theorem dX9_takeUp_102 : decode cX9_takeUp 102 = .ok (.iconst 0, 1) := by decide +kernel
theorem dX9_takeUp_103 : decode cX9_takeUp 103 = .ok (.invokevirtual 53, 3) := by decide +kernel
theorem dX9_takeUp_106 : decode cX9_takeUp 106 = .ok (.iconst 2, 1) := by decide +kernel
theorem dX9_takeUp_107 : decode cX9_takeUp 107 = .ok (.if_icmp .eq 8, 3) := by decide +kernel
theorem dX9_takeUp_110 : decode cX9_takeUp 110 = .ok (.aload_n 0, 1) := by decide +kernel
theorem dX9_takeUp_111 : decode cX9_takeUp 111 = .ok (.getfield 18, 3) := by decide +kernel
theorem dX9_takeUp_114 : decode cX9_takeUp 114 = .ok (.ireturn, 1) := by decide +kernel
theorem dX9_takeUp_115 : decode cX9_takeUp 115 = .ok (.aload_n 0, 1) := by decide +kernel
theorem dX9_takeUp_116 : decode cX9_takeUp 116 = .ok (.getfield 15, 3) := by decide +kernel
theorem dX9_takeUp_119 : decode cX9_takeUp 119 = .ok (.iconst 2, 1) := by decide +kernel
theorem dX9_takeUp_120 : decode cX9_takeUp 120 = .ok (.if_icmp .ne 24, 3) := by decide +kernel
theorem dX9_takeUp_123 : decode cX9_takeUp 123 = .ok (.aload_n 0, 1) := by decide +kernel
theorem dX9_takeUp_124 : decode cX9_takeUp 124 = .ok (.getfield 34, 3) := by decide +kernel
theorem dX9_takeUp_127 : decode cX9_takeUp 127 = .ok (.aload_n 0, 1) := by decide +kernel
theorem dX9_takeUp_128 : decode cX9_takeUp 128 = .ok (.getfield 21, 3) := by decide +kernel
theorem dX9_takeUp_131 : decode cX9_takeUp 131 = .ok (.invokevirtual 49, 3) := by decide +kernel
theorem dX9_takeUp_134 : decode cX9_takeUp 134 = .ok (.ifCond .ne 10, 3) := by decide +kernel
theorem dX9_takeUp_137 : decode cX9_takeUp 137 = .ok (.aload_n 0, 1) := by decide +kernel
theorem dX9_takeUp_138 : decode cX9_takeUp 138 = .ok (.getfield 21, 3) := by decide +kernel
theorem dX9_takeUp_141 : decode cX9_takeUp 141 = .ok (.goto 5, 3) := by decide +kernel
theorem dX9_takeUp_144 : decode cX9_takeUp 144 = .ok (.ldc 48, 2) := by decide +kernel
theorem dX9_takeUp_146 : decode cX9_takeUp 146 = .ok (.ireturn, 1) := by decide +kernel
theorem dX9_begin_0 : decode cX9_begin 0 = .ok (.aload_n 0, 1) := by decide +kernel
theorem dX9_begin_1 : decode cX9_begin 1 = .ok (.aload_n 0, 1) := by decide +kernel
theorem dX9_begin_2 : decode cX9_begin 2 = .ok (.getfield 15, 3) := by decide +kernel
theorem dX9_begin_5 : decode cX9_begin 5 = .ok (.iconst 3, 1) := by decide +kernel
theorem dX9_begin_6 : decode cX9_begin 6 = .ok (.if_icmp .ne 28, 3) := by decide +kernel
theorem dX9_begin_9 : decode cX9_begin 9 = .ok (.aload_n 0, 1) := by decide +kernel
theorem dX9_begin_10 : decode cX9_begin 10 = .ok (.getfield 38, 3) := by decide +kernel
theorem dX9_begin_13 : decode cX9_begin 13 = .ok (.aload_n 0, 1) := by decide +kernel
theorem dX9_begin_14 : decode cX9_begin 14 = .ok (.getfield 18, 3) := by decide +kernel
theorem dX9_begin_17 : decode cX9_begin 17 = .ok (.iload_n 1, 1) := by decide +kernel
theorem dX9_begin_18 : decode cX9_begin 18 = .ok (.iload_n 2, 1) := by decide +kernel
theorem dX9_begin_19 : decode cX9_begin 19 = .ok (.iload_n 3, 1) := by decide +kernel
theorem dX9_begin_20 : decode cX9_begin 20 = .ok (.aload_n 0, 1) := by decide +kernel
theorem dX9_begin_21 : decode cX9_begin 21 = .ok (.getfield 9, 3) := by decide +kernel
theorem dX9_begin_24 : decode cX9_begin 24 = .ok (.invokevirtual 56, 3) := by decide +kernel
theorem dX9_begin_27 : decode cX9_begin 27 = .ok (.ifCond .eq 7, 3) := by decide +kernel
theorem dX9_begin_30 : decode cX9_begin 30 = .ok (.iconst 1, 1) := by decide +kernel
theorem dX9_begin_31 : decode cX9_begin 31 = .ok (.goto 4, 3) := by decide +kernel
theorem dX9_begin_34 : decode cX9_begin 34 = .ok (.iconst 0, 1) := by decide +kernel
theorem dX9_begin_35 : decode cX9_begin 35 = .ok (.putfield 27, 3) := by decide +kernel
theorem dX9_begin_38 : decode cX9_begin 38 = .ok (.aload_n 0, 1) := by decide +kernel
theorem dX9_begin_39 : decode cX9_begin 39 = .ok (.aload_n 0, 1) := by decide +kernel
theorem dX9_begin_40 : decode cX9_begin 40 = .ok (.getfield 15, 3) := by decide +kernel
theorem dX9_begin_43 : decode cX9_begin 43 = .ok (.iconst 2, 1) := by decide +kernel
theorem dX9_begin_44 : decode cX9_begin 44 = .ok (.if_icmp .ne 13, 3) := by decide +kernel
theorem dX9_begin_47 : decode cX9_begin 47 = .ok (.aload_n 0, 1) := by decide +kernel
theorem dX9_begin_48 : decode cX9_begin 48 = .ok (.iload_n 1, 1) := by decide +kernel
theorem dX9_begin_49 : decode cX9_begin 49 = .ok (.iload_n 2, 1) := by decide +kernel
theorem dX9_begin_50 : decode cX9_begin 50 = .ok (.iload_n 3, 1) := by decide +kernel
theorem dX9_begin_51 : decode cX9_begin 51 = .ok (.invokevirtual 62, 3) := by decide +kernel
theorem dX9_begin_54 : decode cX9_begin 54 = .ok (.goto 4, 3) := by decide +kernel
theorem dX9_begin_57 : decode cX9_begin 57 = .ok (.iconst 0, 1) := by decide +kernel
theorem dX9_begin_58 : decode cX9_begin 58 = .ok (.putfield 31, 3) := by decide +kernel
theorem dX9_begin_61 : decode cX9_begin 61 = .ok (.return_, 1) := by decide +kernel
theorem dX9_hasCome_0 : decode cX9_hasCome 0 = .ok (.aload_n 0, 1) := by decide +kernel
theorem dX9_hasCome_1 : decode cX9_hasCome 1 = .ok (.getfield 15, 3) := by decide +kernel
theorem dX9_hasCome_4 : decode cX9_hasCome 4 = .ok (.tableswitch 182 0 3 #[32, 46, 85, 150], 32) := by decide +kernel
theorem dX9_hasCome_36 : decode cX9_hasCome 36 = .ok (.iload_n 1, 1) := by decide +kernel
theorem dX9_hasCome_37 : decode cX9_hasCome 37 = .ok (.aload_n 0, 1) := by decide +kernel
theorem dX9_hasCome_38 : decode cX9_hasCome 38 = .ok (.getfield 18, 3) := by decide +kernel
theorem dX9_hasCome_41 : decode cX9_hasCome 41 = .ok (.if_icmp .lt 7, 3) := by decide +kernel
theorem dX9_hasCome_44 : decode cX9_hasCome 44 = .ok (.iconst 1, 1) := by decide +kernel
theorem dX9_hasCome_45 : decode cX9_hasCome 45 = .ok (.goto 4, 3) := by decide +kernel
theorem dX9_hasCome_48 : decode cX9_hasCome 48 = .ok (.iconst 0, 1) := by decide +kernel
theorem dX9_hasCome_49 : decode cX9_hasCome 49 = .ok (.ireturn, 1) := by decide +kernel
theorem dX9_hasCome_50 : decode cX9_hasCome 50 = .ok (.aload_n 0, 1) := by decide +kernel
theorem dX9_hasCome_51 : decode cX9_hasCome 51 = .ok (.getfield 38, 3) := by decide +kernel
theorem dX9_hasCome_54 : decode cX9_hasCome 54 = .ok (.aload_n 0, 1) := by decide +kernel
theorem dX9_hasCome_55 : decode cX9_hasCome 55 = .ok (.getfield 18, 3) := by decide +kernel
theorem dX9_hasCome_58 : decode cX9_hasCome 58 = .ok (.iload_n 2, 1) := by decide +kernel
theorem dX9_hasCome_59 : decode cX9_hasCome 59 = .ok (.iload_n 3, 1) := by decide +kernel
theorem dX9_hasCome_60 : decode cX9_hasCome 60 = .ok (.iload 4, 2) := by decide +kernel
theorem dX9_hasCome_62 : decode cX9_hasCome 62 = .ok (.aload_n 0, 1) := by decide +kernel
theorem dX9_hasCome_63 : decode cX9_hasCome 63 = .ok (.getfield 9, 3) := by decide +kernel
theorem dX9_hasCome_66 : decode cX9_hasCome 66 = .ok (.invokevirtual 56, 3) := by decide +kernel
theorem dX9_hasCome_69 : decode cX9_hasCome 69 = .ok (.ifCond .eq 18, 3) := by decide +kernel
theorem dX9_hasCome_72 : decode cX9_hasCome 72 = .ok (.aload_n 0, 1) := by decide +kernel
theorem dX9_hasCome_73 : decode cX9_hasCome 73 = .ok (.iload_n 2, 1) := by decide +kernel
theorem dX9_hasCome_74 : decode cX9_hasCome 74 = .ok (.iload_n 3, 1) := by decide +kernel
theorem dX9_hasCome_75 : decode cX9_hasCome 75 = .ok (.iload 4, 2) := by decide +kernel
theorem dX9_hasCome_77 : decode cX9_hasCome 77 = .ok (.invokevirtual 66, 3) := by decide +kernel
theorem dX9_hasCome_80 : decode cX9_hasCome 80 = .ok (.ifCond .eq 7, 3) := by decide +kernel
theorem dX9_hasCome_83 : decode cX9_hasCome 83 = .ok (.iconst 1, 1) := by decide +kernel
theorem dX9_hasCome_84 : decode cX9_hasCome 84 = .ok (.goto 4, 3) := by decide +kernel
theorem dX9_hasCome_87 : decode cX9_hasCome 87 = .ok (.iconst 0, 1) := by decide +kernel
theorem dX9_hasCome_88 : decode cX9_hasCome 88 = .ok (.ireturn, 1) := by decide +kernel
theorem dX9_hasCome_89 : decode cX9_hasCome 89 = .ok (.aload_n 0, 1) := by decide +kernel
theorem dX9_hasCome_90 : decode cX9_hasCome 90 = .ok (.getfield 38, 3) := by decide +kernel
theorem dX9_hasCome_93 : decode cX9_hasCome 93 = .ok (.aload_n 0, 1) := by decide +kernel
theorem dX9_hasCome_94 : decode cX9_hasCome 94 = .ok (.getfield 18, 3) := by decide +kernel
theorem dX9_hasCome_97 : decode cX9_hasCome 97 = .ok (.iload_n 2, 1) := by decide +kernel
theorem dX9_hasCome_98 : decode cX9_hasCome 98 = .ok (.iload_n 3, 1) := by decide +kernel
theorem dX9_hasCome_99 : decode cX9_hasCome 99 = .ok (.iload 4, 2) := by decide +kernel
theorem dX9_hasCome_101 : decode cX9_hasCome 101 = .ok (.aload_n 0, 1) := by decide +kernel
theorem dX9_hasCome_102 : decode cX9_hasCome 102 = .ok (.getfield 9, 3) := by decide +kernel
theorem dX9_hasCome_105 : decode cX9_hasCome 105 = .ok (.invokevirtual 56, 3) := by decide +kernel
theorem dX9_hasCome_108 : decode cX9_hasCome 108 = .ok (.ifCond .eq 44, 3) := by decide +kernel
theorem dX9_hasCome_111 : decode cX9_hasCome 111 = .ok (.aload_n 0, 1) := by decide +kernel
theorem dX9_hasCome_112 : decode cX9_hasCome 112 = .ok (.getfield 38, 3) := by decide +kernel
theorem dX9_hasCome_115 : decode cX9_hasCome 115 = .ok (.aload_n 0, 1) := by decide +kernel
theorem dX9_hasCome_116 : decode cX9_hasCome 116 = .ok (.getfield 21, 3) := by decide +kernel
theorem dX9_hasCome_119 : decode cX9_hasCome 119 = .ok (.iload_n 2, 1) := by decide +kernel
theorem dX9_hasCome_120 : decode cX9_hasCome 120 = .ok (.iload_n 3, 1) := by decide +kernel
theorem dX9_hasCome_121 : decode cX9_hasCome 121 = .ok (.iload 4, 2) := by decide +kernel
theorem dX9_hasCome_123 : decode cX9_hasCome 123 = .ok (.aload_n 0, 1) := by decide +kernel
theorem dX9_hasCome_124 : decode cX9_hasCome 124 = .ok (.getfield 9, 3) := by decide +kernel
theorem dX9_hasCome_127 : decode cX9_hasCome 127 = .ok (.invokevirtual 56, 3) := by decide +kernel
theorem dX9_hasCome_130 : decode cX9_hasCome 130 = .ok (.ifCond .eq 22, 3) := by decide +kernel
theorem dX9_hasCome_133 : decode cX9_hasCome 133 = .ok (.aload_n 0, 1) := by decide +kernel
theorem dX9_hasCome_134 : decode cX9_hasCome 134 = .ok (.aload_n 0, 1) := by decide +kernel
theorem dX9_hasCome_135 : decode cX9_hasCome 135 = .ok (.iload_n 2, 1) := by decide +kernel
theorem dX9_hasCome_136 : decode cX9_hasCome 136 = .ok (.iload_n 3, 1) := by decide +kernel
theorem dX9_hasCome_137 : decode cX9_hasCome 137 = .ok (.iload 4, 2) := by decide +kernel
theorem dX9_hasCome_139 : decode cX9_hasCome 139 = .ok (.invokevirtual 62, 3) := by decide +kernel
theorem dX9_hasCome_142 : decode cX9_hasCome 142 = .ok (.invokevirtual 70, 3) := by decide +kernel
theorem dX9_hasCome_145 : decode cX9_hasCome 145 = .ok (.ifCond .eq 7, 3) := by decide +kernel
theorem dX9_hasCome_148 : decode cX9_hasCome 148 = .ok (.iconst 1, 1) := by decide +kernel
theorem dX9_hasCome_149 : decode cX9_hasCome 149 = .ok (.goto 4, 3) := by decide +kernel
theorem dX9_hasCome_152 : decode cX9_hasCome 152 = .ok (.iconst 0, 1) := by decide +kernel
theorem dX9_hasCome_153 : decode cX9_hasCome 153 = .ok (.ireturn, 1) := by decide +kernel
theorem dX9_hasCome_154 : decode cX9_hasCome 154 = .ok (.aload_n 0, 1) := by decide +kernel
theorem dX9_hasCome_155 : decode cX9_hasCome 155 = .ok (.getfield 38, 3) := by decide +kernel
theorem dX9_hasCome_158 : decode cX9_hasCome 158 = .ok (.aload_n 0, 1) := by decide +kernel
theorem dX9_hasCome_159 : decode cX9_hasCome 159 = .ok (.getfield 18, 3) := by decide +kernel
theorem dX9_hasCome_162 : decode cX9_hasCome 162 = .ok (.iload_n 2, 1) := by decide +kernel
theorem dX9_hasCome_163 : decode cX9_hasCome 163 = .ok (.iload_n 3, 1) := by decide +kernel
theorem dX9_hasCome_164 : decode cX9_hasCome 164 = .ok (.iload 4, 2) := by decide +kernel
theorem dX9_hasCome_166 : decode cX9_hasCome 166 = .ok (.aload_n 0, 1) := by decide +kernel
theorem dX9_hasCome_167 : decode cX9_hasCome 167 = .ok (.getfield 9, 3) := by decide +kernel
theorem dX9_hasCome_170 : decode cX9_hasCome 170 = .ok (.invokevirtual 56, 3) := by decide +kernel
theorem dX9_hasCome_173 : decode cX9_hasCome 173 = .ok (.aload_n 0, 1) := by decide +kernel
theorem dX9_hasCome_174 : decode cX9_hasCome 174 = .ok (.getfield 27, 3) := by decide +kernel
theorem dX9_hasCome_177 : decode cX9_hasCome 177 = .ok (.if_icmp .eq 7, 3) := by decide +kernel
theorem dX9_hasCome_180 : decode cX9_hasCome 180 = .ok (.iconst 1, 1) := by decide +kernel
theorem dX9_hasCome_181 : decode cX9_hasCome 181 = .ok (.goto 4, 3) := by decide +kernel
theorem dX9_hasCome_184 : decode cX9_hasCome 184 = .ok (.iconst 0, 1) := by decide +kernel
theorem dX9_hasCome_185 : decode cX9_hasCome 185 = .ok (.ireturn, 1) := by decide +kernel
theorem dX9_hasCome_186 : decode cX9_hasCome 186 = .ok (.iload 5, 2) := by decide +kernel
theorem dX9_hasCome_188 : decode cX9_hasCome 188 = .ok (.aload_n 0, 1) := by decide +kernel
theorem dX9_hasCome_189 : decode cX9_hasCome 189 = .ok (.getfield 18, 3) := by decide +kernel
theorem dX9_hasCome_192 : decode cX9_hasCome 192 = .ok (.if_icmp .gt 7, 3) := by decide +kernel
theorem dX9_hasCome_195 : decode cX9_hasCome 195 = .ok (.iconst 1, 1) := by decide +kernel
theorem dX9_hasCome_196 : decode cX9_hasCome 196 = .ok (.goto 4, 3) := by decide +kernel
theorem dX9_hasCome_199 : decode cX9_hasCome 199 = .ok (.iconst 0, 1) := by decide +kernel
theorem dX9_hasCome_200 : decode cX9_hasCome 200 = .ok (.ireturn, 1) := by decide +kernel
theorem dX9_untilSort_0 : decode cX9_untilSort 0 = .ok (.aload_n 0, 1) := by decide +kernel
theorem dX9_untilSort_1 : decode cX9_untilSort 1 = .ok (.getfield 15, 3) := by decide +kernel
theorem dX9_untilSort_4 : decode cX9_untilSort 4 = .ok (.ireturn, 1) := by decide +kernel
theorem dX9_firstUnseen_0 : decode cX9_firstUnseen 0 = .ok (.aload_n 0, 1) := by decide +kernel
theorem dX9_firstUnseen_1 : decode cX9_firstUnseen 1 = .ok (.getfield 15, 3) := by decide +kernel
theorem dX9_firstUnseen_4 : decode cX9_firstUnseen 4 = .ok (.iconst 1, 1) := by decide +kernel
theorem dX9_firstUnseen_5 : decode cX9_firstUnseen 5 = .ok (.if_icmp .eq 14, 3) := by decide +kernel
theorem dX9_firstUnseen_8 : decode cX9_firstUnseen 8 = .ok (.aload_n 0, 1) := by decide +kernel
theorem dX9_firstUnseen_9 : decode cX9_firstUnseen 9 = .ok (.getfield 15, 3) := by decide +kernel
theorem dX9_firstUnseen_12 : decode cX9_firstUnseen 12 = .ok (.iconst 2, 1) := by decide +kernel
theorem dX9_firstUnseen_13 : decode cX9_firstUnseen 13 = .ok (.if_icmp .eq 6, 3) := by decide +kernel
theorem dX9_firstUnseen_16 : decode cX9_firstUnseen 16 = .ok (.ldc 48, 2) := by decide +kernel
theorem dX9_firstUnseen_18 : decode cX9_firstUnseen 18 = .ok (.ireturn, 1) := by decide +kernel
theorem dX9_firstUnseen_19 : decode cX9_firstUnseen 19 = .ok (.aload_n 0, 1) := by decide +kernel
theorem dX9_firstUnseen_20 : decode cX9_firstUnseen 20 = .ok (.getfield 38, 3) := by decide +kernel
theorem dX9_firstUnseen_23 : decode cX9_firstUnseen 23 = .ok (.aload_n 0, 1) := by decide +kernel
theorem dX9_firstUnseen_24 : decode cX9_firstUnseen 24 = .ok (.getfield 18, 3) := by decide +kernel
theorem dX9_firstUnseen_27 : decode cX9_firstUnseen 27 = .ok (.iload_n 1, 1) := by decide +kernel
theorem dX9_firstUnseen_28 : decode cX9_firstUnseen 28 = .ok (.iload_n 2, 1) := by decide +kernel
theorem dX9_firstUnseen_29 : decode cX9_firstUnseen 29 = .ok (.iload_n 3, 1) := by decide +kernel
theorem dX9_firstUnseen_30 : decode cX9_firstUnseen 30 = .ok (.aload_n 0, 1) := by decide +kernel
theorem dX9_firstUnseen_31 : decode cX9_firstUnseen 31 = .ok (.getfield 9, 3) := by decide +kernel
theorem dX9_firstUnseen_34 : decode cX9_firstUnseen 34 = .ok (.invokevirtual 56, 3) := by decide +kernel
theorem dX9_firstUnseen_37 : decode cX9_firstUnseen 37 = .ok (.ifCond .ne 8, 3) := by decide +kernel
theorem dX9_firstUnseen_40 : decode cX9_firstUnseen 40 = .ok (.aload_n 0, 1) := by decide +kernel
theorem dX9_firstUnseen_41 : decode cX9_firstUnseen 41 = .ok (.getfield 18, 3) := by decide +kernel
theorem dX9_firstUnseen_44 : decode cX9_firstUnseen 44 = .ok (.ireturn, 1) := by decide +kernel
theorem dX9_firstUnseen_45 : decode cX9_firstUnseen 45 = .ok (.aload_n 0, 1) := by decide +kernel
theorem dX9_firstUnseen_46 : decode cX9_firstUnseen 46 = .ok (.getfield 15, 3) := by decide +kernel
theorem dX9_firstUnseen_49 : decode cX9_firstUnseen 49 = .ok (.iconst 2, 1) := by decide +kernel
theorem dX9_firstUnseen_50 : decode cX9_firstUnseen 50 = .ok (.if_icmp .ne 31, 3) := by decide +kernel
theorem dX9_firstUnseen_53 : decode cX9_firstUnseen 53 = .ok (.aload_n 0, 1) := by decide +kernel
theorem dX9_firstUnseen_54 : decode cX9_firstUnseen 54 = .ok (.getfield 38, 3) := by decide +kernel
theorem dX9_firstUnseen_57 : decode cX9_firstUnseen 57 = .ok (.aload_n 0, 1) := by decide +kernel
theorem dX9_firstUnseen_58 : decode cX9_firstUnseen 58 = .ok (.getfield 21, 3) := by decide +kernel
theorem dX9_firstUnseen_61 : decode cX9_firstUnseen 61 = .ok (.iload_n 1, 1) := by decide +kernel
theorem dX9_firstUnseen_62 : decode cX9_firstUnseen 62 = .ok (.iload_n 2, 1) := by decide +kernel
theorem dX9_firstUnseen_63 : decode cX9_firstUnseen 63 = .ok (.iload_n 3, 1) := by decide +kernel
theorem dX9_firstUnseen_64 : decode cX9_firstUnseen 64 = .ok (.aload_n 0, 1) := by decide +kernel
theorem dX9_firstUnseen_65 : decode cX9_firstUnseen 65 = .ok (.getfield 9, 3) := by decide +kernel
theorem dX9_firstUnseen_68 : decode cX9_firstUnseen 68 = .ok (.invokevirtual 56, 3) := by decide +kernel
theorem dX9_firstUnseen_71 : decode cX9_firstUnseen 71 = .ok (.ifCond .ne 10, 3) := by decide +kernel
theorem dX9_firstUnseen_74 : decode cX9_firstUnseen 74 = .ok (.aload_n 0, 1) := by decide +kernel
theorem dX9_firstUnseen_75 : decode cX9_firstUnseen 75 = .ok (.getfield 21, 3) := by decide +kernel
theorem dX9_firstUnseen_78 : decode cX9_firstUnseen 78 = .ok (.goto 5, 3) := by decide +kernel
theorem dX9_firstUnseen_81 : decode cX9_firstUnseen 81 = .ok (.ldc 48, 2) := by decide +kernel
theorem dX9_firstUnseen_83 : decode cX9_firstUnseen 83 = .ok (.ireturn, 1) := by decide +kernel
theorem dX9_isAbeam_0 : decode cX9_isAbeam 0 = .ok (.aload_n 0, 1) := by decide +kernel
theorem dX9_isAbeam_1 : decode cX9_isAbeam 1 = .ok (.getfield 38, 3) := by decide +kernel
theorem dX9_isAbeam_4 : decode cX9_isAbeam 4 = .ok (.aload_n 0, 1) := by decide +kernel
theorem dX9_isAbeam_5 : decode cX9_isAbeam 5 = .ok (.getfield 18, 3) := by decide +kernel
theorem dX9_isAbeam_8 : decode cX9_isAbeam 8 = .ok (.iload_n 3, 1) := by decide +kernel
theorem dX9_isAbeam_9 : decode cX9_isAbeam 9 = .ok (.invokevirtual 73, 3) := by decide +kernel
theorem dX9_isAbeam_12 : decode cX9_isAbeam 12 = .ok (.iload_n 1, 1) := by decide +kernel
theorem dX9_isAbeam_13 : decode cX9_isAbeam 13 = .ok (.isub, 1) := by decide +kernel
theorem dX9_isAbeam_14 : decode cX9_isAbeam 14 = .ok (.istore 4, 2) := by decide +kernel
theorem dX9_isAbeam_16 : decode cX9_isAbeam 16 = .ok (.aload_n 0, 1) := by decide +kernel
theorem dX9_isAbeam_17 : decode cX9_isAbeam 17 = .ok (.getfield 34, 3) := by decide +kernel
theorem dX9_isAbeam_20 : decode cX9_isAbeam 20 = .ok (.aload_n 0, 1) := by decide +kernel
theorem dX9_isAbeam_21 : decode cX9_isAbeam 21 = .ok (.getfield 18, 3) := by decide +kernel
theorem dX9_isAbeam_24 : decode cX9_isAbeam 24 = .ok (.iconst 2, 1) := by decide +kernel
theorem dX9_isAbeam_25 : decode cX9_isAbeam 25 = .ok (.invokevirtual 53, 3) := by decide +kernel
theorem dX9_isAbeam_28 : decode cX9_isAbeam 28 = .ok (.iload_n 2, 1) := by decide +kernel
theorem dX9_isAbeam_29 : decode cX9_isAbeam 29 = .ok (.isub, 1) := by decide +kernel
theorem dX9_isAbeam_30 : decode cX9_isAbeam 30 = .ok (.istore 5, 2) := by decide +kernel
theorem dX9_isAbeam_32 : decode cX9_isAbeam 32 = .ok (.aload_n 0, 1) := by decide +kernel
theorem dX9_isAbeam_33 : decode cX9_isAbeam 33 = .ok (.getfield 24, 3) := by decide +kernel
theorem dX9_isAbeam_36 : decode cX9_isAbeam 36 = .ok (.invokestatic 76, 3) := by decide +kernel
theorem dX9_isAbeam_39 : decode cX9_isAbeam 39 = .ok (.iload 4, 2) := by decide +kernel
theorem dX9_isAbeam_41 : decode cX9_isAbeam 41 = .ok (.imul, 1) := by decide +kernel
theorem dX9_isAbeam_42 : decode cX9_isAbeam 42 = .ok (.aload_n 0, 1) := by decide +kernel
theorem dX9_isAbeam_43 : decode cX9_isAbeam 43 = .ok (.getfield 24, 3) := by decide +kernel
theorem dX9_isAbeam_46 : decode cX9_isAbeam 46 = .ok (.invokestatic 82, 3) := by decide +kernel
theorem dX9_isAbeam_49 : decode cX9_isAbeam 49 = .ok (.iload 5, 2) := by decide +kernel
theorem dX9_isAbeam_51 : decode cX9_isAbeam 51 = .ok (.imul, 1) := by decide +kernel
theorem dX9_isAbeam_52 : decode cX9_isAbeam 52 = .ok (.iadd, 1) := by decide +kernel
theorem dX9_isAbeam_53 : decode cX9_isAbeam 53 = .ok (.ifCond .gt 7, 3) := by decide +kernel
theorem dX9_isAbeam_56 : decode cX9_isAbeam 56 = .ok (.iconst 1, 1) := by decide +kernel
theorem dX9_isAbeam_57 : decode cX9_isAbeam 57 = .ok (.goto 4, 3) := by decide +kernel
theorem dX9_isAbeam_60 : decode cX9_isAbeam 60 = .ok (.iconst 0, 1) := by decide +kernel
theorem dX9_isAbeam_61 : decode cX9_isAbeam 61 = .ok (.ireturn, 1) := by decide +kernel
theorem dX9_turnOfMarks_0 : decode cX9_turnOfMarks 0 = .ok (.aload_n 0, 1) := by decide +kernel
theorem dX9_turnOfMarks_1 : decode cX9_turnOfMarks 1 = .ok (.getfield 38, 3) := by decide +kernel
theorem dX9_turnOfMarks_4 : decode cX9_turnOfMarks 4 = .ok (.aload_n 0, 1) := by decide +kernel
theorem dX9_turnOfMarks_5 : decode cX9_turnOfMarks 5 = .ok (.getfield 18, 3) := by decide +kernel
theorem dX9_turnOfMarks_8 : decode cX9_turnOfMarks 8 = .ok (.iload_n 3, 1) := by decide +kernel
theorem dX9_turnOfMarks_9 : decode cX9_turnOfMarks 9 = .ok (.invokevirtual 73, 3) := by decide +kernel
theorem dX9_turnOfMarks_12 : decode cX9_turnOfMarks 12 = .ok (.iload_n 1, 1) := by decide +kernel
theorem dX9_turnOfMarks_13 : decode cX9_turnOfMarks 13 = .ok (.isub, 1) := by decide +kernel
theorem dX9_turnOfMarks_14 : decode cX9_turnOfMarks 14 = .ok (.istore 4, 2) := by decide +kernel
theorem dX9_turnOfMarks_16 : decode cX9_turnOfMarks 16 = .ok (.aload_n 0, 1) := by decide +kernel
theorem dX9_turnOfMarks_17 : decode cX9_turnOfMarks 17 = .ok (.getfield 34, 3) := by decide +kernel
theorem dX9_turnOfMarks_20 : decode cX9_turnOfMarks 20 = .ok (.aload_n 0, 1) := by decide +kernel
theorem dX9_turnOfMarks_21 : decode cX9_turnOfMarks 21 = .ok (.getfield 18, 3) := by decide +kernel
theorem dX9_turnOfMarks_24 : decode cX9_turnOfMarks 24 = .ok (.iconst 2, 1) := by decide +kernel
theorem dX9_turnOfMarks_25 : decode cX9_turnOfMarks 25 = .ok (.invokevirtual 53, 3) := by decide +kernel
theorem dX9_turnOfMarks_28 : decode cX9_turnOfMarks 28 = .ok (.iload_n 2, 1) := by decide +kernel
theorem dX9_turnOfMarks_29 : decode cX9_turnOfMarks 29 = .ok (.isub, 1) := by decide +kernel
theorem dX9_turnOfMarks_30 : decode cX9_turnOfMarks 30 = .ok (.istore 5, 2) := by decide +kernel
theorem dX9_turnOfMarks_32 : decode cX9_turnOfMarks 32 = .ok (.aload_n 0, 1) := by decide +kernel
theorem dX9_turnOfMarks_33 : decode cX9_turnOfMarks 33 = .ok (.getfield 38, 3) := by decide +kernel
theorem dX9_turnOfMarks_36 : decode cX9_turnOfMarks 36 = .ok (.aload_n 0, 1) := by decide +kernel
theorem dX9_turnOfMarks_37 : decode cX9_turnOfMarks 37 = .ok (.getfield 21, 3) := by decide +kernel
theorem dX9_turnOfMarks_40 : decode cX9_turnOfMarks 40 = .ok (.iload_n 3, 1) := by decide +kernel
theorem dX9_turnOfMarks_41 : decode cX9_turnOfMarks 41 = .ok (.invokevirtual 73, 3) := by decide +kernel
theorem dX9_turnOfMarks_44 : decode cX9_turnOfMarks 44 = .ok (.iload_n 1, 1) := by decide +kernel
theorem dX9_turnOfMarks_45 : decode cX9_turnOfMarks 45 = .ok (.isub, 1) := by decide +kernel
theorem dX9_turnOfMarks_46 : decode cX9_turnOfMarks 46 = .ok (.istore 6, 2) := by decide +kernel
theorem dX9_turnOfMarks_48 : decode cX9_turnOfMarks 48 = .ok (.aload_n 0, 1) := by decide +kernel
theorem dX9_turnOfMarks_49 : decode cX9_turnOfMarks 49 = .ok (.getfield 34, 3) := by decide +kernel
theorem dX9_turnOfMarks_52 : decode cX9_turnOfMarks 52 = .ok (.aload_n 0, 1) := by decide +kernel
theorem dX9_turnOfMarks_53 : decode cX9_turnOfMarks 53 = .ok (.getfield 21, 3) := by decide +kernel
theorem dX9_turnOfMarks_56 : decode cX9_turnOfMarks 56 = .ok (.iconst 2, 1) := by decide +kernel
theorem dX9_turnOfMarks_57 : decode cX9_turnOfMarks 57 = .ok (.invokevirtual 53, 3) := by decide +kernel
theorem dX9_turnOfMarks_60 : decode cX9_turnOfMarks 60 = .ok (.iload_n 2, 1) := by decide +kernel
theorem dX9_turnOfMarks_61 : decode cX9_turnOfMarks 61 = .ok (.isub, 1) := by decide +kernel
theorem dX9_turnOfMarks_62 : decode cX9_turnOfMarks 62 = .ok (.istore 7, 2) := by decide +kernel
theorem dX9_turnOfMarks_64 : decode cX9_turnOfMarks 64 = .ok (.iload 4, 2) := by decide +kernel
theorem dX9_turnOfMarks_66 : decode cX9_turnOfMarks 66 = .ok (.iload 7, 2) := by decide +kernel
theorem dX9_turnOfMarks_68 : decode cX9_turnOfMarks 68 = .ok (.imul, 1) := by decide +kernel
theorem dX9_turnOfMarks_69 : decode cX9_turnOfMarks 69 = .ok (.iload 5, 2) := by decide +kernel
theorem dX9_turnOfMarks_71 : decode cX9_turnOfMarks 71 = .ok (.iload 6, 2) := by decide +kernel
theorem dX9_turnOfMarks_73 : decode cX9_turnOfMarks 73 = .ok (.imul, 1) := by decide +kernel
theorem dX9_turnOfMarks_74 : decode cX9_turnOfMarks 74 = .ok (.isub, 1) := by decide +kernel
theorem dX9_turnOfMarks_75 : decode cX9_turnOfMarks 75 = .ok (.ireturn, 1) := by decide +kernel
theorem dX9_isCrossed_0 : decode cX9_isCrossed 0 = .ok (.iload_n 1, 1) := by decide +kernel
theorem dX9_isCrossed_1 : decode cX9_isCrossed 1 = .ok (.ifCond .eq 25, 3) := by decide +kernel
theorem dX9_isCrossed_4 : decode cX9_isCrossed 4 = .ok (.iload_n 1, 1) := by decide +kernel
theorem dX9_isCrossed_5 : decode cX9_isCrossed 5 = .ok (.ifCond .ge 10, 3) := by decide +kernel
theorem dX9_isCrossed_8 : decode cX9_isCrossed 8 = .ok (.aload_n 0, 1) := by decide +kernel
theorem dX9_isCrossed_9 : decode cX9_isCrossed 9 = .ok (.getfield 31, 3) := by decide +kernel
theorem dX9_isCrossed_12 : decode cX9_isCrossed 12 = .ok (.ifCond .gt 14, 3) := by decide +kernel
theorem dX9_isCrossed_15 : decode cX9_isCrossed 15 = .ok (.iload_n 1, 1) := by decide +kernel
theorem dX9_isCrossed_16 : decode cX9_isCrossed 16 = .ok (.ifCond .le 14, 3) := by decide +kernel
theorem dX9_isCrossed_19 : decode cX9_isCrossed 19 = .ok (.aload_n 0, 1) := by decide +kernel
theorem dX9_isCrossed_20 : decode cX9_isCrossed 20 = .ok (.getfield 31, 3) := by decide +kernel
theorem dX9_isCrossed_23 : decode cX9_isCrossed 23 = .ok (.ifCond .ge 7, 3) := by decide +kernel
theorem dX9_isCrossed_26 : decode cX9_isCrossed 26 = .ok (.iconst 1, 1) := by decide +kernel
theorem dX9_isCrossed_27 : decode cX9_isCrossed 27 = .ok (.goto 4, 3) := by decide +kernel
theorem dX9_isCrossed_30 : decode cX9_isCrossed 30 = .ok (.iconst 0, 1) := by decide +kernel
theorem dX9_isCrossed_31 : decode cX9_isCrossed 31 = .ok (.ireturn, 1) := by decide +kernel
theorem dX10_init_0 : decode cX10_init 0 = .ok (.aload_n 0, 1) := by decide +kernel
theorem dX10_init_1 : decode cX10_init 1 = .ok (.invokespecial 1, 3) := by decide +kernel
theorem dX10_init_4 : decode cX10_init 4 = .ok (.aload_n 0, 1) := by decide +kernel
theorem dX10_init_5 : decode cX10_init 5 = .ok (.new 7, 3) := by decide +kernel
theorem dX10_init_8 : decode cX10_init 8 = .ok (.dup, 1) := by decide +kernel
theorem dX10_init_9 : decode cX10_init 9 = .ok (.invokespecial 9, 3) := by decide +kernel
theorem dX10_init_12 : decode cX10_init 12 = .ok (.putfield 10, 3) := by decide +kernel
theorem dX10_init_15 : decode cX10_init 15 = .ok (.aload_n 0, 1) := by decide +kernel
theorem dX10_init_16 : decode cX10_init 16 = .ok (.new 16, 3) := by decide +kernel
theorem dX10_init_19 : decode cX10_init 19 = .ok (.dup, 1) := by decide +kernel
theorem dX10_init_20 : decode cX10_init 20 = .ok (.invokespecial 18, 3) := by decide +kernel
theorem dX10_init_23 : decode cX10_init 23 = .ok (.putfield 19, 3) := by decide +kernel
theorem dX10_init_26 : decode cX10_init 26 = .ok (.aload_n 0, 1) := by decide +kernel
theorem dX10_init_27 : decode cX10_init 27 = .ok (.new 23, 3) := by decide +kernel
theorem dX10_init_30 : decode cX10_init 30 = .ok (.dup, 1) := by decide +kernel
theorem dX10_init_31 : decode cX10_init 31 = .ok (.aload_n 0, 1) := by decide +kernel
theorem dX10_init_32 : decode cX10_init 32 = .ok (.getfield 10, 3) := by decide +kernel
theorem dX10_init_35 : decode cX10_init 35 = .ok (.invokespecial 25, 3) := by decide +kernel
theorem dX10_init_38 : decode cX10_init 38 = .ok (.putfield 28, 3) := by decide +kernel
theorem dX10_init_41 : decode cX10_init 41 = .ok (.aload_n 0, 1) := by decide +kernel
theorem dX10_init_42 : decode cX10_init 42 = .ok (.new 32, 3) := by decide +kernel
theorem dX10_init_45 : decode cX10_init 45 = .ok (.dup, 1) := by decide +kernel
theorem dX10_init_46 : decode cX10_init 46 = .ok (.invokespecial 34, 3) := by decide +kernel
theorem dX10_init_49 : decode cX10_init 49 = .ok (.putfield 35, 3) := by decide +kernel
theorem dX10_init_52 : decode cX10_init 52 = .ok (.aload_n 0, 1) := by decide +kernel
theorem dX10_init_53 : decode cX10_init 53 = .ok (.new 16, 3) := by decide +kernel
theorem dX10_init_56 : decode cX10_init 56 = .ok (.dup, 1) := by decide +kernel
theorem dX10_init_57 : decode cX10_init 57 = .ok (.invokespecial 18, 3) := by decide +kernel
theorem dX10_init_60 : decode cX10_init 60 = .ok (.putfield 39, 3) := by decide +kernel
theorem dX10_init_63 : decode cX10_init 63 = .ok (.aload_n 0, 1) := by decide +kernel
theorem dX10_init_64 : decode cX10_init 64 = .ok (.new 16, 3) := by decide +kernel
theorem dX10_init_67 : decode cX10_init 67 = .ok (.dup, 1) := by decide +kernel
theorem dX10_init_68 : decode cX10_init 68 = .ok (.invokespecial 18, 3) := by decide +kernel
theorem dX10_init_71 : decode cX10_init 71 = .ok (.putfield 42, 3) := by decide +kernel
theorem dX10_init_74 : decode cX10_init 74 = .ok (.aload_n 0, 1) := by decide +kernel
theorem dX10_init_75 : decode cX10_init 75 = .ok (.new 45, 3) := by decide +kernel
theorem dX10_init_78 : decode cX10_init 78 = .ok (.dup, 1) := by decide +kernel
theorem dX10_init_79 : decode cX10_init 79 = .ok (.aload_n 0, 1) := by decide +kernel
theorem dX10_init_80 : decode cX10_init 80 = .ok (.getfield 19, 3) := by decide +kernel
theorem dX10_init_83 : decode cX10_init 83 = .ok (.invokespecial 47, 3) := by decide +kernel
theorem dX10_init_86 : decode cX10_init 86 = .ok (.putfield 50, 3) := by decide +kernel
theorem dX10_init_89 : decode cX10_init 89 = .ok (.aload_n 0, 1) := by decide +kernel
theorem dX10_init_90 : decode cX10_init 90 = .ok (.new 54, 3) := by decide +kernel
theorem dX10_init_93 : decode cX10_init 93 = .ok (.dup, 1) := by decide +kernel
theorem dX10_init_94 : decode cX10_init 94 = .ok (.aload_n 0, 1) := by decide +kernel
theorem dX10_init_95 : decode cX10_init 95 = .ok (.getfield 19, 3) := by decide +kernel
theorem dX10_init_98 : decode cX10_init 98 = .ok (.aload_n 0, 1) := by decide +kernel
theorem dX10_init_99 : decode cX10_init 99 = .ok (.getfield 50, 3) := by decide +kernel
theorem dX10_init_102 : decode cX10_init 102 = .ok (.invokespecial 56, 3) := by decide +kernel
theorem dX10_init_105 : decode cX10_init 105 = .ok (.putfield 59, 3) := by decide +kernel
theorem dX10_init_108 : decode cX10_init 108 = .ok (.aload_n 0, 1) := by decide +kernel
theorem dX10_init_109 : decode cX10_init 109 = .ok (.new 63, 3) := by decide +kernel
theorem dX10_init_112 : decode cX10_init 112 = .ok (.dup, 1) := by decide +kernel
theorem dX10_init_113 : decode cX10_init 113 = .ok (.aload_n 0, 1) := by decide +kernel
theorem dX10_init_114 : decode cX10_init 114 = .ok (.getfield 19, 3) := by decide +kernel
theorem dX10_init_117 : decode cX10_init 117 = .ok (.aload_n 0, 1) := by decide +kernel
theorem dX10_init_118 : decode cX10_init 118 = .ok (.getfield 50, 3) := by decide +kernel
theorem dX10_init_121 : decode cX10_init 121 = .ok (.aload_n 0, 1) := by decide +kernel
theorem dX10_init_122 : decode cX10_init 122 = .ok (.getfield 59, 3) := by decide +kernel
theorem dX10_init_125 : decode cX10_init 125 = .ok (.invokespecial 65, 3) := by decide +kernel
theorem dX10_init_128 : decode cX10_init 128 = .ok (.putfield 68, 3) := by decide +kernel
theorem dX10_init_131 : decode cX10_init 131 = .ok (.aload_n 0, 1) := by decide +kernel
theorem dX10_init_132 : decode cX10_init 132 = .ok (.new 72, 3) := by decide +kernel
theorem dX10_init_135 : decode cX10_init 135 = .ok (.dup, 1) := by decide +kernel
theorem dX10_init_136 : decode cX10_init 136 = .ok (.aload_n 0, 1) := by decide +kernel
theorem dX10_init_137 : decode cX10_init 137 = .ok (.getfield 19, 3) := by decide +kernel
theorem dX10_init_140 : decode cX10_init 140 = .ok (.aload_n 0, 1) := by decide +kernel
theorem dX10_init_141 : decode cX10_init 141 = .ok (.getfield 50, 3) := by decide +kernel
theorem dX10_init_144 : decode cX10_init 144 = .ok (.aload_n 0, 1) := by decide +kernel
theorem dX10_init_145 : decode cX10_init 145 = .ok (.getfield 59, 3) := by decide +kernel
theorem dX10_init_148 : decode cX10_init 148 = .ok (.invokespecial 74, 3) := by decide +kernel
theorem dX10_init_151 : decode cX10_init 151 = .ok (.putfield 75, 3) := by decide +kernel
theorem dX10_init_154 : decode cX10_init 154 = .ok (.aload_n 0, 1) := by decide +kernel
theorem dX10_init_155 : decode cX10_init 155 = .ok (.iconst 0, 1) := by decide +kernel
theorem dX10_init_156 : decode cX10_init 156 = .ok (.putfield 79, 3) := by decide +kernel
theorem dX10_init_159 : decode cX10_init 159 = .ok (.return_, 1) := by decide +kernel
theorem dX10_feed_0 : decode cX10_feed 0 = .ok (.iload_n 1, 1) := by decide +kernel
theorem dX10_feed_1 : decode cX10_feed 1 = .ok (.iconst 0, 1) := by decide +kernel
theorem dX10_feed_2 : decode cX10_feed 2 = .ok (.sipush 255, 3) := by decide +kernel
theorem dX10_feed_5 : decode cX10_feed 5 = .ok (.invokestatic 83, 3) := by decide +kernel
theorem dX10_feed_8 : decode cX10_feed 8 = .ok (.ifCond .ne 6, 3) := by decide +kernel
theorem dX10_feed_11 : decode cX10_feed 11 = .ok (.ldc 87, 2) := by decide +kernel
theorem dX10_feed_13 : decode cX10_feed 13 = .ok (.ireturn, 1) := by decide +kernel
theorem dX10_feed_14 : decode cX10_feed 14 = .ok (.aload_n 0, 1) := by decide +kernel
theorem dX10_feed_15 : decode cX10_feed 15 = .ok (.getfield 10, 3) := by decide +kernel
theorem dX10_feed_18 : decode cX10_feed 18 = .ok (.invokevirtual 88, 3) := by decide +kernel
theorem dX10_feed_21 : decode cX10_feed 21 = .ok (.ifCond .eq 6, 3) := by decide +kernel
theorem dX10_feed_24 : decode cX10_feed 24 = .ok (.ldc 92, 2) := by decide +kernel
theorem dX10_feed_26 : decode cX10_feed 26 = .ok (.ireturn, 1) := by decide +kernel
theorem dX10_feed_27 : decode cX10_feed 27 = .ok (.aload_n 0, 1) := by decide +kernel
theorem dX10_feed_28 : decode cX10_feed 28 = .ok (.getfield 10, 3) := by decide +kernel
theorem dX10_feed_31 : decode cX10_feed 31 = .ok (.iload_n 1, 1) := by decide +kernel
theorem dX10_feed_32 : decode cX10_feed 32 = .ok (.invokevirtual 93, 3) := by decide +kernel
theorem dX10_feed_35 : decode cX10_feed 35 = .ok (.ireturn, 1) := by decide +kernel
theorem dX10_sheet_0 : decode cX10_sheet 0 = .ok (.aload_n 0, 1) := by decide +kernel
theorem dX10_sheet_1 : decode cX10_sheet 1 = .ok (.getfield 28, 3) := by decide +kernel
theorem dX10_sheet_4 : decode cX10_sheet 4 = .ok (.invokevirtual 97, 3) := by decide +kernel
theorem dX10_sheet_7 : decode cX10_sheet 7 = .ok (.istore_n 1, 1) := by decide +kernel
theorem dX10_sheet_8 : decode cX10_sheet 8 = .ok (.aload_n 0, 1) := by decide +kernel
theorem dX10_sheet_9 : decode cX10_sheet 9 = .ok (.getfield 10, 3) := by decide +kernel
theorem dX10_sheet_12 : decode cX10_sheet 12 = .ok (.invokevirtual 100, 3) := by decide +kernel
theorem dX10_sheet_15 : decode cX10_sheet 15 = .ok (.iload_n 1, 1) := by decide +kernel
theorem dX10_sheet_16 : decode cX10_sheet 16 = .ok (.ifCond .ne 25, 3) := by decide +kernel
theorem dX10_sheet_19 : decode cX10_sheet 19 = .ok (.aload_n 0, 1) := by decide +kernel
theorem dX10_sheet_20 : decode cX10_sheet 20 = .ok (.aload_n 0, 1) := by decide +kernel
theorem dX10_sheet_21 : decode cX10_sheet 21 = .ok (.getfield 28, 3) := by decide +kernel
theorem dX10_sheet_24 : decode cX10_sheet 24 = .ok (.getfield 103, 3) := by decide +kernel
theorem dX10_sheet_27 : decode cX10_sheet 27 = .ok (.putfield 79, 3) := by decide +kernel
theorem dX10_sheet_30 : decode cX10_sheet 30 = .ok (.ldc 106, 2) := by decide +kernel
theorem dX10_sheet_32 : decode cX10_sheet 32 = .ok (.aload_n 0, 1) := by decide +kernel
theorem dX10_sheet_33 : decode cX10_sheet 33 = .ok (.getfield 28, 3) := by decide +kernel
theorem dX10_sheet_36 : decode cX10_sheet 36 = .ok (.getfield 107, 3) := by decide +kernel
theorem dX10_sheet_39 : decode cX10_sheet 39 = .ok (.isub, 1) := by decide +kernel
theorem dX10_sheet_40 : decode cX10_sheet 40 = .ok (.ireturn, 1) := by decide +kernel
theorem dX10_sheet_41 : decode cX10_sheet 41 = .ok (.aload_n 0, 1) := by decide +kernel
theorem dX10_sheet_42 : decode cX10_sheet 42 = .ok (.getfield 19, 3) := by decide +kernel
theorem dX10_sheet_45 : decode cX10_sheet 45 = .ok (.aload_n 0, 1) := by decide +kernel
theorem dX10_sheet_46 : decode cX10_sheet 46 = .ok (.getfield 28, 3) := by decide +kernel
theorem dX10_sheet_49 : decode cX10_sheet 49 = .ok (.getfield 110, 3) := by decide +kernel
theorem dX10_sheet_52 : decode cX10_sheet 52 = .ok (.invokevirtual 113, 3) := by decide +kernel
theorem dX10_sheet_55 : decode cX10_sheet 55 = .ok (.aload_n 0, 1) := by decide +kernel
theorem dX10_sheet_56 : decode cX10_sheet 56 = .ok (.getfield 35, 3) := by decide +kernel
theorem dX10_sheet_59 : decode cX10_sheet 59 = .ok (.invokevirtual 116, 3) := by decide +kernel
theorem dX10_sheet_62 : decode cX10_sheet 62 = .ok (.aload_n 0, 1) := by decide +kernel
theorem dX10_sheet_63 : decode cX10_sheet 63 = .ok (.getfield 19, 3) := by decide +kernel
theorem dX10_sheet_66 : decode cX10_sheet 66 = .ok (.invokevirtual 119, 3) := by decide +kernel
theorem dX10_sheet_69 : decode cX10_sheet 69 = .ok (.ireturn, 1) := by decide +kernel
theorem dX10_fault_0 : decode cX10_fault 0 = .ok (.aload_n 0, 1) := by decide +kernel
theorem dX10_fault_1 : decode cX10_fault 1 = .ok (.getfield 79, 3) := by decide +kernel
theorem dX10_fault_4 : decode cX10_fault 4 = .ok (.ireturn, 1) := by decide +kernel
theorem dX10_course_0 : decode cX10_course 0 = .ok (.ldc 123, 2) := by decide +kernel
theorem dX10_course_2 : decode cX10_course 2 = .ok (.istore_n 1, 1) := by decide +kernel
theorem dX10_course_3 : decode cX10_course 3 = .ok (.iconst 0, 1) := by decide +kernel
theorem dX10_course_4 : decode cX10_course 4 = .ok (.istore_n 2, 1) := by decide +kernel
theorem dX10_course_5 : decode cX10_course 5 = .ok (.iload_n 2, 1) := by decide +kernel
theorem dX10_course_6 : decode cX10_course 6 = .ok (.bipush 16, 2) := by decide +kernel
theorem dX10_course_8 : decode cX10_course 8 = .ok (.if_icmp .ge 25, 3) := by decide +kernel
theorem dX10_course_11 : decode cX10_course 11 = .ok (.aload_n 0, 1) := by decide +kernel
theorem dX10_course_12 : decode cX10_course 12 = .ok (.getfield 10, 3) := by decide +kernel
theorem dX10_course_15 : decode cX10_course 15 = .ok (.iload_n 2, 1) := by decide +kernel
theorem dX10_course_16 : decode cX10_course 16 = .ok (.invokestatic 126, 3) := by decide +kernel
theorem dX10_course_19 : decode cX10_course 19 = .ok (.invokevirtual 130, 3) := by decide +kernel
theorem dX10_course_22 : decode cX10_course 22 = .ok (.ifCond .eq 5, 3) := by decide +kernel
theorem dX10_course_25 : decode cX10_course 25 = .ok (.iload_n 2, 1) := by decide +kernel
theorem dX10_course_26 : decode cX10_course 26 = .ok (.istore_n 1, 1) := by decide +kernel
theorem dX10_course_27 : decode cX10_course 27 = .ok (.iinc 2 1, 3) := by decide +kernel
theorem dX10_course_30 : decode cX10_course 30 = .ok (.goto (-25), 3) := by decide +kernel
theorem dX10_course_33 : decode cX10_course 33 = .ok (.aload_n 0, 1) := by decide +kernel
theorem dX10_course_34 : decode cX10_course 34 = .ok (.getfield 10, 3) := by decide +kernel
theorem dX10_course_37 : decode cX10_course 37 = .ok (.invokevirtual 100, 3) := by decide +kernel
theorem dX10_course_40 : decode cX10_course 40 = .ok (.iload_n 1, 1) := by decide +kernel
theorem dX10_course_41 : decode cX10_course 41 = .ok (.ireturn, 1) := by decide +kernel
theorem dX10_undo_0 : decode cX10_undo 0 = .ok (.aload_n 0, 1) := by decide +kernel
theorem dX10_undo_1 : decode cX10_undo 1 = .ok (.getfield 35, 3) := by decide +kernel
theorem dX10_undo_4 : decode cX10_undo 4 = .ok (.invokevirtual 134, 3) := by decide +kernel
theorem dX10_undo_7 : decode cX10_undo 7 = .ok (.ifCond .ne 6, 3) := by decide +kernel
theorem dX10_undo_10 : decode cX10_undo 10 = .ok (.ldc 137, 2) := by decide +kernel
theorem dX10_undo_12 : decode cX10_undo 12 = .ok (.ireturn, 1) := by decide +kernel
theorem dX10_undo_13 : decode cX10_undo 13 = .ok (.aload_n 0, 1) := by decide +kernel
theorem dX10_undo_14 : decode cX10_undo 14 = .ok (.getfield 35, 3) := by decide +kernel
theorem dX10_undo_17 : decode cX10_undo 17 = .ok (.aload_n 0, 1) := by decide +kernel
theorem dX10_undo_18 : decode cX10_undo 18 = .ok (.getfield 19, 3) := by decide +kernel
theorem dX10_undo_21 : decode cX10_undo 21 = .ok (.invokevirtual 138, 3) := by decide +kernel
theorem dX10_undo_24 : decode cX10_undo 24 = .ok (.aload_n 0, 1) := by decide +kernel
theorem dX10_undo_25 : decode cX10_undo 25 = .ok (.getfield 35, 3) := by decide +kernel
theorem dX10_undo_28 : decode cX10_undo 28 = .ok (.invokevirtual 134, 3) := by decide +kernel
theorem dX10_undo_31 : decode cX10_undo 31 = .ok (.ireturn, 1) := by decide +kernel
theorem dX10_measure_0 : decode cX10_measure 0 = .ok (.aload_n 0, 1) := by decide +kernel
theorem dX10_measure_1 : decode cX10_measure 1 = .ok (.getfield 19, 3) := by decide +kernel
theorem dX10_measure_4 : decode cX10_measure 4 = .ok (.iload_n 1, 1) := by decide +kernel
theorem dX10_measure_5 : decode cX10_measure 5 = .ok (.invokevirtual 141, 3) := by decide +kernel
theorem dX10_measure_8 : decode cX10_measure 8 = .ok (.ifCond .eq 24, 3) := by decide +kernel
theorem dX10_measure_11 : decode cX10_measure 11 = .ok (.iload_n 2, 1) := by decide +kernel
theorem dX10_measure_12 : decode cX10_measure 12 = .ok (.iconst 0, 1) := by decide +kernel
theorem dX10_measure_13 : decode cX10_measure 13 = .ok (.iconst 3, 1) := by decide +kernel
theorem dX10_measure_14 : decode cX10_measure 14 = .ok (.invokestatic 83, 3) := by decide +kernel
theorem dX10_measure_17 : decode cX10_measure 17 = .ok (.ifCond .eq 15, 3) := by decide +kernel
theorem dX10_measure_20 : decode cX10_measure 20 = .ok (.iload_n 3, 1) := by decide +kernel
theorem dX10_measure_21 : decode cX10_measure 21 = .ok (.iconst 0, 1) := by decide +kernel
theorem dX10_measure_22 : decode cX10_measure 22 = .ok (.iload_n 2, 1) := by decide +kernel
theorem dX10_measure_23 : decode cX10_measure 23 = .ok (.invokestatic 145, 3) := by decide +kernel
theorem dX10_measure_26 : decode cX10_measure 26 = .ok (.invokestatic 83, 3) := by decide +kernel
theorem dX10_measure_29 : decode cX10_measure 29 = .ok (.ifCond .ne 6, 3) := by decide +kernel
theorem dX10_measure_32 : decode cX10_measure 32 = .ok (.ldc 87, 2) := by decide +kernel
theorem dX10_measure_34 : decode cX10_measure 34 = .ok (.ireturn, 1) := by decide +kernel
theorem dX10_measure_35 : decode cX10_measure 35 = .ok (.aload_n 0, 1) := by decide +kernel
theorem dX10_measure_36 : decode cX10_measure 36 = .ok (.getfield 35, 3) := by decide +kernel
theorem dX10_measure_39 : decode cX10_measure 39 = .ok (.aload_n 0, 1) := by decide +kernel
theorem dX10_measure_40 : decode cX10_measure 40 = .ok (.getfield 19, 3) := by decide +kernel
theorem dX10_measure_43 : decode cX10_measure 43 = .ok (.invokevirtual 148, 3) := by decide +kernel
theorem dX10_measure_46 : decode cX10_measure 46 = .ok (.aload_n 0, 1) := by decide +kernel
theorem dX10_measure_47 : decode cX10_measure 47 = .ok (.getfield 19, 3) := by decide +kernel
theorem dX10_measure_50 : decode cX10_measure 50 = .ok (.iload_n 1, 1) := by decide +kernel
theorem dX10_measure_51 : decode cX10_measure 51 = .ok (.iconst 1, 1) := by decide +kernel
theorem dX10_measure_52 : decode cX10_measure 52 = .ok (.iload_n 2, 1) := by decide +kernel
theorem dX10_measure_53 : decode cX10_measure 53 = .ok (.iadd, 1) := by decide +kernel
theorem dX10_measure_54 : decode cX10_measure 54 = .ok (.iload_n 3, 1) := by decide +kernel
theorem dX10_measure_55 : decode cX10_measure 55 = .ok (.invokevirtual 151, 3) := by decide +kernel
theorem dX10_measure_58 : decode cX10_measure 58 = .ok (.ireturn, 1) := by decide +kernel
theorem dX10_become_0 : decode cX10_become 0 = .ok (.aload_n 0, 1) := by decide +kernel
theorem dX10_become_1 : decode cX10_become 1 = .ok (.getfield 19, 3) := by decide +kernel
theorem dX10_become_4 : decode cX10_become 4 = .ok (.iload_n 1, 1) := by decide +kernel
theorem dX10_become_5 : decode cX10_become 5 = .ok (.invokevirtual 141, 3) := by decide +kernel
theorem dX10_become_8 : decode cX10_become 8 = .ok (.ifCond .eq 13, 3) := by decide +kernel
theorem dX10_become_11 : decode cX10_become 11 = .ok (.iload_n 2, 1) := by decide +kernel
theorem dX10_become_12 : decode cX10_become 12 = .ok (.iconst 1, 1) := by decide +kernel
theorem dX10_become_13 : decode cX10_become 13 = .ok (.bipush 6, 2) := by decide +kernel
theorem dX10_become_15 : decode cX10_become 15 = .ok (.invokestatic 83, 3) := by decide +kernel
theorem dX10_become_18 : decode cX10_become 18 = .ok (.ifCond .ne 6, 3) := by decide +kernel
theorem dX10_become_21 : decode cX10_become 21 = .ok (.ldc 87, 2) := by decide +kernel
theorem dX10_become_23 : decode cX10_become 23 = .ok (.ireturn, 1) := by decide +kernel
theorem dX10_become_24 : decode cX10_become 24 = .ok (.aload_n 0, 1) := by decide +kernel
theorem dX10_become_25 : decode cX10_become 25 = .ok (.getfield 19, 3) := by decide +kernel
theorem dX10_become_28 : decode cX10_become 28 = .ok (.iload_n 1, 1) := by decide +kernel
theorem dX10_become_29 : decode cX10_become 29 = .ok (.iconst 0, 1) := by decide +kernel
theorem dX10_become_30 : decode cX10_become 30 = .ok (.invokevirtual 155, 3) := by decide +kernel
theorem dX10_become_33 : decode cX10_become 33 = .ok (.iload_n 2, 1) := by decide +kernel
theorem dX10_become_34 : decode cX10_become 34 = .ok (.if_icmp .ne 6, 3) := by decide +kernel
theorem dX10_become_37 : decode cX10_become 37 = .ok (.ldc 137, 2) := by decide +kernel
theorem dX10_become_39 : decode cX10_become 39 = .ok (.ireturn, 1) := by decide +kernel
theorem dX10_become_40 : decode cX10_become 40 = .ok (.aload_n 0, 1) := by decide +kernel
theorem dX10_become_41 : decode cX10_become 41 = .ok (.getfield 35, 3) := by decide +kernel
theorem dX10_become_44 : decode cX10_become 44 = .ok (.aload_n 0, 1) := by decide +kernel
theorem dX10_become_45 : decode cX10_become 45 = .ok (.getfield 19, 3) := by decide +kernel
theorem dX10_become_48 : decode cX10_become 48 = .ok (.invokevirtual 148, 3) := by decide +kernel
theorem dX10_become_51 : decode cX10_become 51 = .ok (.aload_n 0, 1) := by decide +kernel
theorem dX10_become_52 : decode cX10_become 52 = .ok (.getfield 19, 3) := by decide +kernel
theorem dX10_become_55 : decode cX10_become 55 = .ok (.iload_n 1, 1) := by decide +kernel
theorem dX10_become_56 : decode cX10_become 56 = .ok (.iconst 0, 1) := by decide +kernel
theorem dX10_become_57 : decode cX10_become 57 = .ok (.iload_n 2, 1) := by decide +kernel
theorem dX10_become_58 : decode cX10_become 58 = .ok (.invokevirtual 151, 3) := by decide +kernel
theorem dX10_become_61 : decode cX10_become 61 = .ok (.ireturn, 1) := by decide +kernel
theorem dX10_ship_0 : decode cX10_ship 0 = .ok (.aload_n 0, 1) := by decide +kernel
theorem dX10_ship_1 : decode cX10_ship 1 = .ok (.getfield 19, 3) := by decide +kernel
theorem dX10_ship_4 : decode cX10_ship 4 = .ok (.invokevirtual 159, 3) := by decide +kernel
theorem dX10_ship_7 : decode cX10_ship 7 = .ok (.ifCond .ne 6, 3) := by decide +kernel
theorem dX10_ship_10 : decode cX10_ship 10 = .ok (.ldc 137, 2) := by decide +kernel
theorem dX10_ship_12 : decode cX10_ship 12 = .ok (.ireturn, 1) := by decide +kernel
theorem dX10_ship_13 : decode cX10_ship 13 = .ok (.iload_n 1, 1) := by decide +kernel
theorem dX10_ship_14 : decode cX10_ship 14 = .ok (.iconst 0, 1) := by decide +kernel
theorem dX10_ship_15 : decode cX10_ship 15 = .ok (.iconst 4, 1) := by decide +kernel
theorem dX10_ship_16 : decode cX10_ship 16 = .ok (.invokestatic 83, 3) := by decide +kernel
theorem dX10_ship_19 : decode cX10_ship 19 = .ok (.ifCond .ne 6, 3) := by decide +kernel
theorem dX10_ship_22 : decode cX10_ship 22 = .ok (.ldc 87, 2) := by decide +kernel
theorem dX10_ship_24 : decode cX10_ship 24 = .ok (.ireturn, 1) := by decide +kernel
theorem dX10_ship_25 : decode cX10_ship 25 = .ok (.iload_n 2, 1) := by decide +kernel
theorem dX10_ship_26 : decode cX10_ship 26 = .ok (.iconst 0, 1) := by decide +kernel
theorem dX10_ship_27 : decode cX10_ship 27 = .ok (.iload_n 1, 1) := by decide +kernel
theorem dX10_ship_28 : decode cX10_ship 28 = .ok (.ifCond .ne 8, 3) := by decide +kernel
theorem dX10_ship_31 : decode cX10_ship 31 = .ok (.bipush 20, 2) := by decide +kernel
theorem dX10_ship_33 : decode cX10_ship 33 = .ok (.goto 5, 3) := by decide +kernel
theorem dX10_ship_36 : decode cX10_ship 36 = .ok (.bipush 60, 2) := by decide +kernel
theorem dX10_ship_38 : decode cX10_ship 38 = .ok (.invokestatic 83, 3) := by decide +kernel
theorem dX10_ship_41 : decode cX10_ship 41 = .ok (.ifCond .ne 6, 3) := by decide +kernel
theorem dX10_ship_44 : decode cX10_ship 44 = .ok (.ldc 87, 2) := by decide +kernel
theorem dX10_ship_46 : decode cX10_ship 46 = .ok (.ireturn, 1) := by decide +kernel
theorem dX10_ship_47 : decode cX10_ship 47 = .ok (.aload_n 0, 1) := by decide +kernel
theorem dX10_ship_48 : decode cX10_ship 48 = .ok (.getfield 35, 3) := by decide +kernel
theorem dX10_ship_51 : decode cX10_ship 51 = .ok (.aload_n 0, 1) := by decide +kernel
theorem dX10_ship_52 : decode cX10_ship 52 = .ok (.getfield 19, 3) := by decide +kernel
theorem dX10_ship_55 : decode cX10_ship 55 = .ok (.invokevirtual 148, 3) := by decide +kernel
theorem dX10_ship_58 : decode cX10_ship 58 = .ok (.aload_n 0, 1) := by decide +kernel
theorem dX10_ship_59 : decode cX10_ship 59 = .ok (.getfield 19, 3) := by decide +kernel
theorem dX10_ship_62 : decode cX10_ship 62 = .ok (.iload_n 1, 1) := by decide +kernel
theorem dX10_ship_63 : decode cX10_ship 63 = .ok (.iload_n 2, 1) := by decide +kernel
theorem dX10_ship_64 : decode cX10_ship 64 = .ok (.invokevirtual 162, 3) := by decide +kernel
theorem dX10_ship_67 : decode cX10_ship 67 = .ok (.ireturn, 1) := by decide +kernel
theorem dX10_tide_0 : decode cX10_tide 0 = .ok (.iload_n 1, 1) := by decide +kernel
theorem dX10_tide_1 : decode cX10_tide 1 = .ok (.iconst 0, 1) := by decide +kernel
theorem dX10_tide_2 : decode cX10_tide 2 = .ok (.aload_n 0, 1) := by decide +kernel
theorem dX10_tide_3 : decode cX10_tide 3 = .ok (.getfield 19, 3) := by decide +kernel
theorem dX10_tide_6 : decode cX10_tide 6 = .ok (.invokevirtual 165, 3) := by decide +kernel
theorem dX10_tide_9 : decode cX10_tide 9 = .ok (.iconst 1, 1) := by decide +kernel
theorem dX10_tide_10 : decode cX10_tide 10 = .ok (.isub, 1) := by decide +kernel
theorem dX10_tide_11 : decode cX10_tide 11 = .ok (.invokestatic 83, 3) := by decide +kernel
theorem dX10_tide_14 : decode cX10_tide 14 = .ok (.ifCond .eq 13, 3) := by decide +kernel
theorem dX10_tide_17 : decode cX10_tide 17 = .ok (.iload_n 2, 1) := by decide +kernel
theorem dX10_tide_18 : decode cX10_tide 18 = .ok (.iconst 0, 1) := by decide +kernel
theorem dX10_tide_19 : decode cX10_tide 19 = .ok (.bipush 20, 2) := by decide +kernel
theorem dX10_tide_21 : decode cX10_tide 21 = .ok (.invokestatic 83, 3) := by decide +kernel
theorem dX10_tide_24 : decode cX10_tide 24 = .ok (.ifCond .ne 6, 3) := by decide +kernel
theorem dX10_tide_27 : decode cX10_tide 27 = .ok (.ldc 87, 2) := by decide +kernel
theorem dX10_tide_29 : decode cX10_tide 29 = .ok (.ireturn, 1) := by decide +kernel
theorem dX10_tide_30 : decode cX10_tide 30 = .ok (.aload_n 0, 1) := by decide +kernel
theorem dX10_tide_31 : decode cX10_tide 31 = .ok (.getfield 35, 3) := by decide +kernel
theorem dX10_tide_34 : decode cX10_tide 34 = .ok (.aload_n 0, 1) := by decide +kernel
theorem dX10_tide_35 : decode cX10_tide 35 = .ok (.getfield 19, 3) := by decide +kernel
theorem dX10_tide_38 : decode cX10_tide 38 = .ok (.invokevirtual 148, 3) := by decide +kernel
theorem dX10_tide_41 : decode cX10_tide 41 = .ok (.aload_n 0, 1) := by decide +kernel
theorem dX10_tide_42 : decode cX10_tide 42 = .ok (.getfield 19, 3) := by decide +kernel
theorem dX10_tide_45 : decode cX10_tide 45 = .ok (.iload_n 1, 1) := by decide +kernel
theorem dX10_tide_46 : decode cX10_tide 46 = .ok (.iload_n 2, 1) := by decide +kernel
theorem dX10_tide_47 : decode cX10_tide 47 = .ok (.invokevirtual 168, 3) := by decide +kernel
theorem dX10_tide_50 : decode cX10_tide 50 = .ok (.ireturn, 1) := by decide +kernel
theorem dX10_steer_0 : decode cX10_steer 0 = .ok (.aload_n 0, 1) := by decide +kernel
theorem dX10_steer_1 : decode cX10_steer 1 = .ok (.getfield 19, 3) := by decide +kernel
theorem dX10_steer_4 : decode cX10_steer 4 = .ok (.iload_n 1, 1) := by decide +kernel
theorem dX10_steer_5 : decode cX10_steer 5 = .ok (.invokevirtual 171, 3) := by decide +kernel
theorem dX10_steer_8 : decode cX10_steer 8 = .ok (.ifCond .eq 10, 3) := by decide +kernel
theorem dX10_steer_11 : decode cX10_steer 11 = .ok (.iload_n 2, 1) := by decide +kernel
theorem dX10_steer_12 : decode cX10_steer 12 = .ok (.invokestatic 174, 3) := by decide +kernel
theorem dX10_steer_15 : decode cX10_steer 15 = .ok (.ifCond .ne 6, 3) := by decide +kernel
theorem dX10_steer_18 : decode cX10_steer 18 = .ok (.ldc 87, 2) := by decide +kernel
theorem dX10_steer_20 : decode cX10_steer 20 = .ok (.ireturn, 1) := by decide +kernel
theorem dX10_steer_21 : decode cX10_steer 21 = .ok (.aload_n 0, 1) := by decide +kernel
theorem dX10_steer_22 : decode cX10_steer 22 = .ok (.getfield 35, 3) := by decide +kernel
theorem dX10_steer_25 : decode cX10_steer 25 = .ok (.aload_n 0, 1) := by decide +kernel
theorem dX10_steer_26 : decode cX10_steer 26 = .ok (.getfield 19, 3) := by decide +kernel
theorem dX10_steer_29 : decode cX10_steer 29 = .ok (.invokevirtual 148, 3) := by decide +kernel
theorem dX10_steer_32 : decode cX10_steer 32 = .ok (.aload_n 0, 1) := by decide +kernel
theorem dX10_steer_33 : decode cX10_steer 33 = .ok (.getfield 19, 3) := by decide +kernel
theorem dX10_steer_36 : decode cX10_steer 36 = .ok (.iload_n 1, 1) := by decide +kernel
theorem dX10_steer_37 : decode cX10_steer 37 = .ok (.iconst 0, 1) := by decide +kernel
theorem dX10_steer_38 : decode cX10_steer 38 = .ok (.iload_n 2, 1) := by decide +kernel
theorem dX10_steer_39 : decode cX10_steer 39 = .ok (.invokevirtual 177, 3) := by decide +kernel
theorem dX10_steer_42 : decode cX10_steer 42 = .ok (.ireturn, 1) := by decide +kernel
theorem dX10_until_0 : decode cX10_until 0 = .ok (.aload_n 0, 1) := by decide +kernel
theorem dX10_until_1 : decode cX10_until 1 = .ok (.getfield 19, 3) := by decide +kernel
theorem dX10_until_4 : decode cX10_until 4 = .ok (.iload_n 1, 1) := by decide +kernel
theorem dX10_until_5 : decode cX10_until 5 = .ok (.invokevirtual 171, 3) := by decide +kernel
theorem dX10_until_8 : decode cX10_until 8 = .ok (.ifCond .eq 13, 3) := by decide +kernel
theorem dX10_until_11 : decode cX10_until 11 = .ok (.iload_n 2, 1) := by decide +kernel
theorem dX10_until_12 : decode cX10_until 12 = .ok (.iload_n 3, 1) := by decide +kernel
theorem dX10_until_13 : decode cX10_until 13 = .ok (.iload 4, 2) := by decide +kernel
theorem dX10_until_15 : decode cX10_until 15 = .ok (.invokestatic 180, 3) := by decide +kernel
theorem dX10_until_18 : decode cX10_until 18 = .ok (.ifCond .ne 6, 3) := by decide +kernel
theorem dX10_until_21 : decode cX10_until 21 = .ok (.ldc 87, 2) := by decide +kernel
theorem dX10_until_23 : decode cX10_until 23 = .ok (.ireturn, 1) := by decide +kernel
theorem dX10_until_24 : decode cX10_until 24 = .ok (.aload_n 0, 1) := by decide +kernel
theorem dX10_until_25 : decode cX10_until 25 = .ok (.getfield 35, 3) := by decide +kernel
theorem dX10_until_28 : decode cX10_until 28 = .ok (.aload_n 0, 1) := by decide +kernel
theorem dX10_until_29 : decode cX10_until 29 = .ok (.getfield 19, 3) := by decide +kernel
theorem dX10_until_32 : decode cX10_until 32 = .ok (.invokevirtual 148, 3) := by decide +kernel
theorem dX10_until_35 : decode cX10_until 35 = .ok (.aload_n 0, 1) := by decide +kernel
theorem dX10_until_36 : decode cX10_until 36 = .ok (.getfield 19, 3) := by decide +kernel
theorem dX10_until_39 : decode cX10_until 39 = .ok (.iload_n 1, 1) := by decide +kernel
theorem dX10_until_40 : decode cX10_until 40 = .ok (.iload_n 2, 1) := by decide +kernel
theorem dX10_until_41 : decode cX10_until 41 = .ok (.iload_n 3, 1) := by decide +kernel
theorem dX10_until_42 : decode cX10_until 42 = .ok (.iload 4, 2) := by decide +kernel
theorem dX10_until_44 : decode cX10_until 44 = .ok (.invokevirtual 183, 3) := by decide +kernel
theorem dX10_until_47 : decode cX10_until 47 = .ok (.ireturn, 1) := by decide +kernel
theorem dX10_add_0 : decode cX10_add 0 = .ok (.aload_n 0, 1) := by decide +kernel
theorem dX10_add_1 : decode cX10_add 1 = .ok (.getfield 19, 3) := by decide +kernel
theorem dX10_add_4 : decode cX10_add 4 = .ok (.invokevirtual 159, 3) := by decide +kernel
theorem dX10_add_7 : decode cX10_add 7 = .ok (.ifCond .ne 6, 3) := by decide +kernel
theorem dX10_add_10 : decode cX10_add 10 = .ok (.ldc 137, 2) := by decide +kernel
theorem dX10_add_12 : decode cX10_add 12 = .ok (.ireturn, 1) := by decide +kernel
theorem dX10_add_13 : decode cX10_add 13 = .ok (.iload_n 1, 1) := by decide +kernel
theorem dX10_add_14 : decode cX10_add 14 = .ok (.iconst 0, 1) := by decide +kernel
theorem dX10_add_15 : decode cX10_add 15 = .ok (.aload_n 0, 1) := by decide +kernel
theorem dX10_add_16 : decode cX10_add 16 = .ok (.getfield 19, 3) := by decide +kernel
theorem dX10_add_19 : decode cX10_add 19 = .ok (.invokevirtual 119, 3) := by decide +kernel
theorem dX10_add_22 : decode cX10_add 22 = .ok (.invokestatic 83, 3) := by decide +kernel
theorem dX10_add_25 : decode cX10_add 25 = .ok (.ifCond .eq 21, 3) := by decide +kernel
theorem dX10_add_28 : decode cX10_add 28 = .ok (.iload_n 2, 1) := by decide +kernel
theorem dX10_add_29 : decode cX10_add 29 = .ok (.invokestatic 174, 3) := by decide +kernel
theorem dX10_add_32 : decode cX10_add 32 = .ok (.ifCond .eq 14, 3) := by decide +kernel
theorem dX10_add_35 : decode cX10_add 35 = .ok (.iload_n 3, 1) := by decide +kernel
theorem dX10_add_36 : decode cX10_add 36 = .ok (.iload 4, 2) := by decide +kernel
theorem dX10_add_38 : decode cX10_add 38 = .ok (.iload 5, 2) := by decide +kernel
theorem dX10_add_40 : decode cX10_add 40 = .ok (.invokestatic 180, 3) := by decide +kernel
theorem dX10_add_43 : decode cX10_add 43 = .ok (.ifCond .ne 6, 3) := by decide +kernel
theorem dX10_add_46 : decode cX10_add 46 = .ok (.ldc 87, 2) := by decide +kernel
theorem dX10_add_48 : decode cX10_add 48 = .ok (.ireturn, 1) := by decide +kernel
theorem dX10_add_49 : decode cX10_add 49 = .ok (.aload_n 0, 1) := by decide +kernel
theorem dX10_add_50 : decode cX10_add 50 = .ok (.getfield 19, 3) := by decide +kernel
theorem dX10_add_53 : decode cX10_add 53 = .ok (.invokevirtual 119, 3) := by decide +kernel
theorem dX10_add_56 : decode cX10_add 56 = .ok (.bipush 6, 2) := by decide +kernel
theorem dX10_add_58 : decode cX10_add 58 = .ok (.if_icmp .ne 6, 3) := by decide +kernel
theorem dX10_add_61 : decode cX10_add 61 = .ok (.ldc 92, 2) := by decide +kernel
theorem dX10_add_63 : decode cX10_add 63 = .ok (.ireturn, 1) := by decide +kernel
theorem dX10_add_64 : decode cX10_add 64 = .ok (.aload_n 0, 1) := by decide +kernel
theorem dX10_add_65 : decode cX10_add 65 = .ok (.getfield 35, 3) := by decide +kernel
theorem dX10_add_68 : decode cX10_add 68 = .ok (.aload_n 0, 1) := by decide +kernel
theorem dX10_add_69 : decode cX10_add 69 = .ok (.getfield 19, 3) := by decide +kernel
theorem dX10_add_72 : decode cX10_add 72 = .ok (.invokevirtual 148, 3) := by decide +kernel
theorem dX10_add_75 : decode cX10_add 75 = .ok (.aload_n 0, 1) := by decide +kernel
theorem dX10_add_76 : decode cX10_add 76 = .ok (.getfield 19, 3) := by decide +kernel
theorem dX10_add_79 : decode cX10_add 79 = .ok (.iload_n 1, 1) := by decide +kernel
theorem dX10_add_80 : decode cX10_add 80 = .ok (.invokevirtual 187, 3) := by decide +kernel
theorem dX10_add_83 : decode cX10_add 83 = .ok (.aload_n 0, 1) := by decide +kernel
theorem dX10_add_84 : decode cX10_add 84 = .ok (.getfield 19, 3) := by decide +kernel
theorem dX10_add_87 : decode cX10_add 87 = .ok (.iload_n 1, 1) := by decide +kernel
theorem dX10_add_88 : decode cX10_add 88 = .ok (.iconst 0, 1) := by decide +kernel
theorem dX10_add_89 : decode cX10_add 89 = .ok (.iload_n 2, 1) := by decide +kernel
theorem dX10_add_90 : decode cX10_add 90 = .ok (.invokevirtual 177, 3) := by decide +kernel
theorem dX10_add_93 : decode cX10_add 93 = .ok (.pop, 1) := by decide +kernel
theorem dX10_add_94 : decode cX10_add 94 = .ok (.aload_n 0, 1) := by decide +kernel
theorem dX10_add_95 : decode cX10_add 95 = .ok (.getfield 19, 3) := by decide +kernel
theorem dX10_add_98 : decode cX10_add 98 = .ok (.iload_n 1, 1) := by decide +kernel
theorem dX10_add_99 : decode cX10_add 99 = .ok (.iload_n 3, 1) := by decide +kernel
theorem dX10_add_100 : decode cX10_add 100 = .ok (.iload 4, 2) := by decide +kernel
theorem dX10_add_102 : decode cX10_add 102 = .ok (.iload 5, 2) := by decide +kernel
theorem dX10_add_104 : decode cX10_add 104 = .ok (.invokevirtual 183, 3) := by decide +kernel
theorem dX10_add_107 : decode cX10_add 107 = .ok (.pop, 1) := by decide +kernel
theorem dX10_add_108 : decode cX10_add 108 = .ok (.aload_n 0, 1) := by decide +kernel
theorem dX10_add_109 : decode cX10_add 109 = .ok (.getfield 19, 3) := by decide +kernel
theorem dX10_add_112 : decode cX10_add 112 = .ok (.invokevirtual 119, 3) := by decide +kernel
theorem dX10_add_115 : decode cX10_add 115 = .ok (.ireturn, 1) := by decide +kernel
theorem dX10_cut_0 : decode cX10_cut 0 = .ok (.aload_n 0, 1) := by decide +kernel
theorem dX10_cut_1 : decode cX10_cut 1 = .ok (.getfield 19, 3) := by decide +kernel
theorem dX10_cut_4 : decode cX10_cut 4 = .ok (.iload_n 1, 1) := by decide +kernel
theorem dX10_cut_5 : decode cX10_cut 5 = .ok (.invokevirtual 171, 3) := by decide +kernel
theorem dX10_cut_8 : decode cX10_cut 8 = .ok (.ifCond .ne 6, 3) := by decide +kernel
theorem dX10_cut_11 : decode cX10_cut 11 = .ok (.ldc 87, 2) := by decide +kernel
theorem dX10_cut_13 : decode cX10_cut 13 = .ok (.ireturn, 1) := by decide +kernel
theorem dX10_cut_14 : decode cX10_cut 14 = .ok (.aload_n 0, 1) := by decide +kernel
theorem dX10_cut_15 : decode cX10_cut 15 = .ok (.getfield 19, 3) := by decide +kernel
theorem dX10_cut_18 : decode cX10_cut 18 = .ok (.invokevirtual 119, 3) := by decide +kernel
theorem dX10_cut_21 : decode cX10_cut 21 = .ok (.iconst 1, 1) := by decide +kernel
theorem dX10_cut_22 : decode cX10_cut 22 = .ok (.if_icmp .ne 6, 3) := by decide +kernel
theorem dX10_cut_25 : decode cX10_cut 25 = .ok (.ldc 137, 2) := by decide +kernel
theorem dX10_cut_27 : decode cX10_cut 27 = .ok (.ireturn, 1) := by decide +kernel
theorem dX10_cut_28 : decode cX10_cut 28 = .ok (.aload_n 0, 1) := by decide +kernel
theorem dX10_cut_29 : decode cX10_cut 29 = .ok (.getfield 35, 3) := by decide +kernel
theorem dX10_cut_32 : decode cX10_cut 32 = .ok (.aload_n 0, 1) := by decide +kernel
theorem dX10_cut_33 : decode cX10_cut 33 = .ok (.getfield 19, 3) := by decide +kernel
theorem dX10_cut_36 : decode cX10_cut 36 = .ok (.invokevirtual 148, 3) := by decide +kernel
theorem dX10_cut_39 : decode cX10_cut 39 = .ok (.aload_n 0, 1) := by decide +kernel
theorem dX10_cut_40 : decode cX10_cut 40 = .ok (.getfield 19, 3) := by decide +kernel
theorem dX10_cut_43 : decode cX10_cut 43 = .ok (.iload_n 1, 1) := by decide +kernel
theorem dX10_cut_44 : decode cX10_cut 44 = .ok (.invokevirtual 191, 3) := by decide +kernel
theorem dX10_cut_47 : decode cX10_cut 47 = .ok (.aload_n 0, 1) := by decide +kernel
theorem dX10_cut_48 : decode cX10_cut 48 = .ok (.getfield 19, 3) := by decide +kernel
theorem dX10_cut_51 : decode cX10_cut 51 = .ok (.invokevirtual 119, 3) := by decide +kernel
theorem dX10_cut_54 : decode cX10_cut 54 = .ok (.ireturn, 1) := by decide +kernel
theorem dX10_thing_0 : decode cX10_thing 0 = .ok (.aload_n 0, 1) := by decide +kernel
theorem dX10_thing_1 : decode cX10_thing 1 = .ok (.getfield 19, 3) := by decide +kernel
theorem dX10_thing_4 : decode cX10_thing 4 = .ok (.iload_n 1, 1) := by decide +kernel
theorem dX10_thing_5 : decode cX10_thing 5 = .ok (.invokevirtual 141, 3) := by decide +kernel
theorem dX10_thing_8 : decode cX10_thing 8 = .ok (.ifCond .eq 12, 3) := by decide +kernel
theorem dX10_thing_11 : decode cX10_thing 11 = .ok (.iload_n 2, 1) := by decide +kernel
theorem dX10_thing_12 : decode cX10_thing 12 = .ok (.iconst 0, 1) := by decide +kernel
theorem dX10_thing_13 : decode cX10_thing 13 = .ok (.iconst 4, 1) := by decide +kernel
theorem dX10_thing_14 : decode cX10_thing 14 = .ok (.invokestatic 83, 3) := by decide +kernel
theorem dX10_thing_17 : decode cX10_thing 17 = .ok (.ifCond .ne 6, 3) := by decide +kernel
theorem dX10_thing_20 : decode cX10_thing 20 = .ok (.ldc 87, 2) := by decide +kernel
theorem dX10_thing_22 : decode cX10_thing 22 = .ok (.ireturn, 1) := by decide +kernel
theorem dX10_thing_23 : decode cX10_thing 23 = .ok (.aload_n 0, 1) := by decide +kernel
theorem dX10_thing_24 : decode cX10_thing 24 = .ok (.getfield 19, 3) := by decide +kernel
theorem dX10_thing_27 : decode cX10_thing 27 = .ok (.iload_n 1, 1) := by decide +kernel
theorem dX10_thing_28 : decode cX10_thing 28 = .ok (.iload_n 2, 1) := by decide +kernel
theorem dX10_thing_29 : decode cX10_thing 29 = .ok (.invokevirtual 155, 3) := by decide +kernel
theorem dX10_thing_32 : decode cX10_thing 32 = .ok (.ireturn, 1) := by decide +kernel
theorem dX10_leg_0 : decode cX10_leg 0 = .ok (.aload_n 0, 1) := by decide +kernel
theorem dX10_leg_1 : decode cX10_leg 1 = .ok (.getfield 19, 3) := by decide +kernel
theorem dX10_leg_4 : decode cX10_leg 4 = .ok (.iload_n 1, 1) := by decide +kernel
theorem dX10_leg_5 : decode cX10_leg 5 = .ok (.invokevirtual 171, 3) := by decide +kernel
theorem dX10_leg_8 : decode cX10_leg 8 = .ok (.ifCond .eq 12, 3) := by decide +kernel
theorem dX10_leg_11 : decode cX10_leg 11 = .ok (.iload_n 2, 1) := by decide +kernel
theorem dX10_leg_12 : decode cX10_leg 12 = .ok (.iconst 0, 1) := by decide +kernel
theorem dX10_leg_13 : decode cX10_leg 13 = .ok (.iconst 3, 1) := by decide +kernel
theorem dX10_leg_14 : decode cX10_leg 14 = .ok (.invokestatic 83, 3) := by decide +kernel
theorem dX10_leg_17 : decode cX10_leg 17 = .ok (.ifCond .ne 6, 3) := by decide +kernel
theorem dX10_leg_20 : decode cX10_leg 20 = .ok (.ldc 87, 2) := by decide +kernel
theorem dX10_leg_22 : decode cX10_leg 22 = .ok (.ireturn, 1) := by decide +kernel
theorem dX10_leg_23 : decode cX10_leg 23 = .ok (.aload_n 0, 1) := by decide +kernel
theorem dX10_leg_24 : decode cX10_leg 24 = .ok (.getfield 19, 3) := by decide +kernel
theorem dX10_leg_27 : decode cX10_leg 27 = .ok (.iload_n 1, 1) := by decide +kernel
theorem dX10_leg_28 : decode cX10_leg 28 = .ok (.iload_n 2, 1) := by decide +kernel
theorem dX10_leg_29 : decode cX10_leg 29 = .ok (.invokevirtual 194, 3) := by decide +kernel
theorem dX10_leg_32 : decode cX10_leg 32 = .ok (.ireturn, 1) := by decide +kernel
theorem dX10_height_0 : decode cX10_height 0 = .ok (.aload_n 0, 1) := by decide +kernel
theorem dX10_height_1 : decode cX10_height 1 = .ok (.getfield 19, 3) := by decide +kernel
theorem dX10_height_4 : decode cX10_height 4 = .ok (.invokevirtual 159, 3) := by decide +kernel
theorem dX10_height_7 : decode cX10_height 7 = .ok (.ifCond .ne 6, 3) := by decide +kernel
theorem dX10_height_10 : decode cX10_height 10 = .ok (.ldc 137, 2) := by decide +kernel
theorem dX10_height_12 : decode cX10_height 12 = .ok (.ireturn, 1) := by decide +kernel
theorem dX10_height_13 : decode cX10_height 13 = .ok (.iload_n 1, 1) := by decide +kernel
theorem dX10_height_14 : decode cX10_height 14 = .ok (.iconst 0, 1) := by decide +kernel
theorem dX10_height_15 : decode cX10_height 15 = .ok (.sipush 9999, 3) := by decide +kernel
theorem dX10_height_18 : decode cX10_height 18 = .ok (.invokestatic 83, 3) := by decide +kernel
theorem dX10_height_21 : decode cX10_height 21 = .ok (.ifCond .ne 6, 3) := by decide +kernel
theorem dX10_height_24 : decode cX10_height 24 = .ok (.ldc 87, 2) := by decide +kernel
theorem dX10_height_26 : decode cX10_height 26 = .ok (.ireturn, 1) := by decide +kernel
theorem dX10_height_27 : decode cX10_height 27 = .ok (.aload_n 0, 1) := by decide +kernel
theorem dX10_height_28 : decode cX10_height 28 = .ok (.getfield 50, 3) := by decide +kernel
theorem dX10_height_31 : decode cX10_height 31 = .ok (.iload_n 1, 1) := by decide +kernel
theorem dX10_height_32 : decode cX10_height 32 = .ok (.invokevirtual 197, 3) := by decide +kernel
theorem dX10_height_35 : decode cX10_height 35 = .ok (.ireturn, 1) := by decide +kernel
theorem dX10_water_0 : decode cX10_water 0 = .ok (.aload_n 0, 1) := by decide +kernel
theorem dX10_water_1 : decode cX10_water 1 = .ok (.getfield 19, 3) := by decide +kernel
theorem dX10_water_4 : decode cX10_water 4 = .ok (.invokevirtual 159, 3) := by decide +kernel
theorem dX10_water_7 : decode cX10_water 7 = .ok (.ifCond .ne 6, 3) := by decide +kernel
theorem dX10_water_10 : decode cX10_water 10 = .ok (.ldc 137, 2) := by decide +kernel
theorem dX10_water_12 : decode cX10_water 12 = .ok (.ireturn, 1) := by decide +kernel
theorem dX10_water_13 : decode cX10_water 13 = .ok (.iload_n 1, 1) := by decide +kernel
theorem dX10_water_14 : decode cX10_water 14 = .ok (.iload_n 2, 1) := by decide +kernel
theorem dX10_water_15 : decode cX10_water 15 = .ok (.invokestatic 200, 3) := by decide +kernel
theorem dX10_water_18 : decode cX10_water 18 = .ok (.ifCond .eq 12, 3) := by decide +kernel
theorem dX10_water_21 : decode cX10_water 21 = .ok (.iload_n 3, 1) := by decide +kernel
theorem dX10_water_22 : decode cX10_water 22 = .ok (.iconst 0, 1) := by decide +kernel
theorem dX10_water_23 : decode cX10_water 23 = .ok (.iconst 1, 1) := by decide +kernel
theorem dX10_water_24 : decode cX10_water 24 = .ok (.invokestatic 83, 3) := by decide +kernel
theorem dX10_water_27 : decode cX10_water 27 = .ok (.ifCond .ne 6, 3) := by decide +kernel
theorem dX10_water_30 : decode cX10_water 30 = .ok (.ldc 87, 2) := by decide +kernel
theorem dX10_water_32 : decode cX10_water 32 = .ok (.ireturn, 1) := by decide +kernel
theorem dX10_water_33 : decode cX10_water 33 = .ok (.iload_n 3, 1) := by decide +kernel
theorem dX10_water_34 : decode cX10_water 34 = .ok (.ifCond .ne 15, 3) := by decide +kernel
theorem dX10_water_37 : decode cX10_water 37 = .ok (.aload_n 0, 1) := by decide +kernel
theorem dX10_water_38 : decode cX10_water 38 = .ok (.getfield 50, 3) := by decide +kernel
theorem dX10_water_41 : decode cX10_water 41 = .ok (.iload_n 1, 1) := by decide +kernel
theorem dX10_water_42 : decode cX10_water 42 = .ok (.iload_n 2, 1) := by decide +kernel
theorem dX10_water_43 : decode cX10_water 43 = .ok (.invokevirtual 204, 3) := by decide +kernel
theorem dX10_water_46 : decode cX10_water 46 = .ok (.goto 12, 3) := by decide +kernel
theorem dX10_water_49 : decode cX10_water 49 = .ok (.aload_n 0, 1) := by decide +kernel
theorem dX10_water_50 : decode cX10_water 50 = .ok (.getfield 50, 3) := by decide +kernel
theorem dX10_water_53 : decode cX10_water 53 = .ok (.iload_n 1, 1) := by decide +kernel
theorem dX10_water_54 : decode cX10_water 54 = .ok (.iload_n 2, 1) := by decide +kernel
theorem dX10_water_55 : decode cX10_water 55 = .ok (.invokevirtual 207, 3) := by decide +kernel
theorem dX10_water_58 : decode cX10_water 58 = .ok (.ireturn, 1) := by decide +kernel
theorem dX10_mark_0 : decode cX10_mark 0 = .ok (.aload_n 0, 1) := by decide +kernel
theorem dX10_mark_1 : decode cX10_mark 1 = .ok (.getfield 19, 3) := by decide +kernel
theorem dX10_mark_4 : decode cX10_mark 4 = .ok (.iload_n 1, 1) := by decide +kernel
theorem dX10_mark_5 : decode cX10_mark 5 = .ok (.invokevirtual 141, 3) := by decide +kernel
theorem dX10_mark_8 : decode cX10_mark 8 = .ok (.ifCond .eq 23, 3) := by decide +kernel
theorem dX10_mark_11 : decode cX10_mark 11 = .ok (.iload_n 2, 1) := by decide +kernel
theorem dX10_mark_12 : decode cX10_mark 12 = .ok (.iconst 0, 1) := by decide +kernel
theorem dX10_mark_13 : decode cX10_mark 13 = .ok (.sipush 9999, 3) := by decide +kernel
theorem dX10_mark_16 : decode cX10_mark 16 = .ok (.invokestatic 83, 3) := by decide +kernel
theorem dX10_mark_19 : decode cX10_mark 19 = .ok (.ifCond .eq 12, 3) := by decide +kernel
theorem dX10_mark_22 : decode cX10_mark 22 = .ok (.iload_n 3, 1) := by decide +kernel
theorem dX10_mark_23 : decode cX10_mark 23 = .ok (.iconst 0, 1) := by decide +kernel
theorem dX10_mark_24 : decode cX10_mark 24 = .ok (.iconst 1, 1) := by decide +kernel
theorem dX10_mark_25 : decode cX10_mark 25 = .ok (.invokestatic 83, 3) := by decide +kernel
theorem dX10_mark_28 : decode cX10_mark 28 = .ok (.ifCond .ne 6, 3) := by decide +kernel
theorem dX10_mark_31 : decode cX10_mark 31 = .ok (.ldc 87, 2) := by decide +kernel
theorem dX10_mark_33 : decode cX10_mark 33 = .ok (.ireturn, 1) := by decide +kernel
theorem dX10_mark_34 : decode cX10_mark 34 = .ok (.aload_n 0, 1) := by decide +kernel
theorem dX10_mark_35 : decode cX10_mark 35 = .ok (.getfield 19, 3) := by decide +kernel
theorem dX10_mark_38 : decode cX10_mark 38 = .ok (.iload_n 1, 1) := by decide +kernel
theorem dX10_mark_39 : decode cX10_mark 39 = .ok (.invokevirtual 210, 3) := by decide +kernel
theorem dX10_mark_42 : decode cX10_mark 42 = .ok (.ifCond .ne 6, 3) := by decide +kernel
theorem dX10_mark_45 : decode cX10_mark 45 = .ok (.ldc 137, 2) := by decide +kernel
theorem dX10_mark_47 : decode cX10_mark 47 = .ok (.ireturn, 1) := by decide +kernel
theorem dX10_mark_48 : decode cX10_mark 48 = .ok (.iload_n 3, 1) := by decide +kernel
theorem dX10_mark_49 : decode cX10_mark 49 = .ok (.ifCond .ne 22, 3) := by decide +kernel
theorem dX10_mark_52 : decode cX10_mark 52 = .ok (.aload_n 0, 1) := by decide +kernel
theorem dX10_mark_53 : decode cX10_mark 53 = .ok (.getfield 50, 3) := by decide +kernel
theorem dX10_mark_56 : decode cX10_mark 56 = .ok (.iload_n 1, 1) := by decide +kernel
theorem dX10_mark_57 : decode cX10_mark 57 = .ok (.aload_n 0, 1) := by decide +kernel
theorem dX10_mark_58 : decode cX10_mark 58 = .ok (.getfield 50, 3) := by decide +kernel
theorem dX10_mark_61 : decode cX10_mark 61 = .ok (.iload_n 2, 1) := by decide +kernel
theorem dX10_mark_62 : decode cX10_mark 62 = .ok (.invokevirtual 197, 3) := by decide +kernel
theorem dX10_mark_65 : decode cX10_mark 65 = .ok (.invokevirtual 213, 3) := by decide +kernel
theorem dX10_mark_68 : decode cX10_mark 68 = .ok (.goto 12, 3) := by decide +kernel
theorem dX10_mark_71 : decode cX10_mark 71 = .ok (.aload_n 0, 1) := by decide +kernel
theorem dX10_mark_72 : decode cX10_mark 72 = .ok (.getfield 19, 3) := by decide +kernel
theorem dX10_mark_75 : decode cX10_mark 75 = .ok (.iload_n 1, 1) := by decide +kernel
theorem dX10_mark_76 : decode cX10_mark 76 = .ok (.iconst 2, 1) := by decide +kernel
theorem dX10_mark_77 : decode cX10_mark 77 = .ok (.invokevirtual 155, 3) := by decide +kernel
theorem dX10_mark_80 : decode cX10_mark 80 = .ok (.ireturn, 1) := by decide +kernel
theorem dX10_seen_0 : decode cX10_seen 0 = .ok (.aload_n 0, 1) := by decide +kernel
theorem dX10_seen_1 : decode cX10_seen 1 = .ok (.getfield 19, 3) := by decide +kernel
theorem dX10_seen_4 : decode cX10_seen 4 = .ok (.iload_n 1, 1) := by decide +kernel
theorem dX10_seen_5 : decode cX10_seen 5 = .ok (.invokevirtual 141, 3) := by decide +kernel
theorem dX10_seen_8 : decode cX10_seen 8 = .ok (.ifCond .eq 23, 3) := by decide +kernel
theorem dX10_seen_11 : decode cX10_seen 11 = .ok (.iload_n 2, 1) := by decide +kernel
theorem dX10_seen_12 : decode cX10_seen 12 = .ok (.iload_n 3, 1) := by decide +kernel
theorem dX10_seen_13 : decode cX10_seen 13 = .ok (.invokestatic 200, 3) := by decide +kernel
theorem dX10_seen_16 : decode cX10_seen 16 = .ok (.ifCond .eq 15, 3) := by decide +kernel
theorem dX10_seen_19 : decode cX10_seen 19 = .ok (.iload 4, 2) := by decide +kernel
theorem dX10_seen_21 : decode cX10_seen 21 = .ok (.iconst 0, 1) := by decide +kernel
theorem dX10_seen_22 : decode cX10_seen 22 = .ok (.sipush 9999, 3) := by decide +kernel
theorem dX10_seen_25 : decode cX10_seen 25 = .ok (.invokestatic 83, 3) := by decide +kernel
theorem dX10_seen_28 : decode cX10_seen 28 = .ok (.ifCond .ne 6, 3) := by decide +kernel
theorem dX10_seen_31 : decode cX10_seen 31 = .ok (.ldc 87, 2) := by decide +kernel
theorem dX10_seen_33 : decode cX10_seen 33 = .ok (.ireturn, 1) := by decide +kernel
theorem dX10_seen_34 : decode cX10_seen 34 = .ok (.aload_n 0, 1) := by decide +kernel
theorem dX10_seen_35 : decode cX10_seen 35 = .ok (.getfield 19, 3) := by decide +kernel
theorem dX10_seen_38 : decode cX10_seen 38 = .ok (.iload_n 1, 1) := by decide +kernel
theorem dX10_seen_39 : decode cX10_seen 39 = .ok (.invokevirtual 210, 3) := by decide +kernel
theorem dX10_seen_42 : decode cX10_seen 42 = .ok (.ifCond .ne 6, 3) := by decide +kernel
theorem dX10_seen_45 : decode cX10_seen 45 = .ok (.ldc 137, 2) := by decide +kernel
theorem dX10_seen_47 : decode cX10_seen 47 = .ok (.ireturn, 1) := by decide +kernel
theorem dX10_seen_48 : decode cX10_seen 48 = .ok (.aload_n 0, 1) := by decide +kernel
theorem dX10_seen_49 : decode cX10_seen 49 = .ok (.getfield 50, 3) := by decide +kernel
theorem dX10_seen_52 : decode cX10_seen 52 = .ok (.iload_n 1, 1) := by decide +kernel
theorem dX10_seen_53 : decode cX10_seen 53 = .ok (.iload_n 2, 1) := by decide +kernel
theorem dX10_seen_54 : decode cX10_seen 54 = .ok (.iload_n 3, 1) := by decide +kernel
theorem dX10_seen_55 : decode cX10_seen 55 = .ok (.aload_n 0, 1) := by decide +kernel
theorem dX10_seen_56 : decode cX10_seen 56 = .ok (.getfield 50, 3) := by decide +kernel
theorem dX10_seen_59 : decode cX10_seen 59 = .ok (.iload 4, 2) := by decide +kernel
theorem dX10_seen_61 : decode cX10_seen 61 = .ok (.invokevirtual 197, 3) := by decide +kernel
theorem dX10_seen_64 : decode cX10_seen 64 = .ok (.iconst 0, 1) := by decide +kernel
theorem dX10_seen_65 : decode cX10_seen 65 = .ok (.invokevirtual 216, 3) := by decide +kernel
theorem dX10_seen_68 : decode cX10_seen 68 = .ok (.ifCond .eq 7, 3) := by decide +kernel
theorem dX10_seen_71 : decode cX10_seen 71 = .ok (.iconst 1, 1) := by decide +kernel
theorem dX10_seen_72 : decode cX10_seen 72 = .ok (.goto 4, 3) := by decide +kernel
theorem dX10_seen_75 : decode cX10_seen 75 = .ok (.iconst 0, 1) := by decide +kernel
theorem dX10_seen_76 : decode cX10_seen 76 = .ok (.ireturn, 1) := by decide +kernel
theorem dX10_line_0 : decode cX10_line 0 = .ok (.aload_n 0, 1) := by decide +kernel
theorem dX10_line_1 : decode cX10_line 1 = .ok (.iload_n 1, 1) := by decide +kernel
theorem dX10_line_2 : decode cX10_line 2 = .ok (.iload_n 2, 1) := by decide +kernel
theorem dX10_line_3 : decode cX10_line 3 = .ok (.invokevirtual 220, 3) := by decide +kernel
theorem dX10_line_6 : decode cX10_line 6 = .ok (.ifCond .eq 12, 3) := by decide +kernel
theorem dX10_line_9 : decode cX10_line 9 = .ok (.iload_n 3, 1) := by decide +kernel
theorem dX10_line_10 : decode cX10_line 10 = .ok (.iload 4, 2) := by decide +kernel
theorem dX10_line_12 : decode cX10_line 12 = .ok (.invokestatic 200, 3) := by decide +kernel
theorem dX10_line_15 : decode cX10_line 15 = .ok (.ifCond .ne 6, 3) := by decide +kernel
theorem dX10_line_18 : decode cX10_line 18 = .ok (.ldc 87, 2) := by decide +kernel
theorem dX10_line_20 : decode cX10_line 20 = .ok (.ireturn, 1) := by decide +kernel
theorem dX10_line_21 : decode cX10_line 21 = .ok (.aload_n 0, 1) := by decide +kernel
theorem dX10_line_22 : decode cX10_line 22 = .ok (.getfield 50, 3) := by decide +kernel
theorem dX10_line_25 : decode cX10_line 25 = .ok (.iload_n 1, 1) := by decide +kernel
theorem dX10_line_26 : decode cX10_line 26 = .ok (.iload_n 2, 1) := by decide +kernel
theorem dX10_line_27 : decode cX10_line 27 = .ok (.invokevirtual 223, 3) := by decide +kernel
theorem dX10_line_30 : decode cX10_line 30 = .ok (.ifCond .eq 6, 3) := by decide +kernel
theorem dX10_line_33 : decode cX10_line 33 = .ok (.ldc 137, 2) := by decide +kernel
theorem dX10_line_35 : decode cX10_line 35 = .ok (.ireturn, 1) := by decide +kernel
theorem dX10_line_36 : decode cX10_line 36 = .ok (.aload_n 0, 1) := by decide +kernel
theorem dX10_line_37 : decode cX10_line 37 = .ok (.getfield 50, 3) := by decide +kernel
theorem dX10_line_40 : decode cX10_line 40 = .ok (.iload_n 1, 1) := by decide +kernel
theorem dX10_line_41 : decode cX10_line 41 = .ok (.iload_n 2, 1) := by decide +kernel
theorem dX10_line_42 : decode cX10_line 42 = .ok (.iload_n 3, 1) := by decide +kernel
theorem dX10_line_43 : decode cX10_line 43 = .ok (.iload 4, 2) := by decide +kernel
theorem dX10_line_45 : decode cX10_line 45 = .ok (.invokevirtual 226, 3) := by decide +kernel
theorem dX10_line_48 : decode cX10_line 48 = .ok (.invokestatic 229, 3) := by decide +kernel
theorem dX10_line_51 : decode cX10_line 51 = .ok (.ireturn, 1) := by decide +kernel
theorem dX10_lines_0 : decode cX10_lines 0 = .ok (.aload_n 0, 1) := by decide +kernel
theorem dX10_lines_1 : decode cX10_lines 1 = .ok (.iload_n 1, 1) := by decide +kernel
theorem dX10_lines_2 : decode cX10_lines 2 = .ok (.iload_n 2, 1) := by decide +kernel
theorem dX10_lines_3 : decode cX10_lines 3 = .ok (.invokevirtual 220, 3) := by decide +kernel
theorem dX10_lines_6 : decode cX10_lines 6 = .ok (.ifCond .eq 12, 3) := by decide +kernel
theorem dX10_lines_9 : decode cX10_lines 9 = .ok (.iload_n 3, 1) := by decide +kernel
theorem dX10_lines_10 : decode cX10_lines 10 = .ok (.iconst 0, 1) := by decide +kernel
theorem dX10_lines_11 : decode cX10_lines 11 = .ok (.iconst 2, 1) := by decide +kernel
theorem dX10_lines_12 : decode cX10_lines 12 = .ok (.invokestatic 83, 3) := by decide +kernel
theorem dX10_lines_15 : decode cX10_lines 15 = .ok (.ifCond .ne 6, 3) := by decide +kernel
theorem dX10_lines_18 : decode cX10_lines 18 = .ok (.ldc 87, 2) := by decide +kernel
theorem dX10_lines_20 : decode cX10_lines 20 = .ok (.ireturn, 1) := by decide +kernel
theorem dX10_lines_21 : decode cX10_lines 21 = .ok (.aload_n 0, 1) := by decide +kernel
theorem dX10_lines_22 : decode cX10_lines 22 = .ok (.getfield 50, 3) := by decide +kernel
theorem dX10_lines_25 : decode cX10_lines 25 = .ok (.iload_n 1, 1) := by decide +kernel
theorem dX10_lines_26 : decode cX10_lines 26 = .ok (.iload_n 2, 1) := by decide +kernel
theorem dX10_lines_27 : decode cX10_lines 27 = .ok (.invokevirtual 223, 3) := by decide +kernel
theorem dX10_lines_30 : decode cX10_lines 30 = .ok (.ifCond .eq 6, 3) := by decide +kernel
theorem dX10_lines_33 : decode cX10_lines 33 = .ok (.ldc 137, 2) := by decide +kernel
theorem dX10_lines_35 : decode cX10_lines 35 = .ok (.ireturn, 1) := by decide +kernel
theorem dX10_lines_36 : decode cX10_lines 36 = .ok (.iload_n 3, 1) := by decide +kernel
theorem dX10_lines_37 : decode cX10_lines 37 = .ok (.ifCond .ne 7, 3) := by decide +kernel
theorem dX10_lines_40 : decode cX10_lines 40 = .ok (.iconst 1, 1) := by decide +kernel
theorem dX10_lines_41 : decode cX10_lines 41 = .ok (.goto 13, 3) := by decide +kernel
theorem dX10_lines_44 : decode cX10_lines 44 = .ok (.iload_n 3, 1) := by decide +kernel
theorem dX10_lines_45 : decode cX10_lines 45 = .ok (.iconst 1, 1) := by decide +kernel
theorem dX10_lines_46 : decode cX10_lines 46 = .ok (.if_icmp .ne 7, 3) := by decide +kernel
theorem dX10_lines_49 : decode cX10_lines 49 = .ok (.iconst (-1), 1) := by decide +kernel
theorem dX10_lines_50 : decode cX10_lines 50 = .ok (.goto 4, 3) := by decide +kernel
theorem dX10_lines_53 : decode cX10_lines 53 = .ok (.iconst 0, 1) := by decide +kernel
theorem dX10_lines_54 : decode cX10_lines 54 = .ok (.istore 4, 2) := by decide +kernel
theorem dX10_lines_56 : decode cX10_lines 56 = .ok (.aload_n 0, 1) := by decide +kernel
theorem dX10_lines_57 : decode cX10_lines 57 = .ok (.getfield 50, 3) := by decide +kernel
theorem dX10_lines_60 : decode cX10_lines 60 = .ok (.iload_n 1, 1) := by decide +kernel
theorem dX10_lines_61 : decode cX10_lines 61 = .ok (.iload_n 2, 1) := by decide +kernel
theorem dX10_lines_62 : decode cX10_lines 62 = .ok (.iload 4, 2) := by decide +kernel
theorem dX10_lines_64 : decode cX10_lines 64 = .ok (.invokevirtual 234, 3) := by decide +kernel
theorem dX10_lines_67 : decode cX10_lines 67 = .ok (.ireturn, 1) := by decide +kernel
theorem dX10_sail_0 : decode cX10_sail 0 = .ok (.aload_n 0, 1) := by decide +kernel
theorem dX10_sail_1 : decode cX10_sail 1 = .ok (.getfield 19, 3) := by decide +kernel
theorem dX10_sail_4 : decode cX10_sail 4 = .ok (.invokevirtual 159, 3) := by decide +kernel
theorem dX10_sail_7 : decode cX10_sail 7 = .ok (.ifCond .ne 6, 3) := by decide +kernel
theorem dX10_sail_10 : decode cX10_sail 10 = .ok (.ldc 137, 2) := by decide +kernel
theorem dX10_sail_12 : decode cX10_sail 12 = .ok (.ireturn, 1) := by decide +kernel
theorem dX10_sail_13 : decode cX10_sail 13 = .ok (.iload_n 1, 1) := by decide +kernel
theorem dX10_sail_14 : decode cX10_sail 14 = .ok (.invokestatic 237, 3) := by decide +kernel
theorem dX10_sail_17 : decode cX10_sail 17 = .ok (.ifCond .eq 13, 3) := by decide +kernel
theorem dX10_sail_20 : decode cX10_sail 20 = .ok (.iload_n 2, 1) := by decide +kernel
theorem dX10_sail_21 : decode cX10_sail 21 = .ok (.iconst 0, 1) := by decide +kernel
theorem dX10_sail_22 : decode cX10_sail 22 = .ok (.bipush 6, 2) := by decide +kernel
theorem dX10_sail_24 : decode cX10_sail 24 = .ok (.invokestatic 83, 3) := by decide +kernel
theorem dX10_sail_27 : decode cX10_sail 27 = .ok (.ifCond .ne 6, 3) := by decide +kernel
theorem dX10_sail_30 : decode cX10_sail 30 = .ok (.ldc 87, 2) := by decide +kernel
theorem dX10_sail_32 : decode cX10_sail 32 = .ok (.ireturn, 1) := by decide +kernel
theorem dX10_sail_33 : decode cX10_sail 33 = .ok (.aload_n 0, 1) := by decide +kernel
theorem dX10_sail_34 : decode cX10_sail 34 = .ok (.iload_n 1, 1) := by decide +kernel
theorem dX10_sail_35 : decode cX10_sail 35 = .ok (.invokevirtual 240, 3) := by decide +kernel
theorem dX10_sail_38 : decode cX10_sail 38 = .ok (.iload_n 2, 1) := by decide +kernel
theorem dX10_sail_39 : decode cX10_sail 39 = .ok (.tableswitch 93 0 5 #[37, 45, 53, 61, 69, 85], 37) := by decide +kernel
theorem dX10_sail_76 : decode cX10_sail 76 = .ok (.aload_n 0, 1) := by decide +kernel
theorem dX10_sail_77 : decode cX10_sail 77 = .ok (.getfield 59, 3) := by decide +kernel
theorem dX10_sail_80 : decode cX10_sail 80 = .ok (.getfield 243, 3) := by decide +kernel
theorem dX10_sail_83 : decode cX10_sail 83 = .ok (.ireturn, 1) := by decide +kernel
theorem dX10_sail_84 : decode cX10_sail 84 = .ok (.aload_n 0, 1) := by decide +kernel
theorem dX10_sail_85 : decode cX10_sail 85 = .ok (.getfield 59, 3) := by decide +kernel
theorem dX10_sail_88 : decode cX10_sail 88 = .ok (.getfield 246, 3) := by decide +kernel
theorem dX10_sail_91 : decode cX10_sail 91 = .ok (.ireturn, 1) := by decide +kernel
theorem dX10_sail_92 : decode cX10_sail 92 = .ok (.aload_n 0, 1) := by decide +kernel
theorem dX10_sail_93 : decode cX10_sail 93 = .ok (.getfield 59, 3) := by decide +kernel
theorem dX10_sail_96 : decode cX10_sail 96 = .ok (.getfield 249, 3) := by decide +kernel
theorem dX10_sail_99 : decode cX10_sail 99 = .ok (.ireturn, 1) := by decide +kernel
theorem dX10_sail_100 : decode cX10_sail 100 = .ok (.aload_n 0, 1) := by decide +kernel
theorem dX10_sail_101 : decode cX10_sail 101 = .ok (.getfield 59, 3) := by decide +kernel
theorem dX10_sail_104 : decode cX10_sail 104 = .ok (.getfield 252, 3) := by decide +kernel
theorem dX10_sail_107 : decode cX10_sail 107 = .ok (.ireturn, 1) := by decide +kernel
theorem dX10_sail_108 : decode cX10_sail 108 = .ok (.aload_n 0, 1) := by decide +kernel
theorem dX10_sail_109 : decode cX10_sail 109 = .ok (.getfield 59, 3) := by decide +kernel
theorem dX10_sail_112 : decode cX10_sail 112 = .ok (.invokevirtual 255, 3) := by decide +kernel
theorem dX10_sail_115 : decode cX10_sail 115 = .ok (.ifCond .eq 7, 3) := by decide +kernel
theorem dX10_sail_118 : decode cX10_sail 118 = .ok (.iconst 1, 1) := by decide +kernel
theorem dX10_sail_119 : decode cX10_sail 119 = .ok (.goto 4, 3) := by decide +kernel
theorem dX10_sail_122 : decode cX10_sail 122 = .ok (.iconst 0, 1) := by decide +kernel
theorem dX10_sail_123 : decode cX10_sail 123 = .ok (.ireturn, 1) := by decide +kernel
theorem dX10_sail_124 : decode cX10_sail 124 = .ok (.aload_n 0, 1) := by decide +kernel
theorem dX10_sail_125 : decode cX10_sail 125 = .ok (.getfield 59, 3) := by decide +kernel
theorem dX10_sail_128 : decode cX10_sail 128 = .ok (.getfield 258, 3) := by decide +kernel
theorem dX10_sail_131 : decode cX10_sail 131 = .ok (.ireturn, 1) := by decide +kernel
theorem dX10_sail_132 : decode cX10_sail 132 = .ok (.aload_n 0, 1) := by decide +kernel
theorem dX10_sail_133 : decode cX10_sail 133 = .ok (.getfield 59, 3) := by decide +kernel
theorem dX10_sail_136 : decode cX10_sail 136 = .ok (.getfield 261, 3) := by decide +kernel
theorem dX10_sail_139 : decode cX10_sail 139 = .ok (.ireturn, 1) := by decide +kernel
theorem dX10_track_0 : decode cX10_track 0 = .ok (.aload_n 0, 1) := by decide +kernel
theorem dX10_track_1 : decode cX10_track 1 = .ok (.getfield 19, 3) := by decide +kernel
theorem dX10_track_4 : decode cX10_track 4 = .ok (.invokevirtual 159, 3) := by decide +kernel
theorem dX10_track_7 : decode cX10_track 7 = .ok (.ifCond .ne 6, 3) := by decide +kernel
theorem dX10_track_10 : decode cX10_track 10 = .ok (.ldc 137, 2) := by decide +kernel
theorem dX10_track_12 : decode cX10_track 12 = .ok (.ireturn, 1) := by decide +kernel
theorem dX10_track_13 : decode cX10_track 13 = .ok (.iload_n 1, 1) := by decide +kernel
theorem dX10_track_14 : decode cX10_track 14 = .ok (.invokestatic 237, 3) := by decide +kernel
theorem dX10_track_17 : decode cX10_track 17 = .ok (.ifCond .eq 16, 3) := by decide +kernel
theorem dX10_track_20 : decode cX10_track 20 = .ok (.iload_n 2, 1) := by decide +kernel
theorem dX10_track_21 : decode cX10_track 21 = .ok (.ifCond .lt 12, 3) := by decide +kernel
theorem dX10_track_24 : decode cX10_track 24 = .ok (.iload_n 3, 1) := by decide +kernel
theorem dX10_track_25 : decode cX10_track 25 = .ok (.iconst 0, 1) := by decide +kernel
theorem dX10_track_26 : decode cX10_track 26 = .ok (.iconst 2, 1) := by decide +kernel
theorem dX10_track_27 : decode cX10_track 27 = .ok (.invokestatic 83, 3) := by decide +kernel
theorem dX10_track_30 : decode cX10_track 30 = .ok (.ifCond .ne 6, 3) := by decide +kernel
theorem dX10_track_33 : decode cX10_track 33 = .ok (.ldc 87, 2) := by decide +kernel
theorem dX10_track_35 : decode cX10_track 35 = .ok (.ireturn, 1) := by decide +kernel
theorem dX10_track_36 : decode cX10_track 36 = .ok (.aload_n 0, 1) := by decide +kernel
theorem dX10_track_37 : decode cX10_track 37 = .ok (.iload_n 1, 1) := by decide +kernel
theorem dX10_track_38 : decode cX10_track 38 = .ok (.invokevirtual 240, 3) := by decide +kernel
theorem dX10_track_41 : decode cX10_track 41 = .ok (.aload_n 0, 1) := by decide +kernel
theorem dX10_track_42 : decode cX10_track 42 = .ok (.getfield 59, 3) := by decide +kernel
theorem dX10_track_45 : decode cX10_track 45 = .ok (.iload_n 2, 1) := by decide +kernel
theorem dX10_track_46 : decode cX10_track 46 = .ok (.iload_n 3, 1) := by decide +kernel
theorem dX10_track_47 : decode cX10_track 47 = .ok (.invokevirtual 264, 3) := by decide +kernel
theorem dX10_track_50 : decode cX10_track 50 = .ok (.ireturn, 1) := by decide +kernel
theorem dX10_why_0 : decode cX10_why 0 = .ok (.aload_n 0, 1) := by decide +kernel
theorem dX10_why_1 : decode cX10_why 1 = .ok (.getfield 19, 3) := by decide +kernel
theorem dX10_why_4 : decode cX10_why 4 = .ok (.invokevirtual 159, 3) := by decide +kernel
theorem dX10_why_7 : decode cX10_why 7 = .ok (.ifCond .ne 6, 3) := by decide +kernel
theorem dX10_why_10 : decode cX10_why 10 = .ok (.ldc 137, 2) := by decide +kernel
theorem dX10_why_12 : decode cX10_why 12 = .ok (.ireturn, 1) := by decide +kernel
theorem dX10_why_13 : decode cX10_why 13 = .ok (.iload_n 1, 1) := by decide +kernel
theorem dX10_why_14 : decode cX10_why 14 = .ok (.invokestatic 237, 3) := by decide +kernel
theorem dX10_why_17 : decode cX10_why 17 = .ok (.ifCond .eq 16, 3) := by decide +kernel
theorem dX10_why_20 : decode cX10_why 20 = .ok (.iload_n 2, 1) := by decide +kernel
theorem dX10_why_21 : decode cX10_why 21 = .ok (.ifCond .lt 12, 3) := by decide +kernel
theorem dX10_why_24 : decode cX10_why 24 = .ok (.iload_n 3, 1) := by decide +kernel
theorem dX10_why_25 : decode cX10_why 25 = .ok (.iconst 0, 1) := by decide +kernel
theorem dX10_why_26 : decode cX10_why 26 = .ok (.iconst 1, 1) := by decide +kernel
theorem dX10_why_27 : decode cX10_why 27 = .ok (.invokestatic 83, 3) := by decide +kernel
theorem dX10_why_30 : decode cX10_why 30 = .ok (.ifCond .ne 6, 3) := by decide +kernel
theorem dX10_why_33 : decode cX10_why 33 = .ok (.ldc 87, 2) := by decide +kernel
theorem dX10_why_35 : decode cX10_why 35 = .ok (.ireturn, 1) := by decide +kernel
theorem dX10_why_36 : decode cX10_why 36 = .ok (.aload_n 0, 1) := by decide +kernel
theorem dX10_why_37 : decode cX10_why 37 = .ok (.iload_n 1, 1) := by decide +kernel
theorem dX10_why_38 : decode cX10_why 38 = .ok (.invokevirtual 240, 3) := by decide +kernel
theorem dX10_why_41 : decode cX10_why 41 = .ok (.aload_n 0, 1) := by decide +kernel
theorem dX10_why_42 : decode cX10_why 42 = .ok (.getfield 68, 3) := by decide +kernel
theorem dX10_why_45 : decode cX10_why 45 = .ok (.invokevirtual 267, 3) := by decide +kernel
theorem dX10_why_48 : decode cX10_why 48 = .ok (.iload_n 3, 1) := by decide +kernel
theorem dX10_why_49 : decode cX10_why 49 = .ok (.ifCond .ne 14, 3) := by decide +kernel
theorem dX10_why_52 : decode cX10_why 52 = .ok (.aload_n 0, 1) := by decide +kernel
theorem dX10_why_53 : decode cX10_why 53 = .ok (.getfield 68, 3) := by decide +kernel
theorem dX10_why_56 : decode cX10_why 56 = .ok (.iload_n 2, 1) := by decide +kernel
theorem dX10_why_57 : decode cX10_why 57 = .ok (.invokevirtual 270, 3) := by decide +kernel
theorem dX10_why_60 : decode cX10_why 60 = .ok (.goto 11, 3) := by decide +kernel
theorem dX10_why_63 : decode cX10_why 63 = .ok (.aload_n 0, 1) := by decide +kernel
theorem dX10_why_64 : decode cX10_why 64 = .ok (.getfield 68, 3) := by decide +kernel
theorem dX10_why_67 : decode cX10_why 67 = .ok (.iload_n 2, 1) := by decide +kernel
theorem dX10_why_68 : decode cX10_why 68 = .ok (.invokevirtual 273, 3) := by decide +kernel
theorem dX10_why_71 : decode cX10_why 71 = .ok (.ireturn, 1) := by decide +kernel
theorem dX10_sign_0 : decode cX10_sign 0 = .ok (.aload_n 0, 1) := by decide +kernel
theorem dX10_sign_1 : decode cX10_sign 1 = .ok (.getfield 19, 3) := by decide +kernel
theorem dX10_sign_4 : decode cX10_sign 4 = .ok (.invokevirtual 159, 3) := by decide +kernel
theorem dX10_sign_7 : decode cX10_sign 7 = .ok (.ifCond .ne 6, 3) := by decide +kernel
theorem dX10_sign_10 : decode cX10_sign 10 = .ok (.ldc 137, 2) := by decide +kernel
theorem dX10_sign_12 : decode cX10_sign 12 = .ok (.ireturn, 1) := by decide +kernel
theorem dX10_sign_13 : decode cX10_sign 13 = .ok (.iload_n 1, 1) := by decide +kernel
theorem dX10_sign_14 : decode cX10_sign 14 = .ok (.invokestatic 237, 3) := by decide +kernel
theorem dX10_sign_17 : decode cX10_sign 17 = .ok (.ifCond .eq 7, 3) := by decide +kernel
theorem dX10_sign_20 : decode cX10_sign 20 = .ok (.iload_n 2, 1) := by decide +kernel
theorem dX10_sign_21 : decode cX10_sign 21 = .ok (.ifCond .ge 6, 3) := by decide +kernel
theorem dX10_sign_24 : decode cX10_sign 24 = .ok (.ldc 87, 2) := by decide +kernel
theorem dX10_sign_26 : decode cX10_sign 26 = .ok (.ireturn, 1) := by decide +kernel
theorem dX10_sign_27 : decode cX10_sign 27 = .ok (.aload_n 0, 1) := by decide +kernel
theorem dX10_sign_28 : decode cX10_sign 28 = .ok (.iload_n 1, 1) := by decide +kernel
theorem dX10_sign_29 : decode cX10_sign 29 = .ok (.invokevirtual 240, 3) := by decide +kernel
theorem dX10_sign_32 : decode cX10_sign 32 = .ok (.aload_n 0, 1) := by decide +kernel
theorem dX10_sign_33 : decode cX10_sign 33 = .ok (.getfield 68, 3) := by decide +kernel
theorem dX10_sign_36 : decode cX10_sign 36 = .ok (.invokevirtual 267, 3) := by decide +kernel
theorem dX10_sign_39 : decode cX10_sign 39 = .ok (.aload_n 0, 1) := by decide +kernel
theorem dX10_sign_40 : decode cX10_sign 40 = .ok (.getfield 68, 3) := by decide +kernel
theorem dX10_sign_43 : decode cX10_sign 43 = .ok (.invokevirtual 276, 3) := by decide +kernel
theorem dX10_sign_46 : decode cX10_sign 46 = .ok (.aload_n 0, 1) := by decide +kernel
theorem dX10_sign_47 : decode cX10_sign 47 = .ok (.getfield 68, 3) := by decide +kernel
theorem dX10_sign_50 : decode cX10_sign 50 = .ok (.iload_n 2, 1) := by decide +kernel
theorem dX10_sign_51 : decode cX10_sign 51 = .ok (.invokevirtual 279, 3) := by decide +kernel
theorem dX10_sign_54 : decode cX10_sign 54 = .ok (.ireturn, 1) := by decide +kernel
theorem dX10_times_0 : decode cX10_times 0 = .ok (.aload_n 0, 1) := by decide +kernel
theorem dX10_times_1 : decode cX10_times 1 = .ok (.getfield 19, 3) := by decide +kernel
theorem dX10_times_4 : decode cX10_times 4 = .ok (.invokevirtual 159, 3) := by decide +kernel
theorem dX10_times_7 : decode cX10_times 7 = .ok (.ifCond .ne 6, 3) := by decide +kernel
theorem dX10_times_10 : decode cX10_times 10 = .ok (.ldc 137, 2) := by decide +kernel
theorem dX10_times_12 : decode cX10_times 12 = .ok (.ireturn, 1) := by decide +kernel
theorem dX10_times_13 : decode cX10_times 13 = .ok (.aload_n 0, 1) := by decide +kernel
theorem dX10_times_14 : decode cX10_times 14 = .ok (.getfield 75, 3) := by decide +kernel
theorem dX10_times_17 : decode cX10_times 17 = .ok (.invokevirtual 282, 3) := by decide +kernel
theorem dX10_times_20 : decode cX10_times 20 = .ok (.ireturn, 1) := by decide +kernel
theorem dX10_deepest_0 : decode cX10_deepest 0 = .ok (.aload_n 0, 1) := by decide +kernel
theorem dX10_deepest_1 : decode cX10_deepest 1 = .ok (.getfield 19, 3) := by decide +kernel
theorem dX10_deepest_4 : decode cX10_deepest 4 = .ok (.invokevirtual 159, 3) := by decide +kernel
theorem dX10_deepest_7 : decode cX10_deepest 7 = .ok (.ifCond .ne 6, 3) := by decide +kernel
theorem dX10_deepest_10 : decode cX10_deepest 10 = .ok (.ldc 137, 2) := by decide +kernel
theorem dX10_deepest_12 : decode cX10_deepest 12 = .ok (.ireturn, 1) := by decide +kernel
theorem dX10_deepest_13 : decode cX10_deepest 13 = .ok (.iload_n 1, 1) := by decide +kernel
theorem dX10_deepest_14 : decode cX10_deepest 14 = .ok (.invokestatic 237, 3) := by decide +kernel
theorem dX10_deepest_17 : decode cX10_deepest 17 = .ok (.ifCond .ne 6, 3) := by decide +kernel
theorem dX10_deepest_20 : decode cX10_deepest 20 = .ok (.ldc 87, 2) := by decide +kernel
theorem dX10_deepest_22 : decode cX10_deepest 22 = .ok (.ireturn, 1) := by decide +kernel
theorem dX10_deepest_23 : decode cX10_deepest 23 = .ok (.aload_n 0, 1) := by decide +kernel
theorem dX10_deepest_24 : decode cX10_deepest 24 = .ok (.getfield 75, 3) := by decide +kernel
theorem dX10_deepest_27 : decode cX10_deepest 27 = .ok (.iload_n 1, 1) := by decide +kernel
theorem dX10_deepest_28 : decode cX10_deepest 28 = .ok (.invokevirtual 285, 3) := by decide +kernel
theorem dX10_deepest_31 : decode cX10_deepest 31 = .ok (.ireturn, 1) := by decide +kernel
theorem dX10_courses_0 : decode cX10_courses 0 = .ok (.aload_n 0, 1) := by decide +kernel
theorem dX10_courses_1 : decode cX10_courses 1 = .ok (.getfield 19, 3) := by decide +kernel
theorem dX10_courses_4 : decode cX10_courses 4 = .ok (.iload_n 1, 1) := by decide +kernel
theorem dX10_courses_5 : decode cX10_courses 5 = .ok (.invokevirtual 171, 3) := by decide +kernel
theorem dX10_courses_8 : decode cX10_courses 8 = .ok (.ifCond .eq 10, 3) := by decide +kernel
theorem dX10_courses_11 : decode cX10_courses 11 = .ok (.iload_n 2, 1) := by decide +kernel
theorem dX10_courses_12 : decode cX10_courses 12 = .ok (.invokestatic 237, 3) := by decide +kernel
theorem dX10_courses_15 : decode cX10_courses 15 = .ok (.ifCond .ne 6, 3) := by decide +kernel
theorem dX10_courses_18 : decode cX10_courses 18 = .ok (.ldc 87, 2) := by decide +kernel
theorem dX10_courses_20 : decode cX10_courses 20 = .ok (.ireturn, 1) := by decide +kernel
theorem dX10_courses_21 : decode cX10_courses 21 = .ok (.aload_n 0, 1) := by decide +kernel
theorem dX10_courses_22 : decode cX10_courses 22 = .ok (.getfield 75, 3) := by decide +kernel
theorem dX10_courses_25 : decode cX10_courses 25 = .ok (.iload_n 1, 1) := by decide +kernel
theorem dX10_courses_26 : decode cX10_courses 26 = .ok (.iload_n 2, 1) := by decide +kernel
theorem dX10_courses_27 : decode cX10_courses 27 = .ok (.invokevirtual 288, 3) := by decide +kernel
theorem dX10_courses_30 : decode cX10_courses 30 = .ok (.ireturn, 1) := by decide +kernel
theorem dX10_needed_0 : decode cX10_needed 0 = .ok (.aload_n 0, 1) := by decide +kernel
theorem dX10_needed_1 : decode cX10_needed 1 = .ok (.getfield 19, 3) := by decide +kernel
theorem dX10_needed_4 : decode cX10_needed 4 = .ok (.invokevirtual 159, 3) := by decide +kernel
theorem dX10_needed_7 : decode cX10_needed 7 = .ok (.ifCond .ne 6, 3) := by decide +kernel
theorem dX10_needed_10 : decode cX10_needed 10 = .ok (.ldc 137, 2) := by decide +kernel
theorem dX10_needed_12 : decode cX10_needed 12 = .ok (.ireturn, 1) := by decide +kernel
theorem dX10_needed_13 : decode cX10_needed 13 = .ok (.iload_n 1, 1) := by decide +kernel
theorem dX10_needed_14 : decode cX10_needed 14 = .ok (.invokestatic 237, 3) := by decide +kernel
theorem dX10_needed_17 : decode cX10_needed 17 = .ok (.ifCond .ne 6, 3) := by decide +kernel
theorem dX10_needed_20 : decode cX10_needed 20 = .ok (.ldc 87, 2) := by decide +kernel
theorem dX10_needed_22 : decode cX10_needed 22 = .ok (.ireturn, 1) := by decide +kernel
theorem dX10_needed_23 : decode cX10_needed 23 = .ok (.aload_n 0, 1) := by decide +kernel
theorem dX10_needed_24 : decode cX10_needed 24 = .ok (.getfield 75, 3) := by decide +kernel
theorem dX10_needed_27 : decode cX10_needed 27 = .ok (.iload_n 1, 1) := by decide +kernel
theorem dX10_needed_28 : decode cX10_needed 28 = .ok (.invokevirtual 291, 3) := by decide +kernel
theorem dX10_needed_31 : decode cX10_needed 31 = .ok (.ireturn, 1) := by decide +kernel
theorem dX10_near_0 : decode cX10_near 0 = .ok (.aload_n 0, 1) := by decide +kernel
theorem dX10_near_1 : decode cX10_near 1 = .ok (.getfield 19, 3) := by decide +kernel
theorem dX10_near_4 : decode cX10_near 4 = .ok (.iload_n 1, 1) := by decide +kernel
theorem dX10_near_5 : decode cX10_near 5 = .ok (.invokevirtual 141, 3) := by decide +kernel
theorem dX10_near_8 : decode cX10_near 8 = .ok (.ifCond .eq 10, 3) := by decide +kernel
theorem dX10_near_11 : decode cX10_near 11 = .ok (.iload_n 2, 1) := by decide +kernel
theorem dX10_near_12 : decode cX10_near 12 = .ok (.invokestatic 237, 3) := by decide +kernel
theorem dX10_near_15 : decode cX10_near 15 = .ok (.ifCond .ne 6, 3) := by decide +kernel
theorem dX10_near_18 : decode cX10_near 18 = .ok (.ldc 87, 2) := by decide +kernel
theorem dX10_near_20 : decode cX10_near 20 = .ok (.ireturn, 1) := by decide +kernel
theorem dX10_near_21 : decode cX10_near 21 = .ok (.aload_n 0, 1) := by decide +kernel
theorem dX10_near_22 : decode cX10_near 22 = .ok (.getfield 75, 3) := by decide +kernel
theorem dX10_near_25 : decode cX10_near 25 = .ok (.iload_n 1, 1) := by decide +kernel
theorem dX10_near_26 : decode cX10_near 26 = .ok (.iload_n 2, 1) := by decide +kernel
theorem dX10_near_27 : decode cX10_near 27 = .ok (.invokevirtual 294, 3) := by decide +kernel
theorem dX10_near_30 : decode cX10_near 30 = .ok (.ireturn, 1) := by decide +kernel
theorem dX10_out_0 : decode cX10_out 0 = .ok (.aload_n 0, 1) := by decide +kernel
theorem dX10_out_1 : decode cX10_out 1 = .ok (.getfield 19, 3) := by decide +kernel
theorem dX10_out_4 : decode cX10_out 4 = .ok (.invokevirtual 159, 3) := by decide +kernel
theorem dX10_out_7 : decode cX10_out 7 = .ok (.ifCond .ne 7, 3) := by decide +kernel
theorem dX10_out_10 : decode cX10_out 10 = .ok (.ldc2_w 297, 3) := by decide +kernel
theorem dX10_out_13 : decode cX10_out 13 = .ok (.lreturn, 1) := by decide +kernel
theorem dX10_out_14 : decode cX10_out 14 = .ok (.iload_n 1, 1) := by decide +kernel
theorem dX10_out_15 : decode cX10_out 15 = .ok (.invokestatic 237, 3) := by decide +kernel
theorem dX10_out_18 : decode cX10_out 18 = .ok (.ifCond .eq 22, 3) := by decide +kernel
theorem dX10_out_21 : decode cX10_out 21 = .ok (.iload_n 2, 1) := by decide +kernel
theorem dX10_out_22 : decode cX10_out 22 = .ok (.iconst 0, 1) := by decide +kernel
theorem dX10_out_23 : decode cX10_out 23 = .ok (.bipush 10, 2) := by decide +kernel
theorem dX10_out_25 : decode cX10_out 25 = .ok (.invokestatic 83, 3) := by decide +kernel
theorem dX10_out_28 : decode cX10_out 28 = .ok (.ifCond .eq 12, 3) := by decide +kernel
theorem dX10_out_31 : decode cX10_out 31 = .ok (.iload_n 3, 1) := by decide +kernel
theorem dX10_out_32 : decode cX10_out 32 = .ok (.iconst 0, 1) := by decide +kernel
theorem dX10_out_33 : decode cX10_out 33 = .ok (.iconst 1, 1) := by decide +kernel
theorem dX10_out_34 : decode cX10_out 34 = .ok (.invokestatic 83, 3) := by decide +kernel
theorem dX10_out_37 : decode cX10_out 37 = .ok (.ifCond .ne 7, 3) := by decide +kernel
theorem dX10_out_40 : decode cX10_out 40 = .ok (.ldc2_w 299, 3) := by decide +kernel
theorem dX10_out_43 : decode cX10_out 43 = .ok (.lreturn, 1) := by decide +kernel
theorem dX10_out_44 : decode cX10_out 44 = .ok (.aload_n 0, 1) := by decide +kernel
theorem dX10_out_45 : decode cX10_out 45 = .ok (.getfield 75, 3) := by decide +kernel
theorem dX10_out_48 : decode cX10_out 48 = .ok (.invokevirtual 301, 3) := by decide +kernel
theorem dX10_out_51 : decode cX10_out 51 = .ok (.invokestatic 304, 3) := by decide +kernel
theorem dX10_out_54 : decode cX10_out 54 = .ok (.bipush 6, 2) := by decide +kernel
theorem dX10_out_56 : decode cX10_out 56 = .ok (.if_icmp .le 7, 3) := by decide +kernel
theorem dX10_out_59 : decode cX10_out 59 = .ok (.ldc2_w 307, 3) := by decide +kernel
theorem dX10_out_62 : decode cX10_out 62 = .ok (.lreturn, 1) := by decide +kernel
theorem dX10_out_63 : decode cX10_out 63 = .ok (.aload_n 0, 1) := by decide +kernel
theorem dX10_out_64 : decode cX10_out 64 = .ok (.getfield 75, 3) := by decide +kernel
theorem dX10_out_67 : decode cX10_out 67 = .ok (.iload_n 1, 1) := by decide +kernel
theorem dX10_out_68 : decode cX10_out 68 = .ok (.iload_n 2, 1) := by decide +kernel
theorem dX10_out_69 : decode cX10_out 69 = .ok (.invokevirtual 309, 3) := by decide +kernel
theorem dX10_out_72 : decode cX10_out 72 = .ok (.iload_n 3, 1) := by decide +kernel
theorem dX10_out_73 : decode cX10_out 73 = .ok (.ifCond .ne 13, 3) := by decide +kernel
theorem dX10_out_76 : decode cX10_out 76 = .ok (.aload_n 0, 1) := by decide +kernel
theorem dX10_out_77 : decode cX10_out 77 = .ok (.getfield 75, 3) := by decide +kernel
theorem dX10_out_80 : decode cX10_out 80 = .ok (.getfield 313, 3) := by decide +kernel
theorem dX10_out_83 : decode cX10_out 83 = .ok (.goto 10, 3) := by decide +kernel
theorem dX10_out_86 : decode cX10_out 86 = .ok (.aload_n 0, 1) := by decide +kernel
theorem dX10_out_87 : decode cX10_out 87 = .ok (.getfield 75, 3) := by decide +kernel
theorem dX10_out_90 : decode cX10_out 90 = .ok (.getfield 317, 3) := by decide +kernel
theorem dX10_out_93 : decode cX10_out 93 = .ok (.lreturn, 1) := by decide +kernel
theorem dX10_drawn_0 : decode cX10_drawn 0 = .ok (.aload_n 0, 1) := by decide +kernel
theorem dX10_drawn_1 : decode cX10_drawn 1 = .ok (.getfield 19, 3) := by decide +kernel
theorem dX10_drawn_4 : decode cX10_drawn 4 = .ok (.invokevirtual 159, 3) := by decide +kernel
theorem dX10_drawn_7 : decode cX10_drawn 7 = .ok (.ifCond .ne 6, 3) := by decide +kernel
theorem dX10_drawn_10 : decode cX10_drawn 10 = .ok (.ldc 137, 2) := by decide +kernel
theorem dX10_drawn_12 : decode cX10_drawn 12 = .ok (.ireturn, 1) := by decide +kernel
theorem dX10_drawn_13 : decode cX10_drawn 13 = .ok (.iload_n 1, 1) := by decide +kernel
theorem dX10_drawn_14 : decode cX10_drawn 14 = .ok (.iconst 0, 1) := by decide +kernel
theorem dX10_drawn_15 : decode cX10_drawn 15 = .ok (.bipush 12, 2) := by decide +kernel
theorem dX10_drawn_17 : decode cX10_drawn 17 = .ok (.invokestatic 83, 3) := by decide +kernel
theorem dX10_drawn_20 : decode cX10_drawn 20 = .ok (.ifCond .eq 23, 3) := by decide +kernel
theorem dX10_drawn_23 : decode cX10_drawn 23 = .ok (.iload_n 2, 1) := by decide +kernel
theorem dX10_drawn_24 : decode cX10_drawn 24 = .ok (.iconst 1, 1) := by decide +kernel
theorem dX10_drawn_25 : decode cX10_drawn 25 = .ok (.ldc_w 320, 3) := by decide +kernel
theorem dX10_drawn_28 : decode cX10_drawn 28 = .ok (.invokestatic 83, 3) := by decide +kernel
theorem dX10_drawn_31 : decode cX10_drawn 31 = .ok (.ifCond .eq 12, 3) := by decide +kernel
theorem dX10_drawn_34 : decode cX10_drawn 34 = .ok (.iload_n 3, 1) := by decide +kernel
theorem dX10_drawn_35 : decode cX10_drawn 35 = .ok (.iconst 0, 1) := by decide +kernel
theorem dX10_drawn_36 : decode cX10_drawn 36 = .ok (.iconst 1, 1) := by decide +kernel
theorem dX10_drawn_37 : decode cX10_drawn 37 = .ok (.invokestatic 83, 3) := by decide +kernel
theorem dX10_drawn_40 : decode cX10_drawn 40 = .ok (.ifCond .ne 6, 3) := by decide +kernel
theorem dX10_drawn_43 : decode cX10_drawn 43 = .ok (.ldc 87, 2) := by decide +kernel
theorem dX10_drawn_45 : decode cX10_drawn 45 = .ok (.ireturn, 1) := by decide +kernel
theorem dX10_drawn_46 : decode cX10_drawn 46 = .ok (.aload_n 0, 1) := by decide +kernel
theorem dX10_drawn_47 : decode cX10_drawn 47 = .ok (.getfield 75, 3) := by decide +kernel
theorem dX10_drawn_50 : decode cX10_drawn 50 = .ok (.iload_n 1, 1) := by decide +kernel
theorem dX10_drawn_51 : decode cX10_drawn 51 = .ok (.iload_n 2, 1) := by decide +kernel
theorem dX10_drawn_52 : decode cX10_drawn 52 = .ok (.invokevirtual 321, 3) := by decide +kernel
theorem dX10_drawn_55 : decode cX10_drawn 55 = .ok (.iload_n 3, 1) := by decide +kernel
theorem dX10_drawn_56 : decode cX10_drawn 56 = .ok (.ifCond .ne 13, 3) := by decide +kernel
theorem dX10_drawn_59 : decode cX10_drawn 59 = .ok (.aload_n 0, 1) := by decide +kernel
theorem dX10_drawn_60 : decode cX10_drawn 60 = .ok (.getfield 75, 3) := by decide +kernel
theorem dX10_drawn_63 : decode cX10_drawn 63 = .ok (.getfield 324, 3) := by decide +kernel
theorem dX10_drawn_66 : decode cX10_drawn 66 = .ok (.goto 10, 3) := by decide +kernel
theorem dX10_drawn_69 : decode cX10_drawn 69 = .ok (.aload_n 0, 1) := by decide +kernel
theorem dX10_drawn_70 : decode cX10_drawn 70 = .ok (.getfield 75, 3) := by decide +kernel
theorem dX10_drawn_73 : decode cX10_drawn 73 = .ok (.getfield 327, 3) := by decide +kernel
theorem dX10_drawn_76 : decode cX10_drawn 76 = .ok (.ireturn, 1) := by decide +kernel
theorem dX10_image_0 : decode cX10_image 0 = .ok (.iload_n 1, 1) := by decide +kernel
theorem dX10_image_1 : decode cX10_image 1 = .ok (.iconst 0, 1) := by decide +kernel
theorem dX10_image_2 : decode cX10_image 2 = .ok (.iconst 1, 1) := by decide +kernel
theorem dX10_image_3 : decode cX10_image 3 = .ok (.invokestatic 83, 3) := by decide +kernel
theorem dX10_image_6 : decode cX10_image 6 = .ok (.ifCond .ne 6, 3) := by decide +kernel
theorem dX10_image_9 : decode cX10_image 9 = .ok (.ldc 87, 2) := by decide +kernel
theorem dX10_image_11 : decode cX10_image 11 = .ok (.ireturn, 1) := by decide +kernel
theorem dX10_image_12 : decode cX10_image 12 = .ok (.aload_n 0, 1) := by decide +kernel
theorem dX10_image_13 : decode cX10_image 13 = .ok (.getfield 19, 3) := by decide +kernel
theorem dX10_image_16 : decode cX10_image 16 = .ok (.invokevirtual 159, 3) := by decide +kernel
theorem dX10_image_19 : decode cX10_image 19 = .ok (.ifCond .ne 6, 3) := by decide +kernel
theorem dX10_image_22 : decode cX10_image 22 = .ok (.ldc 137, 2) := by decide +kernel
theorem dX10_image_24 : decode cX10_image 24 = .ok (.ireturn, 1) := by decide +kernel
theorem dX10_image_25 : decode cX10_image 25 = .ok (.aload_n 0, 1) := by decide +kernel
theorem dX10_image_26 : decode cX10_image 26 = .ok (.iload_n 1, 1) := by decide +kernel
theorem dX10_image_27 : decode cX10_image 27 = .ok (.invokevirtual 330, 3) := by decide +kernel
theorem dX10_image_30 : decode cX10_image 30 = .ok (.aload_n 0, 1) := by decide +kernel
theorem dX10_image_31 : decode cX10_image 31 = .ok (.getfield 19, 3) := by decide +kernel
theorem dX10_image_34 : decode cX10_image 34 = .ok (.invokevirtual 113, 3) := by decide +kernel
theorem dX10_image_37 : decode cX10_image 37 = .ok (.iconst 1, 1) := by decide +kernel
theorem dX10_image_38 : decode cX10_image 38 = .ok (.ireturn, 1) := by decide +kernel
theorem dX10_restore_0 : decode cX10_restore 0 = .ok (.iload_n 1, 1) := by decide +kernel
theorem dX10_restore_1 : decode cX10_restore 1 = .ok (.iconst 0, 1) := by decide +kernel
theorem dX10_restore_2 : decode cX10_restore 2 = .ok (.iconst 1, 1) := by decide +kernel
theorem dX10_restore_3 : decode cX10_restore 3 = .ok (.invokestatic 83, 3) := by decide +kernel
theorem dX10_restore_6 : decode cX10_restore 6 = .ok (.ifCond .ne 6, 3) := by decide +kernel
theorem dX10_restore_9 : decode cX10_restore 9 = .ok (.ldc 87, 2) := by decide +kernel
theorem dX10_restore_11 : decode cX10_restore 11 = .ok (.ireturn, 1) := by decide +kernel
theorem dX10_restore_12 : decode cX10_restore 12 = .ok (.aload_n 0, 1) := by decide +kernel
theorem dX10_restore_13 : decode cX10_restore 13 = .ok (.iload_n 1, 1) := by decide +kernel
theorem dX10_restore_14 : decode cX10_restore 14 = .ok (.invokevirtual 330, 3) := by decide +kernel
theorem dX10_restore_17 : decode cX10_restore 17 = .ok (.invokevirtual 159, 3) := by decide +kernel
theorem dX10_restore_20 : decode cX10_restore 20 = .ok (.ifCond .ne 6, 3) := by decide +kernel
theorem dX10_restore_23 : decode cX10_restore 23 = .ok (.ldc 137, 2) := by decide +kernel
theorem dX10_restore_25 : decode cX10_restore 25 = .ok (.ireturn, 1) := by decide +kernel
theorem dX10_restore_26 : decode cX10_restore 26 = .ok (.aload_n 0, 1) := by decide +kernel
theorem dX10_restore_27 : decode cX10_restore 27 = .ok (.getfield 19, 3) := by decide +kernel
theorem dX10_restore_30 : decode cX10_restore 30 = .ok (.aload_n 0, 1) := by decide +kernel
theorem dX10_restore_31 : decode cX10_restore 31 = .ok (.iload_n 1, 1) := by decide +kernel
theorem dX10_restore_32 : decode cX10_restore 32 = .ok (.invokevirtual 330, 3) := by decide +kernel
theorem dX10_restore_35 : decode cX10_restore 35 = .ok (.invokevirtual 113, 3) := by decide +kernel
theorem dX10_restore_38 : decode cX10_restore 38 = .ok (.aload_n 0, 1) := by decide +kernel
theorem dX10_restore_39 : decode cX10_restore 39 = .ok (.getfield 35, 3) := by decide +kernel
theorem dX10_restore_42 : decode cX10_restore 42 = .ok (.invokevirtual 116, 3) := by decide +kernel
theorem dX10_restore_45 : decode cX10_restore 45 = .ok (.iconst 1, 1) := by decide +kernel
theorem dX10_restore_46 : decode cX10_restore 46 = .ok (.ireturn, 1) := by decide +kernel
theorem dX10_count_0 : decode cX10_count 0 = .ok (.iload_n 1, 1) := by decide +kernel
theorem dX10_count_1 : decode cX10_count 1 = .ok (.tableswitch 107 0 6 #[43, 51, 59, 75, 83, 91, 99], 43) := by decide +kernel
theorem dX10_count_44 : decode cX10_count 44 = .ok (.aload_n 0, 1) := by decide +kernel
theorem dX10_count_45 : decode cX10_count 45 = .ok (.getfield 19, 3) := by decide +kernel
theorem dX10_count_48 : decode cX10_count 48 = .ok (.invokevirtual 334, 3) := by decide +kernel
theorem dX10_count_51 : decode cX10_count 51 = .ok (.ireturn, 1) := by decide +kernel
theorem dX10_count_52 : decode cX10_count 52 = .ok (.aload_n 0, 1) := by decide +kernel
theorem dX10_count_53 : decode cX10_count 53 = .ok (.getfield 19, 3) := by decide +kernel
theorem dX10_count_56 : decode cX10_count 56 = .ok (.invokevirtual 337, 3) := by decide +kernel
theorem dX10_count_59 : decode cX10_count 59 = .ok (.ireturn, 1) := by decide +kernel
theorem dX10_count_60 : decode cX10_count 60 = .ok (.aload_n 0, 1) := by decide +kernel
theorem dX10_count_61 : decode cX10_count 61 = .ok (.getfield 19, 3) := by decide +kernel
theorem dX10_count_64 : decode cX10_count 64 = .ok (.invokevirtual 334, 3) := by decide +kernel
theorem dX10_count_67 : decode cX10_count 67 = .ok (.aload_n 0, 1) := by decide +kernel
theorem dX10_count_68 : decode cX10_count 68 = .ok (.getfield 19, 3) := by decide +kernel
theorem dX10_count_71 : decode cX10_count 71 = .ok (.invokevirtual 337, 3) := by decide +kernel
theorem dX10_count_74 : decode cX10_count 74 = .ok (.isub, 1) := by decide +kernel
theorem dX10_count_75 : decode cX10_count 75 = .ok (.ireturn, 1) := by decide +kernel
theorem dX10_count_76 : decode cX10_count 76 = .ok (.aload_n 0, 1) := by decide +kernel
theorem dX10_count_77 : decode cX10_count 77 = .ok (.getfield 19, 3) := by decide +kernel
theorem dX10_count_80 : decode cX10_count 80 = .ok (.invokevirtual 119, 3) := by decide +kernel
theorem dX10_count_83 : decode cX10_count 83 = .ok (.ireturn, 1) := by decide +kernel
theorem dX10_count_84 : decode cX10_count 84 = .ok (.aload_n 0, 1) := by decide +kernel
theorem dX10_count_85 : decode cX10_count 85 = .ok (.getfield 19, 3) := by decide +kernel
theorem dX10_count_88 : decode cX10_count 88 = .ok (.invokevirtual 165, 3) := by decide +kernel
theorem dX10_count_91 : decode cX10_count 91 = .ok (.ireturn, 1) := by decide +kernel
theorem dX10_count_92 : decode cX10_count 92 = .ok (.aload_n 0, 1) := by decide +kernel
theorem dX10_count_93 : decode cX10_count 93 = .ok (.getfield 35, 3) := by decide +kernel
theorem dX10_count_96 : decode cX10_count 96 = .ok (.invokevirtual 134, 3) := by decide +kernel
theorem dX10_count_99 : decode cX10_count 99 = .ok (.ireturn, 1) := by decide +kernel
theorem dX10_count_100 : decode cX10_count 100 = .ok (.aload_n 0, 1) := by decide +kernel
theorem dX10_count_101 : decode cX10_count 101 = .ok (.getfield 10, 3) := by decide +kernel
theorem dX10_count_104 : decode cX10_count 104 = .ok (.invokevirtual 340, 3) := by decide +kernel
theorem dX10_count_107 : decode cX10_count 107 = .ok (.ireturn, 1) := by decide +kernel
theorem dX10_count_108 : decode cX10_count 108 = .ok (.ldc 87, 2) := by decide +kernel
theorem dX10_count_110 : decode cX10_count 110 = .ok (.ireturn, 1) := by decide +kernel
theorem dX10_makeVoyage_0 : decode cX10_makeVoyage 0 = .ok (.aload_n 0, 1) := by decide +kernel
theorem dX10_makeVoyage_1 : decode cX10_makeVoyage 1 = .ok (.getfield 59, 3) := by decide +kernel
theorem dX10_makeVoyage_4 : decode cX10_makeVoyage 4 = .ok (.iload_n 1, 1) := by decide +kernel
theorem dX10_makeVoyage_5 : decode cX10_makeVoyage 5 = .ok (.aload_n 0, 1) := by decide +kernel
theorem dX10_makeVoyage_6 : decode cX10_makeVoyage 6 = .ok (.getfield 19, 3) := by decide +kernel
theorem dX10_makeVoyage_9 : decode cX10_makeVoyage 9 = .ok (.iconst 0, 1) := by decide +kernel
theorem dX10_makeVoyage_10 : decode cX10_makeVoyage 10 = .ok (.invokevirtual 341, 3) := by decide +kernel
theorem dX10_makeVoyage_13 : decode cX10_makeVoyage 13 = .ok (.iconst 0, 1) := by decide +kernel
theorem dX10_makeVoyage_14 : decode cX10_makeVoyage 14 = .ok (.iconst (-1), 1) := by decide +kernel
theorem dX10_makeVoyage_15 : decode cX10_makeVoyage 15 = .ok (.iconst 0, 1) := by decide +kernel
theorem dX10_makeVoyage_16 : decode cX10_makeVoyage 16 = .ok (.invokevirtual 344, 3) := by decide +kernel
theorem dX10_makeVoyage_19 : decode cX10_makeVoyage 19 = .ok (.return_, 1) := by decide +kernel
theorem dX10_imageOf_0 : decode cX10_imageOf 0 = .ok (.iload_n 1, 1) := by decide +kernel
theorem dX10_imageOf_1 : decode cX10_imageOf 1 = .ok (.ifCond .ne 10, 3) := by decide +kernel
theorem dX10_imageOf_4 : decode cX10_imageOf 4 = .ok (.aload_n 0, 1) := by decide +kernel
theorem dX10_imageOf_5 : decode cX10_imageOf 5 = .ok (.getfield 39, 3) := by decide +kernel
theorem dX10_imageOf_8 : decode cX10_imageOf 8 = .ok (.goto 7, 3) := by decide +kernel
theorem dX10_imageOf_11 : decode cX10_imageOf 11 = .ok (.aload_n 0, 1) := by decide +kernel
theorem dX10_imageOf_12 : decode cX10_imageOf 12 = .ok (.getfield 42, 3) := by decide +kernel
theorem dX10_imageOf_15 : decode cX10_imageOf 15 = .ok (.areturn, 1) := by decide +kernel
theorem dX10_isPair_0 : decode cX10_isPair 0 = .ok (.aload_n 0, 1) := by decide +kernel
theorem dX10_isPair_1 : decode cX10_isPair 1 = .ok (.getfield 19, 3) := by decide +kernel
theorem dX10_isPair_4 : decode cX10_isPair 4 = .ok (.iload_n 1, 1) := by decide +kernel
theorem dX10_isPair_5 : decode cX10_isPair 5 = .ok (.invokevirtual 141, 3) := by decide +kernel
theorem dX10_isPair_8 : decode cX10_isPair 8 = .ok (.ifCond .eq 23, 3) := by decide +kernel
theorem dX10_isPair_11 : decode cX10_isPair 11 = .ok (.aload_n 0, 1) := by decide +kernel
theorem dX10_isPair_12 : decode cX10_isPair 12 = .ok (.getfield 19, 3) := by decide +kernel
theorem dX10_isPair_15 : decode cX10_isPair 15 = .ok (.iload_n 2, 1) := by decide +kernel
theorem dX10_isPair_16 : decode cX10_isPair 16 = .ok (.invokevirtual 141, 3) := by decide +kernel
theorem dX10_isPair_19 : decode cX10_isPair 19 = .ok (.ifCond .eq 12, 3) := by decide +kernel
theorem dX10_isPair_22 : decode cX10_isPair 22 = .ok (.iload_n 1, 1) := by decide +kernel
theorem dX10_isPair_23 : decode cX10_isPair 23 = .ok (.iload_n 2, 1) := by decide +kernel
theorem dX10_isPair_24 : decode cX10_isPair 24 = .ok (.if_icmp .eq 7, 3) := by decide +kernel
theorem dX10_isPair_27 : decode cX10_isPair 27 = .ok (.iconst 1, 1) := by decide +kernel
theorem dX10_isPair_28 : decode cX10_isPair 28 = .ok (.goto 4, 3) := by decide +kernel
theorem dX10_isPair_31 : decode cX10_isPair 31 = .ok (.iconst 0, 1) := by decide +kernel
theorem dX10_isPair_32 : decode cX10_isPair 32 = .ok (.ireturn, 1) := by decide +kernel
theorem dX10_isStart_0 : decode cX10_isStart 0 = .ok (.iload_n 0, 1) := by decide +kernel
theorem dX10_isStart_1 : decode cX10_isStart 1 = .ok (.iconst 0, 1) := by decide +kernel
theorem dX10_isStart_2 : decode cX10_isStart 2 = .ok (.bipush 99, 2) := by decide +kernel
theorem dX10_isStart_4 : decode cX10_isStart 4 = .ok (.invokestatic 83, 3) := by decide +kernel
theorem dX10_isStart_7 : decode cX10_isStart 7 = .ok (.ireturn, 1) := by decide +kernel
theorem dX10_isCourse_0 : decode cX10_isCourse 0 = .ok (.iload_n 0, 1) := by decide +kernel
theorem dX10_isCourse_1 : decode cX10_isCourse 1 = .ok (.iconst 0, 1) := by decide +kernel
theorem dX10_isCourse_2 : decode cX10_isCourse 2 = .ok (.bipush 15, 2) := by decide +kernel
theorem dX10_isCourse_4 : decode cX10_isCourse 4 = .ok (.invokestatic 83, 3) := by decide +kernel
theorem dX10_isCourse_7 : decode cX10_isCourse 7 = .ok (.ireturn, 1) := by decide +kernel
theorem dX10_isUntil_0 : decode cX10_isUntil 0 = .ok (.iload_n 0, 1) := by decide +kernel
theorem dX10_isUntil_1 : decode cX10_isUntil 1 = .ok (.iconst 0, 1) := by decide +kernel
theorem dX10_isUntil_2 : decode cX10_isUntil 2 = .ok (.iconst 4, 1) := by decide +kernel
theorem dX10_isUntil_3 : decode cX10_isUntil 3 = .ok (.invokestatic 83, 3) := by decide +kernel
theorem dX10_isUntil_6 : decode cX10_isUntil 6 = .ok (.ifCond .ne 5, 3) := by decide +kernel
theorem dX10_isUntil_9 : decode cX10_isUntil 9 = .ok (.iconst 0, 1) := by decide +kernel
theorem dX10_isUntil_10 : decode cX10_isUntil 10 = .ok (.ireturn, 1) := by decide +kernel
theorem dX10_isUntil_11 : decode cX10_isUntil 11 = .ok (.iload_n 1, 1) := by decide +kernel
theorem dX10_isUntil_12 : decode cX10_isUntil 12 = .ok (.iload_n 0, 1) := by decide +kernel
theorem dX10_isUntil_13 : decode cX10_isUntil 13 = .ok (.invokestatic 348, 3) := by decide +kernel
theorem dX10_isUntil_16 : decode cX10_isUntil 16 = .ok (.iload_n 0, 1) := by decide +kernel
theorem dX10_isUntil_17 : decode cX10_isUntil 17 = .ok (.invokestatic 351, 3) := by decide +kernel
theorem dX10_isUntil_20 : decode cX10_isUntil 20 = .ok (.invokestatic 83, 3) := by decide +kernel
theorem dX10_isUntil_23 : decode cX10_isUntil 23 = .ok (.ifCond .ne 5, 3) := by decide +kernel
theorem dX10_isUntil_26 : decode cX10_isUntil 26 = .ok (.iconst 0, 1) := by decide +kernel
theorem dX10_isUntil_27 : decode cX10_isUntil 27 = .ok (.ireturn, 1) := by decide +kernel
theorem dX10_isUntil_28 : decode cX10_isUntil 28 = .ok (.iload_n 0, 1) := by decide +kernel
theorem dX10_isUntil_29 : decode cX10_isUntil 29 = .ok (.iconst 2, 1) := by decide +kernel
theorem dX10_isUntil_30 : decode cX10_isUntil 30 = .ok (.if_icmp .ne 13, 3) := by decide +kernel
theorem dX10_isUntil_33 : decode cX10_isUntil 33 = .ok (.iload_n 2, 1) := by decide +kernel
theorem dX10_isUntil_34 : decode cX10_isUntil 34 = .ok (.iconst 0, 1) := by decide +kernel
theorem dX10_isUntil_35 : decode cX10_isUntil 35 = .ok (.bipush 7, 2) := by decide +kernel
theorem dX10_isUntil_37 : decode cX10_isUntil 37 = .ok (.invokestatic 83, 3) := by decide +kernel
theorem dX10_isUntil_40 : decode cX10_isUntil 40 = .ok (.ifCond .eq 7, 3) := by decide +kernel
theorem dX10_isUntil_43 : decode cX10_isUntil 43 = .ok (.iconst 1, 1) := by decide +kernel
theorem dX10_isUntil_44 : decode cX10_isUntil 44 = .ok (.goto 4, 3) := by decide +kernel
theorem dX10_isUntil_47 : decode cX10_isUntil 47 = .ok (.iconst 0, 1) := by decide +kernel
theorem dX10_isUntil_48 : decode cX10_isUntil 48 = .ok (.ireturn, 1) := by decide +kernel
theorem dX10_isWithin_0 : decode cX10_isWithin 0 = .ok (.iload_n 0, 1) := by decide +kernel
theorem dX10_isWithin_1 : decode cX10_isWithin 1 = .ok (.iload_n 1, 1) := by decide +kernel
theorem dX10_isWithin_2 : decode cX10_isWithin 2 = .ok (.if_icmp .lt 12, 3) := by decide +kernel
theorem dX10_isWithin_5 : decode cX10_isWithin 5 = .ok (.iload_n 0, 1) := by decide +kernel
theorem dX10_isWithin_6 : decode cX10_isWithin 6 = .ok (.iload_n 2, 1) := by decide +kernel
theorem dX10_isWithin_7 : decode cX10_isWithin 7 = .ok (.if_icmp .gt 7, 3) := by decide +kernel
theorem dX10_isWithin_10 : decode cX10_isWithin 10 = .ok (.iconst 1, 1) := by decide +kernel
theorem dX10_isWithin_11 : decode cX10_isWithin 11 = .ok (.goto 4, 3) := by decide +kernel
theorem dX10_isWithin_14 : decode cX10_isWithin 14 = .ok (.iconst 0, 1) := by decide +kernel
theorem dX10_isWithin_15 : decode cX10_isWithin 15 = .ok (.ireturn, 1) := by decide +kernel
theorem dX11_init_0 : decode cX11_init 0 = .ok (.aload_n 0, 1) := by decide +kernel
theorem dX11_init_1 : decode cX11_init 1 = .ok (.invokespecial 1, 3) := by decide +kernel
theorem dX11_init_4 : decode cX11_init 4 = .ok (.aload_n 0, 1) := by decide +kernel
theorem dX11_init_5 : decode cX11_init 5 = .ok (.sipush 1817, 3) := by decide +kernel
theorem dX11_init_8 : decode cX11_init 8 = .ok (.newarray .int, 2) := by decide +kernel
theorem dX11_init_10 : decode cX11_init 10 = .ok (.putfield 7, 3) := by decide +kernel
theorem dX11_init_13 : decode cX11_init 13 = .ok (.aload_n 0, 1) := by decide +kernel
theorem dX11_init_14 : decode cX11_init 14 = .ok (.iconst 2, 1) := by decide +kernel
theorem dX11_init_15 : decode cX11_init 15 = .ok (.newarray .boolean, 2) := by decide +kernel
theorem dX11_init_17 : decode cX11_init 17 = .ok (.putfield 13, 3) := by decide +kernel
theorem dX11_init_20 : decode cX11_init 20 = .ok (.aload_n 0, 1) := by decide +kernel
theorem dX11_init_21 : decode cX11_init 21 = .ok (.sipush 160, 3) := by decide +kernel
theorem dX11_init_24 : decode cX11_init 24 = .ok (.newarray .int, 2) := by decide +kernel
theorem dX11_init_26 : decode cX11_init 26 = .ok (.putfield 17, 3) := by decide +kernel
theorem dX11_init_29 : decode cX11_init 29 = .ok (.aload_n 0, 1) := by decide +kernel
theorem dX11_init_30 : decode cX11_init 30 = .ok (.bipush 16, 2) := by decide +kernel
theorem dX11_init_32 : decode cX11_init 32 = .ok (.newarray .int, 2) := by decide +kernel
theorem dX11_init_34 : decode cX11_init 34 = .ok (.dup, 1) := by decide +kernel
theorem dX11_init_35 : decode cX11_init 35 = .ok (.iconst 0, 1) := by decide +kernel
theorem dX11_init_36 : decode cX11_init 36 = .ok (.iconst 0, 1) := by decide +kernel
theorem dX11_init_37 : decode cX11_init 37 = .ok (.iastore, 1) := by decide +kernel
theorem dX11_init_38 : decode cX11_init 38 = .ok (.dup, 1) := by decide +kernel
theorem dX11_init_39 : decode cX11_init 39 = .ok (.iconst 1, 1) := by decide +kernel
theorem dX11_init_40 : decode cX11_init 40 = .ok (.iconst 1, 1) := by decide +kernel
theorem dX11_init_41 : decode cX11_init 41 = .ok (.iastore, 1) := by decide +kernel
theorem dX11_init_42 : decode cX11_init 42 = .ok (.dup, 1) := by decide +kernel
theorem dX11_init_43 : decode cX11_init 43 = .ok (.iconst 2, 1) := by decide +kernel
theorem dX11_init_44 : decode cX11_init 44 = .ok (.iconst 1, 1) := by decide +kernel
theorem dX11_init_45 : decode cX11_init 45 = .ok (.iastore, 1) := by decide +kernel
theorem dX11_init_46 : decode cX11_init 46 = .ok (.dup, 1) := by decide +kernel
theorem dX11_init_47 : decode cX11_init 47 = .ok (.iconst 3, 1) := by decide +kernel
theorem dX11_init_48 : decode cX11_init 48 = .ok (.iconst 2, 1) := by decide +kernel
theorem dX11_init_49 : decode cX11_init 49 = .ok (.iastore, 1) := by decide +kernel
theorem dX11_init_50 : decode cX11_init 50 = .ok (.dup, 1) := by decide +kernel
theorem dX11_init_51 : decode cX11_init 51 = .ok (.iconst 4, 1) := by decide +kernel
theorem dX11_init_52 : decode cX11_init 52 = .ok (.iconst 1, 1) := by decide +kernel
theorem dX11_init_53 : decode cX11_init 53 = .ok (.iastore, 1) := by decide +kernel
theorem dX11_init_54 : decode cX11_init 54 = .ok (.dup, 1) := by decide +kernel
theorem dX11_init_55 : decode cX11_init 55 = .ok (.iconst 5, 1) := by decide +kernel
theorem dX11_init_56 : decode cX11_init 56 = .ok (.iconst 2, 1) := by decide +kernel
theorem dX11_init_57 : decode cX11_init 57 = .ok (.iastore, 1) := by decide +kernel
theorem dX11_init_58 : decode cX11_init 58 = .ok (.dup, 1) := by decide +kernel
theorem dX11_init_59 : decode cX11_init 59 = .ok (.bipush 6, 2) := by decide +kernel
theorem dX11_init_61 : decode cX11_init 61 = .ok (.iconst 1, 1) := by decide +kernel
theorem dX11_init_62 : decode cX11_init 62 = .ok (.iastore, 1) := by decide +kernel
theorem dX11_init_63 : decode cX11_init 63 = .ok (.dup, 1) := by decide +kernel
theorem dX11_init_64 : decode cX11_init 64 = .ok (.bipush 7, 2) := by decide +kernel
theorem dX11_init_66 : decode cX11_init 66 = .ok (.iconst 1, 1) := by decide +kernel
theorem dX11_init_67 : decode cX11_init 67 = .ok (.iastore, 1) := by decide +kernel
theorem dX11_init_68 : decode cX11_init 68 = .ok (.dup, 1) := by decide +kernel
theorem dX11_init_69 : decode cX11_init 69 = .ok (.bipush 8, 2) := by decide +kernel
theorem dX11_init_71 : decode cX11_init 71 = .ok (.iconst 0, 1) := by decide +kernel
theorem dX11_init_72 : decode cX11_init 72 = .ok (.iastore, 1) := by decide +kernel
theorem dX11_init_73 : decode cX11_init 73 = .ok (.dup, 1) := by decide +kernel
theorem dX11_init_74 : decode cX11_init 74 = .ok (.bipush 9, 2) := by decide +kernel
theorem dX11_init_76 : decode cX11_init 76 = .ok (.iconst (-1), 1) := by decide +kernel
theorem dX11_init_77 : decode cX11_init 77 = .ok (.iastore, 1) := by decide +kernel
theorem dX11_init_78 : decode cX11_init 78 = .ok (.dup, 1) := by decide +kernel
theorem dX11_init_79 : decode cX11_init 79 = .ok (.bipush 10, 2) := by decide +kernel
theorem dX11_init_81 : decode cX11_init 81 = .ok (.iconst (-1), 1) := by decide +kernel
theorem dX11_init_82 : decode cX11_init 82 = .ok (.iastore, 1) := by decide +kernel
theorem dX11_init_83 : decode cX11_init 83 = .ok (.dup, 1) := by decide +kernel
theorem dX11_init_84 : decode cX11_init 84 = .ok (.bipush 11, 2) := by decide +kernel
theorem dX11_init_86 : decode cX11_init 86 = .ok (.bipush (-2), 2) := by decide +kernel
theorem dX11_init_88 : decode cX11_init 88 = .ok (.iastore, 1) := by decide +kernel
theorem dX11_init_89 : decode cX11_init 89 = .ok (.dup, 1) := by decide +kernel
theorem dX11_init_90 : decode cX11_init 90 = .ok (.bipush 12, 2) := by decide +kernel
theorem dX11_init_92 : decode cX11_init 92 = .ok (.iconst (-1), 1) := by decide +kernel
theorem dX11_init_93 : decode cX11_init 93 = .ok (.iastore, 1) := by decide +kernel
theorem dX11_init_94 : decode cX11_init 94 = .ok (.dup, 1) := by decide +kernel
theorem dX11_init_95 : decode cX11_init 95 = .ok (.bipush 13, 2) := by decide +kernel
theorem dX11_init_97 : decode cX11_init 97 = .ok (.bipush (-2), 2) := by decide +kernel
theorem dX11_init_99 : decode cX11_init 99 = .ok (.iastore, 1) := by decide +kernel
theorem dX11_init_100 : decode cX11_init 100 = .ok (.dup, 1) := by decide +kernel
theorem dX11_init_101 : decode cX11_init 101 = .ok (.bipush 14, 2) := by decide +kernel
theorem dX11_init_103 : decode cX11_init 103 = .ok (.iconst (-1), 1) := by decide +kernel
theorem dX11_init_104 : decode cX11_init 104 = .ok (.iastore, 1) := by decide +kernel
theorem dX11_init_105 : decode cX11_init 105 = .ok (.dup, 1) := by decide +kernel
theorem dX11_init_106 : decode cX11_init 106 = .ok (.bipush 15, 2) := by decide +kernel
theorem dX11_init_108 : decode cX11_init 108 = .ok (.iconst (-1), 1) := by decide +kernel
theorem dX11_init_109 : decode cX11_init 109 = .ok (.iastore, 1) := by decide +kernel
theorem dX11_init_110 : decode cX11_init 110 = .ok (.putfield 20, 3) := by decide +kernel
theorem dX11_init_113 : decode cX11_init 113 = .ok (.aload_n 0, 1) := by decide +kernel
theorem dX11_init_114 : decode cX11_init 114 = .ok (.bipush 16, 2) := by decide +kernel
theorem dX11_init_116 : decode cX11_init 116 = .ok (.newarray .int, 2) := by decide +kernel
theorem dX11_init_118 : decode cX11_init 118 = .ok (.dup, 1) := by decide +kernel
theorem dX11_init_119 : decode cX11_init 119 = .ok (.iconst 0, 1) := by decide +kernel
theorem dX11_init_120 : decode cX11_init 120 = .ok (.iconst 1, 1) := by decide +kernel
theorem dX11_init_121 : decode cX11_init 121 = .ok (.iastore, 1) := by decide +kernel
theorem dX11_init_122 : decode cX11_init 122 = .ok (.dup, 1) := by decide +kernel
theorem dX11_init_123 : decode cX11_init 123 = .ok (.iconst 1, 1) := by decide +kernel
theorem dX11_init_124 : decode cX11_init 124 = .ok (.iconst 2, 1) := by decide +kernel
theorem dX11_init_125 : decode cX11_init 125 = .ok (.iastore, 1) := by decide +kernel
theorem dX11_init_126 : decode cX11_init 126 = .ok (.dup, 1) := by decide +kernel
theorem dX11_init_127 : decode cX11_init 127 = .ok (.iconst 2, 1) := by decide +kernel
theorem dX11_init_128 : decode cX11_init 128 = .ok (.iconst 1, 1) := by decide +kernel
theorem dX11_init_129 : decode cX11_init 129 = .ok (.iastore, 1) := by decide +kernel
theorem dX11_init_130 : decode cX11_init 130 = .ok (.dup, 1) := by decide +kernel
theorem dX11_init_131 : decode cX11_init 131 = .ok (.iconst 3, 1) := by decide +kernel
theorem dX11_init_132 : decode cX11_init 132 = .ok (.iconst 1, 1) := by decide +kernel
theorem dX11_init_133 : decode cX11_init 133 = .ok (.iastore, 1) := by decide +kernel
theorem dX11_init_134 : decode cX11_init 134 = .ok (.dup, 1) := by decide +kernel
theorem dX11_init_135 : decode cX11_init 135 = .ok (.iconst 4, 1) := by decide +kernel
theorem dX11_init_136 : decode cX11_init 136 = .ok (.iconst 0, 1) := by decide +kernel
theorem dX11_init_137 : decode cX11_init 137 = .ok (.iastore, 1) := by decide +kernel
theorem dX11_init_138 : decode cX11_init 138 = .ok (.dup, 1) := by decide +kernel
theorem dX11_init_139 : decode cX11_init 139 = .ok (.iconst 5, 1) := by decide +kernel
theorem dX11_init_140 : decode cX11_init 140 = .ok (.iconst (-1), 1) := by decide +kernel
theorem dX11_init_141 : decode cX11_init 141 = .ok (.iastore, 1) := by decide +kernel
theorem dX11_init_142 : decode cX11_init 142 = .ok (.dup, 1) := by decide +kernel
theorem dX11_init_143 : decode cX11_init 143 = .ok (.bipush 6, 2) := by decide +kernel
theorem dX11_init_145 : decode cX11_init 145 = .ok (.iconst (-1), 1) := by decide +kernel
theorem dX11_init_146 : decode cX11_init 146 = .ok (.iastore, 1) := by decide +kernel
theorem dX11_init_147 : decode cX11_init 147 = .ok (.dup, 1) := by decide +kernel
theorem dX11_init_148 : decode cX11_init 148 = .ok (.bipush 7, 2) := by decide +kernel
theorem dX11_init_150 : decode cX11_init 150 = .ok (.bipush (-2), 2) := by decide +kernel
theorem dX11_init_152 : decode cX11_init 152 = .ok (.iastore, 1) := by decide +kernel
theorem dX11_init_153 : decode cX11_init 153 = .ok (.dup, 1) := by decide +kernel
theorem dX11_init_154 : decode cX11_init 154 = .ok (.bipush 8, 2) := by decide +kernel
theorem dX11_init_156 : decode cX11_init 156 = .ok (.iconst (-1), 1) := by decide +kernel
theorem dX11_init_157 : decode cX11_init 157 = .ok (.iastore, 1) := by decide +kernel
theorem dX11_init_158 : decode cX11_init 158 = .ok (.dup, 1) := by decide +kernel
theorem dX11_init_159 : decode cX11_init 159 = .ok (.bipush 9, 2) := by decide +kernel
theorem dX11_init_161 : decode cX11_init 161 = .ok (.bipush (-2), 2) := by decide +kernel
theorem dX11_init_163 : decode cX11_init 163 = .ok (.iastore, 1) := by decide +kernel
theorem dX11_init_164 : decode cX11_init 164 = .ok (.dup, 1) := by decide +kernel
theorem dX11_init_165 : decode cX11_init 165 = .ok (.bipush 10, 2) := by decide +kernel
theorem dX11_init_167 : decode cX11_init 167 = .ok (.iconst (-1), 1) := by decide +kernel
theorem dX11_init_168 : decode cX11_init 168 = .ok (.iastore, 1) := by decide +kernel
theorem dX11_init_169 : decode cX11_init 169 = .ok (.dup, 1) := by decide +kernel
theorem dX11_init_170 : decode cX11_init 170 = .ok (.bipush 11, 2) := by decide +kernel
theorem dX11_init_172 : decode cX11_init 172 = .ok (.iconst (-1), 1) := by decide +kernel
theorem dX11_init_173 : decode cX11_init 173 = .ok (.iastore, 1) := by decide +kernel
theorem dX11_init_174 : decode cX11_init 174 = .ok (.dup, 1) := by decide +kernel
theorem dX11_init_175 : decode cX11_init 175 = .ok (.bipush 12, 2) := by decide +kernel
theorem dX11_init_177 : decode cX11_init 177 = .ok (.iconst 0, 1) := by decide +kernel
theorem dX11_init_178 : decode cX11_init 178 = .ok (.iastore, 1) := by decide +kernel
theorem dX11_init_179 : decode cX11_init 179 = .ok (.dup, 1) := by decide +kernel
theorem dX11_init_180 : decode cX11_init 180 = .ok (.bipush 13, 2) := by decide +kernel
theorem dX11_init_182 : decode cX11_init 182 = .ok (.iconst 1, 1) := by decide +kernel
theorem dX11_init_183 : decode cX11_init 183 = .ok (.iastore, 1) := by decide +kernel
theorem dX11_init_184 : decode cX11_init 184 = .ok (.dup, 1) := by decide +kernel
theorem dX11_init_185 : decode cX11_init 185 = .ok (.bipush 14, 2) := by decide +kernel
theorem dX11_init_187 : decode cX11_init 187 = .ok (.iconst 1, 1) := by decide +kernel
theorem dX11_init_188 : decode cX11_init 188 = .ok (.iastore, 1) := by decide +kernel
theorem dX11_init_189 : decode cX11_init 189 = .ok (.dup, 1) := by decide +kernel
theorem dX11_init_190 : decode cX11_init 190 = .ok (.bipush 15, 2) := by decide +kernel
theorem dX11_init_192 : decode cX11_init 192 = .ok (.iconst 2, 1) := by decide +kernel
theorem dX11_init_193 : decode cX11_init 193 = .ok (.iastore, 1) := by decide +kernel
theorem dX11_init_194 : decode cX11_init 194 = .ok (.putfield 23, 3) := by decide +kernel
theorem dX11_init_197 : decode cX11_init 197 = .ok (.aload_n 0, 1) := by decide +kernel
theorem dX11_init_198 : decode cX11_init 198 = .ok (.bipush 79, 2) := by decide +kernel
theorem dX11_init_200 : decode cX11_init 200 = .ok (.newarray .int, 2) := by decide +kernel
theorem dX11_init_202 : decode cX11_init 202 = .ok (.putfield 26, 3) := by decide +kernel
theorem dX11_init_205 : decode cX11_init 205 = .ok (.aload_n 0, 1) := by decide +kernel
theorem dX11_init_206 : decode cX11_init 206 = .ok (.sipush 361, 3) := by decide +kernel
theorem dX11_init_209 : decode cX11_init 209 = .ok (.newarray .int, 2) := by decide +kernel
theorem dX11_init_211 : decode cX11_init 211 = .ok (.putfield 29, 3) := by decide +kernel
theorem dX11_init_214 : decode cX11_init 214 = .ok (.aload_n 0, 1) := by decide +kernel
theorem dX11_init_215 : decode cX11_init 215 = .ok (.sipush 361, 3) := by decide +kernel
theorem dX11_init_218 : decode cX11_init 218 = .ok (.newarray .int, 2) := by decide +kernel
theorem dX11_init_220 : decode cX11_init 220 = .ok (.putfield 32, 3) := by decide +kernel
theorem dX11_init_223 : decode cX11_init 223 = .ok (.aload_n 0, 1) := by decide +kernel
theorem dX11_init_224 : decode cX11_init 224 = .ok (.sipush 361, 3) := by decide +kernel
theorem dX11_init_227 : decode cX11_init 227 = .ok (.newarray .int, 2) := by decide +kernel
theorem dX11_init_229 : decode cX11_init 229 = .ok (.putfield 35, 3) := by decide +kernel
theorem dX11_init_232 : decode cX11_init 232 = .ok (.aload_n 0, 1) := by decide +kernel
theorem dX11_init_233 : decode cX11_init 233 = .ok (.bipush 6, 2) := by decide +kernel
theorem dX11_init_235 : decode cX11_init 235 = .ok (.newarray .int, 2) := by decide +kernel
theorem dX11_init_237 : decode cX11_init 237 = .ok (.putfield 38, 3) := by decide +kernel
theorem dX11_init_240 : decode cX11_init 240 = .ok (.aload_n 0, 1) := by decide +kernel
theorem dX11_init_241 : decode cX11_init 241 = .ok (.iconst 4, 1) := by decide +kernel
theorem dX11_init_242 : decode cX11_init 242 = .ok (.newarray .int, 2) := by decide +kernel
theorem dX11_init_244 : decode cX11_init 244 = .ok (.putfield 41, 3) := by decide +kernel
theorem dX11_init_247 : decode cX11_init 247 = .ok (.aload_n 0, 1) := by decide +kernel
theorem dX11_init_248 : decode cX11_init 248 = .ok (.iconst 4, 1) := by decide +kernel
theorem dX11_init_249 : decode cX11_init 249 = .ok (.newarray .int, 2) := by decide +kernel
theorem dX11_init_251 : decode cX11_init 251 = .ok (.putfield 44, 3) := by decide +kernel
theorem dX11_init_254 : decode cX11_init 254 = .ok (.aload_n 0, 1) := by decide +kernel
theorem dX11_init_255 : decode cX11_init 255 = .ok (.bipush 64, 2) := by decide +kernel
theorem dX11_init_257 : decode cX11_init 257 = .ok (.newarray .int, 2) := by decide +kernel
theorem dX11_init_259 : decode cX11_init 259 = .ok (.putfield 47, 3) := by decide +kernel
theorem dX11_init_262 : decode cX11_init 262 = .ok (.return_, 1) := by decide +kernel
theorem dX11_in_0 : decode cX11_in 0 = .ok (.lload_n 0, 1) := by decide +kernel
theorem dX11_in_1 : decode cX11_in 1 = .ok (.lload_n 2, 1) := by decide +kernel
theorem dX11_in_2 : decode cX11_in 2 = .ok (.lcmp, 1) := by decide +kernel
theorem dX11_in_3 : decode cX11_in 3 = .ok (.ifCond .lt 14, 3) := by decide +kernel
theorem dX11_in_6 : decode cX11_in 6 = .ok (.lload_n 0, 1) := by decide +kernel
theorem dX11_in_7 : decode cX11_in 7 = .ok (.lload 4, 2) := by decide +kernel
theorem dX11_in_9 : decode cX11_in 9 = .ok (.lcmp, 1) := by decide +kernel
theorem dX11_in_10 : decode cX11_in 10 = .ok (.ifCond .gt 7, 3) := by decide +kernel
theorem dX11_in_13 : decode cX11_in 13 = .ok (.iconst 1, 1) := by decide +kernel
theorem dX11_in_14 : decode cX11_in 14 = .ok (.goto 4, 3) := by decide +kernel
theorem dX11_in_17 : decode cX11_in 17 = .ok (.iconst 0, 1) := by decide +kernel
theorem dX11_in_18 : decode cX11_in 18 = .ok (.ireturn, 1) := by decide +kernel
theorem dX11_has_0 : decode cX11_has 0 = .ok (.iload_n 0, 1) := by decide +kernel
theorem dX11_has_1 : decode cX11_has 1 = .ok (.iload_n 1, 1) := by decide +kernel
theorem dX11_has_2 : decode cX11_has 2 = .ok (.ishr, 1) := by decide +kernel
theorem dX11_has_3 : decode cX11_has 3 = .ok (.iconst 1, 1) := by decide +kernel
theorem dX11_has_4 : decode cX11_has 4 = .ok (.iand, 1) := by decide +kernel
theorem dX11_has_5 : decode cX11_has 5 = .ok (.iconst 1, 1) := by decide +kernel
theorem dX11_has_6 : decode cX11_has 6 = .ok (.if_icmp .ne 7, 3) := by decide +kernel
theorem dX11_has_9 : decode cX11_has 9 = .ok (.iconst 1, 1) := by decide +kernel
theorem dX11_has_10 : decode cX11_has 10 = .ok (.goto 4, 3) := by decide +kernel
theorem dX11_has_13 : decode cX11_has 13 = .ok (.iconst 0, 1) := by decide +kernel
theorem dX11_has_14 : decode cX11_has 14 = .ok (.ireturn, 1) := by decide +kernel
theorem dX11_copy_0 : decode cX11_copy 0 = .ok (.iconst 0, 1) := by decide +kernel
theorem dX11_copy_1 : decode cX11_copy 1 = .ok (.istore_n 3, 1) := by decide +kernel
theorem dX11_copy_2 : decode cX11_copy 2 = .ok (.iload_n 3, 1) := by decide +kernel
theorem dX11_copy_3 : decode cX11_copy 3 = .ok (.bipush 79, 2) := by decide +kernel
theorem dX11_copy_5 : decode cX11_copy 5 = .ok (.if_icmp .ge 25, 3) := by decide +kernel
theorem dX11_copy_8 : decode cX11_copy 8 = .ok (.aload_n 0, 1) := by decide +kernel
theorem dX11_copy_9 : decode cX11_copy 9 = .ok (.getfield 7, 3) := by decide +kernel
theorem dX11_copy_12 : decode cX11_copy 12 = .ok (.iload_n 2, 1) := by decide +kernel
theorem dX11_copy_13 : decode cX11_copy 13 = .ok (.iload_n 3, 1) := by decide +kernel
theorem dX11_copy_14 : decode cX11_copy 14 = .ok (.iadd, 1) := by decide +kernel
theorem dX11_copy_15 : decode cX11_copy 15 = .ok (.aload_n 0, 1) := by decide +kernel
theorem dX11_copy_16 : decode cX11_copy 16 = .ok (.getfield 7, 3) := by decide +kernel
theorem dX11_copy_19 : decode cX11_copy 19 = .ok (.iload_n 1, 1) := by decide +kernel
theorem dX11_copy_20 : decode cX11_copy 20 = .ok (.iload_n 3, 1) := by decide +kernel
theorem dX11_copy_21 : decode cX11_copy 21 = .ok (.iadd, 1) := by decide +kernel
theorem dX11_copy_22 : decode cX11_copy 22 = .ok (.iaload, 1) := by decide +kernel
theorem dX11_copy_23 : decode cX11_copy 23 = .ok (.iastore, 1) := by decide +kernel
theorem dX11_copy_24 : decode cX11_copy 24 = .ok (.iinc 3 1, 3) := by decide +kernel
theorem dX11_copy_27 : decode cX11_copy 27 = .ok (.goto (-25), 3) := by decide +kernel
theorem dX11_copy_30 : decode cX11_copy 30 = .ok (.return_, 1) := by decide +kernel
theorem dX11_minds_0 : decode cX11_minds 0 = .ok (.aload_n 0, 1) := by decide +kernel
theorem dX11_minds_1 : decode cX11_minds 1 = .ok (.getfield 50, 3) := by decide +kernel
theorem dX11_minds_4 : decode cX11_minds 4 = .ok (.bipush 20, 2) := by decide +kernel
theorem dX11_minds_6 : decode cX11_minds 6 = .ok (.if_icmp .ne 48, 3) := by decide +kernel
theorem dX11_minds_9 : decode cX11_minds 9 = .ok (.iconst 0, 1) := by decide +kernel
theorem dX11_minds_10 : decode cX11_minds 10 = .ok (.istore_n 1, 1) := by decide +kernel
theorem dX11_minds_11 : decode cX11_minds 11 = .ok (.iload_n 1, 1) := by decide +kernel
theorem dX11_minds_12 : decode cX11_minds 12 = .ok (.sipush 1501, 3) := by decide +kernel
theorem dX11_minds_15 : decode cX11_minds 15 = .ok (.if_icmp .ge 29, 3) := by decide +kernel
theorem dX11_minds_18 : decode cX11_minds 18 = .ok (.aload_n 0, 1) := by decide +kernel
theorem dX11_minds_19 : decode cX11_minds 19 = .ok (.getfield 7, 3) := by decide +kernel
theorem dX11_minds_22 : decode cX11_minds 22 = .ok (.sipush 237, 3) := by decide +kernel
theorem dX11_minds_25 : decode cX11_minds 25 = .ok (.iload_n 1, 1) := by decide +kernel
theorem dX11_minds_26 : decode cX11_minds 26 = .ok (.iadd, 1) := by decide +kernel
theorem dX11_minds_27 : decode cX11_minds 27 = .ok (.aload_n 0, 1) := by decide +kernel
theorem dX11_minds_28 : decode cX11_minds 28 = .ok (.getfield 7, 3) := by decide +kernel
theorem dX11_minds_31 : decode cX11_minds 31 = .ok (.sipush 316, 3) := by decide +kernel
theorem dX11_minds_34 : decode cX11_minds 34 = .ok (.iload_n 1, 1) := by decide +kernel
theorem dX11_minds_35 : decode cX11_minds 35 = .ok (.iadd, 1) := by decide +kernel
theorem dX11_minds_36 : decode cX11_minds 36 = .ok (.iaload, 1) := by decide +kernel
theorem dX11_minds_37 : decode cX11_minds 37 = .ok (.iastore, 1) := by decide +kernel
theorem dX11_minds_38 : decode cX11_minds 38 = .ok (.iinc 1 1, 3) := by decide +kernel
theorem dX11_minds_41 : decode cX11_minds 41 = .ok (.goto (-30), 3) := by decide +kernel
theorem dX11_minds_44 : decode cX11_minds 44 = .ok (.aload_n 0, 1) := by decide +kernel
theorem dX11_minds_45 : decode cX11_minds 45 = .ok (.dup, 1) := by decide +kernel
theorem dX11_minds_46 : decode cX11_minds 46 = .ok (.getfield 50, 3) := by decide +kernel
theorem dX11_minds_49 : decode cX11_minds 49 = .ok (.iconst 1, 1) := by decide +kernel
theorem dX11_minds_50 : decode cX11_minds 50 = .ok (.isub, 1) := by decide +kernel
theorem dX11_minds_51 : decode cX11_minds 51 = .ok (.putfield 50, 3) := by decide +kernel
theorem dX11_minds_54 : decode cX11_minds 54 = .ok (.aload_n 0, 1) := by decide +kernel
theorem dX11_minds_55 : decode cX11_minds 55 = .ok (.iconst 0, 1) := by decide +kernel
theorem dX11_minds_56 : decode cX11_minds 56 = .ok (.sipush 237, 3) := by decide +kernel
theorem dX11_minds_59 : decode cX11_minds 59 = .ok (.bipush 79, 2) := by decide +kernel
theorem dX11_minds_61 : decode cX11_minds 61 = .ok (.aload_n 0, 1) := by decide +kernel
theorem dX11_minds_62 : decode cX11_minds 62 = .ok (.getfield 50, 3) := by decide +kernel
theorem dX11_minds_65 : decode cX11_minds 65 = .ok (.imul, 1) := by decide +kernel
theorem dX11_minds_66 : decode cX11_minds 66 = .ok (.iadd, 1) := by decide +kernel
theorem dX11_minds_67 : decode cX11_minds 67 = .ok (.invokevirtual 54, 3) := by decide +kernel
theorem dX11_minds_70 : decode cX11_minds 70 = .ok (.aload_n 0, 1) := by decide +kernel
theorem dX11_minds_71 : decode cX11_minds 71 = .ok (.dup, 1) := by decide +kernel
theorem dX11_minds_72 : decode cX11_minds 72 = .ok (.getfield 50, 3) := by decide +kernel
theorem dX11_minds_75 : decode cX11_minds 75 = .ok (.iconst 1, 1) := by decide +kernel
theorem dX11_minds_76 : decode cX11_minds 76 = .ok (.iadd, 1) := by decide +kernel
theorem dX11_minds_77 : decode cX11_minds 77 = .ok (.putfield 50, 3) := by decide +kernel
theorem dX11_minds_80 : decode cX11_minds 80 = .ok (.return_, 1) := by decide +kernel
theorem dX11_isFigure_0 : decode cX11_isFigure 0 = .ok (.iload_n 0, 1) := by decide +kernel
theorem dX11_isFigure_1 : decode cX11_isFigure 1 = .ok (.i2l, 1) := by decide +kernel
theorem dX11_isFigure_2 : decode cX11_isFigure 2 = .ok (.ldc2_w 58, 3) := by decide +kernel
theorem dX11_isFigure_5 : decode cX11_isFigure 5 = .ok (.ldc2_w 60, 3) := by decide +kernel
theorem dX11_isFigure_8 : decode cX11_isFigure 8 = .ok (.invokestatic 62, 3) := by decide +kernel
theorem dX11_isFigure_11 : decode cX11_isFigure 11 = .ok (.ireturn, 1) := by decide +kernel
theorem dX11_take_0 : decode cX11_take 0 = .ok (.aload_n 0, 1) := by decide +kernel
theorem dX11_take_1 : decode cX11_take 1 = .ok (.aload_n 0, 1) := by decide +kernel
theorem dX11_take_2 : decode cX11_take 2 = .ok (.getfield 66, 3) := by decide +kernel
theorem dX11_take_5 : decode cX11_take 5 = .ok (.putfield 69, 3) := by decide +kernel
theorem dX11_take_8 : decode cX11_take 8 = .ok (.aload_n 0, 1) := by decide +kernel
theorem dX11_take_9 : decode cX11_take 9 = .ok (.getfield 66, 3) := by decide +kernel
theorem dX11_take_12 : decode cX11_take 12 = .ok (.aload_n 0, 1) := by decide +kernel
theorem dX11_take_13 : decode cX11_take 13 = .ok (.getfield 72, 3) := by decide +kernel
theorem dX11_take_16 : decode cX11_take 16 = .ok (.if_icmp .ne 10, 3) := by decide +kernel
theorem dX11_take_19 : decode cX11_take 19 = .ok (.aload_n 0, 1) := by decide +kernel
theorem dX11_take_20 : decode cX11_take 20 = .ok (.ldc 75, 2) := by decide +kernel
theorem dX11_take_22 : decode cX11_take 22 = .ok (.putfield 76, 3) := by decide +kernel
theorem dX11_take_25 : decode cX11_take 25 = .ok (.return_, 1) := by decide +kernel
theorem dX11_take_26 : decode cX11_take 26 = .ok (.aload_n 0, 1) := by decide +kernel
theorem dX11_take_27 : decode cX11_take 27 = .ok (.getfield 17, 3) := by decide +kernel
theorem dX11_take_30 : decode cX11_take 30 = .ok (.aload_n 0, 1) := by decide +kernel
theorem dX11_take_31 : decode cX11_take 31 = .ok (.getfield 66, 3) := by decide +kernel
theorem dX11_take_34 : decode cX11_take 34 = .ok (.iaload, 1) := by decide +kernel
theorem dX11_take_35 : decode cX11_take 35 = .ok (.istore_n 1, 1) := by decide +kernel
theorem dX11_take_36 : decode cX11_take 36 = .ok (.aload_n 0, 1) := by decide +kernel
theorem dX11_take_37 : decode cX11_take 37 = .ok (.dup, 1) := by decide +kernel
theorem dX11_take_38 : decode cX11_take 38 = .ok (.getfield 66, 3) := by decide +kernel
theorem dX11_take_41 : decode cX11_take 41 = .ok (.iconst 1, 1) := by decide +kernel
theorem dX11_take_42 : decode cX11_take 42 = .ok (.iadd, 1) := by decide +kernel
theorem dX11_take_43 : decode cX11_take 43 = .ok (.putfield 66, 3) := by decide +kernel
theorem dX11_take_46 : decode cX11_take 46 = .ok (.aload_n 0, 1) := by decide +kernel
theorem dX11_take_47 : decode cX11_take 47 = .ok (.iload_n 1, 1) := by decide +kernel
theorem dX11_take_48 : decode cX11_take 48 = .ok (.i2l, 1) := by decide +kernel
theorem dX11_take_49 : decode cX11_take 49 = .ok (.ldc2_w 79, 3) := by decide +kernel
theorem dX11_take_52 : decode cX11_take 52 = .ok (.ldc2_w 81, 3) := by decide +kernel
theorem dX11_take_55 : decode cX11_take 55 = .ok (.invokestatic 62, 3) := by decide +kernel
theorem dX11_take_58 : decode cX11_take 58 = .ok (.ifCond .ne 15, 3) := by decide +kernel
theorem dX11_take_61 : decode cX11_take 61 = .ok (.iload_n 1, 1) := by decide +kernel
theorem dX11_take_62 : decode cX11_take 62 = .ok (.bipush 44, 2) := by decide +kernel
theorem dX11_take_64 : decode cX11_take 64 = .ok (.if_icmp .eq 9, 3) := by decide +kernel
theorem dX11_take_67 : decode cX11_take 67 = .ok (.iload_n 1, 1) := by decide +kernel
theorem dX11_take_68 : decode cX11_take 68 = .ok (.bipush 59, 2) := by decide +kernel
theorem dX11_take_70 : decode cX11_take 70 = .ok (.if_icmp .ne 7, 3) := by decide +kernel
theorem dX11_take_73 : decode cX11_take 73 = .ok (.iload_n 1, 1) := by decide +kernel
theorem dX11_take_74 : decode cX11_take 74 = .ok (.goto 4, 3) := by decide +kernel
theorem dX11_take_77 : decode cX11_take 77 = .ok (.iconst 0, 1) := by decide +kernel
theorem dX11_take_78 : decode cX11_take 78 = .ok (.putfield 76, 3) := by decide +kernel
theorem dX11_take_81 : decode cX11_take 81 = .ok (.iload_n 1, 1) := by decide +kernel
theorem dX11_take_82 : decode cX11_take 82 = .ok (.invokestatic 83, 3) := by decide +kernel
theorem dX11_take_85 : decode cX11_take 85 = .ok (.ifCond .eq 104, 3) := by decide +kernel
theorem dX11_take_88 : decode cX11_take 88 = .ok (.iload_n 1, 1) := by decide +kernel
theorem dX11_take_89 : decode cX11_take 89 = .ok (.bipush 48, 2) := by decide +kernel
theorem dX11_take_91 : decode cX11_take 91 = .ok (.isub, 1) := by decide +kernel
theorem dX11_take_92 : decode cX11_take 92 = .ok (.istore_n 2, 1) := by decide +kernel
theorem dX11_take_93 : decode cX11_take 93 = .ok (.aload_n 0, 1) := by decide +kernel
theorem dX11_take_94 : decode cX11_take 94 = .ok (.getfield 66, 3) := by decide +kernel
theorem dX11_take_97 : decode cX11_take 97 = .ok (.aload_n 0, 1) := by decide +kernel
theorem dX11_take_98 : decode cX11_take 98 = .ok (.getfield 72, 3) := by decide +kernel
theorem dX11_take_101 : decode cX11_take 101 = .ok (.if_icmp .ge 68, 3) := by decide +kernel
theorem dX11_take_104 : decode cX11_take 104 = .ok (.aload_n 0, 1) := by decide +kernel
theorem dX11_take_105 : decode cX11_take 105 = .ok (.getfield 17, 3) := by decide +kernel
theorem dX11_take_108 : decode cX11_take 108 = .ok (.aload_n 0, 1) := by decide +kernel
theorem dX11_take_109 : decode cX11_take 109 = .ok (.getfield 66, 3) := by decide +kernel
theorem dX11_take_112 : decode cX11_take 112 = .ok (.iaload, 1) := by decide +kernel
theorem dX11_take_113 : decode cX11_take 113 = .ok (.invokestatic 83, 3) := by decide +kernel
theorem dX11_take_116 : decode cX11_take 116 = .ok (.ifCond .eq 53, 3) := by decide +kernel
theorem dX11_take_119 : decode cX11_take 119 = .ok (.aload_n 0, 1) := by decide +kernel
theorem dX11_take_120 : decode cX11_take 120 = .ok (.getfield 66, 3) := by decide +kernel
theorem dX11_take_123 : decode cX11_take 123 = .ok (.aload_n 0, 1) := by decide +kernel
theorem dX11_take_124 : decode cX11_take 124 = .ok (.getfield 69, 3) := by decide +kernel
theorem dX11_take_127 : decode cX11_take 127 = .ok (.iconst 1, 1) := by decide +kernel
theorem dX11_take_128 : decode cX11_take 128 = .ok (.iadd, 1) := by decide +kernel
theorem dX11_take_129 : decode cX11_take 129 = .ok (.if_icmp .ne 23, 3) := by decide +kernel
theorem dX11_take_132 : decode cX11_take 132 = .ok (.bipush 10, 2) := by decide +kernel
theorem dX11_take_134 : decode cX11_take 134 = .ok (.iload_n 2, 1) := by decide +kernel
theorem dX11_take_135 : decode cX11_take 135 = .ok (.imul, 1) := by decide +kernel
theorem dX11_take_136 : decode cX11_take 136 = .ok (.aload_n 0, 1) := by decide +kernel
theorem dX11_take_137 : decode cX11_take 137 = .ok (.getfield 17, 3) := by decide +kernel
theorem dX11_take_140 : decode cX11_take 140 = .ok (.aload_n 0, 1) := by decide +kernel
theorem dX11_take_141 : decode cX11_take 141 = .ok (.getfield 66, 3) := by decide +kernel
theorem dX11_take_144 : decode cX11_take 144 = .ok (.iaload, 1) := by decide +kernel
theorem dX11_take_145 : decode cX11_take 145 = .ok (.iadd, 1) := by decide +kernel
theorem dX11_take_146 : decode cX11_take 146 = .ok (.bipush 48, 2) := by decide +kernel
theorem dX11_take_148 : decode cX11_take 148 = .ok (.isub, 1) := by decide +kernel
theorem dX11_take_149 : decode cX11_take 149 = .ok (.goto 6, 3) := by decide +kernel
theorem dX11_take_152 : decode cX11_take 152 = .ok (.sipush 1000, 3) := by decide +kernel
theorem dX11_take_155 : decode cX11_take 155 = .ok (.istore_n 2, 1) := by decide +kernel
theorem dX11_take_156 : decode cX11_take 156 = .ok (.aload_n 0, 1) := by decide +kernel
theorem dX11_take_157 : decode cX11_take 157 = .ok (.dup, 1) := by decide +kernel
theorem dX11_take_158 : decode cX11_take 158 = .ok (.getfield 66, 3) := by decide +kernel
theorem dX11_take_161 : decode cX11_take 161 = .ok (.iconst 1, 1) := by decide +kernel
theorem dX11_take_162 : decode cX11_take 162 = .ok (.iadd, 1) := by decide +kernel
theorem dX11_take_163 : decode cX11_take 163 = .ok (.putfield 66, 3) := by decide +kernel
theorem dX11_take_166 : decode cX11_take 166 = .ok (.goto (-73), 3) := by decide +kernel
theorem dX11_take_169 : decode cX11_take 169 = .ok (.aload_n 0, 1) := by decide +kernel
theorem dX11_take_170 : decode cX11_take 170 = .ok (.iload_n 2, 1) := by decide +kernel
theorem dX11_take_171 : decode cX11_take 171 = .ok (.sipush 1000, 3) := by decide +kernel
theorem dX11_take_174 : decode cX11_take 174 = .ok (.if_icmp .ge 11, 3) := by decide +kernel
theorem dX11_take_177 : decode cX11_take 177 = .ok (.sipush 1000, 3) := by decide +kernel
theorem dX11_take_180 : decode cX11_take 180 = .ok (.iload_n 2, 1) := by decide +kernel
theorem dX11_take_181 : decode cX11_take 181 = .ok (.iadd, 1) := by decide +kernel
theorem dX11_take_182 : decode cX11_take 182 = .ok (.goto 4, 3) := by decide +kernel
theorem dX11_take_185 : decode cX11_take 185 = .ok (.iconst 0, 1) := by decide +kernel
theorem dX11_take_186 : decode cX11_take 186 = .ok (.putfield 76, 3) := by decide +kernel
theorem dX11_take_189 : decode cX11_take 189 = .ok (.return_, 1) := by decide +kernel
theorem dX11_isWell_0 : decode cX11_isWell 0 = .ok (.aload_n 0, 1) := by decide +kernel
theorem dX11_isWell_1 : decode cX11_isWell 1 = .ok (.getfield 87, 3) := by decide +kernel
theorem dX11_isWell_4 : decode cX11_isWell 4 = .ok (.ifCond .ne 7, 3) := by decide +kernel
theorem dX11_isWell_7 : decode cX11_isWell 7 = .ok (.iconst 1, 1) := by decide +kernel
theorem dX11_isWell_8 : decode cX11_isWell 8 = .ok (.goto 4, 3) := by decide +kernel
theorem dX11_isWell_11 : decode cX11_isWell 11 = .ok (.iconst 0, 1) := by decide +kernel
theorem dX11_isWell_12 : decode cX11_isWell 12 = .ok (.ireturn, 1) := by decide +kernel
theorem dX11_wants_0 : decode cX11_wants 0 = .ok (.aload_n 0, 1) := by decide +kernel
theorem dX11_wants_1 : decode cX11_wants 1 = .ok (.aload_n 0, 1) := by decide +kernel
theorem dX11_wants_2 : decode cX11_wants 2 = .ok (.getfield 87, 3) := by decide +kernel
theorem dX11_wants_5 : decode cX11_wants 5 = .ok (.ifCond .ne 11, 3) := by decide +kernel
theorem dX11_wants_8 : decode cX11_wants 8 = .ok (.iload_n 1, 1) := by decide +kernel
theorem dX11_wants_9 : decode cX11_wants 9 = .ok (.ifCond .ne 7, 3) := by decide +kernel
theorem dX11_wants_12 : decode cX11_wants 12 = .ok (.iload_n 2, 1) := by decide +kernel
theorem dX11_wants_13 : decode cX11_wants 13 = .ok (.goto 7, 3) := by decide +kernel
theorem dX11_wants_16 : decode cX11_wants 16 = .ok (.aload_n 0, 1) := by decide +kernel
theorem dX11_wants_17 : decode cX11_wants 17 = .ok (.getfield 87, 3) := by decide +kernel
theorem dX11_wants_20 : decode cX11_wants 20 = .ok (.putfield 87, 3) := by decide +kernel
theorem dX11_wants_23 : decode cX11_wants 23 = .ok (.return_, 1) := by decide +kernel
theorem dX11_reads_0 : decode cX11_reads 0 = .ok (.aload_n 0, 1) := by decide +kernel
theorem dX11_reads_1 : decode cX11_reads 1 = .ok (.invokevirtual 90, 3) := by decide +kernel
theorem dX11_reads_4 : decode cX11_reads 4 = .ok (.ifCond .eq 21, 3) := by decide +kernel
theorem dX11_reads_7 : decode cX11_reads 7 = .ok (.aload_n 0, 1) := by decide +kernel
theorem dX11_reads_8 : decode cX11_reads 8 = .ok (.aload_n 0, 1) := by decide +kernel
theorem dX11_reads_9 : decode cX11_reads 9 = .ok (.getfield 76, 3) := by decide +kernel
theorem dX11_reads_12 : decode cX11_reads 12 = .ok (.iload_n 1, 1) := by decide +kernel
theorem dX11_reads_13 : decode cX11_reads 13 = .ok (.if_icmp .ne 7, 3) := by decide +kernel
theorem dX11_reads_16 : decode cX11_reads 16 = .ok (.iconst 1, 1) := by decide +kernel
theorem dX11_reads_17 : decode cX11_reads 17 = .ok (.goto 4, 3) := by decide +kernel
theorem dX11_reads_20 : decode cX11_reads 20 = .ok (.iconst 0, 1) := by decide +kernel
theorem dX11_reads_21 : decode cX11_reads 21 = .ok (.iconst 1, 1) := by decide +kernel
theorem dX11_reads_22 : decode cX11_reads 22 = .ok (.invokevirtual 94, 3) := by decide +kernel
theorem dX11_reads_25 : decode cX11_reads 25 = .ok (.aload_n 0, 1) := by decide +kernel
theorem dX11_reads_26 : decode cX11_reads 26 = .ok (.invokevirtual 90, 3) := by decide +kernel
theorem dX11_reads_29 : decode cX11_reads 29 = .ok (.ifCond .eq 7, 3) := by decide +kernel
theorem dX11_reads_32 : decode cX11_reads 32 = .ok (.aload_n 0, 1) := by decide +kernel
theorem dX11_reads_33 : decode cX11_reads 33 = .ok (.invokevirtual 98, 3) := by decide +kernel
theorem dX11_reads_36 : decode cX11_reads 36 = .ok (.return_, 1) := by decide +kernel
theorem dX11_number_0 : decode cX11_number 0 = .ok (.aload_n 0, 1) := by decide +kernel
theorem dX11_number_1 : decode cX11_number 1 = .ok (.invokevirtual 90, 3) := by decide +kernel
theorem dX11_number_4 : decode cX11_number 4 = .ok (.ifCond .eq 44, 3) := by decide +kernel
theorem dX11_number_7 : decode cX11_number 7 = .ok (.aload_n 0, 1) := by decide +kernel
theorem dX11_number_8 : decode cX11_number 8 = .ok (.aload_n 0, 1) := by decide +kernel
theorem dX11_number_9 : decode cX11_number 9 = .ok (.getfield 76, 3) := by decide +kernel
theorem dX11_number_12 : decode cX11_number 12 = .ok (.sipush 1000, 3) := by decide +kernel
theorem dX11_number_15 : decode cX11_number 15 = .ok (.if_icmp .lt 7, 3) := by decide +kernel
theorem dX11_number_18 : decode cX11_number 18 = .ok (.iconst 1, 1) := by decide +kernel
theorem dX11_number_19 : decode cX11_number 19 = .ok (.goto 4, 3) := by decide +kernel
theorem dX11_number_22 : decode cX11_number 22 = .ok (.iconst 0, 1) := by decide +kernel
theorem dX11_number_23 : decode cX11_number 23 = .ok (.iconst 1, 1) := by decide +kernel
theorem dX11_number_24 : decode cX11_number 24 = .ok (.invokevirtual 94, 3) := by decide +kernel
theorem dX11_number_27 : decode cX11_number 27 = .ok (.aload_n 0, 1) := by decide +kernel
theorem dX11_number_28 : decode cX11_number 28 = .ok (.aload_n 0, 1) := by decide +kernel
theorem dX11_number_29 : decode cX11_number 29 = .ok (.getfield 76, 3) := by decide +kernel
theorem dX11_number_32 : decode cX11_number 32 = .ok (.sipush 1000, 3) := by decide +kernel
theorem dX11_number_35 : decode cX11_number 35 = .ok (.isub, 1) := by decide +kernel
theorem dX11_number_36 : decode cX11_number 36 = .ok (.i2l, 1) := by decide +kernel
theorem dX11_number_37 : decode cX11_number 37 = .ok (.iload_n 2, 1) := by decide +kernel
theorem dX11_number_38 : decode cX11_number 38 = .ok (.i2l, 1) := by decide +kernel
theorem dX11_number_39 : decode cX11_number 39 = .ok (.iload_n 3, 1) := by decide +kernel
theorem dX11_number_40 : decode cX11_number 40 = .ok (.i2l, 1) := by decide +kernel
theorem dX11_number_41 : decode cX11_number 41 = .ok (.invokestatic 62, 3) := by decide +kernel
theorem dX11_number_44 : decode cX11_number 44 = .ok (.iconst 2, 1) := by decide +kernel
theorem dX11_number_45 : decode cX11_number 45 = .ok (.invokevirtual 94, 3) := by decide +kernel
theorem dX11_number_48 : decode cX11_number 48 = .ok (.aload_n 0, 1) := by decide +kernel
theorem dX11_number_49 : decode cX11_number 49 = .ok (.invokevirtual 90, 3) := by decide +kernel
theorem dX11_number_52 : decode cX11_number 52 = .ok (.ifCond .eq 21, 3) := by decide +kernel
theorem dX11_number_55 : decode cX11_number 55 = .ok (.aload_n 0, 1) := by decide +kernel
theorem dX11_number_56 : decode cX11_number 56 = .ok (.getfield 26, 3) := by decide +kernel
theorem dX11_number_59 : decode cX11_number 59 = .ok (.iload_n 1, 1) := by decide +kernel
theorem dX11_number_60 : decode cX11_number 60 = .ok (.aload_n 0, 1) := by decide +kernel
theorem dX11_number_61 : decode cX11_number 61 = .ok (.getfield 76, 3) := by decide +kernel
theorem dX11_number_64 : decode cX11_number 64 = .ok (.sipush 1000, 3) := by decide +kernel
theorem dX11_number_67 : decode cX11_number 67 = .ok (.isub, 1) := by decide +kernel
theorem dX11_number_68 : decode cX11_number 68 = .ok (.iastore, 1) := by decide +kernel
theorem dX11_number_69 : decode cX11_number 69 = .ok (.aload_n 0, 1) := by decide +kernel
theorem dX11_number_70 : decode cX11_number 70 = .ok (.invokevirtual 98, 3) := by decide +kernel
theorem dX11_number_73 : decode cX11_number 73 = .ok (.return_, 1) := by decide +kernel
theorem dX11_readsShip_0 : decode cX11_readsShip 0 = .ok (.aload_n 0, 1) := by decide +kernel
theorem dX11_readsShip_1 : decode cX11_readsShip 1 = .ok (.bipush 104, 2) := by decide +kernel
theorem dX11_readsShip_3 : decode cX11_readsShip 3 = .ok (.invokevirtual 101, 3) := by decide +kernel
theorem dX11_readsShip_6 : decode cX11_readsShip 6 = .ok (.aload_n 0, 1) := by decide +kernel
theorem dX11_readsShip_7 : decode cX11_readsShip 7 = .ok (.iconst 1, 1) := by decide +kernel
theorem dX11_readsShip_8 : decode cX11_readsShip 8 = .ok (.iconst 0, 1) := by decide +kernel
theorem dX11_readsShip_9 : decode cX11_readsShip 9 = .ok (.bipush 20, 2) := by decide +kernel
theorem dX11_readsShip_11 : decode cX11_readsShip 11 = .ok (.invokevirtual 105, 3) := by decide +kernel
theorem dX11_readsShip_14 : decode cX11_readsShip 14 = .ok (.aload_n 0, 1) := by decide +kernel
theorem dX11_readsShip_15 : decode cX11_readsShip 15 = .ok (.bipush 44, 2) := by decide +kernel
theorem dX11_readsShip_17 : decode cX11_readsShip 17 = .ok (.invokevirtual 101, 3) := by decide +kernel
theorem dX11_readsShip_20 : decode cX11_readsShip 20 = .ok (.aload_n 0, 1) := by decide +kernel
theorem dX11_readsShip_21 : decode cX11_readsShip 21 = .ok (.iconst 2, 1) := by decide +kernel
theorem dX11_readsShip_22 : decode cX11_readsShip 22 = .ok (.iconst 0, 1) := by decide +kernel
theorem dX11_readsShip_23 : decode cX11_readsShip 23 = .ok (.bipush 60, 2) := by decide +kernel
theorem dX11_readsShip_25 : decode cX11_readsShip 25 = .ok (.invokevirtual 105, 3) := by decide +kernel
theorem dX11_readsShip_28 : decode cX11_readsShip 28 = .ok (.aload_n 0, 1) := by decide +kernel
theorem dX11_readsShip_29 : decode cX11_readsShip 29 = .ok (.bipush 44, 2) := by decide +kernel
theorem dX11_readsShip_31 : decode cX11_readsShip 31 = .ok (.invokevirtual 101, 3) := by decide +kernel
theorem dX11_readsShip_34 : decode cX11_readsShip 34 = .ok (.aload_n 0, 1) := by decide +kernel
theorem dX11_readsShip_35 : decode cX11_readsShip 35 = .ok (.iconst 3, 1) := by decide +kernel
