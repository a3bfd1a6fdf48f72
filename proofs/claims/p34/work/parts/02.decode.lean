theorem dX0_init_0 : decode cX0_init 0 = .ok (.aload_n 0, 1) := by decide +kernel
theorem dX0_init_1 : decode cX0_init 1 = .ok (.invokespecial 3, 3) := by decide +kernel
theorem dX0_init_4 : decode cX0_init 4 = .ok (.aload_n 0, 1) := by decide +kernel
theorem dX0_init_5 : decode cX0_init 5 = .ok (.bipush 12, 2) := by decide +kernel
theorem dX0_init_7 : decode cX0_init 7 = .ok (.newarray .int, 2) := by decide +kernel
theorem dX0_init_9 : decode cX0_init 9 = .ok (.putfield 9, 3) := by decide +kernel
theorem dX0_init_12 : decode cX0_init 12 = .ok (.aload_n 0, 1) := by decide +kernel
theorem dX0_init_13 : decode cX0_init 13 = .ok (.bipush 12, 2) := by decide +kernel
theorem dX0_init_15 : decode cX0_init 15 = .ok (.newarray .int, 2) := by decide +kernel
theorem dX0_init_17 : decode cX0_init 17 = .ok (.putfield 15, 3) := by decide +kernel
theorem dX0_init_20 : decode cX0_init 20 = .ok (.aload_n 0, 1) := by decide +kernel
theorem dX0_init_21 : decode cX0_init 21 = .ok (.iconst 0, 1) := by decide +kernel
theorem dX0_init_22 : decode cX0_init 22 = .ok (.putfield 18, 3) := by decide +kernel
theorem dX0_init_25 : decode cX0_init 25 = .ok (.return_, 1) := by decide +kernel
theorem dX0_copyFrom_0 : decode cX0_copyFrom 0 = .ok (.aload_n 1, 1) := by decide +kernel
theorem dX0_copyFrom_1 : decode cX0_copyFrom 1 = .ok (.getfield 9, 3) := by decide +kernel
theorem dX0_copyFrom_4 : decode cX0_copyFrom 4 = .ok (.iconst 0, 1) := by decide +kernel
theorem dX0_copyFrom_5 : decode cX0_copyFrom 5 = .ok (.aload_n 0, 1) := by decide +kernel
theorem dX0_copyFrom_6 : decode cX0_copyFrom 6 = .ok (.getfield 9, 3) := by decide +kernel
theorem dX0_copyFrom_9 : decode cX0_copyFrom 9 = .ok (.iconst 0, 1) := by decide +kernel
theorem dX0_copyFrom_10 : decode cX0_copyFrom 10 = .ok (.bipush 12, 2) := by decide +kernel
theorem dX0_copyFrom_12 : decode cX0_copyFrom 12 = .ok (.invokestatic 22, 3) := by decide +kernel
theorem dX0_copyFrom_15 : decode cX0_copyFrom 15 = .ok (.aload_n 1, 1) := by decide +kernel
theorem dX0_copyFrom_16 : decode cX0_copyFrom 16 = .ok (.getfield 15, 3) := by decide +kernel
theorem dX0_copyFrom_19 : decode cX0_copyFrom 19 = .ok (.iconst 0, 1) := by decide +kernel
theorem dX0_copyFrom_20 : decode cX0_copyFrom 20 = .ok (.aload_n 0, 1) := by decide +kernel
theorem dX0_copyFrom_21 : decode cX0_copyFrom 21 = .ok (.getfield 15, 3) := by decide +kernel
theorem dX0_copyFrom_24 : decode cX0_copyFrom 24 = .ok (.iconst 0, 1) := by decide +kernel
theorem dX0_copyFrom_25 : decode cX0_copyFrom 25 = .ok (.bipush 12, 2) := by decide +kernel
theorem dX0_copyFrom_27 : decode cX0_copyFrom 27 = .ok (.invokestatic 22, 3) := by decide +kernel
theorem dX0_copyFrom_30 : decode cX0_copyFrom 30 = .ok (.aload_n 0, 1) := by decide +kernel
theorem dX0_copyFrom_31 : decode cX0_copyFrom 31 = .ok (.aload_n 1, 1) := by decide +kernel
theorem dX0_copyFrom_32 : decode cX0_copyFrom 32 = .ok (.getfield 18, 3) := by decide +kernel
theorem dX0_copyFrom_35 : decode cX0_copyFrom 35 = .ok (.putfield 18, 3) := by decide +kernel
theorem dX0_copyFrom_38 : decode cX0_copyFrom 38 = .ok (.return_, 1) := by decide +kernel
theorem dX0_size_0 : decode cX0_size 0 = .ok (.aload_n 0, 1) := by decide +kernel
theorem dX0_size_1 : decode cX0_size 1 = .ok (.getfield 18, 3) := by decide +kernel
theorem dX0_size_4 : decode cX0_size 4 = .ok (.ireturn, 1) := by decide +kernel
theorem dX0_flagsAt_0 : decode cX0_flagsAt 0 = .ok (.iload_n 1, 1) := by decide +kernel
theorem dX0_flagsAt_1 : decode cX0_flagsAt 1 = .ok (.bipush 12, 2) := by decide +kernel
theorem dX0_flagsAt_3 : decode cX0_flagsAt 3 = .ok (.invokestatic 28, 3) := by decide +kernel
theorem dX0_flagsAt_6 : decode cX0_flagsAt 6 = .ok (.ifCond .eq 12, 3) := by decide +kernel
theorem dX0_flagsAt_9 : decode cX0_flagsAt 9 = .ok (.aload_n 0, 1) := by decide +kernel
theorem dX0_flagsAt_10 : decode cX0_flagsAt 10 = .ok (.getfield 9, 3) := by decide +kernel
theorem dX0_flagsAt_13 : decode cX0_flagsAt 13 = .ok (.iload_n 1, 1) := by decide +kernel
theorem dX0_flagsAt_14 : decode cX0_flagsAt 14 = .ok (.iaload, 1) := by decide +kernel
theorem dX0_flagsAt_15 : decode cX0_flagsAt 15 = .ok (.goto 5, 3) := by decide +kernel
theorem dX0_flagsAt_18 : decode cX0_flagsAt 18 = .ok (.bipush (-6), 2) := by decide +kernel
theorem dX0_flagsAt_20 : decode cX0_flagsAt 20 = .ok (.ireturn, 1) := by decide +kernel
theorem dX0_wordAt_0 : decode cX0_wordAt 0 = .ok (.iload_n 1, 1) := by decide +kernel
theorem dX0_wordAt_1 : decode cX0_wordAt 1 = .ok (.bipush 12, 2) := by decide +kernel
theorem dX0_wordAt_3 : decode cX0_wordAt 3 = .ok (.invokestatic 28, 3) := by decide +kernel
theorem dX0_wordAt_6 : decode cX0_wordAt 6 = .ok (.ifCond .eq 12, 3) := by decide +kernel
theorem dX0_wordAt_9 : decode cX0_wordAt 9 = .ok (.aload_n 0, 1) := by decide +kernel
theorem dX0_wordAt_10 : decode cX0_wordAt 10 = .ok (.getfield 15, 3) := by decide +kernel
theorem dX0_wordAt_13 : decode cX0_wordAt 13 = .ok (.iload_n 1, 1) := by decide +kernel
theorem dX0_wordAt_14 : decode cX0_wordAt 14 = .ok (.iaload, 1) := by decide +kernel
theorem dX0_wordAt_15 : decode cX0_wordAt 15 = .ok (.goto 5, 3) := by decide +kernel
theorem dX0_wordAt_18 : decode cX0_wordAt 18 = .ok (.bipush (-6), 2) := by decide +kernel
theorem dX0_wordAt_20 : decode cX0_wordAt 20 = .ok (.ireturn, 1) := by decide +kernel
theorem dX0_add_0 : decode cX0_add 0 = .ok (.aload_n 0, 1) := by decide +kernel
theorem dX0_add_1 : decode cX0_add 1 = .ok (.getfield 18, 3) := by decide +kernel
theorem dX0_add_4 : decode cX0_add 4 = .ok (.bipush 12, 2) := by decide +kernel
theorem dX0_add_6 : decode cX0_add 6 = .ok (.invokestatic 28, 3) := by decide +kernel
theorem dX0_add_9 : decode cX0_add 9 = .ok (.ifCond .eq 33, 3) := by decide +kernel
theorem dX0_add_12 : decode cX0_add 12 = .ok (.aload_n 0, 1) := by decide +kernel
theorem dX0_add_13 : decode cX0_add 13 = .ok (.getfield 9, 3) := by decide +kernel
theorem dX0_add_16 : decode cX0_add 16 = .ok (.aload_n 0, 1) := by decide +kernel
theorem dX0_add_17 : decode cX0_add 17 = .ok (.getfield 18, 3) := by decide +kernel
theorem dX0_add_20 : decode cX0_add 20 = .ok (.iload_n 1, 1) := by decide +kernel
theorem dX0_add_21 : decode cX0_add 21 = .ok (.iastore, 1) := by decide +kernel
theorem dX0_add_22 : decode cX0_add 22 = .ok (.aload_n 0, 1) := by decide +kernel
theorem dX0_add_23 : decode cX0_add 23 = .ok (.getfield 15, 3) := by decide +kernel
theorem dX0_add_26 : decode cX0_add 26 = .ok (.aload_n 0, 1) := by decide +kernel
theorem dX0_add_27 : decode cX0_add 27 = .ok (.getfield 18, 3) := by decide +kernel
theorem dX0_add_30 : decode cX0_add 30 = .ok (.iload_n 2, 1) := by decide +kernel
theorem dX0_add_31 : decode cX0_add 31 = .ok (.iastore, 1) := by decide +kernel
theorem dX0_add_32 : decode cX0_add 32 = .ok (.aload_n 0, 1) := by decide +kernel
theorem dX0_add_33 : decode cX0_add 33 = .ok (.dup, 1) := by decide +kernel
theorem dX0_add_34 : decode cX0_add 34 = .ok (.getfield 18, 3) := by decide +kernel
theorem dX0_add_37 : decode cX0_add 37 = .ok (.iconst 1, 1) := by decide +kernel
theorem dX0_add_38 : decode cX0_add 38 = .ok (.iadd, 1) := by decide +kernel
theorem dX0_add_39 : decode cX0_add 39 = .ok (.putfield 18, 3) := by decide +kernel
theorem dX0_add_42 : decode cX0_add 42 = .ok (.return_, 1) := by decide +kernel
theorem dX0_remove_0 : decode cX0_remove 0 = .ok (.iload_n 1, 1) := by decide +kernel
theorem dX0_remove_1 : decode cX0_remove 1 = .ok (.aload_n 0, 1) := by decide +kernel
theorem dX0_remove_2 : decode cX0_remove 2 = .ok (.getfield 18, 3) := by decide +kernel
theorem dX0_remove_5 : decode cX0_remove 5 = .ok (.invokestatic 28, 3) := by decide +kernel
theorem dX0_remove_8 : decode cX0_remove 8 = .ok (.ifCond .eq 12, 3) := by decide +kernel
theorem dX0_remove_11 : decode cX0_remove 11 = .ok (.aload_n 0, 1) := by decide +kernel
theorem dX0_remove_12 : decode cX0_remove 12 = .ok (.getfield 18, 3) := by decide +kernel
theorem dX0_remove_15 : decode cX0_remove 15 = .ok (.bipush 12, 2) := by decide +kernel
theorem dX0_remove_17 : decode cX0_remove 17 = .ok (.if_icmp .le 6, 3) := by decide +kernel
theorem dX0_remove_20 : decode cX0_remove 20 = .ok (.bipush (-6), 2) := by decide +kernel
theorem dX0_remove_22 : decode cX0_remove 22 = .ok (.ireturn, 1) := by decide +kernel
theorem dX0_remove_23 : decode cX0_remove 23 = .ok (.aload_n 0, 1) := by decide +kernel
theorem dX0_remove_24 : decode cX0_remove 24 = .ok (.getfield 15, 3) := by decide +kernel
theorem dX0_remove_27 : decode cX0_remove 27 = .ok (.iload_n 1, 1) := by decide +kernel
theorem dX0_remove_28 : decode cX0_remove 28 = .ok (.iaload, 1) := by decide +kernel
theorem dX0_remove_29 : decode cX0_remove 29 = .ok (.istore_n 2, 1) := by decide +kernel
theorem dX0_remove_30 : decode cX0_remove 30 = .ok (.iload_n 1, 1) := by decide +kernel
theorem dX0_remove_31 : decode cX0_remove 31 = .ok (.istore_n 3, 1) := by decide +kernel
theorem dX0_remove_32 : decode cX0_remove 32 = .ok (.iload_n 3, 1) := by decide +kernel
theorem dX0_remove_33 : decode cX0_remove 33 = .ok (.iconst 1, 1) := by decide +kernel
theorem dX0_remove_34 : decode cX0_remove 34 = .ok (.iadd, 1) := by decide +kernel
theorem dX0_remove_35 : decode cX0_remove 35 = .ok (.aload_n 0, 1) := by decide +kernel
theorem dX0_remove_36 : decode cX0_remove 36 = .ok (.getfield 18, 3) := by decide +kernel
theorem dX0_remove_39 : decode cX0_remove 39 = .ok (.if_icmp .ge 37, 3) := by decide +kernel
theorem dX0_remove_42 : decode cX0_remove 42 = .ok (.aload_n 0, 1) := by decide +kernel
theorem dX0_remove_43 : decode cX0_remove 43 = .ok (.getfield 9, 3) := by decide +kernel
theorem dX0_remove_46 : decode cX0_remove 46 = .ok (.iload_n 3, 1) := by decide +kernel
theorem dX0_remove_47 : decode cX0_remove 47 = .ok (.aload_n 0, 1) := by decide +kernel
theorem dX0_remove_48 : decode cX0_remove 48 = .ok (.getfield 9, 3) := by decide +kernel
theorem dX0_remove_51 : decode cX0_remove 51 = .ok (.iload_n 3, 1) := by decide +kernel
theorem dX0_remove_52 : decode cX0_remove 52 = .ok (.iconst 1, 1) := by decide +kernel
theorem dX0_remove_53 : decode cX0_remove 53 = .ok (.iadd, 1) := by decide +kernel
theorem dX0_remove_54 : decode cX0_remove 54 = .ok (.iaload, 1) := by decide +kernel
theorem dX0_remove_55 : decode cX0_remove 55 = .ok (.iastore, 1) := by decide +kernel
theorem dX0_remove_56 : decode cX0_remove 56 = .ok (.aload_n 0, 1) := by decide +kernel
theorem dX0_remove_57 : decode cX0_remove 57 = .ok (.getfield 15, 3) := by decide +kernel
theorem dX0_remove_60 : decode cX0_remove 60 = .ok (.iload_n 3, 1) := by decide +kernel
theorem dX0_remove_61 : decode cX0_remove 61 = .ok (.aload_n 0, 1) := by decide +kernel
theorem dX0_remove_62 : decode cX0_remove 62 = .ok (.getfield 15, 3) := by decide +kernel
theorem dX0_remove_65 : decode cX0_remove 65 = .ok (.iload_n 3, 1) := by decide +kernel
theorem dX0_remove_66 : decode cX0_remove 66 = .ok (.iconst 1, 1) := by decide +kernel
theorem dX0_remove_67 : decode cX0_remove 67 = .ok (.iadd, 1) := by decide +kernel
theorem dX0_remove_68 : decode cX0_remove 68 = .ok (.iaload, 1) := by decide +kernel
theorem dX0_remove_69 : decode cX0_remove 69 = .ok (.iastore, 1) := by decide +kernel
theorem dX0_remove_70 : decode cX0_remove 70 = .ok (.iinc 3 1, 3) := by decide +kernel
theorem dX0_remove_73 : decode cX0_remove 73 = .ok (.goto (-41), 3) := by decide +kernel
theorem dX0_remove_76 : decode cX0_remove 76 = .ok (.aload_n 0, 1) := by decide +kernel
theorem dX0_remove_77 : decode cX0_remove 77 = .ok (.dup, 1) := by decide +kernel
theorem dX0_remove_78 : decode cX0_remove 78 = .ok (.getfield 18, 3) := by decide +kernel
theorem dX0_remove_81 : decode cX0_remove 81 = .ok (.iconst 1, 1) := by decide +kernel
theorem dX0_remove_82 : decode cX0_remove 82 = .ok (.isub, 1) := by decide +kernel
theorem dX0_remove_83 : decode cX0_remove 83 = .ok (.putfield 18, 3) := by decide +kernel
theorem dX0_remove_86 : decode cX0_remove 86 = .ok (.iload_n 2, 1) := by decide +kernel
theorem dX0_remove_87 : decode cX0_remove 87 = .ok (.ireturn, 1) := by decide +kernel
theorem dX0_wordFor_0 : decode cX0_wordFor 0 = .ok (.iconst 0, 1) := by decide +kernel
theorem dX0_wordFor_1 : decode cX0_wordFor 1 = .ok (.istore_n 2, 1) := by decide +kernel
theorem dX0_wordFor_2 : decode cX0_wordFor 2 = .ok (.iload_n 2, 1) := by decide +kernel
theorem dX0_wordFor_3 : decode cX0_wordFor 3 = .ok (.aload_n 0, 1) := by decide +kernel
theorem dX0_wordFor_4 : decode cX0_wordFor 4 = .ok (.getfield 18, 3) := by decide +kernel
theorem dX0_wordFor_7 : decode cX0_wordFor 7 = .ok (.if_icmp .ge 32, 3) := by decide +kernel
theorem dX0_wordFor_10 : decode cX0_wordFor 10 = .ok (.iload_n 2, 1) := by decide +kernel
theorem dX0_wordFor_11 : decode cX0_wordFor 11 = .ok (.bipush 12, 2) := by decide +kernel
theorem dX0_wordFor_13 : decode cX0_wordFor 13 = .ok (.if_icmp .ge 26, 3) := by decide +kernel
theorem dX0_wordFor_16 : decode cX0_wordFor 16 = .ok (.aload_n 0, 1) := by decide +kernel
theorem dX0_wordFor_17 : decode cX0_wordFor 17 = .ok (.getfield 9, 3) := by decide +kernel
theorem dX0_wordFor_20 : decode cX0_wordFor 20 = .ok (.iload_n 2, 1) := by decide +kernel
theorem dX0_wordFor_21 : decode cX0_wordFor 21 = .ok (.iaload, 1) := by decide +kernel
theorem dX0_wordFor_22 : decode cX0_wordFor 22 = .ok (.iload_n 1, 1) := by decide +kernel
theorem dX0_wordFor_23 : decode cX0_wordFor 23 = .ok (.if_icmp .ne 10, 3) := by decide +kernel
theorem dX0_wordFor_26 : decode cX0_wordFor 26 = .ok (.aload_n 0, 1) := by decide +kernel
theorem dX0_wordFor_27 : decode cX0_wordFor 27 = .ok (.getfield 15, 3) := by decide +kernel
theorem dX0_wordFor_30 : decode cX0_wordFor 30 = .ok (.iload_n 2, 1) := by decide +kernel
theorem dX0_wordFor_31 : decode cX0_wordFor 31 = .ok (.iaload, 1) := by decide +kernel
theorem dX0_wordFor_32 : decode cX0_wordFor 32 = .ok (.ireturn, 1) := by decide +kernel
theorem dX0_wordFor_33 : decode cX0_wordFor 33 = .ok (.iinc 2 1, 3) := by decide +kernel
theorem dX0_wordFor_36 : decode cX0_wordFor 36 = .ok (.goto (-34), 3) := by decide +kernel
theorem dX0_wordFor_39 : decode cX0_wordFor 39 = .ok (.bipush (-6), 2) := by decide +kernel
theorem dX0_wordFor_41 : decode cX0_wordFor 41 = .ok (.ireturn, 1) := by decide +kernel
theorem dX1_init_0 : decode cX1_init 0 = .ok (.aload_n 0, 1) := by decide +kernel
theorem dX1_init_1 : decode cX1_init 1 = .ok (.invokespecial 3, 3) := by decide +kernel
theorem dX1_init_4 : decode cX1_init 4 = .ok (.aload_n 0, 1) := by decide +kernel
theorem dX1_init_5 : decode cX1_init 5 = .ok (.bipush 10, 2) := by decide +kernel
theorem dX1_init_7 : decode cX1_init 7 = .ok (.newarray .int, 2) := by decide +kernel
theorem dX1_init_9 : decode cX1_init 9 = .ok (.putfield 9, 3) := by decide +kernel
theorem dX1_init_12 : decode cX1_init 12 = .ok (.aload_n 0, 1) := by decide +kernel
theorem dX1_init_13 : decode cX1_init 13 = .ok (.bipush 10, 2) := by decide +kernel
theorem dX1_init_15 : decode cX1_init 15 = .ok (.newarray .int, 2) := by decide +kernel
theorem dX1_init_17 : decode cX1_init 17 = .ok (.putfield 15, 3) := by decide +kernel
theorem dX1_init_20 : decode cX1_init 20 = .ok (.aload_n 0, 1) := by decide +kernel
theorem dX1_init_21 : decode cX1_init 21 = .ok (.bipush 10, 2) := by decide +kernel
theorem dX1_init_23 : decode cX1_init 23 = .ok (.newarray .int, 2) := by decide +kernel
theorem dX1_init_25 : decode cX1_init 25 = .ok (.putfield 18, 3) := by decide +kernel
theorem dX1_init_28 : decode cX1_init 28 = .ok (.iconst 0, 1) := by decide +kernel
theorem dX1_init_29 : decode cX1_init 29 = .ok (.istore_n 1, 1) := by decide +kernel
theorem dX1_init_30 : decode cX1_init 30 = .ok (.iload_n 1, 1) := by decide +kernel
theorem dX1_init_31 : decode cX1_init 31 = .ok (.bipush 10, 2) := by decide +kernel
theorem dX1_init_33 : decode cX1_init 33 = .ok (.if_icmp .ge 42, 3) := by decide +kernel
theorem dX1_init_36 : decode cX1_init 36 = .ok (.aload_n 0, 1) := by decide +kernel
theorem dX1_init_37 : decode cX1_init 37 = .ok (.getfield 9, 3) := by decide +kernel
theorem dX1_init_40 : decode cX1_init 40 = .ok (.iload_n 1, 1) := by decide +kernel
theorem dX1_init_41 : decode cX1_init 41 = .ok (.iload_n 1, 1) := by decide +kernel
theorem dX1_init_42 : decode cX1_init 42 = .ok (.bipush 8, 2) := by decide +kernel
theorem dX1_init_44 : decode cX1_init 44 = .ok (.irem, 1) := by decide +kernel
theorem dX1_init_45 : decode cX1_init 45 = .ok (.iastore, 1) := by decide +kernel
theorem dX1_init_46 : decode cX1_init 46 = .ok (.aload_n 0, 1) := by decide +kernel
theorem dX1_init_47 : decode cX1_init 47 = .ok (.getfield 15, 3) := by decide +kernel
theorem dX1_init_50 : decode cX1_init 50 = .ok (.iload_n 1, 1) := by decide +kernel
theorem dX1_init_51 : decode cX1_init 51 = .ok (.iconst 3, 1) := by decide +kernel
theorem dX1_init_52 : decode cX1_init 52 = .ok (.iload_n 1, 1) := by decide +kernel
theorem dX1_init_53 : decode cX1_init 53 = .ok (.imul, 1) := by decide +kernel
theorem dX1_init_54 : decode cX1_init 54 = .ok (.iconst 1, 1) := by decide +kernel
theorem dX1_init_55 : decode cX1_init 55 = .ok (.iadd, 1) := by decide +kernel
theorem dX1_init_56 : decode cX1_init 56 = .ok (.bipush 8, 2) := by decide +kernel
theorem dX1_init_58 : decode cX1_init 58 = .ok (.irem, 1) := by decide +kernel
theorem dX1_init_59 : decode cX1_init 59 = .ok (.iastore, 1) := by decide +kernel
theorem dX1_init_60 : decode cX1_init 60 = .ok (.aload_n 0, 1) := by decide +kernel
theorem dX1_init_61 : decode cX1_init 61 = .ok (.getfield 18, 3) := by decide +kernel
theorem dX1_init_64 : decode cX1_init 64 = .ok (.iload_n 1, 1) := by decide +kernel
theorem dX1_init_65 : decode cX1_init 65 = .ok (.iload_n 1, 1) := by decide +kernel
theorem dX1_init_66 : decode cX1_init 66 = .ok (.iconst 2, 1) := by decide +kernel
theorem dX1_init_67 : decode cX1_init 67 = .ok (.idiv, 1) := by decide +kernel
theorem dX1_init_68 : decode cX1_init 68 = .ok (.iastore, 1) := by decide +kernel
theorem dX1_init_69 : decode cX1_init 69 = .ok (.iinc 1 1, 3) := by decide +kernel
theorem dX1_init_72 : decode cX1_init 72 = .ok (.goto (-42), 3) := by decide +kernel
theorem dX1_init_75 : decode cX1_init 75 = .ok (.return_, 1) := by decide +kernel
theorem dX1_copyFrom_0 : decode cX1_copyFrom 0 = .ok (.aload_n 1, 1) := by decide +kernel
theorem dX1_copyFrom_1 : decode cX1_copyFrom 1 = .ok (.getfield 9, 3) := by decide +kernel
theorem dX1_copyFrom_4 : decode cX1_copyFrom 4 = .ok (.iconst 0, 1) := by decide +kernel
theorem dX1_copyFrom_5 : decode cX1_copyFrom 5 = .ok (.aload_n 0, 1) := by decide +kernel
theorem dX1_copyFrom_6 : decode cX1_copyFrom 6 = .ok (.getfield 9, 3) := by decide +kernel
theorem dX1_copyFrom_9 : decode cX1_copyFrom 9 = .ok (.iconst 0, 1) := by decide +kernel
theorem dX1_copyFrom_10 : decode cX1_copyFrom 10 = .ok (.bipush 10, 2) := by decide +kernel
theorem dX1_copyFrom_12 : decode cX1_copyFrom 12 = .ok (.invokestatic 21, 3) := by decide +kernel
theorem dX1_copyFrom_15 : decode cX1_copyFrom 15 = .ok (.aload_n 1, 1) := by decide +kernel
theorem dX1_copyFrom_16 : decode cX1_copyFrom 16 = .ok (.getfield 15, 3) := by decide +kernel
theorem dX1_copyFrom_19 : decode cX1_copyFrom 19 = .ok (.iconst 0, 1) := by decide +kernel
theorem dX1_copyFrom_20 : decode cX1_copyFrom 20 = .ok (.aload_n 0, 1) := by decide +kernel
theorem dX1_copyFrom_21 : decode cX1_copyFrom 21 = .ok (.getfield 15, 3) := by decide +kernel
theorem dX1_copyFrom_24 : decode cX1_copyFrom 24 = .ok (.iconst 0, 1) := by decide +kernel
theorem dX1_copyFrom_25 : decode cX1_copyFrom 25 = .ok (.bipush 10, 2) := by decide +kernel
theorem dX1_copyFrom_27 : decode cX1_copyFrom 27 = .ok (.invokestatic 21, 3) := by decide +kernel
theorem dX1_copyFrom_30 : decode cX1_copyFrom 30 = .ok (.aload_n 1, 1) := by decide +kernel
theorem dX1_copyFrom_31 : decode cX1_copyFrom 31 = .ok (.getfield 18, 3) := by decide +kernel
theorem dX1_copyFrom_34 : decode cX1_copyFrom 34 = .ok (.iconst 0, 1) := by decide +kernel
theorem dX1_copyFrom_35 : decode cX1_copyFrom 35 = .ok (.aload_n 0, 1) := by decide +kernel
theorem dX1_copyFrom_36 : decode cX1_copyFrom 36 = .ok (.getfield 18, 3) := by decide +kernel
theorem dX1_copyFrom_39 : decode cX1_copyFrom 39 = .ok (.iconst 0, 1) := by decide +kernel
theorem dX1_copyFrom_40 : decode cX1_copyFrom 40 = .ok (.bipush 10, 2) := by decide +kernel
theorem dX1_copyFrom_42 : decode cX1_copyFrom 42 = .ok (.invokestatic 21, 3) := by decide +kernel
theorem dX1_copyFrom_45 : decode cX1_copyFrom 45 = .ok (.return_, 1) := by decide +kernel
theorem dX1_change_0 : decode cX1_change 0 = .ok (.iload_n 1, 1) := by decide +kernel
theorem dX1_change_1 : decode cX1_change 1 = .ok (.bipush 10, 2) := by decide +kernel
theorem dX1_change_3 : decode cX1_change 3 = .ok (.invokestatic 27, 3) := by decide +kernel
theorem dX1_change_6 : decode cX1_change 6 = .ok (.ifCond .eq 25, 3) := by decide +kernel
theorem dX1_change_9 : decode cX1_change 9 = .ok (.aload_n 0, 1) := by decide +kernel
theorem dX1_change_10 : decode cX1_change 10 = .ok (.getfield 9, 3) := by decide +kernel
theorem dX1_change_13 : decode cX1_change 13 = .ok (.iload_n 1, 1) := by decide +kernel
theorem dX1_change_14 : decode cX1_change 14 = .ok (.iload_n 2, 1) := by decide +kernel
theorem dX1_change_15 : decode cX1_change 15 = .ok (.iastore, 1) := by decide +kernel
theorem dX1_change_16 : decode cX1_change 16 = .ok (.aload_n 0, 1) := by decide +kernel
theorem dX1_change_17 : decode cX1_change 17 = .ok (.getfield 15, 3) := by decide +kernel
theorem dX1_change_20 : decode cX1_change 20 = .ok (.iload_n 1, 1) := by decide +kernel
theorem dX1_change_21 : decode cX1_change 21 = .ok (.iload_n 3, 1) := by decide +kernel
theorem dX1_change_22 : decode cX1_change 22 = .ok (.iastore, 1) := by decide +kernel
theorem dX1_change_23 : decode cX1_change 23 = .ok (.aload_n 0, 1) := by decide +kernel
theorem dX1_change_24 : decode cX1_change 24 = .ok (.getfield 18, 3) := by decide +kernel
theorem dX1_change_27 : decode cX1_change 27 = .ok (.iload_n 1, 1) := by decide +kernel
theorem dX1_change_28 : decode cX1_change 28 = .ok (.iload 4, 2) := by decide +kernel
theorem dX1_change_30 : decode cX1_change 30 = .ok (.iastore, 1) := by decide +kernel
theorem dX1_change_31 : decode cX1_change 31 = .ok (.return_, 1) := by decide +kernel
theorem dX1_atHoist_0 : decode cX1_atHoist 0 = .ok (.iload_n 1, 1) := by decide +kernel
theorem dX1_atHoist_1 : decode cX1_atHoist 1 = .ok (.bipush 10, 2) := by decide +kernel
theorem dX1_atHoist_3 : decode cX1_atHoist 3 = .ok (.invokestatic 27, 3) := by decide +kernel
theorem dX1_atHoist_6 : decode cX1_atHoist 6 = .ok (.ifCond .eq 12, 3) := by decide +kernel
theorem dX1_atHoist_9 : decode cX1_atHoist 9 = .ok (.aload_n 0, 1) := by decide +kernel
theorem dX1_atHoist_10 : decode cX1_atHoist 10 = .ok (.getfield 9, 3) := by decide +kernel
theorem dX1_atHoist_13 : decode cX1_atHoist 13 = .ok (.iload_n 1, 1) := by decide +kernel
theorem dX1_atHoist_14 : decode cX1_atHoist 14 = .ok (.iaload, 1) := by decide +kernel
theorem dX1_atHoist_15 : decode cX1_atHoist 15 = .ok (.goto 5, 3) := by decide +kernel
theorem dX1_atHoist_18 : decode cX1_atHoist 18 = .ok (.bipush (-6), 2) := by decide +kernel
theorem dX1_atHoist_20 : decode cX1_atHoist 20 = .ok (.ireturn, 1) := by decide +kernel
theorem dX1_atFly_0 : decode cX1_atFly 0 = .ok (.iload_n 1, 1) := by decide +kernel
theorem dX1_atFly_1 : decode cX1_atFly 1 = .ok (.bipush 10, 2) := by decide +kernel
theorem dX1_atFly_3 : decode cX1_atFly 3 = .ok (.invokestatic 27, 3) := by decide +kernel
theorem dX1_atFly_6 : decode cX1_atFly 6 = .ok (.ifCond .eq 12, 3) := by decide +kernel
theorem dX1_atFly_9 : decode cX1_atFly 9 = .ok (.aload_n 0, 1) := by decide +kernel
theorem dX1_atFly_10 : decode cX1_atFly 10 = .ok (.getfield 15, 3) := by decide +kernel
theorem dX1_atFly_13 : decode cX1_atFly 13 = .ok (.iload_n 1, 1) := by decide +kernel
theorem dX1_atFly_14 : decode cX1_atFly 14 = .ok (.iaload, 1) := by decide +kernel
theorem dX1_atFly_15 : decode cX1_atFly 15 = .ok (.goto 5, 3) := by decide +kernel
theorem dX1_atFly_18 : decode cX1_atFly 18 = .ok (.bipush (-6), 2) := by decide +kernel
theorem dX1_atFly_20 : decode cX1_atFly 20 = .ok (.ireturn, 1) := by decide +kernel
theorem dX1_weightOf_0 : decode cX1_weightOf 0 = .ok (.iload_n 1, 1) := by decide +kernel
theorem dX1_weightOf_1 : decode cX1_weightOf 1 = .ok (.bipush 10, 2) := by decide +kernel
theorem dX1_weightOf_3 : decode cX1_weightOf 3 = .ok (.invokestatic 27, 3) := by decide +kernel
theorem dX1_weightOf_6 : decode cX1_weightOf 6 = .ok (.ifCond .eq 12, 3) := by decide +kernel
theorem dX1_weightOf_9 : decode cX1_weightOf 9 = .ok (.aload_n 0, 1) := by decide +kernel
theorem dX1_weightOf_10 : decode cX1_weightOf 10 = .ok (.getfield 18, 3) := by decide +kernel
theorem dX1_weightOf_13 : decode cX1_weightOf 13 = .ok (.iload_n 1, 1) := by decide +kernel
theorem dX1_weightOf_14 : decode cX1_weightOf 14 = .ok (.iaload, 1) := by decide +kernel
theorem dX1_weightOf_15 : decode cX1_weightOf 15 = .ok (.goto 5, 3) := by decide +kernel
theorem dX1_weightOf_18 : decode cX1_weightOf 18 = .ok (.bipush (-6), 2) := by decide +kernel
theorem dX1_weightOf_20 : decode cX1_weightOf 20 = .ok (.ireturn, 1) := by decide +kernel
theorem dX1_countWith_0 : decode cX1_countWith 0 = .ok (.iconst 0, 1) := by decide +kernel
theorem dX1_countWith_1 : decode cX1_countWith 1 = .ok (.istore_n 3, 1) := by decide +kernel
theorem dX1_countWith_2 : decode cX1_countWith 2 = .ok (.iconst 0, 1) := by decide +kernel
theorem dX1_countWith_3 : decode cX1_countWith 3 = .ok (.istore 4, 2) := by decide +kernel
theorem dX1_countWith_5 : decode cX1_countWith 5 = .ok (.iload 4, 2) := by decide +kernel
theorem dX1_countWith_7 : decode cX1_countWith 7 = .ok (.bipush 10, 2) := by decide +kernel
theorem dX1_countWith_9 : decode cX1_countWith 9 = .ok (.if_icmp .ge 34, 3) := by decide +kernel
theorem dX1_countWith_12 : decode cX1_countWith 12 = .ok (.aload_n 0, 1) := by decide +kernel
theorem dX1_countWith_13 : decode cX1_countWith 13 = .ok (.getfield 9, 3) := by decide +kernel
theorem dX1_countWith_16 : decode cX1_countWith 16 = .ok (.iload 4, 2) := by decide +kernel
theorem dX1_countWith_18 : decode cX1_countWith 18 = .ok (.iaload, 1) := by decide +kernel
theorem dX1_countWith_19 : decode cX1_countWith 19 = .ok (.iload_n 1, 1) := by decide +kernel
theorem dX1_countWith_20 : decode cX1_countWith 20 = .ok (.if_icmp .ne 17, 3) := by decide +kernel
theorem dX1_countWith_23 : decode cX1_countWith 23 = .ok (.aload_n 0, 1) := by decide +kernel
theorem dX1_countWith_24 : decode cX1_countWith 24 = .ok (.getfield 15, 3) := by decide +kernel
theorem dX1_countWith_27 : decode cX1_countWith 27 = .ok (.iload 4, 2) := by decide +kernel
theorem dX1_countWith_29 : decode cX1_countWith 29 = .ok (.iaload, 1) := by decide +kernel
theorem dX1_countWith_30 : decode cX1_countWith 30 = .ok (.iload_n 2, 1) := by decide +kernel
theorem dX1_countWith_31 : decode cX1_countWith 31 = .ok (.if_icmp .ne 6, 3) := by decide +kernel
theorem dX1_countWith_34 : decode cX1_countWith 34 = .ok (.iinc 3 1, 3) := by decide +kernel
theorem dX1_countWith_37 : decode cX1_countWith 37 = .ok (.iinc 4 1, 3) := by decide +kernel
theorem dX1_countWith_40 : decode cX1_countWith 40 = .ok (.goto (-35), 3) := by decide +kernel
theorem dX1_countWith_43 : decode cX1_countWith 43 = .ok (.iload_n 3, 1) := by decide +kernel
theorem dX1_countWith_44 : decode cX1_countWith 44 = .ok (.ireturn, 1) := by decide +kernel
theorem dX1_firstWith_0 : decode cX1_firstWith 0 = .ok (.iconst 0, 1) := by decide +kernel
theorem dX1_firstWith_1 : decode cX1_firstWith 1 = .ok (.istore_n 3, 1) := by decide +kernel
theorem dX1_firstWith_2 : decode cX1_firstWith 2 = .ok (.iload_n 3, 1) := by decide +kernel
theorem dX1_firstWith_3 : decode cX1_firstWith 3 = .ok (.bipush 10, 2) := by decide +kernel
theorem dX1_firstWith_5 : decode cX1_firstWith 5 = .ok (.if_icmp .ge 31, 3) := by decide +kernel
theorem dX1_firstWith_8 : decode cX1_firstWith 8 = .ok (.aload_n 0, 1) := by decide +kernel
theorem dX1_firstWith_9 : decode cX1_firstWith 9 = .ok (.getfield 9, 3) := by decide +kernel
theorem dX1_firstWith_12 : decode cX1_firstWith 12 = .ok (.iload_n 3, 1) := by decide +kernel
theorem dX1_firstWith_13 : decode cX1_firstWith 13 = .ok (.iaload, 1) := by decide +kernel
theorem dX1_firstWith_14 : decode cX1_firstWith 14 = .ok (.iload_n 1, 1) := by decide +kernel
theorem dX1_firstWith_15 : decode cX1_firstWith 15 = .ok (.if_icmp .ne 15, 3) := by decide +kernel
theorem dX1_firstWith_18 : decode cX1_firstWith 18 = .ok (.aload_n 0, 1) := by decide +kernel
theorem dX1_firstWith_19 : decode cX1_firstWith 19 = .ok (.getfield 15, 3) := by decide +kernel
theorem dX1_firstWith_22 : decode cX1_firstWith 22 = .ok (.iload_n 3, 1) := by decide +kernel
theorem dX1_firstWith_23 : decode cX1_firstWith 23 = .ok (.iaload, 1) := by decide +kernel
theorem dX1_firstWith_24 : decode cX1_firstWith 24 = .ok (.iload_n 2, 1) := by decide +kernel
theorem dX1_firstWith_25 : decode cX1_firstWith 25 = .ok (.if_icmp .ne 5, 3) := by decide +kernel
theorem dX1_firstWith_28 : decode cX1_firstWith 28 = .ok (.iload_n 3, 1) := by decide +kernel
theorem dX1_firstWith_29 : decode cX1_firstWith 29 = .ok (.ireturn, 1) := by decide +kernel
theorem dX1_firstWith_30 : decode cX1_firstWith 30 = .ok (.iinc 3 1, 3) := by decide +kernel
theorem dX1_firstWith_33 : decode cX1_firstWith 33 = .ok (.goto (-31), 3) := by decide +kernel
theorem dX1_firstWith_36 : decode cX1_firstWith 36 = .ok (.bipush (-6), 2) := by decide +kernel
theorem dX1_firstWith_38 : decode cX1_firstWith 38 = .ok (.ireturn, 1) := by decide +kernel
theorem dX1_takenFor_0 : decode cX1_takenFor 0 = .ok (.iload_n 1, 1) := by decide +kernel
theorem dX1_takenFor_1 : decode cX1_takenFor 1 = .ok (.bipush 10, 2) := by decide +kernel
theorem dX1_takenFor_3 : decode cX1_takenFor 3 = .ok (.invokestatic 27, 3) := by decide +kernel
theorem dX1_takenFor_6 : decode cX1_takenFor 6 = .ok (.ifCond .eq 13, 3) := by decide +kernel
theorem dX1_takenFor_9 : decode cX1_takenFor 9 = .ok (.aload_n 0, 1) := by decide +kernel
theorem dX1_takenFor_10 : decode cX1_takenFor 10 = .ok (.getfield 18, 3) := by decide +kernel
theorem dX1_takenFor_13 : decode cX1_takenFor 13 = .ok (.iload_n 1, 1) := by decide +kernel
theorem dX1_takenFor_14 : decode cX1_takenFor 14 = .ok (.iaload, 1) := by decide +kernel
theorem dX1_takenFor_15 : decode cX1_takenFor 15 = .ok (.iload_n 3, 1) := by decide +kernel
theorem dX1_takenFor_16 : decode cX1_takenFor 16 = .ok (.if_icmp .le 6, 3) := by decide +kernel
theorem dX1_takenFor_19 : decode cX1_takenFor 19 = .ok (.bipush (-6), 2) := by decide +kernel
theorem dX1_takenFor_21 : decode cX1_takenFor 21 = .ok (.ireturn, 1) := by decide +kernel
theorem dX1_takenFor_22 : decode cX1_takenFor 22 = .ok (.iload_n 2, 1) := by decide +kernel
theorem dX1_takenFor_23 : decode cX1_takenFor 23 = .ok (.ifCond .eq 20, 3) := by decide +kernel
theorem dX1_takenFor_26 : decode cX1_takenFor 26 = .ok (.aload_n 0, 1) := by decide +kernel
theorem dX1_takenFor_27 : decode cX1_takenFor 27 = .ok (.aload_n 0, 1) := by decide +kernel
theorem dX1_takenFor_28 : decode cX1_takenFor 28 = .ok (.getfield 9, 3) := by decide +kernel
theorem dX1_takenFor_31 : decode cX1_takenFor 31 = .ok (.iload_n 1, 1) := by decide +kernel
theorem dX1_takenFor_32 : decode cX1_takenFor 32 = .ok (.iaload, 1) := by decide +kernel
theorem dX1_takenFor_33 : decode cX1_takenFor 33 = .ok (.aload_n 0, 1) := by decide +kernel
theorem dX1_takenFor_34 : decode cX1_takenFor 34 = .ok (.getfield 15, 3) := by decide +kernel
theorem dX1_takenFor_37 : decode cX1_takenFor 37 = .ok (.iload_n 1, 1) := by decide +kernel
theorem dX1_takenFor_38 : decode cX1_takenFor 38 = .ok (.iaload, 1) := by decide +kernel
theorem dX1_takenFor_39 : decode cX1_takenFor 39 = .ok (.invokevirtual 31, 3) := by decide +kernel
theorem dX1_takenFor_42 : decode cX1_takenFor 42 = .ok (.ireturn, 1) := by decide +kernel
theorem dX1_takenFor_43 : decode cX1_takenFor 43 = .ok (.aload_n 0, 1) := by decide +kernel
theorem dX1_takenFor_44 : decode cX1_takenFor 44 = .ok (.aload_n 0, 1) := by decide +kernel
theorem dX1_takenFor_45 : decode cX1_takenFor 45 = .ok (.getfield 15, 3) := by decide +kernel
theorem dX1_takenFor_48 : decode cX1_takenFor 48 = .ok (.iload_n 1, 1) := by decide +kernel
theorem dX1_takenFor_49 : decode cX1_takenFor 49 = .ok (.iaload, 1) := by decide +kernel
theorem dX1_takenFor_50 : decode cX1_takenFor 50 = .ok (.aload_n 0, 1) := by decide +kernel
theorem dX1_takenFor_51 : decode cX1_takenFor 51 = .ok (.getfield 9, 3) := by decide +kernel
theorem dX1_takenFor_54 : decode cX1_takenFor 54 = .ok (.iload_n 1, 1) := by decide +kernel
theorem dX1_takenFor_55 : decode cX1_takenFor 55 = .ok (.iaload, 1) := by decide +kernel
theorem dX1_takenFor_56 : decode cX1_takenFor 56 = .ok (.invokevirtual 31, 3) := by decide +kernel
theorem dX1_takenFor_59 : decode cX1_takenFor 59 = .ok (.ireturn, 1) := by decide +kernel
theorem dX2_init_0 : decode cX2_init 0 = .ok (.aload_n 0, 1) := by decide +kernel
theorem dX2_init_1 : decode cX2_init 1 = .ok (.invokespecial 3, 3) := by decide +kernel
theorem dX2_init_4 : decode cX2_init 4 = .ok (.aload_n 0, 1) := by decide +kernel
theorem dX2_init_5 : decode cX2_init 5 = .ok (.iconst 5, 1) := by decide +kernel
theorem dX2_init_6 : decode cX2_init 6 = .ok (.anewarray 9, 3) := by decide +kernel
theorem dX2_init_9 : decode cX2_init 9 = .ok (.putfield 11, 3) := by decide +kernel
theorem dX2_init_12 : decode cX2_init 12 = .ok (.aload_n 0, 1) := by decide +kernel
theorem dX2_init_13 : decode cX2_init 13 = .ok (.iconst 0, 1) := by decide +kernel
theorem dX2_init_14 : decode cX2_init 14 = .ok (.putfield 17, 3) := by decide +kernel
theorem dX2_init_17 : decode cX2_init 17 = .ok (.aload_n 0, 1) := by decide +kernel
theorem dX2_init_18 : decode cX2_init 18 = .ok (.iconst 0, 1) := by decide +kernel
theorem dX2_init_19 : decode cX2_init 19 = .ok (.putfield 21, 3) := by decide +kernel
theorem dX2_init_22 : decode cX2_init 22 = .ok (.iconst 0, 1) := by decide +kernel
theorem dX2_init_23 : decode cX2_init 23 = .ok (.istore_n 1, 1) := by decide +kernel
theorem dX2_init_24 : decode cX2_init 24 = .ok (.iload_n 1, 1) := by decide +kernel
theorem dX2_init_25 : decode cX2_init 25 = .ok (.iconst 5, 1) := by decide +kernel
theorem dX2_init_26 : decode cX2_init 26 = .ok (.if_icmp .ge 22, 3) := by decide +kernel
theorem dX2_init_29 : decode cX2_init 29 = .ok (.aload_n 0, 1) := by decide +kernel
theorem dX2_init_30 : decode cX2_init 30 = .ok (.getfield 11, 3) := by decide +kernel
theorem dX2_init_33 : decode cX2_init 33 = .ok (.iload_n 1, 1) := by decide +kernel
theorem dX2_init_34 : decode cX2_init 34 = .ok (.new 9, 3) := by decide +kernel
theorem dX2_init_37 : decode cX2_init 37 = .ok (.dup, 1) := by decide +kernel
theorem dX2_init_38 : decode cX2_init 38 = .ok (.invokespecial 24, 3) := by decide +kernel
theorem dX2_init_41 : decode cX2_init 41 = .ok (.aastore, 1) := by decide +kernel
theorem dX2_init_42 : decode cX2_init 42 = .ok (.iinc 1 1, 3) := by decide +kernel
theorem dX2_init_45 : decode cX2_init 45 = .ok (.goto (-21), 3) := by decide +kernel
theorem dX2_init_48 : decode cX2_init 48 = .ok (.return_, 1) := by decide +kernel
theorem dX2_record_0 : decode cX2_record 0 = .ok (.aload_n 0, 1) := by decide +kernel
theorem dX2_record_1 : decode cX2_record 1 = .ok (.aload_n 0, 1) := by decide +kernel
theorem dX2_record_2 : decode cX2_record 2 = .ok (.getfield 17, 3) := by decide +kernel
theorem dX2_record_5 : decode cX2_record 5 = .ok (.invokevirtual 25, 3) := by decide +kernel
theorem dX2_record_8 : decode cX2_record 8 = .ok (.astore_n 2, 1) := by decide +kernel
theorem dX2_record_9 : decode cX2_record 9 = .ok (.aload_n 2, 1) := by decide +kernel
theorem dX2_record_10 : decode cX2_record 10 = .ok (.ifnull 34, 3) := by decide +kernel
theorem dX2_record_13 : decode cX2_record 13 = .ok (.aload_n 2, 1) := by decide +kernel
theorem dX2_record_14 : decode cX2_record 14 = .ok (.aload_n 1, 1) := by decide +kernel
theorem dX2_record_15 : decode cX2_record 15 = .ok (.invokevirtual 29, 3) := by decide +kernel
theorem dX2_record_18 : decode cX2_record 18 = .ok (.aload_n 0, 1) := by decide +kernel
theorem dX2_record_19 : decode cX2_record 19 = .ok (.aload_n 0, 1) := by decide +kernel
theorem dX2_record_20 : decode cX2_record 20 = .ok (.getfield 17, 3) := by decide +kernel
theorem dX2_record_23 : decode cX2_record 23 = .ok (.iconst 1, 1) := by decide +kernel
theorem dX2_record_24 : decode cX2_record 24 = .ok (.iadd, 1) := by decide +kernel
theorem dX2_record_25 : decode cX2_record 25 = .ok (.iconst 5, 1) := by decide +kernel
theorem dX2_record_26 : decode cX2_record 26 = .ok (.irem, 1) := by decide +kernel
theorem dX2_record_27 : decode cX2_record 27 = .ok (.putfield 17, 3) := by decide +kernel
theorem dX2_record_30 : decode cX2_record 30 = .ok (.aload_n 0, 1) := by decide +kernel
theorem dX2_record_31 : decode cX2_record 31 = .ok (.aload_n 0, 1) := by decide +kernel
theorem dX2_record_32 : decode cX2_record 32 = .ok (.getfield 21, 3) := by decide +kernel
theorem dX2_record_35 : decode cX2_record 35 = .ok (.iconst 1, 1) := by decide +kernel
theorem dX2_record_36 : decode cX2_record 36 = .ok (.iadd, 1) := by decide +kernel
theorem dX2_record_37 : decode cX2_record 37 = .ok (.iconst 5, 1) := by decide +kernel
theorem dX2_record_38 : decode cX2_record 38 = .ok (.invokestatic 33, 3) := by decide +kernel
theorem dX2_record_41 : decode cX2_record 41 = .ok (.putfield 21, 3) := by decide +kernel
theorem dX2_record_44 : decode cX2_record 44 = .ok (.return_, 1) := by decide +kernel
theorem dX2_slotAt_0 : decode cX2_slotAt 0 = .ok (.iload_n 1, 1) := by decide +kernel
theorem dX2_slotAt_1 : decode cX2_slotAt 1 = .ok (.iconst 5, 1) := by decide +kernel
theorem dX2_slotAt_2 : decode cX2_slotAt 2 = .ok (.invokestatic 39, 3) := by decide +kernel
theorem dX2_slotAt_5 : decode cX2_slotAt 5 = .ok (.ifCond .eq 12, 3) := by decide +kernel
theorem dX2_slotAt_8 : decode cX2_slotAt 8 = .ok (.aload_n 0, 1) := by decide +kernel
theorem dX2_slotAt_9 : decode cX2_slotAt 9 = .ok (.getfield 11, 3) := by decide +kernel
theorem dX2_slotAt_12 : decode cX2_slotAt 12 = .ok (.iload_n 1, 1) := by decide +kernel
theorem dX2_slotAt_13 : decode cX2_slotAt 13 = .ok (.aaload, 1) := by decide +kernel
theorem dX2_slotAt_14 : decode cX2_slotAt 14 = .ok (.goto 4, 3) := by decide +kernel
theorem dX2_slotAt_17 : decode cX2_slotAt 17 = .ok (.aconst_null, 1) := by decide +kernel
theorem dX2_slotAt_18 : decode cX2_slotAt 18 = .ok (.areturn, 1) := by decide +kernel
theorem dX3_init_0 : decode cX3_init 0 = .ok (.aload_n 0, 1) := by decide +kernel
theorem dX3_init_1 : decode cX3_init 1 = .ok (.invokespecial 3, 3) := by decide +kernel
theorem dX3_init_4 : decode cX3_init 4 = .ok (.aload_n 0, 1) := by decide +kernel
theorem dX3_init_5 : decode cX3_init 5 = .ok (.bipush 20, 2) := by decide +kernel
theorem dX3_init_7 : decode cX3_init 7 = .ok (.newarray .int, 2) := by decide +kernel
theorem dX3_init_9 : decode cX3_init 9 = .ok (.putfield 9, 3) := by decide +kernel
theorem dX3_init_12 : decode cX3_init 12 = .ok (.aload_n 0, 1) := by decide +kernel
theorem dX3_init_13 : decode cX3_init 13 = .ok (.iconst 5, 1) := by decide +kernel
theorem dX3_init_14 : decode cX3_init 14 = .ok (.newarray .int, 2) := by decide +kernel
theorem dX3_init_16 : decode cX3_init 16 = .ok (.putfield 15, 3) := by decide +kernel
theorem dX3_init_19 : decode cX3_init 19 = .ok (.return_, 1) := by decide +kernel
theorem dX3_copyFrom_0 : decode cX3_copyFrom 0 = .ok (.aload_n 1, 1) := by decide +kernel
theorem dX3_copyFrom_1 : decode cX3_copyFrom 1 = .ok (.getfield 9, 3) := by decide +kernel
theorem dX3_copyFrom_4 : decode cX3_copyFrom 4 = .ok (.iconst 0, 1) := by decide +kernel
theorem dX3_copyFrom_5 : decode cX3_copyFrom 5 = .ok (.aload_n 0, 1) := by decide +kernel
theorem dX3_copyFrom_6 : decode cX3_copyFrom 6 = .ok (.getfield 9, 3) := by decide +kernel
theorem dX3_copyFrom_9 : decode cX3_copyFrom 9 = .ok (.iconst 0, 1) := by decide +kernel
theorem dX3_copyFrom_10 : decode cX3_copyFrom 10 = .ok (.bipush 20, 2) := by decide +kernel
theorem dX3_copyFrom_12 : decode cX3_copyFrom 12 = .ok (.invokestatic 18, 3) := by decide +kernel
theorem dX3_copyFrom_15 : decode cX3_copyFrom 15 = .ok (.aload_n 1, 1) := by decide +kernel
theorem dX3_copyFrom_16 : decode cX3_copyFrom 16 = .ok (.getfield 15, 3) := by decide +kernel
theorem dX3_copyFrom_19 : decode cX3_copyFrom 19 = .ok (.iconst 0, 1) := by decide +kernel
theorem dX3_copyFrom_20 : decode cX3_copyFrom 20 = .ok (.aload_n 0, 1) := by decide +kernel
theorem dX3_copyFrom_21 : decode cX3_copyFrom 21 = .ok (.getfield 15, 3) := by decide +kernel
theorem dX3_copyFrom_24 : decode cX3_copyFrom 24 = .ok (.iconst 0, 1) := by decide +kernel
theorem dX3_copyFrom_25 : decode cX3_copyFrom 25 = .ok (.iconst 5, 1) := by decide +kernel
theorem dX3_copyFrom_26 : decode cX3_copyFrom 26 = .ok (.invokestatic 18, 3) := by decide +kernel
theorem dX3_copyFrom_29 : decode cX3_copyFrom 29 = .ok (.return_, 1) := by decide +kernel
theorem dX3_clear_0 : decode cX3_clear 0 = .ok (.iconst 0, 1) := by decide +kernel
theorem dX3_clear_1 : decode cX3_clear 1 = .ok (.istore_n 1, 1) := by decide +kernel
theorem dX3_clear_2 : decode cX3_clear 2 = .ok (.iload_n 1, 1) := by decide +kernel
theorem dX3_clear_3 : decode cX3_clear 3 = .ok (.iconst 5, 1) := by decide +kernel
theorem dX3_clear_4 : decode cX3_clear 4 = .ok (.if_icmp .ge 16, 3) := by decide +kernel
theorem dX3_clear_7 : decode cX3_clear 7 = .ok (.aload_n 0, 1) := by decide +kernel
theorem dX3_clear_8 : decode cX3_clear 8 = .ok (.getfield 15, 3) := by decide +kernel
theorem dX3_clear_11 : decode cX3_clear 11 = .ok (.iload_n 1, 1) := by decide +kernel
theorem dX3_clear_12 : decode cX3_clear 12 = .ok (.iconst 0, 1) := by decide +kernel
theorem dX3_clear_13 : decode cX3_clear 13 = .ok (.iastore, 1) := by decide +kernel
theorem dX3_clear_14 : decode cX3_clear 14 = .ok (.iinc 1 1, 3) := by decide +kernel
theorem dX3_clear_17 : decode cX3_clear 17 = .ok (.goto (-15), 3) := by decide +kernel
theorem dX3_clear_20 : decode cX3_clear 20 = .ok (.return_, 1) := by decide +kernel
theorem dX3_sizeOf_0 : decode cX3_sizeOf 0 = .ok (.iload_n 1, 1) := by decide +kernel
theorem dX3_sizeOf_1 : decode cX3_sizeOf 1 = .ok (.iconst 5, 1) := by decide +kernel
theorem dX3_sizeOf_2 : decode cX3_sizeOf 2 = .ok (.invokestatic 24, 3) := by decide +kernel
theorem dX3_sizeOf_5 : decode cX3_sizeOf 5 = .ok (.ifCond .eq 12, 3) := by decide +kernel
theorem dX3_sizeOf_8 : decode cX3_sizeOf 8 = .ok (.aload_n 0, 1) := by decide +kernel
theorem dX3_sizeOf_9 : decode cX3_sizeOf 9 = .ok (.getfield 15, 3) := by decide +kernel
theorem dX3_sizeOf_12 : decode cX3_sizeOf 12 = .ok (.iload_n 1, 1) := by decide +kernel
theorem dX3_sizeOf_13 : decode cX3_sizeOf 13 = .ok (.iaload, 1) := by decide +kernel
theorem dX3_sizeOf_14 : decode cX3_sizeOf 14 = .ok (.goto 4, 3) := by decide +kernel
theorem dX3_sizeOf_17 : decode cX3_sizeOf 17 = .ok (.iconst 0, 1) := by decide +kernel
theorem dX3_sizeOf_18 : decode cX3_sizeOf 18 = .ok (.ireturn, 1) := by decide +kernel
theorem dX3_has_0 : decode cX3_has 0 = .ok (.iload_n 1, 1) := by decide +kernel
theorem dX3_has_1 : decode cX3_has 1 = .ok (.ifCond .lt 32, 3) := by decide +kernel
theorem dX3_has_4 : decode cX3_has 4 = .ok (.iload_n 1, 1) := by decide +kernel
theorem dX3_has_5 : decode cX3_has 5 = .ok (.iconst 5, 1) := by decide +kernel
theorem dX3_has_6 : decode cX3_has 6 = .ok (.if_icmp .ge 27, 3) := by decide +kernel
theorem dX3_has_9 : decode cX3_has 9 = .ok (.iload_n 2, 1) := by decide +kernel
theorem dX3_has_10 : decode cX3_has 10 = .ok (.iconst 1, 1) := by decide +kernel
theorem dX3_has_11 : decode cX3_has 11 = .ok (.if_icmp .lt 22, 3) := by decide +kernel
theorem dX3_has_14 : decode cX3_has 14 = .ok (.iload_n 2, 1) := by decide +kernel
theorem dX3_has_15 : decode cX3_has 15 = .ok (.iconst 4, 1) := by decide +kernel
theorem dX3_has_16 : decode cX3_has 16 = .ok (.if_icmp .gt 17, 3) := by decide +kernel
theorem dX3_has_19 : decode cX3_has 19 = .ok (.iload_n 2, 1) := by decide +kernel
theorem dX3_has_20 : decode cX3_has 20 = .ok (.aload_n 0, 1) := by decide +kernel
theorem dX3_has_21 : decode cX3_has 21 = .ok (.getfield 15, 3) := by decide +kernel
theorem dX3_has_24 : decode cX3_has 24 = .ok (.iload_n 1, 1) := by decide +kernel
theorem dX3_has_25 : decode cX3_has 25 = .ok (.iaload, 1) := by decide +kernel
theorem dX3_has_26 : decode cX3_has 26 = .ok (.if_icmp .gt 7, 3) := by decide +kernel
theorem dX3_has_29 : decode cX3_has 29 = .ok (.iconst 1, 1) := by decide +kernel
theorem dX3_has_30 : decode cX3_has 30 = .ok (.goto 4, 3) := by decide +kernel
theorem dX3_has_33 : decode cX3_has 33 = .ok (.iconst 0, 1) := by decide +kernel
theorem dX3_has_34 : decode cX3_has 34 = .ok (.ireturn, 1) := by decide +kernel
theorem dX3_signAt_0 : decode cX3_signAt 0 = .ok (.aload_n 0, 1) := by decide +kernel
theorem dX3_signAt_1 : decode cX3_signAt 1 = .ok (.iload_n 1, 1) := by decide +kernel
theorem dX3_signAt_2 : decode cX3_signAt 2 = .ok (.iload_n 2, 1) := by decide +kernel
theorem dX3_signAt_3 : decode cX3_signAt 3 = .ok (.invokevirtual 28, 3) := by decide +kernel
theorem dX3_signAt_6 : decode cX3_signAt 6 = .ok (.ifCond .eq 18, 3) := by decide +kernel
theorem dX3_signAt_9 : decode cX3_signAt 9 = .ok (.aload_n 0, 1) := by decide +kernel
theorem dX3_signAt_10 : decode cX3_signAt 10 = .ok (.getfield 9, 3) := by decide +kernel
theorem dX3_signAt_13 : decode cX3_signAt 13 = .ok (.iload_n 1, 1) := by decide +kernel
theorem dX3_signAt_14 : decode cX3_signAt 14 = .ok (.iconst 4, 1) := by decide +kernel
theorem dX3_signAt_15 : decode cX3_signAt 15 = .ok (.imul, 1) := by decide +kernel
theorem dX3_signAt_16 : decode cX3_signAt 16 = .ok (.iload_n 2, 1) := by decide +kernel
theorem dX3_signAt_17 : decode cX3_signAt 17 = .ok (.iadd, 1) := by decide +kernel
theorem dX3_signAt_18 : decode cX3_signAt 18 = .ok (.iconst 1, 1) := by decide +kernel
theorem dX3_signAt_19 : decode cX3_signAt 19 = .ok (.isub, 1) := by decide +kernel
theorem dX3_signAt_20 : decode cX3_signAt 20 = .ok (.iaload, 1) := by decide +kernel
theorem dX3_signAt_21 : decode cX3_signAt 21 = .ok (.goto 4, 3) := by decide +kernel
theorem dX3_signAt_24 : decode cX3_signAt 24 = .ok (.iconst (-1), 1) := by decide +kernel
theorem dX3_signAt_25 : decode cX3_signAt 25 = .ok (.ireturn, 1) := by decide +kernel
theorem dX3_flagAt_0 : decode cX3_flagAt 0 = .ok (.aload_n 0, 1) := by decide +kernel
theorem dX3_flagAt_1 : decode cX3_flagAt 1 = .ok (.iload_n 1, 1) := by decide +kernel
theorem dX3_flagAt_2 : decode cX3_flagAt 2 = .ok (.iload_n 2, 1) := by decide +kernel
theorem dX3_flagAt_3 : decode cX3_flagAt 3 = .ok (.invokevirtual 31, 3) := by decide +kernel
theorem dX3_flagAt_6 : decode cX3_flagAt 6 = .ok (.istore_n 3, 1) := by decide +kernel
theorem dX3_flagAt_7 : decode cX3_flagAt 7 = .ok (.iconst 1, 1) := by decide +kernel
theorem dX3_flagAt_8 : decode cX3_flagAt 8 = .ok (.istore 4, 2) := by decide +kernel
theorem dX3_flagAt_10 : decode cX3_flagAt 10 = .ok (.iload 4, 2) := by decide +kernel
theorem dX3_flagAt_12 : decode cX3_flagAt 12 = .ok (.iconst 4, 1) := by decide +kernel
theorem dX3_flagAt_13 : decode cX3_flagAt 13 = .ok (.if_icmp .ge 25, 3) := by decide +kernel
theorem dX3_flagAt_16 : decode cX3_flagAt 16 = .ok (.iload_n 3, 1) := by decide +kernel
theorem dX3_flagAt_17 : decode cX3_flagAt 17 = .ok (.bipush 10, 2) := by decide +kernel
theorem dX3_flagAt_19 : decode cX3_flagAt 19 = .ok (.if_icmp .le 19, 3) := by decide +kernel
theorem dX3_flagAt_22 : decode cX3_flagAt 22 = .ok (.aload_n 0, 1) := by decide +kernel
theorem dX3_flagAt_23 : decode cX3_flagAt 23 = .ok (.iload_n 1, 1) := by decide +kernel
theorem dX3_flagAt_24 : decode cX3_flagAt 24 = .ok (.iload_n 3, 1) := by decide +kernel
theorem dX3_flagAt_25 : decode cX3_flagAt 25 = .ok (.bipush 10, 2) := by decide +kernel
theorem dX3_flagAt_27 : decode cX3_flagAt 27 = .ok (.isub, 1) := by decide +kernel
theorem dX3_flagAt_28 : decode cX3_flagAt 28 = .ok (.invokevirtual 31, 3) := by decide +kernel
theorem dX3_flagAt_31 : decode cX3_flagAt 31 = .ok (.istore_n 3, 1) := by decide +kernel
theorem dX3_flagAt_32 : decode cX3_flagAt 32 = .ok (.iinc 4 1, 3) := by decide +kernel
theorem dX3_flagAt_35 : decode cX3_flagAt 35 = .ok (.goto (-25), 3) := by decide +kernel
theorem dX3_flagAt_38 : decode cX3_flagAt 38 = .ok (.iload_n 3, 1) := by decide +kernel
theorem dX3_flagAt_39 : decode cX3_flagAt 39 = .ok (.ireturn, 1) := by decide +kernel
theorem dX3_add_0 : decode cX3_add 0 = .ok (.iload_n 1, 1) := by decide +kernel
theorem dX3_add_1 : decode cX3_add 1 = .ok (.iconst 5, 1) := by decide +kernel
theorem dX3_add_2 : decode cX3_add 2 = .ok (.invokestatic 24, 3) := by decide +kernel
theorem dX3_add_5 : decode cX3_add 5 = .ok (.ifCond .eq 42, 3) := by decide +kernel
theorem dX3_add_8 : decode cX3_add 8 = .ok (.aload_n 0, 1) := by decide +kernel
theorem dX3_add_9 : decode cX3_add 9 = .ok (.getfield 15, 3) := by decide +kernel
theorem dX3_add_12 : decode cX3_add 12 = .ok (.iload_n 1, 1) := by decide +kernel
theorem dX3_add_13 : decode cX3_add 13 = .ok (.iaload, 1) := by decide +kernel
theorem dX3_add_14 : decode cX3_add 14 = .ok (.iconst 4, 1) := by decide +kernel
theorem dX3_add_15 : decode cX3_add 15 = .ok (.invokestatic 24, 3) := by decide +kernel
theorem dX3_add_18 : decode cX3_add 18 = .ok (.ifCond .eq 29, 3) := by decide +kernel
theorem dX3_add_21 : decode cX3_add 21 = .ok (.aload_n 0, 1) := by decide +kernel
theorem dX3_add_22 : decode cX3_add 22 = .ok (.getfield 9, 3) := by decide +kernel
theorem dX3_add_25 : decode cX3_add 25 = .ok (.iload_n 1, 1) := by decide +kernel
theorem dX3_add_26 : decode cX3_add 26 = .ok (.iconst 4, 1) := by decide +kernel
theorem dX3_add_27 : decode cX3_add 27 = .ok (.imul, 1) := by decide +kernel
theorem dX3_add_28 : decode cX3_add 28 = .ok (.aload_n 0, 1) := by decide +kernel
theorem dX3_add_29 : decode cX3_add 29 = .ok (.getfield 15, 3) := by decide +kernel
theorem dX3_add_32 : decode cX3_add 32 = .ok (.iload_n 1, 1) := by decide +kernel
theorem dX3_add_33 : decode cX3_add 33 = .ok (.iaload, 1) := by decide +kernel
theorem dX3_add_34 : decode cX3_add 34 = .ok (.iadd, 1) := by decide +kernel
theorem dX3_add_35 : decode cX3_add 35 = .ok (.iload_n 2, 1) := by decide +kernel
theorem dX3_add_36 : decode cX3_add 36 = .ok (.iastore, 1) := by decide +kernel
theorem dX3_add_37 : decode cX3_add 37 = .ok (.aload_n 0, 1) := by decide +kernel
theorem dX3_add_38 : decode cX3_add 38 = .ok (.getfield 15, 3) := by decide +kernel
theorem dX3_add_41 : decode cX3_add 41 = .ok (.iload_n 1, 1) := by decide +kernel
theorem dX3_add_42 : decode cX3_add 42 = .ok (.dup2, 1) := by decide +kernel
theorem dX3_add_43 : decode cX3_add 43 = .ok (.iaload, 1) := by decide +kernel
theorem dX3_add_44 : decode cX3_add 44 = .ok (.iconst 1, 1) := by decide +kernel
theorem dX3_add_45 : decode cX3_add 45 = .ok (.iadd, 1) := by decide +kernel
theorem dX3_add_46 : decode cX3_add 46 = .ok (.iastore, 1) := by decide +kernel
theorem dX3_add_47 : decode cX3_add 47 = .ok (.return_, 1) := by decide +kernel
theorem dX3_removeLowest_0 : decode cX3_removeLowest 0 = .ok (.aload_n 0, 1) := by decide +kernel
theorem dX3_removeLowest_1 : decode cX3_removeLowest 1 = .ok (.iload_n 1, 1) := by decide +kernel
theorem dX3_removeLowest_2 : decode cX3_removeLowest 2 = .ok (.invokevirtual 35, 3) := by decide +kernel
theorem dX3_removeLowest_5 : decode cX3_removeLowest 5 = .ok (.istore_n 2, 1) := by decide +kernel
theorem dX3_removeLowest_6 : decode cX3_removeLowest 6 = .ok (.aload_n 0, 1) := by decide +kernel
theorem dX3_removeLowest_7 : decode cX3_removeLowest 7 = .ok (.iload_n 1, 1) := by decide +kernel
theorem dX3_removeLowest_8 : decode cX3_removeLowest 8 = .ok (.iload_n 2, 1) := by decide +kernel
theorem dX3_removeLowest_9 : decode cX3_removeLowest 9 = .ok (.invokevirtual 28, 3) := by decide +kernel
theorem dX3_removeLowest_12 : decode cX3_removeLowest 12 = .ok (.ifCond .ne 5, 3) := by decide +kernel
theorem dX3_removeLowest_15 : decode cX3_removeLowest 15 = .ok (.iconst (-1), 1) := by decide +kernel
theorem dX3_removeLowest_16 : decode cX3_removeLowest 16 = .ok (.ireturn, 1) := by decide +kernel
theorem dX3_removeLowest_17 : decode cX3_removeLowest 17 = .ok (.aload_n 0, 1) := by decide +kernel
theorem dX3_removeLowest_18 : decode cX3_removeLowest 18 = .ok (.getfield 15, 3) := by decide +kernel
theorem dX3_removeLowest_21 : decode cX3_removeLowest 21 = .ok (.iload_n 1, 1) := by decide +kernel
theorem dX3_removeLowest_22 : decode cX3_removeLowest 22 = .ok (.dup2, 1) := by decide +kernel
theorem dX3_removeLowest_23 : decode cX3_removeLowest 23 = .ok (.iaload, 1) := by decide +kernel
theorem dX3_removeLowest_24 : decode cX3_removeLowest 24 = .ok (.iconst 1, 1) := by decide +kernel
theorem dX3_removeLowest_25 : decode cX3_removeLowest 25 = .ok (.isub, 1) := by decide +kernel
theorem dX3_removeLowest_26 : decode cX3_removeLowest 26 = .ok (.iastore, 1) := by decide +kernel
theorem dX3_removeLowest_27 : decode cX3_removeLowest 27 = .ok (.aload_n 0, 1) := by decide +kernel
theorem dX3_removeLowest_28 : decode cX3_removeLowest 28 = .ok (.getfield 9, 3) := by decide +kernel
theorem dX3_removeLowest_31 : decode cX3_removeLowest 31 = .ok (.iload_n 1, 1) := by decide +kernel
theorem dX3_removeLowest_32 : decode cX3_removeLowest 32 = .ok (.iconst 4, 1) := by decide +kernel
theorem dX3_removeLowest_33 : decode cX3_removeLowest 33 = .ok (.imul, 1) := by decide +kernel
theorem dX3_removeLowest_34 : decode cX3_removeLowest 34 = .ok (.iload_n 2, 1) := by decide +kernel
theorem dX3_removeLowest_35 : decode cX3_removeLowest 35 = .ok (.iadd, 1) := by decide +kernel
theorem dX3_removeLowest_36 : decode cX3_removeLowest 36 = .ok (.iconst 1, 1) := by decide +kernel
theorem dX3_removeLowest_37 : decode cX3_removeLowest 37 = .ok (.isub, 1) := by decide +kernel
theorem dX3_removeLowest_38 : decode cX3_removeLowest 38 = .ok (.iaload, 1) := by decide +kernel
theorem dX3_removeLowest_39 : decode cX3_removeLowest 39 = .ok (.ireturn, 1) := by decide +kernel
theorem dX3_swap_0 : decode cX3_swap 0 = .ok (.iload_n 1, 1) := by decide +kernel
theorem dX3_swap_1 : decode cX3_swap 1 = .ok (.iconst 5, 1) := by decide +kernel
theorem dX3_swap_2 : decode cX3_swap 2 = .ok (.invokestatic 24, 3) := by decide +kernel
theorem dX3_swap_5 : decode cX3_swap 5 = .ok (.ifCond .eq 11, 3) := by decide +kernel
theorem dX3_swap_8 : decode cX3_swap 8 = .ok (.iload_n 2, 1) := by decide +kernel
theorem dX3_swap_9 : decode cX3_swap 9 = .ok (.iconst 5, 1) := by decide +kernel
theorem dX3_swap_10 : decode cX3_swap 10 = .ok (.invokestatic 24, 3) := by decide +kernel
theorem dX3_swap_13 : decode cX3_swap 13 = .ok (.ifCond .ne 4, 3) := by decide +kernel
theorem dX3_swap_16 : decode cX3_swap 16 = .ok (.return_, 1) := by decide +kernel
theorem dX3_swap_17 : decode cX3_swap 17 = .ok (.iconst 0, 1) := by decide +kernel
theorem dX3_swap_18 : decode cX3_swap 18 = .ok (.istore_n 3, 1) := by decide +kernel
theorem dX3_swap_19 : decode cX3_swap 19 = .ok (.iload_n 3, 1) := by decide +kernel
theorem dX3_swap_20 : decode cX3_swap 20 = .ok (.iconst 4, 1) := by decide +kernel
theorem dX3_swap_21 : decode cX3_swap 21 = .ok (.if_icmp .ge 53, 3) := by decide +kernel
theorem dX3_swap_24 : decode cX3_swap 24 = .ok (.aload_n 0, 1) := by decide +kernel
theorem dX3_swap_25 : decode cX3_swap 25 = .ok (.getfield 9, 3) := by decide +kernel
theorem dX3_swap_28 : decode cX3_swap 28 = .ok (.iload_n 1, 1) := by decide +kernel
theorem dX3_swap_29 : decode cX3_swap 29 = .ok (.iconst 4, 1) := by decide +kernel
theorem dX3_swap_30 : decode cX3_swap 30 = .ok (.imul, 1) := by decide +kernel
theorem dX3_swap_31 : decode cX3_swap 31 = .ok (.iload_n 3, 1) := by decide +kernel
theorem dX3_swap_32 : decode cX3_swap 32 = .ok (.iadd, 1) := by decide +kernel
theorem dX3_swap_33 : decode cX3_swap 33 = .ok (.iaload, 1) := by decide +kernel
theorem dX3_swap_34 : decode cX3_swap 34 = .ok (.istore 4, 2) := by decide +kernel
theorem dX3_swap_36 : decode cX3_swap 36 = .ok (.aload_n 0, 1) := by decide +kernel
theorem dX3_swap_37 : decode cX3_swap 37 = .ok (.getfield 9, 3) := by decide +kernel
theorem dX3_swap_40 : decode cX3_swap 40 = .ok (.iload_n 1, 1) := by decide +kernel
theorem dX3_swap_41 : decode cX3_swap 41 = .ok (.iconst 4, 1) := by decide +kernel
theorem dX3_swap_42 : decode cX3_swap 42 = .ok (.imul, 1) := by decide +kernel
theorem dX3_swap_43 : decode cX3_swap 43 = .ok (.iload_n 3, 1) := by decide +kernel
theorem dX3_swap_44 : decode cX3_swap 44 = .ok (.iadd, 1) := by decide +kernel
theorem dX3_swap_45 : decode cX3_swap 45 = .ok (.aload_n 0, 1) := by decide +kernel
theorem dX3_swap_46 : decode cX3_swap 46 = .ok (.getfield 9, 3) := by decide +kernel
theorem dX3_swap_49 : decode cX3_swap 49 = .ok (.iload_n 2, 1) := by decide +kernel
theorem dX3_swap_50 : decode cX3_swap 50 = .ok (.iconst 4, 1) := by decide +kernel
theorem dX3_swap_51 : decode cX3_swap 51 = .ok (.imul, 1) := by decide +kernel
theorem dX3_swap_52 : decode cX3_swap 52 = .ok (.iload_n 3, 1) := by decide +kernel
theorem dX3_swap_53 : decode cX3_swap 53 = .ok (.iadd, 1) := by decide +kernel
theorem dX3_swap_54 : decode cX3_swap 54 = .ok (.iaload, 1) := by decide +kernel
theorem dX3_swap_55 : decode cX3_swap 55 = .ok (.iastore, 1) := by decide +kernel
theorem dX3_swap_56 : decode cX3_swap 56 = .ok (.aload_n 0, 1) := by decide +kernel
theorem dX3_swap_57 : decode cX3_swap 57 = .ok (.getfield 9, 3) := by decide +kernel
theorem dX3_swap_60 : decode cX3_swap 60 = .ok (.iload_n 2, 1) := by decide +kernel
theorem dX3_swap_61 : decode cX3_swap 61 = .ok (.iconst 4, 1) := by decide +kernel
theorem dX3_swap_62 : decode cX3_swap 62 = .ok (.imul, 1) := by decide +kernel
theorem dX3_swap_63 : decode cX3_swap 63 = .ok (.iload_n 3, 1) := by decide +kernel
theorem dX3_swap_64 : decode cX3_swap 64 = .ok (.iadd, 1) := by decide +kernel
theorem dX3_swap_65 : decode cX3_swap 65 = .ok (.iload 4, 2) := by decide +kernel
theorem dX3_swap_67 : decode cX3_swap 67 = .ok (.iastore, 1) := by decide +kernel
theorem dX3_swap_68 : decode cX3_swap 68 = .ok (.iinc 3 1, 3) := by decide +kernel
theorem dX3_swap_71 : decode cX3_swap 71 = .ok (.goto (-52), 3) := by decide +kernel
theorem dX3_swap_74 : decode cX3_swap 74 = .ok (.aload_n 0, 1) := by decide +kernel
theorem dX3_swap_75 : decode cX3_swap 75 = .ok (.getfield 15, 3) := by decide +kernel
theorem dX3_swap_78 : decode cX3_swap 78 = .ok (.iload_n 1, 1) := by decide +kernel
theorem dX3_swap_79 : decode cX3_swap 79 = .ok (.iaload, 1) := by decide +kernel
theorem dX3_swap_80 : decode cX3_swap 80 = .ok (.istore_n 3, 1) := by decide +kernel
theorem dX3_swap_81 : decode cX3_swap 81 = .ok (.aload_n 0, 1) := by decide +kernel
theorem dX3_swap_82 : decode cX3_swap 82 = .ok (.getfield 15, 3) := by decide +kernel
theorem dX3_swap_85 : decode cX3_swap 85 = .ok (.iload_n 1, 1) := by decide +kernel
theorem dX3_swap_86 : decode cX3_swap 86 = .ok (.aload_n 0, 1) := by decide +kernel
theorem dX3_swap_87 : decode cX3_swap 87 = .ok (.getfield 15, 3) := by decide +kernel
theorem dX3_swap_90 : decode cX3_swap 90 = .ok (.iload_n 2, 1) := by decide +kernel
theorem dX3_swap_91 : decode cX3_swap 91 = .ok (.iaload, 1) := by decide +kernel
theorem dX3_swap_92 : decode cX3_swap 92 = .ok (.iastore, 1) := by decide +kernel
theorem dX3_swap_93 : decode cX3_swap 93 = .ok (.aload_n 0, 1) := by decide +kernel
theorem dX3_swap_94 : decode cX3_swap 94 = .ok (.getfield 15, 3) := by decide +kernel
theorem dX3_swap_97 : decode cX3_swap 97 = .ok (.iload_n 2, 1) := by decide +kernel
theorem dX3_swap_98 : decode cX3_swap 98 = .ok (.iload_n 3, 1) := by decide +kernel
theorem dX3_swap_99 : decode cX3_swap 99 = .ok (.iastore, 1) := by decide +kernel
theorem dX3_swap_100 : decode cX3_swap 100 = .ok (.return_, 1) := by decide +kernel
theorem dX3_countAll_0 : decode cX3_countAll 0 = .ok (.iconst 0, 1) := by decide +kernel
theorem dX3_countAll_1 : decode cX3_countAll 1 = .ok (.istore_n 1, 1) := by decide +kernel
theorem dX3_countAll_2 : decode cX3_countAll 2 = .ok (.iconst 0, 1) := by decide +kernel
theorem dX3_countAll_3 : decode cX3_countAll 3 = .ok (.istore_n 2, 1) := by decide +kernel
theorem dX3_countAll_4 : decode cX3_countAll 4 = .ok (.iload_n 2, 1) := by decide +kernel
theorem dX3_countAll_5 : decode cX3_countAll 5 = .ok (.iconst 5, 1) := by decide +kernel
theorem dX3_countAll_6 : decode cX3_countAll 6 = .ok (.if_icmp .ge 18, 3) := by decide +kernel
theorem dX3_countAll_9 : decode cX3_countAll 9 = .ok (.iload_n 1, 1) := by decide +kernel
theorem dX3_countAll_10 : decode cX3_countAll 10 = .ok (.aload_n 0, 1) := by decide +kernel
theorem dX3_countAll_11 : decode cX3_countAll 11 = .ok (.getfield 15, 3) := by decide +kernel
theorem dX3_countAll_14 : decode cX3_countAll 14 = .ok (.iload_n 2, 1) := by decide +kernel
theorem dX3_countAll_15 : decode cX3_countAll 15 = .ok (.iaload, 1) := by decide +kernel
theorem dX3_countAll_16 : decode cX3_countAll 16 = .ok (.iadd, 1) := by decide +kernel
theorem dX3_countAll_17 : decode cX3_countAll 17 = .ok (.istore_n 1, 1) := by decide +kernel
theorem dX3_countAll_18 : decode cX3_countAll 18 = .ok (.iinc 2 1, 3) := by decide +kernel
theorem dX3_countAll_21 : decode cX3_countAll 21 = .ok (.goto (-17), 3) := by decide +kernel
theorem dX3_countAll_24 : decode cX3_countAll 24 = .ok (.iload_n 1, 1) := by decide +kernel
theorem dX3_countAll_25 : decode cX3_countAll 25 = .ok (.ireturn, 1) := by decide +kernel
theorem dX3_countNotEmpty_0 : decode cX3_countNotEmpty 0 = .ok (.iconst 0, 1) := by decide +kernel
theorem dX3_countNotEmpty_1 : decode cX3_countNotEmpty 1 = .ok (.istore_n 1, 1) := by decide +kernel
theorem dX3_countNotEmpty_2 : decode cX3_countNotEmpty 2 = .ok (.iconst 0, 1) := by decide +kernel
theorem dX3_countNotEmpty_3 : decode cX3_countNotEmpty 3 = .ok (.istore_n 2, 1) := by decide +kernel
theorem dX3_countNotEmpty_4 : decode cX3_countNotEmpty 4 = .ok (.iload_n 2, 1) := by decide +kernel
theorem dX3_countNotEmpty_5 : decode cX3_countNotEmpty 5 = .ok (.iconst 5, 1) := by decide +kernel
theorem dX3_countNotEmpty_6 : decode cX3_countNotEmpty 6 = .ok (.if_icmp .ge 21, 3) := by decide +kernel
theorem dX3_countNotEmpty_9 : decode cX3_countNotEmpty 9 = .ok (.aload_n 0, 1) := by decide +kernel
theorem dX3_countNotEmpty_10 : decode cX3_countNotEmpty 10 = .ok (.getfield 15, 3) := by decide +kernel
theorem dX3_countNotEmpty_13 : decode cX3_countNotEmpty 13 = .ok (.iload_n 2, 1) := by decide +kernel
theorem dX3_countNotEmpty_14 : decode cX3_countNotEmpty 14 = .ok (.iaload, 1) := by decide +kernel
theorem dX3_countNotEmpty_15 : decode cX3_countNotEmpty 15 = .ok (.ifCond .le 6, 3) := by decide +kernel
theorem dX3_countNotEmpty_18 : decode cX3_countNotEmpty 18 = .ok (.iinc 1 1, 3) := by decide +kernel
theorem dX3_countNotEmpty_21 : decode cX3_countNotEmpty 21 = .ok (.iinc 2 1, 3) := by decide +kernel
theorem dX3_countNotEmpty_24 : decode cX3_countNotEmpty 24 = .ok (.goto (-20), 3) := by decide +kernel
theorem dX3_countNotEmpty_27 : decode cX3_countNotEmpty 27 = .ok (.iload_n 1, 1) := by decide +kernel
theorem dX3_countNotEmpty_28 : decode cX3_countNotEmpty 28 = .ok (.ireturn, 1) := by decide +kernel
theorem dX3_countOf_0 : decode cX3_countOf 0 = .ok (.iconst 0, 1) := by decide +kernel
theorem dX3_countOf_1 : decode cX3_countOf 1 = .ok (.istore_n 2, 1) := by decide +kernel
theorem dX3_countOf_2 : decode cX3_countOf 2 = .ok (.iconst 0, 1) := by decide +kernel
theorem dX3_countOf_3 : decode cX3_countOf 3 = .ok (.istore_n 3, 1) := by decide +kernel
theorem dX3_countOf_4 : decode cX3_countOf 4 = .ok (.iload_n 3, 1) := by decide +kernel
theorem dX3_countOf_5 : decode cX3_countOf 5 = .ok (.iconst 5, 1) := by decide +kernel
theorem dX3_countOf_6 : decode cX3_countOf 6 = .ok (.if_icmp .ge 43, 3) := by decide +kernel
theorem dX3_countOf_9 : decode cX3_countOf 9 = .ok (.iconst 1, 1) := by decide +kernel
theorem dX3_countOf_10 : decode cX3_countOf 10 = .ok (.istore 4, 2) := by decide +kernel
theorem dX3_countOf_12 : decode cX3_countOf 12 = .ok (.iload 4, 2) := by decide +kernel
theorem dX3_countOf_14 : decode cX3_countOf 14 = .ok (.aload_n 0, 1) := by decide +kernel
theorem dX3_countOf_15 : decode cX3_countOf 15 = .ok (.getfield 15, 3) := by decide +kernel
theorem dX3_countOf_18 : decode cX3_countOf 18 = .ok (.iload_n 3, 1) := by decide +kernel
theorem dX3_countOf_19 : decode cX3_countOf 19 = .ok (.iaload, 1) := by decide +kernel
theorem dX3_countOf_20 : decode cX3_countOf 20 = .ok (.if_icmp .gt 23, 3) := by decide +kernel
theorem dX3_countOf_23 : decode cX3_countOf 23 = .ok (.aload_n 0, 1) := by decide +kernel
theorem dX3_countOf_24 : decode cX3_countOf 24 = .ok (.iload_n 3, 1) := by decide +kernel
theorem dX3_countOf_25 : decode cX3_countOf 25 = .ok (.iload 4, 2) := by decide +kernel
theorem dX3_countOf_27 : decode cX3_countOf 27 = .ok (.invokevirtual 31, 3) := by decide +kernel
theorem dX3_countOf_30 : decode cX3_countOf 30 = .ok (.iload_n 1, 1) := by decide +kernel
theorem dX3_countOf_31 : decode cX3_countOf 31 = .ok (.if_icmp .ne 6, 3) := by decide +kernel
theorem dX3_countOf_34 : decode cX3_countOf 34 = .ok (.iinc 2 1, 3) := by decide +kernel
theorem dX3_countOf_37 : decode cX3_countOf 37 = .ok (.iinc 4 1, 3) := by decide +kernel
theorem dX3_countOf_40 : decode cX3_countOf 40 = .ok (.goto (-28), 3) := by decide +kernel
theorem dX3_countOf_43 : decode cX3_countOf 43 = .ok (.iinc 3 1, 3) := by decide +kernel
theorem dX3_countOf_46 : decode cX3_countOf 46 = .ok (.goto (-42), 3) := by decide +kernel
theorem dX3_countOf_49 : decode cX3_countOf 49 = .ok (.iload_n 2, 1) := by decide +kernel
theorem dX3_countOf_50 : decode cX3_countOf 50 = .ok (.ireturn, 1) := by decide +kernel
theorem dX3_mostOfAKind_0 : decode cX3_mostOfAKind 0 = .ok (.iconst 0, 1) := by decide +kernel
theorem dX3_mostOfAKind_1 : decode cX3_mostOfAKind 1 = .ok (.istore_n 1, 1) := by decide +kernel
theorem dX3_mostOfAKind_2 : decode cX3_mostOfAKind 2 = .ok (.iconst 0, 1) := by decide +kernel
theorem dX3_mostOfAKind_3 : decode cX3_mostOfAKind 3 = .ok (.istore_n 2, 1) := by decide +kernel
theorem dX3_mostOfAKind_4 : decode cX3_mostOfAKind 4 = .ok (.iload_n 2, 1) := by decide +kernel
theorem dX3_mostOfAKind_5 : decode cX3_mostOfAKind 5 = .ok (.bipush 13, 2) := by decide +kernel
theorem dX3_mostOfAKind_7 : decode cX3_mostOfAKind 7 = .ok (.if_icmp .gt 19, 3) := by decide +kernel
theorem dX3_mostOfAKind_10 : decode cX3_mostOfAKind 10 = .ok (.iload_n 1, 1) := by decide +kernel
theorem dX3_mostOfAKind_11 : decode cX3_mostOfAKind 11 = .ok (.aload_n 0, 1) := by decide +kernel
theorem dX3_mostOfAKind_12 : decode cX3_mostOfAKind 12 = .ok (.iload_n 2, 1) := by decide +kernel
theorem dX3_mostOfAKind_13 : decode cX3_mostOfAKind 13 = .ok (.invokevirtual 39, 3) := by decide +kernel
theorem dX3_mostOfAKind_16 : decode cX3_mostOfAKind 16 = .ok (.invokestatic 42, 3) := by decide +kernel
theorem dX3_mostOfAKind_19 : decode cX3_mostOfAKind 19 = .ok (.istore_n 1, 1) := by decide +kernel
theorem dX3_mostOfAKind_20 : decode cX3_mostOfAKind 20 = .ok (.iinc 2 1, 3) := by decide +kernel
theorem dX3_mostOfAKind_23 : decode cX3_mostOfAKind 23 = .ok (.goto (-19), 3) := by decide +kernel
theorem dX3_mostOfAKind_26 : decode cX3_mostOfAKind 26 = .ok (.iload_n 1, 1) := by decide +kernel
theorem dX3_mostOfAKind_27 : decode cX3_mostOfAKind 27 = .ok (.ireturn, 1) := by decide +kernel
theorem dX4_init_0 : decode cX4_init 0 = .ok (.aload_n 0, 1) := by decide +kernel
theorem dX4_init_1 : decode cX4_init 1 = .ok (.invokespecial 3, 3) := by decide +kernel
theorem dX4_init_4 : decode cX4_init 4 = .ok (.aload_n 0, 1) := by decide +kernel
theorem dX4_init_5 : decode cX4_init 5 = .ok (.bipush 40, 2) := by decide +kernel
theorem dX4_init_7 : decode cX4_init 7 = .ok (.newarray .int, 2) := by decide +kernel
theorem dX4_init_9 : decode cX4_init 9 = .ok (.putfield 9, 3) := by decide +kernel
theorem dX4_init_12 : decode cX4_init 12 = .ok (.aload_n 0, 1) := by decide +kernel
theorem dX4_init_13 : decode cX4_init 13 = .ok (.bipush 8, 2) := by decide +kernel
theorem dX4_init_15 : decode cX4_init 15 = .ok (.newarray .int, 2) := by decide +kernel
theorem dX4_init_17 : decode cX4_init 17 = .ok (.putfield 15, 3) := by decide +kernel
theorem dX4_init_20 : decode cX4_init 20 = .ok (.aload_n 0, 1) := by decide +kernel
theorem dX4_init_21 : decode cX4_init 21 = .ok (.iconst 0, 1) := by decide +kernel
theorem dX4_init_22 : decode cX4_init 22 = .ok (.putfield 18, 3) := by decide +kernel
theorem dX4_init_25 : decode cX4_init 25 = .ok (.aload_n 0, 1) := by decide +kernel
theorem dX4_init_26 : decode cX4_init 26 = .ok (.iconst 0, 1) := by decide +kernel
theorem dX4_init_27 : decode cX4_init 27 = .ok (.putfield 22, 3) := by decide +kernel
theorem dX4_init_30 : decode cX4_init 30 = .ok (.return_, 1) := by decide +kernel
theorem dX4_copyFrom_0 : decode cX4_copyFrom 0 = .ok (.aload_n 1, 1) := by decide +kernel
theorem dX4_copyFrom_1 : decode cX4_copyFrom 1 = .ok (.getfield 9, 3) := by decide +kernel
theorem dX4_copyFrom_4 : decode cX4_copyFrom 4 = .ok (.iconst 0, 1) := by decide +kernel
theorem dX4_copyFrom_5 : decode cX4_copyFrom 5 = .ok (.aload_n 0, 1) := by decide +kernel
theorem dX4_copyFrom_6 : decode cX4_copyFrom 6 = .ok (.getfield 9, 3) := by decide +kernel
theorem dX4_copyFrom_9 : decode cX4_copyFrom 9 = .ok (.iconst 0, 1) := by decide +kernel
theorem dX4_copyFrom_10 : decode cX4_copyFrom 10 = .ok (.bipush 40, 2) := by decide +kernel
theorem dX4_copyFrom_12 : decode cX4_copyFrom 12 = .ok (.invokestatic 25, 3) := by decide +kernel
theorem dX4_copyFrom_15 : decode cX4_copyFrom 15 = .ok (.aload_n 1, 1) := by decide +kernel
theorem dX4_copyFrom_16 : decode cX4_copyFrom 16 = .ok (.getfield 15, 3) := by decide +kernel
theorem dX4_copyFrom_19 : decode cX4_copyFrom 19 = .ok (.iconst 0, 1) := by decide +kernel
theorem dX4_copyFrom_20 : decode cX4_copyFrom 20 = .ok (.aload_n 0, 1) := by decide +kernel
theorem dX4_copyFrom_21 : decode cX4_copyFrom 21 = .ok (.getfield 15, 3) := by decide +kernel
theorem dX4_copyFrom_24 : decode cX4_copyFrom 24 = .ok (.iconst 0, 1) := by decide +kernel
theorem dX4_copyFrom_25 : decode cX4_copyFrom 25 = .ok (.bipush 8, 2) := by decide +kernel
theorem dX4_copyFrom_27 : decode cX4_copyFrom 27 = .ok (.invokestatic 25, 3) := by decide +kernel
theorem dX4_copyFrom_30 : decode cX4_copyFrom 30 = .ok (.aload_n 0, 1) := by decide +kernel
theorem dX4_copyFrom_31 : decode cX4_copyFrom 31 = .ok (.aload_n 1, 1) := by decide +kernel
theorem dX4_copyFrom_32 : decode cX4_copyFrom 32 = .ok (.getfield 18, 3) := by decide +kernel
theorem dX4_copyFrom_35 : decode cX4_copyFrom 35 = .ok (.putfield 18, 3) := by decide +kernel
theorem dX4_copyFrom_38 : decode cX4_copyFrom 38 = .ok (.aload_n 0, 1) := by decide +kernel
theorem dX4_copyFrom_39 : decode cX4_copyFrom 39 = .ok (.aload_n 1, 1) := by decide +kernel
theorem dX4_copyFrom_40 : decode cX4_copyFrom 40 = .ok (.getfield 22, 3) := by decide +kernel
theorem dX4_copyFrom_43 : decode cX4_copyFrom 43 = .ok (.putfield 22, 3) := by decide +kernel
theorem dX4_copyFrom_46 : decode cX4_copyFrom 46 = .ok (.return_, 1) := by decide +kernel
theorem dX4_size_0 : decode cX4_size 0 = .ok (.aload_n 0, 1) := by decide +kernel
theorem dX4_size_1 : decode cX4_size 1 = .ok (.getfield 18, 3) := by decide +kernel
theorem dX4_size_4 : decode cX4_size 4 = .ok (.ireturn, 1) := by decide +kernel
theorem dX4_countAll_0 : decode cX4_countAll 0 = .ok (.aload_n 0, 1) := by decide +kernel
theorem dX4_countAll_1 : decode cX4_countAll 1 = .ok (.getfield 22, 3) := by decide +kernel
theorem dX4_countAll_4 : decode cX4_countAll 4 = .ok (.ireturn, 1) := by decide +kernel
theorem dX4_wordsOf_0 : decode cX4_wordsOf 0 = .ok (.iload_n 1, 1) := by decide +kernel
theorem dX4_wordsOf_1 : decode cX4_wordsOf 1 = .ok (.bipush 8, 2) := by decide +kernel
theorem dX4_wordsOf_3 : decode cX4_wordsOf 3 = .ok (.invokestatic 31, 3) := by decide +kernel
theorem dX4_wordsOf_6 : decode cX4_wordsOf 6 = .ok (.ifCond .eq 12, 3) := by decide +kernel
theorem dX4_wordsOf_9 : decode cX4_wordsOf 9 = .ok (.aload_n 0, 1) := by decide +kernel
theorem dX4_wordsOf_10 : decode cX4_wordsOf 10 = .ok (.getfield 15, 3) := by decide +kernel
theorem dX4_wordsOf_13 : decode cX4_wordsOf 13 = .ok (.iload_n 1, 1) := by decide +kernel
theorem dX4_wordsOf_14 : decode cX4_wordsOf 14 = .ok (.iaload, 1) := by decide +kernel
theorem dX4_wordsOf_15 : decode cX4_wordsOf 15 = .ok (.goto 4, 3) := by decide +kernel
theorem dX4_wordsOf_18 : decode cX4_wordsOf 18 = .ok (.iconst 0, 1) := by decide +kernel
theorem dX4_wordsOf_19 : decode cX4_wordsOf 19 = .ok (.ireturn, 1) := by decide +kernel
theorem dX4_wordAt_0 : decode cX4_wordAt 0 = .ok (.iload_n 2, 1) := by decide +kernel
theorem dX4_wordAt_1 : decode cX4_wordAt 1 = .ok (.iconst 5, 1) := by decide +kernel
theorem dX4_wordAt_2 : decode cX4_wordAt 2 = .ok (.invokestatic 31, 3) := by decide +kernel
theorem dX4_wordAt_5 : decode cX4_wordAt 5 = .ok (.ifCond .eq 25, 3) := by decide +kernel
theorem dX4_wordAt_8 : decode cX4_wordAt 8 = .ok (.iload_n 1, 1) := by decide +kernel
theorem dX4_wordAt_9 : decode cX4_wordAt 9 = .ok (.bipush 8, 2) := by decide +kernel
theorem dX4_wordAt_11 : decode cX4_wordAt 11 = .ok (.invokestatic 31, 3) := by decide +kernel
theorem dX4_wordAt_14 : decode cX4_wordAt 14 = .ok (.ifCond .eq 16, 3) := by decide +kernel
theorem dX4_wordAt_17 : decode cX4_wordAt 17 = .ok (.aload_n 0, 1) := by decide +kernel
theorem dX4_wordAt_18 : decode cX4_wordAt 18 = .ok (.getfield 9, 3) := by decide +kernel
theorem dX4_wordAt_21 : decode cX4_wordAt 21 = .ok (.iload_n 1, 1) := by decide +kernel
theorem dX4_wordAt_22 : decode cX4_wordAt 22 = .ok (.iconst 5, 1) := by decide +kernel
theorem dX4_wordAt_23 : decode cX4_wordAt 23 = .ok (.imul, 1) := by decide +kernel
theorem dX4_wordAt_24 : decode cX4_wordAt 24 = .ok (.iload_n 2, 1) := by decide +kernel
theorem dX4_wordAt_25 : decode cX4_wordAt 25 = .ok (.iadd, 1) := by decide +kernel
theorem dX4_wordAt_26 : decode cX4_wordAt 26 = .ok (.iaload, 1) := by decide +kernel
theorem dX4_wordAt_27 : decode cX4_wordAt 27 = .ok (.goto 5, 3) := by decide +kernel
theorem dX4_wordAt_30 : decode cX4_wordAt 30 = .ok (.bipush (-6), 2) := by decide +kernel
theorem dX4_wordAt_32 : decode cX4_wordAt 32 = .ok (.ireturn, 1) := by decide +kernel
theorem dX4_add_0 : decode cX4_add 0 = .ok (.aload_n 0, 1) := by decide +kernel
theorem dX4_add_1 : decode cX4_add 1 = .ok (.getfield 18, 3) := by decide +kernel
theorem dX4_add_4 : decode cX4_add 4 = .ok (.bipush 8, 2) := by decide +kernel
theorem dX4_add_6 : decode cX4_add 6 = .ok (.if_icmp .lt 39, 3) := by decide +kernel
theorem dX4_add_9 : decode cX4_add 9 = .ok (.aload_n 0, 1) := by decide +kernel
theorem dX4_add_10 : decode cX4_add 10 = .ok (.getfield 9, 3) := by decide +kernel
theorem dX4_add_13 : decode cX4_add 13 = .ok (.iconst 5, 1) := by decide +kernel
theorem dX4_add_14 : decode cX4_add 14 = .ok (.aload_n 0, 1) := by decide +kernel
theorem dX4_add_15 : decode cX4_add 15 = .ok (.getfield 9, 3) := by decide +kernel
theorem dX4_add_18 : decode cX4_add 18 = .ok (.iconst 0, 1) := by decide +kernel
theorem dX4_add_19 : decode cX4_add 19 = .ok (.bipush 35, 2) := by decide +kernel
theorem dX4_add_21 : decode cX4_add 21 = .ok (.invokestatic 25, 3) := by decide +kernel
theorem dX4_add_24 : decode cX4_add 24 = .ok (.aload_n 0, 1) := by decide +kernel
theorem dX4_add_25 : decode cX4_add 25 = .ok (.getfield 15, 3) := by decide +kernel
theorem dX4_add_28 : decode cX4_add 28 = .ok (.iconst 1, 1) := by decide +kernel
theorem dX4_add_29 : decode cX4_add 29 = .ok (.aload_n 0, 1) := by decide +kernel
theorem dX4_add_30 : decode cX4_add 30 = .ok (.getfield 15, 3) := by decide +kernel
theorem dX4_add_33 : decode cX4_add 33 = .ok (.iconst 0, 1) := by decide +kernel
theorem dX4_add_34 : decode cX4_add 34 = .ok (.bipush 7, 2) := by decide +kernel
theorem dX4_add_36 : decode cX4_add 36 = .ok (.invokestatic 25, 3) := by decide +kernel
theorem dX4_add_39 : decode cX4_add 39 = .ok (.aload_n 0, 1) := by decide +kernel
theorem dX4_add_40 : decode cX4_add 40 = .ok (.bipush 7, 2) := by decide +kernel
theorem dX4_add_42 : decode cX4_add 42 = .ok (.putfield 18, 3) := by decide +kernel
theorem dX4_add_45 : decode cX4_add 45 = .ok (.aload_n 0, 1) := by decide +kernel
theorem dX4_add_46 : decode cX4_add 46 = .ok (.getfield 18, 3) := by decide +kernel
theorem dX4_add_49 : decode cX4_add 49 = .ok (.bipush 8, 2) := by decide +kernel
theorem dX4_add_51 : decode cX4_add 51 = .ok (.invokestatic 31, 3) := by decide +kernel
theorem dX4_add_54 : decode cX4_add 54 = .ok (.ifCond .eq 68, 3) := by decide +kernel
theorem dX4_add_57 : decode cX4_add 57 = .ok (.iconst 0, 1) := by decide +kernel
theorem dX4_add_58 : decode cX4_add 58 = .ok (.istore_n 3, 1) := by decide +kernel
theorem dX4_add_59 : decode cX4_add 59 = .ok (.iload_n 3, 1) := by decide +kernel
theorem dX4_add_60 : decode cX4_add 60 = .ok (.iconst 5, 1) := by decide +kernel
theorem dX4_add_61 : decode cX4_add 61 = .ok (.if_icmp .ge 31, 3) := by decide +kernel
theorem dX4_add_64 : decode cX4_add 64 = .ok (.iload_n 3, 1) := by decide +kernel
theorem dX4_add_65 : decode cX4_add 65 = .ok (.aload_n 1, 1) := by decide +kernel
theorem dX4_add_66 : decode cX4_add 66 = .ok (.arraylength, 1) := by decide +kernel
theorem dX4_add_67 : decode cX4_add 67 = .ok (.if_icmp .ge 25, 3) := by decide +kernel
theorem dX4_add_70 : decode cX4_add 70 = .ok (.aload_n 0, 1) := by decide +kernel
theorem dX4_add_71 : decode cX4_add 71 = .ok (.getfield 9, 3) := by decide +kernel
theorem dX4_add_74 : decode cX4_add 74 = .ok (.aload_n 0, 1) := by decide +kernel
theorem dX4_add_75 : decode cX4_add 75 = .ok (.getfield 18, 3) := by decide +kernel
theorem dX4_add_78 : decode cX4_add 78 = .ok (.iconst 5, 1) := by decide +kernel
theorem dX4_add_79 : decode cX4_add 79 = .ok (.imul, 1) := by decide +kernel
theorem dX4_add_80 : decode cX4_add 80 = .ok (.iload_n 3, 1) := by decide +kernel
theorem dX4_add_81 : decode cX4_add 81 = .ok (.iadd, 1) := by decide +kernel
theorem dX4_add_82 : decode cX4_add 82 = .ok (.aload_n 1, 1) := by decide +kernel
theorem dX4_add_83 : decode cX4_add 83 = .ok (.iload_n 3, 1) := by decide +kernel
theorem dX4_add_84 : decode cX4_add 84 = .ok (.iaload, 1) := by decide +kernel
theorem dX4_add_85 : decode cX4_add 85 = .ok (.iastore, 1) := by decide +kernel
theorem dX4_add_86 : decode cX4_add 86 = .ok (.iinc 3 1, 3) := by decide +kernel
theorem dX4_add_89 : decode cX4_add 89 = .ok (.goto (-30), 3) := by decide +kernel
theorem dX4_add_92 : decode cX4_add 92 = .ok (.aload_n 0, 1) := by decide +kernel
theorem dX4_add_93 : decode cX4_add 93 = .ok (.getfield 15, 3) := by decide +kernel
theorem dX4_add_96 : decode cX4_add 96 = .ok (.aload_n 0, 1) := by decide +kernel
theorem dX4_add_97 : decode cX4_add 97 = .ok (.getfield 18, 3) := by decide +kernel
theorem dX4_add_100 : decode cX4_add 100 = .ok (.iload_n 2, 1) := by decide +kernel
theorem dX4_add_101 : decode cX4_add 101 = .ok (.iastore, 1) := by decide +kernel
theorem dX4_add_102 : decode cX4_add 102 = .ok (.aload_n 0, 1) := by decide +kernel
theorem dX4_add_103 : decode cX4_add 103 = .ok (.dup, 1) := by decide +kernel
theorem dX4_add_104 : decode cX4_add 104 = .ok (.getfield 18, 3) := by decide +kernel
theorem dX4_add_107 : decode cX4_add 107 = .ok (.iconst 1, 1) := by decide +kernel
theorem dX4_add_108 : decode cX4_add 108 = .ok (.iadd, 1) := by decide +kernel
theorem dX4_add_109 : decode cX4_add 109 = .ok (.putfield 18, 3) := by decide +kernel
theorem dX4_add_112 : decode cX4_add 112 = .ok (.aload_n 0, 1) := by decide +kernel
theorem dX4_add_113 : decode cX4_add 113 = .ok (.dup, 1) := by decide +kernel
theorem dX4_add_114 : decode cX4_add 114 = .ok (.getfield 22, 3) := by decide +kernel
theorem dX4_add_117 : decode cX4_add 117 = .ok (.iconst 1, 1) := by decide +kernel
theorem dX4_add_118 : decode cX4_add 118 = .ok (.iadd, 1) := by decide +kernel
theorem dX4_add_119 : decode cX4_add 119 = .ok (.putfield 22, 3) := by decide +kernel
theorem dX4_add_122 : decode cX4_add 122 = .ok (.return_, 1) := by decide +kernel
theorem dX5_init_0 : decode cX5_init 0 = .ok (.aload_n 0, 1) := by decide +kernel
theorem dX5_init_1 : decode cX5_init 1 = .ok (.invokespecial 3, 3) := by decide +kernel
theorem dX5_init_4 : decode cX5_init 4 = .ok (.aload_n 0, 1) := by decide +kernel
theorem dX5_init_5 : decode cX5_init 5 = .ok (.iconst 5, 1) := by decide +kernel
theorem dX5_init_6 : decode cX5_init 6 = .ok (.newarray .int, 2) := by decide +kernel
theorem dX5_init_8 : decode cX5_init 8 = .ok (.putfield 9, 3) := by decide +kernel
theorem dX5_init_11 : decode cX5_init 11 = .ok (.aload_n 0, 1) := by decide +kernel
theorem dX5_init_12 : decode cX5_init 12 = .ok (.iconst 5, 1) := by decide +kernel
theorem dX5_init_13 : decode cX5_init 13 = .ok (.newarray .int, 2) := by decide +kernel
theorem dX5_init_15 : decode cX5_init 15 = .ok (.putfield 15, 3) := by decide +kernel
theorem dX5_init_18 : decode cX5_init 18 = .ok (.aload_n 0, 1) := by decide +kernel
theorem dX5_init_19 : decode cX5_init 19 = .ok (.iconst 0, 1) := by decide +kernel
theorem dX5_init_20 : decode cX5_init 20 = .ok (.putfield 18, 3) := by decide +kernel
theorem dX5_init_23 : decode cX5_init 23 = .ok (.aload_n 0, 1) := by decide +kernel
theorem dX5_init_24 : decode cX5_init 24 = .ok (.iload_n 1, 1) := by decide +kernel
theorem dX5_init_25 : decode cX5_init 25 = .ok (.putfield 22, 3) := by decide +kernel
theorem dX5_init_28 : decode cX5_init 28 = .ok (.return_, 1) := by decide +kernel
theorem dX5_look_0 : decode cX5_look 0 = .ok (.aload_n 0, 1) := by decide +kernel
theorem dX5_look_1 : decode cX5_look 1 = .ok (.getfield 22, 3) := by decide +kernel
theorem dX5_look_4 : decode cX5_look 4 = .ok (.iload_n 3, 1) := by decide +kernel
theorem dX5_look_5 : decode cX5_look 5 = .ok (.invokestatic 25, 3) := by decide +kernel
theorem dX5_look_8 : decode cX5_look 8 = .ok (.istore 4, 2) := by decide +kernel
theorem dX5_look_10 : decode cX5_look 10 = .ok (.iconst 0, 1) := by decide +kernel
theorem dX5_look_11 : decode cX5_look 11 = .ok (.istore 5, 2) := by decide +kernel
theorem dX5_look_13 : decode cX5_look 13 = .ok (.iload 5, 2) := by decide +kernel
theorem dX5_look_15 : decode cX5_look 15 = .ok (.iconst 5, 1) := by decide +kernel
theorem dX5_look_16 : decode cX5_look 16 = .ok (.if_icmp .ge 25, 3) := by decide +kernel
theorem dX5_look_19 : decode cX5_look 19 = .ok (.aload_n 0, 1) := by decide +kernel
theorem dX5_look_20 : decode cX5_look 20 = .ok (.getfield 9, 3) := by decide +kernel
theorem dX5_look_23 : decode cX5_look 23 = .ok (.iload 5, 2) := by decide +kernel
theorem dX5_look_25 : decode cX5_look 25 = .ok (.aload_n 1, 1) := by decide +kernel
theorem dX5_look_26 : decode cX5_look 26 = .ok (.iload 5, 2) := by decide +kernel
theorem dX5_look_28 : decode cX5_look 28 = .ok (.iload 4, 2) := by decide +kernel
theorem dX5_look_30 : decode cX5_look 30 = .ok (.iload_n 2, 1) := by decide +kernel
theorem dX5_look_31 : decode cX5_look 31 = .ok (.invokevirtual 29, 3) := by decide +kernel
theorem dX5_look_34 : decode cX5_look 34 = .ok (.iastore, 1) := by decide +kernel
theorem dX5_look_35 : decode cX5_look 35 = .ok (.iinc 5 1, 3) := by decide +kernel
theorem dX5_look_38 : decode cX5_look 38 = .ok (.goto (-25), 3) := by decide +kernel
theorem dX5_look_41 : decode cX5_look 41 = .ok (.aload_n 0, 1) := by decide +kernel
theorem dX5_look_42 : decode cX5_look 42 = .ok (.iconst 0, 1) := by decide +kernel
theorem dX5_look_43 : decode cX5_look 43 = .ok (.iconst 0, 1) := by decide +kernel
theorem dX5_look_44 : decode cX5_look 44 = .ok (.invokevirtual 35, 3) := by decide +kernel
theorem dX5_look_47 : decode cX5_look 47 = .ok (.return_, 1) := by decide +kernel
theorem dX5_arrange_0 : decode cX5_arrange 0 = .ok (.aload_n 0, 1) := by decide +kernel
theorem dX5_arrange_1 : decode cX5_arrange 1 = .ok (.iconst 0, 1) := by decide +kernel
theorem dX5_arrange_2 : decode cX5_arrange 2 = .ok (.putfield 18, 3) := by decide +kernel
theorem dX5_arrange_5 : decode cX5_arrange 5 = .ok (.iconst 0, 1) := by decide +kernel
theorem dX5_arrange_6 : decode cX5_arrange 6 = .ok (.istore_n 3, 1) := by decide +kernel
theorem dX5_arrange_7 : decode cX5_arrange 7 = .ok (.iload_n 3, 1) := by decide +kernel
theorem dX5_arrange_8 : decode cX5_arrange 8 = .ok (.iconst 5, 1) := by decide +kernel
theorem dX5_arrange_9 : decode cX5_arrange 9 = .ok (.if_icmp .ge 104, 3) := by decide +kernel
theorem dX5_arrange_12 : decode cX5_arrange 12 = .ok (.aload_n 0, 1) := by decide +kernel
theorem dX5_arrange_13 : decode cX5_arrange 13 = .ok (.getfield 22, 3) := by decide +kernel
theorem dX5_arrange_16 : decode cX5_arrange 16 = .ok (.ifCond .ne 7, 3) := by decide +kernel
theorem dX5_arrange_19 : decode cX5_arrange 19 = .ok (.iload_n 3, 1) := by decide +kernel
theorem dX5_arrange_20 : decode cX5_arrange 20 = .ok (.goto 6, 3) := by decide +kernel
theorem dX5_arrange_23 : decode cX5_arrange 23 = .ok (.iconst 4, 1) := by decide +kernel
theorem dX5_arrange_24 : decode cX5_arrange 24 = .ok (.iload_n 3, 1) := by decide +kernel
theorem dX5_arrange_25 : decode cX5_arrange 25 = .ok (.isub, 1) := by decide +kernel
theorem dX5_arrange_26 : decode cX5_arrange 26 = .ok (.istore 4, 2) := by decide +kernel
theorem dX5_arrange_28 : decode cX5_arrange 28 = .ok (.iload 4, 2) := by decide +kernel
theorem dX5_arrange_30 : decode cX5_arrange 30 = .ok (.iload_n 1, 1) := by decide +kernel
theorem dX5_arrange_31 : decode cX5_arrange 31 = .ok (.if_icmp .ne 9, 3) := by decide +kernel
theorem dX5_arrange_34 : decode cX5_arrange 34 = .ok (.iload_n 2, 1) := by decide +kernel
theorem dX5_arrange_35 : decode cX5_arrange 35 = .ok (.istore 4, 2) := by decide +kernel
theorem dX5_arrange_37 : decode cX5_arrange 37 = .ok (.goto 12, 3) := by decide +kernel
theorem dX5_arrange_40 : decode cX5_arrange 40 = .ok (.iload 4, 2) := by decide +kernel
theorem dX5_arrange_42 : decode cX5_arrange 42 = .ok (.iload_n 2, 1) := by decide +kernel
theorem dX5_arrange_43 : decode cX5_arrange 43 = .ok (.if_icmp .ne 6, 3) := by decide +kernel
theorem dX5_arrange_46 : decode cX5_arrange 46 = .ok (.iload_n 1, 1) := by decide +kernel
theorem dX5_arrange_47 : decode cX5_arrange 47 = .ok (.istore 4, 2) := by decide +kernel
theorem dX5_arrange_49 : decode cX5_arrange 49 = .ok (.iload 4, 2) := by decide +kernel
theorem dX5_arrange_51 : decode cX5_arrange 51 = .ok (.iconst 5, 1) := by decide +kernel
theorem dX5_arrange_52 : decode cX5_arrange 52 = .ok (.invokestatic 39, 3) := by decide +kernel
theorem dX5_arrange_55 : decode cX5_arrange 55 = .ok (.ifCond .eq 52, 3) := by decide +kernel
theorem dX5_arrange_58 : decode cX5_arrange 58 = .ok (.aload_n 0, 1) := by decide +kernel
theorem dX5_arrange_59 : decode cX5_arrange 59 = .ok (.getfield 18, 3) := by decide +kernel
theorem dX5_arrange_62 : decode cX5_arrange 62 = .ok (.iconst 5, 1) := by decide +kernel
theorem dX5_arrange_63 : decode cX5_arrange 63 = .ok (.invokestatic 39, 3) := by decide +kernel
theorem dX5_arrange_66 : decode cX5_arrange 66 = .ok (.ifCond .eq 41, 3) := by decide +kernel
theorem dX5_arrange_69 : decode cX5_arrange 69 = .ok (.aload_n 0, 1) := by decide +kernel
theorem dX5_arrange_70 : decode cX5_arrange 70 = .ok (.getfield 9, 3) := by decide +kernel
theorem dX5_arrange_73 : decode cX5_arrange 73 = .ok (.iload 4, 2) := by decide +kernel
theorem dX5_arrange_75 : decode cX5_arrange 75 = .ok (.iaload, 1) := by decide +kernel
theorem dX5_arrange_76 : decode cX5_arrange 76 = .ok (.bipush (-7), 2) := by decide +kernel
theorem dX5_arrange_78 : decode cX5_arrange 78 = .ok (.if_icmp .eq 29, 3) := by decide +kernel
theorem dX5_arrange_81 : decode cX5_arrange 81 = .ok (.aload_n 0, 1) := by decide +kernel
theorem dX5_arrange_82 : decode cX5_arrange 82 = .ok (.getfield 15, 3) := by decide +kernel
theorem dX5_arrange_85 : decode cX5_arrange 85 = .ok (.aload_n 0, 1) := by decide +kernel
theorem dX5_arrange_86 : decode cX5_arrange 86 = .ok (.getfield 18, 3) := by decide +kernel
theorem dX5_arrange_89 : decode cX5_arrange 89 = .ok (.aload_n 0, 1) := by decide +kernel
theorem dX5_arrange_90 : decode cX5_arrange 90 = .ok (.getfield 9, 3) := by decide +kernel
theorem dX5_arrange_93 : decode cX5_arrange 93 = .ok (.iload 4, 2) := by decide +kernel
theorem dX5_arrange_95 : decode cX5_arrange 95 = .ok (.iaload, 1) := by decide +kernel
theorem dX5_arrange_96 : decode cX5_arrange 96 = .ok (.iastore, 1) := by decide +kernel
theorem dX5_arrange_97 : decode cX5_arrange 97 = .ok (.aload_n 0, 1) := by decide +kernel
theorem dX5_arrange_98 : decode cX5_arrange 98 = .ok (.dup, 1) := by decide +kernel
theorem dX5_arrange_99 : decode cX5_arrange 99 = .ok (.getfield 18, 3) := by decide +kernel
theorem dX5_arrange_102 : decode cX5_arrange 102 = .ok (.iconst 1, 1) := by decide +kernel
theorem dX5_arrange_103 : decode cX5_arrange 103 = .ok (.iadd, 1) := by decide +kernel
theorem dX5_arrange_104 : decode cX5_arrange 104 = .ok (.putfield 18, 3) := by decide +kernel
theorem dX5_arrange_107 : decode cX5_arrange 107 = .ok (.iinc 3 1, 3) := by decide +kernel
theorem dX5_arrange_110 : decode cX5_arrange 110 = .ok (.goto (-103), 3) := by decide +kernel
theorem dX5_arrange_113 : decode cX5_arrange 113 = .ok (.return_, 1) := by decide +kernel
theorem dX5_size_0 : decode cX5_size 0 = .ok (.aload_n 0, 1) := by decide +kernel
theorem dX5_size_1 : decode cX5_size 1 = .ok (.getfield 18, 3) := by decide +kernel
theorem dX5_size_4 : decode cX5_size 4 = .ok (.ireturn, 1) := by decide +kernel
theorem dX5_wordAt_0 : decode cX5_wordAt 0 = .ok (.iload_n 1, 1) := by decide +kernel
theorem dX5_wordAt_1 : decode cX5_wordAt 1 = .ok (.iconst 5, 1) := by decide +kernel
theorem dX5_wordAt_2 : decode cX5_wordAt 2 = .ok (.invokestatic 39, 3) := by decide +kernel
theorem dX5_wordAt_5 : decode cX5_wordAt 5 = .ok (.ifCond .eq 12, 3) := by decide +kernel
theorem dX5_wordAt_8 : decode cX5_wordAt 8 = .ok (.aload_n 0, 1) := by decide +kernel
theorem dX5_wordAt_9 : decode cX5_wordAt 9 = .ok (.getfield 15, 3) := by decide +kernel
theorem dX5_wordAt_12 : decode cX5_wordAt 12 = .ok (.iload_n 1, 1) := by decide +kernel
theorem dX5_wordAt_13 : decode cX5_wordAt 13 = .ok (.iaload, 1) := by decide +kernel
theorem dX5_wordAt_14 : decode cX5_wordAt 14 = .ok (.goto 5, 3) := by decide +kernel
theorem dX5_wordAt_17 : decode cX5_wordAt 17 = .ok (.bipush (-6), 2) := by decide +kernel
theorem dX5_wordAt_19 : decode cX5_wordAt 19 = .ok (.ireturn, 1) := by decide +kernel
theorem dX5_countKnown_0 : decode cX5_countKnown 0 = .ok (.iconst 0, 1) := by decide +kernel
theorem dX5_countKnown_1 : decode cX5_countKnown 1 = .ok (.istore_n 1, 1) := by decide +kernel
theorem dX5_countKnown_2 : decode cX5_countKnown 2 = .ok (.iconst 0, 1) := by decide +kernel
theorem dX5_countKnown_3 : decode cX5_countKnown 3 = .ok (.istore_n 2, 1) := by decide +kernel
theorem dX5_countKnown_4 : decode cX5_countKnown 4 = .ok (.iload_n 2, 1) := by decide +kernel
theorem dX5_countKnown_5 : decode cX5_countKnown 5 = .ok (.aload_n 0, 1) := by decide +kernel
theorem dX5_countKnown_6 : decode cX5_countKnown 6 = .ok (.getfield 18, 3) := by decide +kernel
theorem dX5_countKnown_9 : decode cX5_countKnown 9 = .ok (.if_icmp .ge 28, 3) := by decide +kernel
theorem dX5_countKnown_12 : decode cX5_countKnown 12 = .ok (.iload_n 2, 1) := by decide +kernel
theorem dX5_countKnown_13 : decode cX5_countKnown 13 = .ok (.iconst 5, 1) := by decide +kernel
theorem dX5_countKnown_14 : decode cX5_countKnown 14 = .ok (.if_icmp .ge 23, 3) := by decide +kernel
theorem dX5_countKnown_17 : decode cX5_countKnown 17 = .ok (.aload_n 0, 1) := by decide +kernel
theorem dX5_countKnown_18 : decode cX5_countKnown 18 = .ok (.getfield 15, 3) := by decide +kernel
theorem dX5_countKnown_21 : decode cX5_countKnown 21 = .ok (.iload_n 2, 1) := by decide +kernel
theorem dX5_countKnown_22 : decode cX5_countKnown 22 = .ok (.iaload, 1) := by decide +kernel
theorem dX5_countKnown_23 : decode cX5_countKnown 23 = .ok (.bipush (-6), 2) := by decide +kernel
theorem dX5_countKnown_25 : decode cX5_countKnown 25 = .ok (.if_icmp .eq 6, 3) := by decide +kernel
theorem dX5_countKnown_28 : decode cX5_countKnown 28 = .ok (.iinc 1 1, 3) := by decide +kernel
theorem dX5_countKnown_31 : decode cX5_countKnown 31 = .ok (.iinc 2 1, 3) := by decide +kernel
theorem dX5_countKnown_34 : decode cX5_countKnown 34 = .ok (.goto (-30), 3) := by decide +kernel
theorem dX5_countKnown_37 : decode cX5_countKnown 37 = .ok (.iload_n 1, 1) := by decide +kernel
theorem dX5_countKnown_38 : decode cX5_countKnown 38 = .ok (.ireturn, 1) := by decide +kernel
theorem dX5_knowsAll_0 : decode cX5_knowsAll 0 = .ok (.aload_n 0, 1) := by decide +kernel
theorem dX5_knowsAll_1 : decode cX5_knowsAll 1 = .ok (.getfield 18, 3) := by decide +kernel
theorem dX5_knowsAll_4 : decode cX5_knowsAll 4 = .ok (.ifCond .le 18, 3) := by decide +kernel
theorem dX5_knowsAll_7 : decode cX5_knowsAll 7 = .ok (.aload_n 0, 1) := by decide +kernel
theorem dX5_knowsAll_8 : decode cX5_knowsAll 8 = .ok (.invokevirtual 42, 3) := by decide +kernel
theorem dX5_knowsAll_11 : decode cX5_knowsAll 11 = .ok (.aload_n 0, 1) := by decide +kernel
theorem dX5_knowsAll_12 : decode cX5_knowsAll 12 = .ok (.getfield 18, 3) := by decide +kernel
theorem dX5_knowsAll_15 : decode cX5_knowsAll 15 = .ok (.if_icmp .ne 7, 3) := by decide +kernel
theorem dX5_knowsAll_18 : decode cX5_knowsAll 18 = .ok (.iconst 1, 1) := by decide +kernel
theorem dX5_knowsAll_19 : decode cX5_knowsAll 19 = .ok (.goto 4, 3) := by decide +kernel
theorem dX5_knowsAll_22 : decode cX5_knowsAll 22 = .ok (.iconst 0, 1) := by decide +kernel
theorem dX5_knowsAll_23 : decode cX5_knowsAll 23 = .ok (.ireturn, 1) := by decide +kernel
theorem dX5_agreesWith_0 : decode cX5_agreesWith 0 = .ok (.aload_n 0, 1) := by decide +kernel
theorem dX5_agreesWith_1 : decode cX5_agreesWith 1 = .ok (.invokevirtual 46, 3) := by decide +kernel
theorem dX5_agreesWith_4 : decode cX5_agreesWith 4 = .ok (.ifCond .eq 14, 3) := by decide +kernel
theorem dX5_agreesWith_7 : decode cX5_agreesWith 7 = .ok (.aload_n 0, 1) := by decide +kernel
theorem dX5_agreesWith_8 : decode cX5_agreesWith 8 = .ok (.getfield 18, 3) := by decide +kernel
theorem dX5_agreesWith_11 : decode cX5_agreesWith 11 = .ok (.aload_n 1, 1) := by decide +kernel
theorem dX5_agreesWith_12 : decode cX5_agreesWith 12 = .ok (.getfield 18, 3) := by decide +kernel
theorem dX5_agreesWith_15 : decode cX5_agreesWith 15 = .ok (.if_icmp .eq 5, 3) := by decide +kernel
theorem dX5_agreesWith_18 : decode cX5_agreesWith 18 = .ok (.iconst 0, 1) := by decide +kernel
theorem dX5_agreesWith_19 : decode cX5_agreesWith 19 = .ok (.ireturn, 1) := by decide +kernel
theorem dX5_agreesWith_20 : decode cX5_agreesWith 20 = .ok (.iconst 0, 1) := by decide +kernel
theorem dX5_agreesWith_21 : decode cX5_agreesWith 21 = .ok (.istore_n 2, 1) := by decide +kernel
theorem dX5_agreesWith_22 : decode cX5_agreesWith 22 = .ok (.iload_n 2, 1) := by decide +kernel
theorem dX5_agreesWith_23 : decode cX5_agreesWith 23 = .ok (.aload_n 0, 1) := by decide +kernel
theorem dX5_agreesWith_24 : decode cX5_agreesWith 24 = .ok (.getfield 18, 3) := by decide +kernel
theorem dX5_agreesWith_27 : decode cX5_agreesWith 27 = .ok (.if_icmp .ge 31, 3) := by decide +kernel
theorem dX5_agreesWith_30 : decode cX5_agreesWith 30 = .ok (.iload_n 2, 1) := by decide +kernel
theorem dX5_agreesWith_31 : decode cX5_agreesWith 31 = .ok (.iconst 5, 1) := by decide +kernel
theorem dX5_agreesWith_32 : decode cX5_agreesWith 32 = .ok (.if_icmp .ge 26, 3) := by decide +kernel
theorem dX5_agreesWith_35 : decode cX5_agreesWith 35 = .ok (.aload_n 0, 1) := by decide +kernel
theorem dX5_agreesWith_36 : decode cX5_agreesWith 36 = .ok (.getfield 15, 3) := by decide +kernel
theorem dX5_agreesWith_39 : decode cX5_agreesWith 39 = .ok (.iload_n 2, 1) := by decide +kernel
theorem dX5_agreesWith_40 : decode cX5_agreesWith 40 = .ok (.iaload, 1) := by decide +kernel
theorem dX5_agreesWith_41 : decode cX5_agreesWith 41 = .ok (.aload_n 1, 1) := by decide +kernel
theorem dX5_agreesWith_42 : decode cX5_agreesWith 42 = .ok (.getfield 15, 3) := by decide +kernel
theorem dX5_agreesWith_45 : decode cX5_agreesWith 45 = .ok (.iload_n 2, 1) := by decide +kernel
theorem dX5_agreesWith_46 : decode cX5_agreesWith 46 = .ok (.iaload, 1) := by decide +kernel
theorem dX5_agreesWith_47 : decode cX5_agreesWith 47 = .ok (.if_icmp .eq 5, 3) := by decide +kernel
theorem dX5_agreesWith_50 : decode cX5_agreesWith 50 = .ok (.iconst 0, 1) := by decide +kernel
theorem dX5_agreesWith_51 : decode cX5_agreesWith 51 = .ok (.ireturn, 1) := by decide +kernel
theorem dX5_agreesWith_52 : decode cX5_agreesWith 52 = .ok (.iinc 2 1, 3) := by decide +kernel
theorem dX5_agreesWith_55 : decode cX5_agreesWith 55 = .ok (.goto (-33), 3) := by decide +kernel
theorem dX5_agreesWith_58 : decode cX5_agreesWith 58 = .ok (.iconst 1, 1) := by decide +kernel
theorem dX5_agreesWith_59 : decode cX5_agreesWith 59 = .ok (.ireturn, 1) := by decide +kernel
theorem dX6_init_0 : decode cX6_init 0 = .ok (.aload_n 0, 1) := by decide +kernel
theorem dX6_init_1 : decode cX6_init 1 = .ok (.invokespecial 3, 3) := by decide +kernel
theorem dX6_init_4 : decode cX6_init 4 = .ok (.aload_n 0, 1) := by decide +kernel
theorem dX6_init_5 : decode cX6_init 5 = .ok (.new 9, 3) := by decide +kernel
theorem dX6_init_8 : decode cX6_init 8 = .ok (.dup, 1) := by decide +kernel
theorem dX6_init_9 : decode cX6_init 9 = .ok (.invokespecial 11, 3) := by decide +kernel
theorem dX6_init_12 : decode cX6_init 12 = .ok (.putfield 12, 3) := by decide +kernel
theorem dX6_init_15 : decode cX6_init 15 = .ok (.aload_n 0, 1) := by decide +kernel
theorem dX6_init_16 : decode cX6_init 16 = .ok (.new 18, 3) := by decide +kernel
theorem dX6_init_19 : decode cX6_init 19 = .ok (.dup, 1) := by decide +kernel
theorem dX6_init_20 : decode cX6_init 20 = .ok (.invokespecial 20, 3) := by decide +kernel
theorem dX6_init_23 : decode cX6_init 23 = .ok (.putfield 21, 3) := by decide +kernel
theorem dX6_init_26 : decode cX6_init 26 = .ok (.aload_n 0, 1) := by decide +kernel
theorem dX6_init_27 : decode cX6_init 27 = .ok (.new 25, 3) := by decide +kernel
theorem dX6_init_30 : decode cX6_init 30 = .ok (.dup, 1) := by decide +kernel
theorem dX6_init_31 : decode cX6_init 31 = .ok (.invokespecial 27, 3) := by decide +kernel
theorem dX6_init_34 : decode cX6_init 34 = .ok (.putfield 28, 3) := by decide +kernel
