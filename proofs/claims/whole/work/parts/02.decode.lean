theorem dX0_init_0 : decode cX0_init 0 = .ok (.aload_n 0, 1) := by decide +kernel
theorem dX0_init_1 : decode cX0_init 1 = .ok (.invokespecial 3, 3) := by decide +kernel
theorem dX0_init_4 : decode cX0_init 4 = .ok (.aload_n 0, 1) := by decide +kernel
theorem dX0_init_5 : decode cX0_init 5 = .ok (.bipush 12, 2) := by decide +kernel
theorem dX0_init_7 : decode cX0_init 7 = .ok (.newarray .int, 2) := by decide +kernel
theorem dX0_init_9 : decode cX0_init 9 = .ok (.putfield 9, 3) := by decide +kernel
theorem dX0_init_12 : decode cX0_init 12 = .ok (.aload_n 0, 1) := by decide +kernel
theorem dX0_init_13 : decode cX0_init 13 = .ok (.bipush 12, 2) := by decide +kernel
theorem dX0_init_15 : decode cX0_init 15 = .ok (.newarray .int, 2) := by decide +kernel
theorem dX0_init_17 : decode cX0_init 17 = .ok (.putfield 15, 3) := by decide +kernel
theorem dX0_init_20 : decode cX0_init 20 = .ok (.aload_n 0, 1) := by decide +kernel
theorem dX0_init_21 : decode cX0_init 21 = .ok (.iconst 0, 1) := by decide +kernel
theorem dX0_init_22 : decode cX0_init 22 = .ok (.putfield 18, 3) := by decide +kernel
theorem dX0_init_25 : decode cX0_init 25 = .ok (.return_, 1) := by decide +kernel
theorem dX0_copyFrom_0 : decode cX0_copyFrom 0 = .ok (.aload_n 1, 1) := by decide +kernel
theorem dX0_copyFrom_1 : decode cX0_copyFrom 1 = .ok (.getfield 9, 3) := by decide +kernel
theorem dX0_copyFrom_4 : decode cX0_copyFrom 4 = .ok (.iconst 0, 1) := by decide +kernel
theorem dX0_copyFrom_5 : decode cX0_copyFrom 5 = .ok (.aload_n 0, 1) := by decide +kernel
theorem dX0_copyFrom_6 : decode cX0_copyFrom 6 = .ok (.getfield 9, 3) := by decide +kernel
theorem dX0_copyFrom_9 : decode cX0_copyFrom 9 = .ok (.iconst 0, 1) := by decide +kernel
theorem dX0_copyFrom_10 : decode cX0_copyFrom 10 = .ok (.bipush 12, 2) := by decide +kernel
theorem dX0_copyFrom_12 : decode cX0_copyFrom 12 = .ok (.invokestatic 22, 3) := by decide +kernel
theorem dX0_copyFrom_15 : decode cX0_copyFrom 15 = .ok (.aload_n 1, 1) := by decide +kernel
theorem dX0_copyFrom_16 : decode cX0_copyFrom 16 = .ok (.getfield 15, 3) := by decide +kernel
theorem dX0_copyFrom_19 : decode cX0_copyFrom 19 = .ok (.iconst 0, 1) := by decide +kernel
theorem dX0_copyFrom_20 : decode cX0_copyFrom 20 = .ok (.aload_n 0, 1) := by decide +kernel
theorem dX0_copyFrom_21 : decode cX0_copyFrom 21 = .ok (.getfield 15, 3) := by decide +kernel
theorem dX0_copyFrom_24 : decode cX0_copyFrom 24 = .ok (.iconst 0, 1) := by decide +kernel
theorem dX0_copyFrom_25 : decode cX0_copyFrom 25 = .ok (.bipush 12, 2) := by decide +kernel
theorem dX0_copyFrom_27 : decode cX0_copyFrom 27 = .ok (.invokestatic 22, 3) := by decide +kernel
theorem dX0_copyFrom_30 : decode cX0_copyFrom 30 = .ok (.aload_n 0, 1) := by decide +kernel
theorem dX0_copyFrom_31 : decode cX0_copyFrom 31 = .ok (.aload_n 1, 1) := by decide +kernel
theorem dX0_copyFrom_32 : decode cX0_copyFrom 32 = .ok (.getfield 18, 3) := by decide +kernel
theorem dX0_copyFrom_35 : decode cX0_copyFrom 35 = .ok (.putfield 18, 3) := by decide +kernel
theorem dX0_copyFrom_38 : decode cX0_copyFrom 38 = .ok (.return_, 1) := by decide +kernel
theorem dX0_size_0 : decode cX0_size 0 = .ok (.aload_n 0, 1) := by decide +kernel
theorem dX0_size_1 : decode cX0_size 1 = .ok (.getfield 18, 3) := by decide +kernel
theorem dX0_size_4 : decode cX0_size 4 = .ok (.ireturn, 1) := by decide +kernel
theorem dX0_flagsAt_0 : decode cX0_flagsAt 0 = .ok (.iload_n 1, 1) := by decide +kernel
theorem dX0_flagsAt_1 : decode cX0_flagsAt 1 = .ok (.bipush 12, 2) := by decide +kernel
theorem dX0_flagsAt_3 : decode cX0_flagsAt 3 = .ok (.invokestatic 28, 3) := by decide +kernel
theorem dX0_flagsAt_6 : decode cX0_flagsAt 6 = .ok (.ifCond .eq 12, 3) := by decide +kernel
theorem dX0_flagsAt_9 : decode cX0_flagsAt 9 = .ok (.aload_n 0, 1) := by decide +kernel
theorem dX0_flagsAt_10 : decode cX0_flagsAt 10 = .ok (.getfield 9, 3) := by decide +kernel
theorem dX0_flagsAt_13 : decode cX0_flagsAt 13 = .ok (.iload_n 1, 1) := by decide +kernel
theorem dX0_flagsAt_14 : decode cX0_flagsAt 14 = .ok (.iaload, 1) := by decide +kernel
theorem dX0_flagsAt_15 : decode cX0_flagsAt 15 = .ok (.goto 5, 3) := by decide +kernel
theorem dX0_flagsAt_18 : decode cX0_flagsAt 18 = .ok (.bipush (-6), 2) := by decide +kernel
theorem dX0_flagsAt_20 : decode cX0_flagsAt 20 = .ok (.ireturn, 1) := by decide +kernel
theorem dX0_wordAt_0 : decode cX0_wordAt 0 = .ok (.iload_n 1, 1) := by decide +kernel
theorem dX0_wordAt_1 : decode cX0_wordAt 1 = .ok (.bipush 12, 2) := by decide +kernel
theorem dX0_wordAt_3 : decode cX0_wordAt 3 = .ok (.invokestatic 28, 3) := by decide +kernel
theorem dX0_wordAt_6 : decode cX0_wordAt 6 = .ok (.ifCond .eq 12, 3) := by decide +kernel
theorem dX0_wordAt_9 : decode cX0_wordAt 9 = .ok (.aload_n 0, 1) := by decide +kernel
theorem dX0_wordAt_10 : decode cX0_wordAt 10 = .ok (.getfield 15, 3) := by decide +kernel
theorem dX0_wordAt_13 : decode cX0_wordAt 13 = .ok (.iload_n 1, 1) := by decide +kernel
theorem dX0_wordAt_14 : decode cX0_wordAt 14 = .ok (.iaload, 1) := by decide +kernel
theorem dX0_wordAt_15 : decode cX0_wordAt 15 = .ok (.goto 5, 3) := by decide +kernel
theorem dX0_wordAt_18 : decode cX0_wordAt 18 = .ok (.bipush (-6), 2) := by decide +kernel
theorem dX0_wordAt_20 : decode cX0_wordAt 20 = .ok (.ireturn, 1) := by decide +kernel
theorem dX0_add_0 : decode cX0_add 0 = .ok (.aload_n 0, 1) := by decide +kernel
theorem dX0_add_1 : decode cX0_add 1 = .ok (.getfield 18, 3) := by decide +kernel
theorem dX0_add_4 : decode cX0_add 4 = .ok (.bipush 12, 2) := by decide +kernel
theorem dX0_add_6 : decode cX0_add 6 = .ok (.invokestatic 28, 3) := by decide +kernel
theorem dX0_add_9 : decode cX0_add 9 = .ok (.ifCond .eq 33, 3) := by decide +kernel
theorem dX0_add_12 : decode cX0_add 12 = .ok (.aload_n 0, 1) := by decide +kernel
theorem dX0_add_13 : decode cX0_add 13 = .ok (.getfield 9, 3) := by decide +kernel
theorem dX0_add_16 : decode cX0_add 16 = .ok (.aload_n 0, 1) := by decide +kernel
theorem dX0_add_17 : decode cX0_add 17 = .ok (.getfield 18, 3) := by decide +kernel
theorem dX0_add_20 : decode cX0_add 20 = .ok (.iload_n 1, 1) := by decide +kernel
theorem dX0_add_21 : decode cX0_add 21 = .ok (.iastore, 1) := by decide +kernel
theorem dX0_add_22 : decode cX0_add 22 = .ok (.aload_n 0, 1) := by decide +kernel
theorem dX0_add_23 : decode cX0_add 23 = .ok (.getfield 15, 3) := by decide +kernel
theorem dX0_add_26 : decode cX0_add 26 = .ok (.aload_n 0, 1) := by decide +kernel
theorem dX0_add_27 : decode cX0_add 27 = .ok (.getfield 18, 3) := by decide +kernel
theorem dX0_add_30 : decode cX0_add 30 = .ok (.iload_n 2, 1) := by decide +kernel
theorem dX0_add_31 : decode cX0_add 31 = .ok (.iastore, 1) := by decide +kernel
theorem dX0_add_32 : decode cX0_add 32 = .ok (.aload_n 0, 1) := by decide +kernel
theorem dX0_add_33 : decode cX0_add 33 = .ok (.dup, 1) := by decide +kernel
theorem dX0_add_34 : decode cX0_add 34 = .ok (.getfield 18, 3) := by decide +kernel
theorem dX0_add_37 : decode cX0_add 37 = .ok (.iconst 1, 1) := by decide +kernel
theorem dX0_add_38 : decode cX0_add 38 = .ok (.iadd, 1) := by decide +kernel
theorem dX0_add_39 : decode cX0_add 39 = .ok (.putfield 18, 3) := by decide +kernel
theorem dX0_add_42 : decode cX0_add 42 = .ok (.return_, 1) := by decide +kernel
theorem dX0_remove_0 : decode cX0_remove 0 = .ok (.iload_n 1, 1) := by decide +kernel
theorem dX0_remove_1 : decode cX0_remove 1 = .ok (.aload_n 0, 1) := by decide +kernel
theorem dX0_remove_2 : decode cX0_remove 2 = .ok (.getfield 18, 3) := by decide +kernel
theorem dX0_remove_5 : decode cX0_remove 5 = .ok (.invokestatic 28, 3) := by decide +kernel
theorem dX0_remove_8 : decode cX0_remove 8 = .ok (.ifCond .eq 12, 3) := by decide +kernel
theorem dX0_remove_11 : decode cX0_remove 11 = .ok (.aload_n 0, 1) := by decide +kernel
theorem dX0_remove_12 : decode cX0_remove 12 = .ok (.getfield 18, 3) := by decide +kernel
theorem dX0_remove_15 : decode cX0_remove 15 = .ok (.bipush 12, 2) := by decide +kernel
theorem dX0_remove_17 : decode cX0_remove 17 = .ok (.if_icmp .le 6, 3) := by decide +kernel
theorem dX0_remove_20 : decode cX0_remove 20 = .ok (.bipush (-6), 2) := by decide +kernel
theorem dX0_remove_22 : decode cX0_remove 22 = .ok (.ireturn, 1) := by decide +kernel
theorem dX0_remove_23 : decode cX0_remove 23 = .ok (.aload_n 0, 1) := by decide +kernel
theorem dX0_remove_24 : decode cX0_remove 24 = .ok (.getfield 15, 3) := by decide +kernel
theorem dX0_remove_27 : decode cX0_remove 27 = .ok (.iload_n 1, 1) := by decide +kernel
theorem dX0_remove_28 : decode cX0_remove 28 = .ok (.iaload, 1) := by decide +kernel
theorem dX0_remove_29 : decode cX0_remove 29 = .ok (.istore_n 2, 1) := by decide +kernel
theorem dX0_remove_30 : decode cX0_remove 30 = .ok (.iload_n 1, 1) := by decide +kernel
theorem dX0_remove_31 : decode cX0_remove 31 = .ok (.istore_n 3, 1) := by decide +kernel
theorem dX0_remove_32 : decode cX0_remove 32 = .ok (.iload_n 3, 1) := by decide +kernel
theorem dX0_remove_33 : decode cX0_remove 33 = .ok (.iconst 1, 1) := by decide +kernel
theorem dX0_remove_34 : decode cX0_remove 34 = .ok (.iadd, 1) := by decide +kernel
theorem dX0_remove_35 : decode cX0_remove 35 = .ok (.aload_n 0, 1) := by decide +kernel
theorem dX0_remove_36 : decode cX0_remove 36 = .ok (.getfield 18, 3) := by decide +kernel
theorem dX0_remove_39 : decode cX0_remove 39 = .ok (.if_icmp .ge 37, 3) := by decide +kernel
theorem dX0_remove_42 : decode cX0_remove 42 = .ok (.aload_n 0, 1) := by decide +kernel
theorem dX0_remove_43 : decode cX0_remove 43 = .ok (.getfield 9, 3) := by decide +kernel
theorem dX0_remove_46 : decode cX0_remove 46 = .ok (.iload_n 3, 1) := by decide +kernel
theorem dX0_remove_47 : decode cX0_remove 47 = .ok (.aload_n 0, 1) := by decide +kernel
theorem dX0_remove_48 : decode cX0_remove 48 = .ok (.getfield 9, 3) := by decide +kernel
theorem dX0_remove_51 : decode cX0_remove 51 = .ok (.iload_n 3, 1) := by decide +kernel
theorem dX0_remove_52 : decode cX0_remove 52 = .ok (.iconst 1, 1) := by decide +kernel
theorem dX0_remove_53 : decode cX0_remove 53 = .ok (.iadd, 1) := by decide +kernel
theorem dX0_remove_54 : decode cX0_remove 54 = .ok (.iaload, 1) := by decide +kernel
theorem dX0_remove_55 : decode cX0_remove 55 = .ok (.iastore, 1) := by decide +kernel
theorem dX0_remove_56 : decode cX0_remove 56 = .ok (.aload_n 0, 1) := by decide +kernel
theorem dX0_remove_57 : decode cX0_remove 57 = .ok (.getfield 15, 3) := by decide +kernel
theorem dX0_remove_60 : decode cX0_remove 60 = .ok (.iload_n 3, 1) := by decide +kernel
theorem dX0_remove_61 : decode cX0_remove 61 = .ok (.aload_n 0, 1) := by decide +kernel
theorem dX0_remove_62 : decode cX0_remove 62 = .ok (.getfield 15, 3) := by decide +kernel
theorem dX0_remove_65 : decode cX0_remove 65 = .ok (.iload_n 3, 1) := by decide +kernel
theorem dX0_remove_66 : decode cX0_remove 66 = .ok (.iconst 1, 1) := by decide +kernel
theorem dX0_remove_67 : decode cX0_remove 67 = .ok (.iadd, 1) := by decide +kernel
theorem dX0_remove_68 : decode cX0_remove 68 = .ok (.iaload, 1) := by decide +kernel
theorem dX0_remove_69 : decode cX0_remove 69 = .ok (.iastore, 1) := by decide +kernel
theorem dX0_remove_70 : decode cX0_remove 70 = .ok (.iinc 3 1, 3) := by decide +kernel
theorem dX0_remove_73 : decode cX0_remove 73 = .ok (.goto (-41), 3) := by decide +kernel
theorem dX0_remove_76 : decode cX0_remove 76 = .ok (.aload_n 0, 1) := by decide +kernel
theorem dX0_remove_77 : decode cX0_remove 77 = .ok (.dup, 1) := by decide +kernel
theorem dX0_remove_78 : decode cX0_remove 78 = .ok (.getfield 18, 3) := by decide +kernel
theorem dX0_remove_81 : decode cX0_remove 81 = .ok (.iconst 1, 1) := by decide +kernel
theorem dX0_remove_82 : decode cX0_remove 82 = .ok (.isub, 1) := by decide +kernel
theorem dX0_remove_83 : decode cX0_remove 83 = .ok (.putfield 18, 3) := by decide +kernel
theorem dX0_remove_86 : decode cX0_remove 86 = .ok (.iload_n 2, 1) := by decide +kernel
theorem dX0_remove_87 : decode cX0_remove 87 = .ok (.ireturn, 1) := by decide +kernel
theorem dX0_wordFor_0 : decode cX0_wordFor 0 = .ok (.iconst 0, 1) := by decide +kernel
theorem dX0_wordFor_1 : decode cX0_wordFor 1 = .ok (.istore_n 2, 1) := by decide +kernel
theorem dX0_wordFor_2 : decode cX0_wordFor 2 = .ok (.iload_n 2, 1) := by decide +kernel
theorem dX0_wordFor_3 : decode cX0_wordFor 3 = .ok (.aload_n 0, 1) := by decide +kernel
theorem dX0_wordFor_4 : decode cX0_wordFor 4 = .ok (.getfield 18, 3) := by decide +kernel
theorem dX0_wordFor_7 : decode cX0_wordFor 7 = .ok (.if_icmp .ge 32, 3) := by decide +kernel
theorem dX0_wordFor_10 : decode cX0_wordFor 10 = .ok (.iload_n 2, 1) := by decide +kernel
theorem dX0_wordFor_11 : decode cX0_wordFor 11 = .ok (.bipush 12, 2) := by decide +kernel
theorem dX0_wordFor_13 : decode cX0_wordFor 13 = .ok (.if_icmp .ge 26, 3) := by decide +kernel
theorem dX0_wordFor_16 : decode cX0_wordFor 16 = .ok (.aload_n 0, 1) := by decide +kernel
theorem dX0_wordFor_17 : decode cX0_wordFor 17 = .ok (.getfield 9, 3) := by decide +kernel
theorem dX0_wordFor_20 : decode cX0_wordFor 20 = .ok (.iload_n 2, 1) := by decide +kernel
theorem dX0_wordFor_21 : decode cX0_wordFor 21 = .ok (.iaload, 1) := by decide +kernel
theorem dX0_wordFor_22 : decode cX0_wordFor 22 = .ok (.iload_n 1, 1) := by decide +kernel
theorem dX0_wordFor_23 : decode cX0_wordFor 23 = .ok (.if_icmp .ne 10, 3) := by decide +kernel
theorem dX0_wordFor_26 : decode cX0_wordFor 26 = .ok (.aload_n 0, 1) := by decide +kernel
theorem dX0_wordFor_27 : decode cX0_wordFor 27 = .ok (.getfield 15, 3) := by decide +kernel
theorem dX0_wordFor_30 : decode cX0_wordFor 30 = .ok (.iload_n 2, 1) := by decide +kernel
theorem dX0_wordFor_31 : decode cX0_wordFor 31 = .ok (.iaload, 1) := by decide +kernel
theorem dX0_wordFor_32 : decode cX0_wordFor 32 = .ok (.ireturn, 1) := by decide +kernel
theorem dX0_wordFor_33 : decode cX0_wordFor 33 = .ok (.iinc 2 1, 3) := by decide +kernel
theorem dX0_wordFor_36 : decode cX0_wordFor 36 = .ok (.goto (-34), 3) := by decide +kernel
theorem dX0_wordFor_39 : decode cX0_wordFor 39 = .ok (.bipush (-6), 2) := by decide +kernel
theorem dX0_wordFor_41 : decode cX0_wordFor 41 = .ok (.ireturn, 1) := by decide +kernel
theorem dX1_init_0 : decode cX1_init 0 = .ok (.aload_n 0, 1) := by decide +kernel
theorem dX1_init_1 : decode cX1_init 1 = .ok (.invokespecial 3, 3) := by decide +kernel
theorem dX1_init_4 : decode cX1_init 4 = .ok (.aload_n 0, 1) := by decide +kernel
theorem dX1_init_5 : decode cX1_init 5 = .ok (.bipush 10, 2) := by decide +kernel
theorem dX1_init_7 : decode cX1_init 7 = .ok (.newarray .int, 2) := by decide +kernel
theorem dX1_init_9 : decode cX1_init 9 = .ok (.putfield 9, 3) := by decide +kernel
theorem dX1_init_12 : decode cX1_init 12 = .ok (.aload_n 0, 1) := by decide +kernel
theorem dX1_init_13 : decode cX1_init 13 = .ok (.bipush 10, 2) := by decide +kernel
theorem dX1_init_15 : decode cX1_init 15 = .ok (.newarray .int, 2) := by decide +kernel
theorem dX1_init_17 : decode cX1_init 17 = .ok (.putfield 15, 3) := by decide +kernel
theorem dX1_init_20 : decode cX1_init 20 = .ok (.aload_n 0, 1) := by decide +kernel
theorem dX1_init_21 : decode cX1_init 21 = .ok (.bipush 10, 2) := by decide +kernel
theorem dX1_init_23 : decode cX1_init 23 = .ok (.newarray .int, 2) := by decide +kernel
theorem dX1_init_25 : decode cX1_init 25 = .ok (.putfield 18, 3) := by decide +kernel
theorem dX1_init_28 : decode cX1_init 28 = .ok (.iconst 0, 1) := by decide +kernel
theorem dX1_init_29 : decode cX1_init 29 = .ok (.istore_n 1, 1) := by decide +kernel
theorem dX1_init_30 : decode cX1_init 30 = .ok (.iload_n 1, 1) := by decide +kernel
theorem dX1_init_31 : decode cX1_init 31 = .ok (.bipush 10, 2) := by decide +kernel
theorem dX1_init_33 : decode cX1_init 33 = .ok (.if_icmp .ge 42, 3) := by decide +kernel
theorem dX1_init_36 : decode cX1_init 36 = .ok (.aload_n 0, 1) := by decide +kernel
theorem dX1_init_37 : decode cX1_init 37 = .ok (.getfield 9, 3) := by decide +kernel
theorem dX1_init_40 : decode cX1_init 40 = .ok (.iload_n 1, 1) := by decide +kernel
theorem dX1_init_41 : decode cX1_init 41 = .ok (.iload_n 1, 1) := by decide +kernel
theorem dX1_init_42 : decode cX1_init 42 = .ok (.bipush 8, 2) := by decide +kernel
theorem dX1_init_44 : decode cX1_init 44 = .ok (.irem, 1) := by decide +kernel
theorem dX1_init_45 : decode cX1_init 45 = .ok (.iastore, 1) := by decide +kernel
theorem dX1_init_46 : decode cX1_init 46 = .ok (.aload_n 0, 1) := by decide +kernel
theorem dX1_init_47 : decode cX1_init 47 = .ok (.getfield 15, 3) := by decide +kernel
theorem dX1_init_50 : decode cX1_init 50 = .ok (.iload_n 1, 1) := by decide +kernel
theorem dX1_init_51 : decode cX1_init 51 = .ok (.iconst 3, 1) := by decide +kernel
theorem dX1_init_52 : decode cX1_init 52 = .ok (.iload_n 1, 1) := by decide +kernel
theorem dX1_init_53 : decode cX1_init 53 = .ok (.imul, 1) := by decide +kernel
theorem dX1_init_54 : decode cX1_init 54 = .ok (.iconst 1, 1) := by decide +kernel
theorem dX1_init_55 : decode cX1_init 55 = .ok (.iadd, 1) := by decide +kernel
theorem dX1_init_56 : decode cX1_init 56 = .ok (.bipush 8, 2) := by decide +kernel
theorem dX1_init_58 : decode cX1_init 58 = .ok (.irem, 1) := by decide +kernel
theorem dX1_init_59 : decode cX1_init 59 = .ok (.iastore, 1) := by decide +kernel
theorem dX1_init_60 : decode cX1_init 60 = .ok (.aload_n 0, 1) := by decide +kernel
theorem dX1_init_61 : decode cX1_init 61 = .ok (.getfield 18, 3) := by decide +kernel
theorem dX1_init_64 : decode cX1_init 64 = .ok (.iload_n 1, 1) := by decide +kernel
theorem dX1_init_65 : decode cX1_init 65 = .ok (.iload_n 1, 1) := by decide +kernel
theorem dX1_init_66 : decode cX1_init 66 = .ok (.iconst 2, 1) := by decide +kernel
theorem dX1_init_67 : decode cX1_init 67 = .ok (.idiv, 1) := by decide +kernel
theorem dX1_init_68 : decode cX1_init 68 = .ok (.iastore, 1) := by decide +kernel
theorem dX1_init_69 : decode cX1_init 69 = .ok (.iinc 1 1, 3) := by decide +kernel
theorem dX1_init_72 : decode cX1_init 72 = .ok (.goto (-42), 3) := by decide +kernel
theorem dX1_init_75 : decode cX1_init 75 = .ok (.return_, 1) := by decide +kernel
theorem dX1_copyFrom_0 : decode cX1_copyFrom 0 = .ok (.aload_n 1, 1) := by decide +kernel
theorem dX1_copyFrom_1 : decode cX1_copyFrom 1 = .ok (.getfield 9, 3) := by decide +kernel
theorem dX1_copyFrom_4 : decode cX1_copyFrom 4 = .ok (.iconst 0, 1) := by decide +kernel
theorem dX1_copyFrom_5 : decode cX1_copyFrom 5 = .ok (.aload_n 0, 1) := by decide +kernel
theorem dX1_copyFrom_6 : decode cX1_copyFrom 6 = .ok (.getfield 9, 3) := by decide +kernel
theorem dX1_copyFrom_9 : decode cX1_copyFrom 9 = .ok (.iconst 0, 1) := by decide +kernel
theorem dX1_copyFrom_10 : decode cX1_copyFrom 10 = .ok (.bipush 10, 2) := by decide +kernel
theorem dX1_copyFrom_12 : decode cX1_copyFrom 12 = .ok (.invokestatic 21, 3) := by decide +kernel
theorem dX1_copyFrom_15 : decode cX1_copyFrom 15 = .ok (.aload_n 1, 1) := by decide +kernel
theorem dX1_copyFrom_16 : decode cX1_copyFrom 16 = .ok (.getfield 15, 3) := by decide +kernel
theorem dX1_copyFrom_19 : decode cX1_copyFrom 19 = .ok (.iconst 0, 1) := by decide +kernel
theorem dX1_copyFrom_20 : decode cX1_copyFrom 20 = .ok (.aload_n 0, 1) := by decide +kernel
theorem dX1_copyFrom_21 : decode cX1_copyFrom 21 = .ok (.getfield 15, 3) := by decide +kernel
theorem dX1_copyFrom_24 : decode cX1_copyFrom 24 = .ok (.iconst 0, 1) := by decide +kernel
theorem dX1_copyFrom_25 : decode cX1_copyFrom 25 = .ok (.bipush 10, 2) := by decide +kernel
theorem dX1_copyFrom_27 : decode cX1_copyFrom 27 = .ok (.invokestatic 21, 3) := by decide +kernel
theorem dX1_copyFrom_30 : decode cX1_copyFrom 30 = .ok (.aload_n 1, 1) := by decide +kernel
theorem dX1_copyFrom_31 : decode cX1_copyFrom 31 = .ok (.getfield 18, 3) := by decide +kernel
theorem dX1_copyFrom_34 : decode cX1_copyFrom 34 = .ok (.iconst 0, 1) := by decide +kernel
theorem dX1_copyFrom_35 : decode cX1_copyFrom 35 = .ok (.aload_n 0, 1) := by decide +kernel
theorem dX1_copyFrom_36 : decode cX1_copyFrom 36 = .ok (.getfield 18, 3) := by decide +kernel
theorem dX1_copyFrom_39 : decode cX1_copyFrom 39 = .ok (.iconst 0, 1) := by decide +kernel
theorem dX1_copyFrom_40 : decode cX1_copyFrom 40 = .ok (.bipush 10, 2) := by decide +kernel
theorem dX1_copyFrom_42 : decode cX1_copyFrom 42 = .ok (.invokestatic 21, 3) := by decide +kernel
theorem dX1_copyFrom_45 : decode cX1_copyFrom 45 = .ok (.return_, 1) := by decide +kernel
theorem dX1_change_0 : decode cX1_change 0 = .ok (.iload_n 1, 1) := by decide +kernel
theorem dX1_change_1 : decode cX1_change 1 = .ok (.bipush 10, 2) := by decide +kernel
theorem dX1_change_3 : decode cX1_change 3 = .ok (.invokestatic 27, 3) := by decide +kernel
theorem dX1_change_6 : decode cX1_change 6 = .ok (.ifCond .eq 25, 3) := by decide +kernel
theorem dX1_change_9 : decode cX1_change 9 = .ok (.aload_n 0, 1) := by decide +kernel
theorem dX1_change_10 : decode cX1_change 10 = .ok (.getfield 9, 3) := by decide +kernel
theorem dX1_change_13 : decode cX1_change 13 = .ok (.iload_n 1, 1) := by decide +kernel
theorem dX1_change_14 : decode cX1_change 14 = .ok (.iload_n 2, 1) := by decide +kernel
theorem dX1_change_15 : decode cX1_change 15 = .ok (.iastore, 1) := by decide +kernel
theorem dX1_change_16 : decode cX1_change 16 = .ok (.aload_n 0, 1) := by decide +kernel
theorem dX1_change_17 : decode cX1_change 17 = .ok (.getfield 15, 3) := by decide +kernel
theorem dX1_change_20 : decode cX1_change 20 = .ok (.iload_n 1, 1) := by decide +kernel
theorem dX1_change_21 : decode cX1_change 21 = .ok (.iload_n 3, 1) := by decide +kernel
theorem dX1_change_22 : decode cX1_change 22 = .ok (.iastore, 1) := by decide +kernel
theorem dX1_change_23 : decode cX1_change 23 = .ok (.aload_n 0, 1) := by decide +kernel
theorem dX1_change_24 : decode cX1_change 24 = .ok (.getfield 18, 3) := by decide +kernel
theorem dX1_change_27 : decode cX1_change 27 = .ok (.iload_n 1, 1) := by decide +kernel
theorem dX1_change_28 : decode cX1_change 28 = .ok (.iload 4, 2) := by decide +kernel
theorem dX1_change_30 : decode cX1_change 30 = .ok (.iastore, 1) := by decide +kernel
theorem dX1_change_31 : decode cX1_change 31 = .ok (.return_, 1) := by decide +kernel
theorem dX1_atHoist_0 : decode cX1_atHoist 0 = .ok (.iload_n 1, 1) := by decide +kernel
theorem dX1_atHoist_1 : decode cX1_atHoist 1 = .ok (.bipush 10, 2) := by decide +kernel
theorem dX1_atHoist_3 : decode cX1_atHoist 3 = .ok (.invokestatic 27, 3) := by decide +kernel
theorem dX1_atHoist_6 : decode cX1_atHoist 6 = .ok (.ifCond .eq 12, 3) := by decide +kernel
theorem dX1_atHoist_9 : decode cX1_atHoist 9 = .ok (.aload_n 0, 1) := by decide +kernel
theorem dX1_atHoist_10 : decode cX1_atHoist 10 = .ok (.getfield 9, 3) := by decide +kernel
theorem dX1_atHoist_13 : decode cX1_atHoist 13 = .ok (.iload_n 1, 1) := by decide +kernel
theorem dX1_atHoist_14 : decode cX1_atHoist 14 = .ok (.iaload, 1) := by decide +kernel
theorem dX1_atHoist_15 : decode cX1_atHoist 15 = .ok (.goto 5, 3) := by decide +kernel
theorem dX1_atHoist_18 : decode cX1_atHoist 18 = .ok (.bipush (-6), 2) := by decide +kernel
theorem dX1_atHoist_20 : decode cX1_atHoist 20 = .ok (.ireturn, 1) := by decide +kernel
theorem dX1_atFly_0 : decode cX1_atFly 0 = .ok (.iload_n 1, 1) := by decide +kernel
theorem dX1_atFly_1 : decode cX1_atFly 1 = .ok (.bipush 10, 2) := by decide +kernel
theorem dX1_atFly_3 : decode cX1_atFly 3 = .ok (.invokestatic 27, 3) := by decide +kernel
theorem dX1_atFly_6 : decode cX1_atFly 6 = .ok (.ifCond .eq 12, 3) := by decide +kernel
theorem dX1_atFly_9 : decode cX1_atFly 9 = .ok (.aload_n 0, 1) := by decide +kernel
theorem dX1_atFly_10 : decode cX1_atFly 10 = .ok (.getfield 15, 3) := by decide +kernel
theorem dX1_atFly_13 : decode cX1_atFly 13 = .ok (.iload_n 1, 1) := by decide +kernel
theorem dX1_atFly_14 : decode cX1_atFly 14 = .ok (.iaload, 1) := by decide +kernel
theorem dX1_atFly_15 : decode cX1_atFly 15 = .ok (.goto 5, 3) := by decide +kernel
theorem dX1_atFly_18 : decode cX1_atFly 18 = .ok (.bipush (-6), 2) := by decide +kernel
theorem dX1_atFly_20 : decode cX1_atFly 20 = .ok (.ireturn, 1) := by decide +kernel
theorem dX1_weightOf_0 : decode cX1_weightOf 0 = .ok (.iload_n 1, 1) := by decide +kernel
theorem dX1_weightOf_1 : decode cX1_weightOf 1 = .ok (.bipush 10, 2) := by decide +kernel
theorem dX1_weightOf_3 : decode cX1_weightOf 3 = .ok (.invokestatic 27, 3) := by decide +kernel
theorem dX1_weightOf_6 : decode cX1_weightOf 6 = .ok (.ifCond .eq 12, 3) := by decide +kernel
theorem dX1_weightOf_9 : decode cX1_weightOf 9 = .ok (.aload_n 0, 1) := by decide +kernel
theorem dX1_weightOf_10 : decode cX1_weightOf 10 = .ok (.getfield 18, 3) := by decide +kernel
theorem dX1_weightOf_13 : decode cX1_weightOf 13 = .ok (.iload_n 1, 1) := by decide +kernel
theorem dX1_weightOf_14 : decode cX1_weightOf 14 = .ok (.iaload, 1) := by decide +kernel
theorem dX1_weightOf_15 : decode cX1_weightOf 15 = .ok (.goto 5, 3) := by decide +kernel
theorem dX1_weightOf_18 : decode cX1_weightOf 18 = .ok (.bipush (-6), 2) := by decide +kernel
theorem dX1_weightOf_20 : decode cX1_weightOf 20 = .ok (.ireturn, 1) := by decide +kernel
theorem dX1_countWith_0 : decode cX1_countWith 0 = .ok (.iconst 0, 1) := by decide +kernel
theorem dX1_countWith_1 : decode cX1_countWith 1 = .ok (.istore_n 3, 1) := by decide +kernel
theorem dX1_countWith_2 : decode cX1_countWith 2 = .ok (.iconst 0, 1) := by decide +kernel
theorem dX1_countWith_3 : decode cX1_countWith 3 = .ok (.istore 4, 2) := by decide +kernel
theorem dX1_countWith_5 : decode cX1_countWith 5 = .ok (.iload 4, 2) := by decide +kernel
theorem dX1_countWith_7 : decode cX1_countWith 7 = .ok (.bipush 10, 2) := by decide +kernel
theorem dX1_countWith_9 : decode cX1_countWith 9 = .ok (.if_icmp .ge 34, 3) := by decide +kernel
theorem dX1_countWith_12 : decode cX1_countWith 12 = .ok (.aload_n 0, 1) := by decide +kernel
theorem dX1_countWith_13 : decode cX1_countWith 13 = .ok (.getfield 9, 3) := by decide +kernel
theorem dX1_countWith_16 : decode cX1_countWith 16 = .ok (.iload 4, 2) := by decide +kernel
theorem dX1_countWith_18 : decode cX1_countWith 18 = .ok (.iaload, 1) := by decide +kernel
theorem dX1_countWith_19 : decode cX1_countWith 19 = .ok (.iload_n 1, 1) := by decide +kernel
theorem dX1_countWith_20 : decode cX1_countWith 20 = .ok (.if_icmp .ne 17, 3) := by decide +kernel
theorem dX1_countWith_23 : decode cX1_countWith 23 = .ok (.aload_n 0, 1) := by decide +kernel
theorem dX1_countWith_24 : decode cX1_countWith 24 = .ok (.getfield 15, 3) := by decide +kernel
theorem dX1_countWith_27 : decode cX1_countWith 27 = .ok (.iload 4, 2) := by decide +kernel
theorem dX1_countWith_29 : decode cX1_countWith 29 = .ok (.iaload, 1) := by decide +kernel
theorem dX1_countWith_30 : decode cX1_countWith 30 = .ok (.iload_n 2, 1) := by decide +kernel
theorem dX1_countWith_31 : decode cX1_countWith 31 = .ok (.if_icmp .ne 6, 3) := by decide +kernel
theorem dX1_countWith_34 : decode cX1_countWith 34 = .ok (.iinc 3 1, 3) := by decide +kernel
theorem dX1_countWith_37 : decode cX1_countWith 37 = .ok (.iinc 4 1, 3) := by decide +kernel
theorem dX1_countWith_40 : decode cX1_countWith 40 = .ok (.goto (-35), 3) := by decide +kernel
theorem dX1_countWith_43 : decode cX1_countWith 43 = .ok (.iload_n 3, 1) := by decide +kernel
theorem dX1_countWith_44 : decode cX1_countWith 44 = .ok (.ireturn, 1) := by decide +kernel
theorem dX1_firstWith_0 : decode cX1_firstWith 0 = .ok (.iconst 0, 1) := by decide +kernel
theorem dX1_firstWith_1 : decode cX1_firstWith 1 = .ok (.istore_n 3, 1) := by decide +kernel
theorem dX1_firstWith_2 : decode cX1_firstWith 2 = .ok (.iload_n 3, 1) := by decide +kernel
theorem dX1_firstWith_3 : decode cX1_firstWith 3 = .ok (.bipush 10, 2) := by decide +kernel
theorem dX1_firstWith_5 : decode cX1_firstWith 5 = .ok (.if_icmp .ge 31, 3) := by decide +kernel
theorem dX1_firstWith_8 : decode cX1_firstWith 8 = .ok (.aload_n 0, 1) := by decide +kernel
theorem dX1_firstWith_9 : decode cX1_firstWith 9 = .ok (.getfield 9, 3) := by decide +kernel
theorem dX1_firstWith_12 : decode cX1_firstWith 12 = .ok (.iload_n 3, 1) := by decide +kernel
theorem dX1_firstWith_13 : decode cX1_firstWith 13 = .ok (.iaload, 1) := by decide +kernel
theorem dX1_firstWith_14 : decode cX1_firstWith 14 = .ok (.iload_n 1, 1) := by decide +kernel
theorem dX1_firstWith_15 : decode cX1_firstWith 15 = .ok (.if_icmp .ne 15, 3) := by decide +kernel
theorem dX1_firstWith_18 : decode cX1_firstWith 18 = .ok (.aload_n 0, 1) := by decide +kernel
theorem dX1_firstWith_19 : decode cX1_firstWith 19 = .ok (.getfield 15, 3) := by decide +kernel
theorem dX1_firstWith_22 : decode cX1_firstWith 22 = .ok (.iload_n 3, 1) := by decide +kernel
theorem dX1_firstWith_23 : decode cX1_firstWith 23 = .ok (.iaload, 1) := by decide +kernel
theorem dX1_firstWith_24 : decode cX1_firstWith 24 = .ok (.iload_n 2, 1) := by decide +kernel
theorem dX1_firstWith_25 : decode cX1_firstWith 25 = .ok (.if_icmp .ne 5, 3) := by decide +kernel
theorem dX1_firstWith_28 : decode cX1_firstWith 28 = .ok (.iload_n 3, 1) := by decide +kernel
theorem dX1_firstWith_29 : decode cX1_firstWith 29 = .ok (.ireturn, 1) := by decide +kernel
theorem dX1_firstWith_30 : decode cX1_firstWith 30 = .ok (.iinc 3 1, 3) := by decide +kernel
theorem dX1_firstWith_33 : decode cX1_firstWith 33 = .ok (.goto (-31), 3) := by decide +kernel
theorem dX1_firstWith_36 : decode cX1_firstWith 36 = .ok (.bipush (-6), 2) := by decide +kernel
theorem dX1_firstWith_38 : decode cX1_firstWith 38 = .ok (.ireturn, 1) := by decide +kernel
theorem dX1_takenFor_0 : decode cX1_takenFor 0 = .ok (.iload_n 1, 1) := by decide +kernel
theorem dX1_takenFor_1 : decode cX1_takenFor 1 = .ok (.bipush 10, 2) := by decide +kernel
theorem dX1_takenFor_3 : decode cX1_takenFor 3 = .ok (.invokestatic 27, 3) := by decide +kernel
theorem dX1_takenFor_6 : decode cX1_takenFor 6 = .ok (.ifCond .eq 13, 3) := by decide +kernel
theorem dX1_takenFor_9 : decode cX1_takenFor 9 = .ok (.aload_n 0, 1) := by decide +kernel
theorem dX1_takenFor_10 : decode cX1_takenFor 10 = .ok (.getfield 18, 3) := by decide +kernel
theorem dX1_takenFor_13 : decode cX1_takenFor 13 = .ok (.iload_n 1, 1) := by decide +kernel
theorem dX1_takenFor_14 : decode cX1_takenFor 14 = .ok (.iaload, 1) := by decide +kernel
theorem dX1_takenFor_15 : decode cX1_takenFor 15 = .ok (.iload_n 3, 1) := by decide +kernel
theorem dX1_takenFor_16 : decode cX1_takenFor 16 = .ok (.if_icmp .le 6, 3) := by decide +kernel
theorem dX1_takenFor_19 : decode cX1_takenFor 19 = .ok (.bipush (-6), 2) := by decide +kernel
theorem dX1_takenFor_21 : decode cX1_takenFor 21 = .ok (.ireturn, 1) := by decide +kernel
theorem dX1_takenFor_22 : decode cX1_takenFor 22 = .ok (.iload_n 2, 1) := by decide +kernel
theorem dX1_takenFor_23 : decode cX1_takenFor 23 = .ok (.ifCond .eq 20, 3) := by decide +kernel
theorem dX1_takenFor_26 : decode cX1_takenFor 26 = .ok (.aload_n 0, 1) := by decide +kernel
theorem dX1_takenFor_27 : decode cX1_takenFor 27 = .ok (.aload_n 0, 1) := by decide +kernel
theorem dX1_takenFor_28 : decode cX1_takenFor 28 = .ok (.getfield 9, 3) := by decide +kernel
theorem dX1_takenFor_31 : decode cX1_takenFor 31 = .ok (.iload_n 1, 1) := by decide +kernel
theorem dX1_takenFor_32 : decode cX1_takenFor 32 = .ok (.iaload, 1) := by decide +kernel
theorem dX1_takenFor_33 : decode cX1_takenFor 33 = .ok (.aload_n 0, 1) := by decide +kernel
theorem dX1_takenFor_34 : decode cX1_takenFor 34 = .ok (.getfield 15, 3) := by decide +kernel
theorem dX1_takenFor_37 : decode cX1_takenFor 37 = .ok (.iload_n 1, 1) := by decide +kernel
theorem dX1_takenFor_38 : decode cX1_takenFor 38 = .ok (.iaload, 1) := by decide +kernel
theorem dX1_takenFor_39 : decode cX1_takenFor 39 = .ok (.invokevirtual 31, 3) := by decide +kernel
theorem dX1_takenFor_42 : decode cX1_takenFor 42 = .ok (.ireturn, 1) := by decide +kernel
theorem dX1_takenFor_43 : decode cX1_takenFor 43 = .ok (.aload_n 0, 1) := by decide +kernel
theorem dX1_takenFor_44 : decode cX1_takenFor 44 = .ok (.aload_n 0, 1) := by decide +kernel
theorem dX1_takenFor_45 : decode cX1_takenFor 45 = .ok (.getfield 15, 3) := by decide +kernel
theorem dX1_takenFor_48 : decode cX1_takenFor 48 = .ok (.iload_n 1, 1) := by decide +kernel
theorem dX1_takenFor_49 : decode cX1_takenFor 49 = .ok (.iaload, 1) := by decide +kernel
theorem dX1_takenFor_50 : decode cX1_takenFor 50 = .ok (.aload_n 0, 1) := by decide +kernel
theorem dX1_takenFor_51 : decode cX1_takenFor 51 = .ok (.getfield 9, 3) := by decide +kernel
theorem dX1_takenFor_54 : decode cX1_takenFor 54 = .ok (.iload_n 1, 1) := by decide +kernel
theorem dX1_takenFor_55 : decode cX1_takenFor 55 = .ok (.iaload, 1) := by decide +kernel
theorem dX1_takenFor_56 : decode cX1_takenFor 56 = .ok (.invokevirtual 31, 3) := by decide +kernel
theorem dX1_takenFor_59 : decode cX1_takenFor 59 = .ok (.ireturn, 1) := by decide +kernel
theorem dX2_init_0 : decode cX2_init 0 = .ok (.aload_n 0, 1) := by decide +kernel
theorem dX2_init_1 : decode cX2_init 1 = .ok (.invokespecial 3, 3) := by decide +kernel
theorem dX2_init_4 : decode cX2_init 4 = .ok (.aload_n 0, 1) := by decide +kernel
theorem dX2_init_5 : decode cX2_init 5 = .ok (.iconst 5, 1) := by decide +kernel
theorem dX2_init_6 : decode cX2_init 6 = .ok (.anewarray 9, 3) := by decide +kernel
theorem dX2_init_9 : decode cX2_init 9 = .ok (.putfield 11, 3) := by decide +kernel
theorem dX2_init_12 : decode cX2_init 12 = .ok (.aload_n 0, 1) := by decide +kernel
theorem dX2_init_13 : decode cX2_init 13 = .ok (.iconst 0, 1) := by decide +kernel
theorem dX2_init_14 : decode cX2_init 14 = .ok (.putfield 17, 3) := by decide +kernel
theorem dX2_init_17 : decode cX2_init 17 = .ok (.aload_n 0, 1) := by decide +kernel
theorem dX2_init_18 : decode cX2_init 18 = .ok (.iconst 0, 1) := by decide +kernel
theorem dX2_init_19 : decode cX2_init 19 = .ok (.putfield 21, 3) := by decide +kernel
theorem dX2_init_22 : decode cX2_init 22 = .ok (.iconst 0, 1) := by decide +kernel
theorem dX2_init_23 : decode cX2_init 23 = .ok (.istore_n 1, 1) := by decide +kernel
theorem dX2_init_24 : decode cX2_init 24 = .ok (.iload_n 1, 1) := by decide +kernel
theorem dX2_init_25 : decode cX2_init 25 = .ok (.iconst 5, 1) := by decide +kernel
theorem dX2_init_26 : decode cX2_init 26 = .ok (.if_icmp .ge 22, 3) := by decide +kernel
theorem dX2_init_29 : decode cX2_init 29 = .ok (.aload_n 0, 1) := by decide +kernel
theorem dX2_init_30 : decode cX2_init 30 = .ok (.getfield 11, 3) := by decide +kernel
theorem dX2_init_33 : decode cX2_init 33 = .ok (.iload_n 1, 1) := by decide +kernel
theorem dX2_init_34 : decode cX2_init 34 = .ok (.new 9, 3) := by decide +kernel
theorem dX2_init_37 : decode cX2_init 37 = .ok (.dup, 1) := by decide +kernel
theorem dX2_init_38 : decode cX2_init 38 = .ok (.invokespecial 24, 3) := by decide +kernel
theorem dX2_init_41 : decode cX2_init 41 = .ok (.aastore, 1) := by decide +kernel
theorem dX2_init_42 : decode cX2_init 42 = .ok (.iinc 1 1, 3) := by decide +kernel
theorem dX2_init_45 : decode cX2_init 45 = .ok (.goto (-21), 3) := by decide +kernel
theorem dX2_init_48 : decode cX2_init 48 = .ok (.return_, 1) := by decide +kernel
theorem dX2_size_0 : decode cX2_size 0 = .ok (.aload_n 0, 1) := by decide +kernel
theorem dX2_size_1 : decode cX2_size 1 = .ok (.getfield 21, 3) := by decide +kernel
theorem dX2_size_4 : decode cX2_size 4 = .ok (.ireturn, 1) := by decide +kernel
theorem dX2_record_0 : decode cX2_record 0 = .ok (.aload_n 0, 1) := by decide +kernel
theorem dX2_record_1 : decode cX2_record 1 = .ok (.aload_n 0, 1) := by decide +kernel
theorem dX2_record_2 : decode cX2_record 2 = .ok (.getfield 17, 3) := by decide +kernel
theorem dX2_record_5 : decode cX2_record 5 = .ok (.invokevirtual 25, 3) := by decide +kernel
theorem dX2_record_8 : decode cX2_record 8 = .ok (.astore_n 2, 1) := by decide +kernel
theorem dX2_record_9 : decode cX2_record 9 = .ok (.aload_n 2, 1) := by decide +kernel
theorem dX2_record_10 : decode cX2_record 10 = .ok (.ifnull 34, 3) := by decide +kernel
theorem dX2_record_13 : decode cX2_record 13 = .ok (.aload_n 2, 1) := by decide +kernel
theorem dX2_record_14 : decode cX2_record 14 = .ok (.aload_n 1, 1) := by decide +kernel
theorem dX2_record_15 : decode cX2_record 15 = .ok (.invokevirtual 29, 3) := by decide +kernel
theorem dX2_record_18 : decode cX2_record 18 = .ok (.aload_n 0, 1) := by decide +kernel
theorem dX2_record_19 : decode cX2_record 19 = .ok (.aload_n 0, 1) := by decide +kernel
theorem dX2_record_20 : decode cX2_record 20 = .ok (.getfield 17, 3) := by decide +kernel
theorem dX2_record_23 : decode cX2_record 23 = .ok (.iconst 1, 1) := by decide +kernel
theorem dX2_record_24 : decode cX2_record 24 = .ok (.iadd, 1) := by decide +kernel
theorem dX2_record_25 : decode cX2_record 25 = .ok (.iconst 5, 1) := by decide +kernel
theorem dX2_record_26 : decode cX2_record 26 = .ok (.irem, 1) := by decide +kernel
theorem dX2_record_27 : decode cX2_record 27 = .ok (.putfield 17, 3) := by decide +kernel
theorem dX2_record_30 : decode cX2_record 30 = .ok (.aload_n 0, 1) := by decide +kernel
theorem dX2_record_31 : decode cX2_record 31 = .ok (.aload_n 0, 1) := by decide +kernel
theorem dX2_record_32 : decode cX2_record 32 = .ok (.getfield 21, 3) := by decide +kernel
theorem dX2_record_35 : decode cX2_record 35 = .ok (.iconst 1, 1) := by decide +kernel
theorem dX2_record_36 : decode cX2_record 36 = .ok (.iadd, 1) := by decide +kernel
theorem dX2_record_37 : decode cX2_record 37 = .ok (.iconst 5, 1) := by decide +kernel
theorem dX2_record_38 : decode cX2_record 38 = .ok (.invokestatic 33, 3) := by decide +kernel
theorem dX2_record_41 : decode cX2_record 41 = .ok (.putfield 21, 3) := by decide +kernel
theorem dX2_record_44 : decode cX2_record 44 = .ok (.return_, 1) := by decide +kernel
theorem dX2_takeBack_0 : decode cX2_takeBack 0 = .ok (.aload_n 0, 1) := by decide +kernel
theorem dX2_takeBack_1 : decode cX2_takeBack 1 = .ok (.getfield 17, 3) := by decide +kernel
theorem dX2_takeBack_4 : decode cX2_takeBack 4 = .ok (.iconst 5, 1) := by decide +kernel
theorem dX2_takeBack_5 : decode cX2_takeBack 5 = .ok (.iadd, 1) := by decide +kernel
theorem dX2_takeBack_6 : decode cX2_takeBack 6 = .ok (.iconst 1, 1) := by decide +kernel
theorem dX2_takeBack_7 : decode cX2_takeBack 7 = .ok (.isub, 1) := by decide +kernel
theorem dX2_takeBack_8 : decode cX2_takeBack 8 = .ok (.iconst 5, 1) := by decide +kernel
theorem dX2_takeBack_9 : decode cX2_takeBack 9 = .ok (.irem, 1) := by decide +kernel
theorem dX2_takeBack_10 : decode cX2_takeBack 10 = .ok (.istore_n 2, 1) := by decide +kernel
theorem dX2_takeBack_11 : decode cX2_takeBack 11 = .ok (.aload_n 0, 1) := by decide +kernel
theorem dX2_takeBack_12 : decode cX2_takeBack 12 = .ok (.iload_n 2, 1) := by decide +kernel
theorem dX2_takeBack_13 : decode cX2_takeBack 13 = .ok (.invokevirtual 25, 3) := by decide +kernel
theorem dX2_takeBack_16 : decode cX2_takeBack 16 = .ok (.astore_n 3, 1) := by decide +kernel
theorem dX2_takeBack_17 : decode cX2_takeBack 17 = .ok (.aload_n 3, 1) := by decide +kernel
theorem dX2_takeBack_18 : decode cX2_takeBack 18 = .ok (.ifnull 30, 3) := by decide +kernel
theorem dX2_takeBack_21 : decode cX2_takeBack 21 = .ok (.aload_n 0, 1) := by decide +kernel
theorem dX2_takeBack_22 : decode cX2_takeBack 22 = .ok (.getfield 21, 3) := by decide +kernel
theorem dX2_takeBack_25 : decode cX2_takeBack 25 = .ok (.ifCond .le 23, 3) := by decide +kernel
theorem dX2_takeBack_28 : decode cX2_takeBack 28 = .ok (.aload_n 1, 1) := by decide +kernel
theorem dX2_takeBack_29 : decode cX2_takeBack 29 = .ok (.aload_n 3, 1) := by decide +kernel
theorem dX2_takeBack_30 : decode cX2_takeBack 30 = .ok (.invokevirtual 29, 3) := by decide +kernel
theorem dX2_takeBack_33 : decode cX2_takeBack 33 = .ok (.aload_n 0, 1) := by decide +kernel
theorem dX2_takeBack_34 : decode cX2_takeBack 34 = .ok (.iload_n 2, 1) := by decide +kernel
theorem dX2_takeBack_35 : decode cX2_takeBack 35 = .ok (.putfield 17, 3) := by decide +kernel
theorem dX2_takeBack_38 : decode cX2_takeBack 38 = .ok (.aload_n 0, 1) := by decide +kernel
theorem dX2_takeBack_39 : decode cX2_takeBack 39 = .ok (.dup, 1) := by decide +kernel
theorem dX2_takeBack_40 : decode cX2_takeBack 40 = .ok (.getfield 21, 3) := by decide +kernel
theorem dX2_takeBack_43 : decode cX2_takeBack 43 = .ok (.iconst 1, 1) := by decide +kernel
theorem dX2_takeBack_44 : decode cX2_takeBack 44 = .ok (.isub, 1) := by decide +kernel
theorem dX2_takeBack_45 : decode cX2_takeBack 45 = .ok (.putfield 21, 3) := by decide +kernel
theorem dX2_takeBack_48 : decode cX2_takeBack 48 = .ok (.return_, 1) := by decide +kernel
theorem dX2_slotAt_0 : decode cX2_slotAt 0 = .ok (.iload_n 1, 1) := by decide +kernel
theorem dX2_slotAt_1 : decode cX2_slotAt 1 = .ok (.iconst 5, 1) := by decide +kernel
theorem dX2_slotAt_2 : decode cX2_slotAt 2 = .ok (.invokestatic 39, 3) := by decide +kernel
theorem dX2_slotAt_5 : decode cX2_slotAt 5 = .ok (.ifCond .eq 12, 3) := by decide +kernel
theorem dX2_slotAt_8 : decode cX2_slotAt 8 = .ok (.aload_n 0, 1) := by decide +kernel
theorem dX2_slotAt_9 : decode cX2_slotAt 9 = .ok (.getfield 11, 3) := by decide +kernel
theorem dX2_slotAt_12 : decode cX2_slotAt 12 = .ok (.iload_n 1, 1) := by decide +kernel
theorem dX2_slotAt_13 : decode cX2_slotAt 13 = .ok (.aaload, 1) := by decide +kernel
theorem dX2_slotAt_14 : decode cX2_slotAt 14 = .ok (.goto 4, 3) := by decide +kernel
theorem dX2_slotAt_17 : decode cX2_slotAt 17 = .ok (.aconst_null, 1) := by decide +kernel
theorem dX2_slotAt_18 : decode cX2_slotAt 18 = .ok (.areturn, 1) := by decide +kernel
theorem dX3_init_0 : decode cX3_init 0 = .ok (.aload_n 0, 1) := by decide +kernel
theorem dX3_init_1 : decode cX3_init 1 = .ok (.invokespecial 3, 3) := by decide +kernel
theorem dX3_init_4 : decode cX3_init 4 = .ok (.aload_n 0, 1) := by decide +kernel
theorem dX3_init_5 : decode cX3_init 5 = .ok (.bipush 20, 2) := by decide +kernel
theorem dX3_init_7 : decode cX3_init 7 = .ok (.newarray .int, 2) := by decide +kernel
theorem dX3_init_9 : decode cX3_init 9 = .ok (.putfield 9, 3) := by decide +kernel
theorem dX3_init_12 : decode cX3_init 12 = .ok (.aload_n 0, 1) := by decide +kernel
theorem dX3_init_13 : decode cX3_init 13 = .ok (.iconst 5, 1) := by decide +kernel
theorem dX3_init_14 : decode cX3_init 14 = .ok (.newarray .int, 2) := by decide +kernel
theorem dX3_init_16 : decode cX3_init 16 = .ok (.putfield 15, 3) := by decide +kernel
theorem dX3_init_19 : decode cX3_init 19 = .ok (.return_, 1) := by decide +kernel
theorem dX3_copyFrom_0 : decode cX3_copyFrom 0 = .ok (.aload_n 1, 1) := by decide +kernel
theorem dX3_copyFrom_1 : decode cX3_copyFrom 1 = .ok (.getfield 9, 3) := by decide +kernel
theorem dX3_copyFrom_4 : decode cX3_copyFrom 4 = .ok (.iconst 0, 1) := by decide +kernel
theorem dX3_copyFrom_5 : decode cX3_copyFrom 5 = .ok (.aload_n 0, 1) := by decide +kernel
theorem dX3_copyFrom_6 : decode cX3_copyFrom 6 = .ok (.getfield 9, 3) := by decide +kernel
theorem dX3_copyFrom_9 : decode cX3_copyFrom 9 = .ok (.iconst 0, 1) := by decide +kernel
theorem dX3_copyFrom_10 : decode cX3_copyFrom 10 = .ok (.bipush 20, 2) := by decide +kernel
theorem dX3_copyFrom_12 : decode cX3_copyFrom 12 = .ok (.invokestatic 18, 3) := by decide +kernel
theorem dX3_copyFrom_15 : decode cX3_copyFrom 15 = .ok (.aload_n 1, 1) := by decide +kernel
theorem dX3_copyFrom_16 : decode cX3_copyFrom 16 = .ok (.getfield 15, 3) := by decide +kernel
theorem dX3_copyFrom_19 : decode cX3_copyFrom 19 = .ok (.iconst 0, 1) := by decide +kernel
theorem dX3_copyFrom_20 : decode cX3_copyFrom 20 = .ok (.aload_n 0, 1) := by decide +kernel
theorem dX3_copyFrom_21 : decode cX3_copyFrom 21 = .ok (.getfield 15, 3) := by decide +kernel
theorem dX3_copyFrom_24 : decode cX3_copyFrom 24 = .ok (.iconst 0, 1) := by decide +kernel
theorem dX3_copyFrom_25 : decode cX3_copyFrom 25 = .ok (.iconst 5, 1) := by decide +kernel
theorem dX3_copyFrom_26 : decode cX3_copyFrom 26 = .ok (.invokestatic 18, 3) := by decide +kernel
theorem dX3_copyFrom_29 : decode cX3_copyFrom 29 = .ok (.return_, 1) := by decide +kernel
theorem dX3_clear_0 : decode cX3_clear 0 = .ok (.iconst 0, 1) := by decide +kernel
theorem dX3_clear_1 : decode cX3_clear 1 = .ok (.istore_n 1, 1) := by decide +kernel
theorem dX3_clear_2 : decode cX3_clear 2 = .ok (.iload_n 1, 1) := by decide +kernel
theorem dX3_clear_3 : decode cX3_clear 3 = .ok (.iconst 5, 1) := by decide +kernel
theorem dX3_clear_4 : decode cX3_clear 4 = .ok (.if_icmp .ge 16, 3) := by decide +kernel
theorem dX3_clear_7 : decode cX3_clear 7 = .ok (.aload_n 0, 1) := by decide +kernel
theorem dX3_clear_8 : decode cX3_clear 8 = .ok (.getfield 15, 3) := by decide +kernel
theorem dX3_clear_11 : decode cX3_clear 11 = .ok (.iload_n 1, 1) := by decide +kernel
theorem dX3_clear_12 : decode cX3_clear 12 = .ok (.iconst 0, 1) := by decide +kernel
theorem dX3_clear_13 : decode cX3_clear 13 = .ok (.iastore, 1) := by decide +kernel
theorem dX3_clear_14 : decode cX3_clear 14 = .ok (.iinc 1 1, 3) := by decide +kernel
theorem dX3_clear_17 : decode cX3_clear 17 = .ok (.goto (-15), 3) := by decide +kernel
theorem dX3_clear_20 : decode cX3_clear 20 = .ok (.return_, 1) := by decide +kernel
theorem dX3_sizeOf_0 : decode cX3_sizeOf 0 = .ok (.iload_n 1, 1) := by decide +kernel
theorem dX3_sizeOf_1 : decode cX3_sizeOf 1 = .ok (.iconst 5, 1) := by decide +kernel
theorem dX3_sizeOf_2 : decode cX3_sizeOf 2 = .ok (.invokestatic 24, 3) := by decide +kernel
theorem dX3_sizeOf_5 : decode cX3_sizeOf 5 = .ok (.ifCond .eq 12, 3) := by decide +kernel
theorem dX3_sizeOf_8 : decode cX3_sizeOf 8 = .ok (.aload_n 0, 1) := by decide +kernel
theorem dX3_sizeOf_9 : decode cX3_sizeOf 9 = .ok (.getfield 15, 3) := by decide +kernel
theorem dX3_sizeOf_12 : decode cX3_sizeOf 12 = .ok (.iload_n 1, 1) := by decide +kernel
theorem dX3_sizeOf_13 : decode cX3_sizeOf 13 = .ok (.iaload, 1) := by decide +kernel
theorem dX3_sizeOf_14 : decode cX3_sizeOf 14 = .ok (.goto 4, 3) := by decide +kernel
theorem dX3_sizeOf_17 : decode cX3_sizeOf 17 = .ok (.iconst 0, 1) := by decide +kernel
theorem dX3_sizeOf_18 : decode cX3_sizeOf 18 = .ok (.ireturn, 1) := by decide +kernel
theorem dX3_has_0 : decode cX3_has 0 = .ok (.iload_n 1, 1) := by decide +kernel
theorem dX3_has_1 : decode cX3_has 1 = .ok (.ifCond .lt 32, 3) := by decide +kernel
theorem dX3_has_4 : decode cX3_has 4 = .ok (.iload_n 1, 1) := by decide +kernel
theorem dX3_has_5 : decode cX3_has 5 = .ok (.iconst 5, 1) := by decide +kernel
theorem dX3_has_6 : decode cX3_has 6 = .ok (.if_icmp .ge 27, 3) := by decide +kernel
theorem dX3_has_9 : decode cX3_has 9 = .ok (.iload_n 2, 1) := by decide +kernel
theorem dX3_has_10 : decode cX3_has 10 = .ok (.iconst 1, 1) := by decide +kernel
theorem dX3_has_11 : decode cX3_has 11 = .ok (.if_icmp .lt 22, 3) := by decide +kernel
theorem dX3_has_14 : decode cX3_has 14 = .ok (.iload_n 2, 1) := by decide +kernel
theorem dX3_has_15 : decode cX3_has 15 = .ok (.iconst 4, 1) := by decide +kernel
theorem dX3_has_16 : decode cX3_has 16 = .ok (.if_icmp .gt 17, 3) := by decide +kernel
theorem dX3_has_19 : decode cX3_has 19 = .ok (.iload_n 2, 1) := by decide +kernel
theorem dX3_has_20 : decode cX3_has 20 = .ok (.aload_n 0, 1) := by decide +kernel
theorem dX3_has_21 : decode cX3_has 21 = .ok (.getfield 15, 3) := by decide +kernel
theorem dX3_has_24 : decode cX3_has 24 = .ok (.iload_n 1, 1) := by decide +kernel
theorem dX3_has_25 : decode cX3_has 25 = .ok (.iaload, 1) := by decide +kernel
theorem dX3_has_26 : decode cX3_has 26 = .ok (.if_icmp .gt 7, 3) := by decide +kernel
theorem dX3_has_29 : decode cX3_has 29 = .ok (.iconst 1, 1) := by decide +kernel
theorem dX3_has_30 : decode cX3_has 30 = .ok (.goto 4, 3) := by decide +kernel
theorem dX3_has_33 : decode cX3_has 33 = .ok (.iconst 0, 1) := by decide +kernel
theorem dX3_has_34 : decode cX3_has 34 = .ok (.ireturn, 1) := by decide +kernel
theorem dX3_signAt_0 : decode cX3_signAt 0 = .ok (.aload_n 0, 1) := by decide +kernel
theorem dX3_signAt_1 : decode cX3_signAt 1 = .ok (.iload_n 1, 1) := by decide +kernel
theorem dX3_signAt_2 : decode cX3_signAt 2 = .ok (.iload_n 2, 1) := by decide +kernel
theorem dX3_signAt_3 : decode cX3_signAt 3 = .ok (.invokevirtual 28, 3) := by decide +kernel
theorem dX3_signAt_6 : decode cX3_signAt 6 = .ok (.ifCond .eq 18, 3) := by decide +kernel
theorem dX3_signAt_9 : decode cX3_signAt 9 = .ok (.aload_n 0, 1) := by decide +kernel
theorem dX3_signAt_10 : decode cX3_signAt 10 = .ok (.getfield 9, 3) := by decide +kernel
theorem dX3_signAt_13 : decode cX3_signAt 13 = .ok (.iload_n 1, 1) := by decide +kernel
theorem dX3_signAt_14 : decode cX3_signAt 14 = .ok (.iconst 4, 1) := by decide +kernel
theorem dX3_signAt_15 : decode cX3_signAt 15 = .ok (.imul, 1) := by decide +kernel
theorem dX3_signAt_16 : decode cX3_signAt 16 = .ok (.iload_n 2, 1) := by decide +kernel
theorem dX3_signAt_17 : decode cX3_signAt 17 = .ok (.iadd, 1) := by decide +kernel
theorem dX3_signAt_18 : decode cX3_signAt 18 = .ok (.iconst 1, 1) := by decide +kernel
theorem dX3_signAt_19 : decode cX3_signAt 19 = .ok (.isub, 1) := by decide +kernel
theorem dX3_signAt_20 : decode cX3_signAt 20 = .ok (.iaload, 1) := by decide +kernel
theorem dX3_signAt_21 : decode cX3_signAt 21 = .ok (.goto 4, 3) := by decide +kernel
theorem dX3_signAt_24 : decode cX3_signAt 24 = .ok (.iconst (-1), 1) := by decide +kernel
theorem dX3_signAt_25 : decode cX3_signAt 25 = .ok (.ireturn, 1) := by decide +kernel
theorem dX3_flagAt_0 : decode cX3_flagAt 0 = .ok (.aload_n 0, 1) := by decide +kernel
theorem dX3_flagAt_1 : decode cX3_flagAt 1 = .ok (.iload_n 1, 1) := by decide +kernel
theorem dX3_flagAt_2 : decode cX3_flagAt 2 = .ok (.iload_n 2, 1) := by decide +kernel
theorem dX3_flagAt_3 : decode cX3_flagAt 3 = .ok (.invokevirtual 31, 3) := by decide +kernel
theorem dX3_flagAt_6 : decode cX3_flagAt 6 = .ok (.istore_n 3, 1) := by decide +kernel
theorem dX3_flagAt_7 : decode cX3_flagAt 7 = .ok (.iconst 1, 1) := by decide +kernel
theorem dX3_flagAt_8 : decode cX3_flagAt 8 = .ok (.istore 4, 2) := by decide +kernel
theorem dX3_flagAt_10 : decode cX3_flagAt 10 = .ok (.iload 4, 2) := by decide +kernel
theorem dX3_flagAt_12 : decode cX3_flagAt 12 = .ok (.iconst 4, 1) := by decide +kernel
theorem dX3_flagAt_13 : decode cX3_flagAt 13 = .ok (.if_icmp .ge 25, 3) := by decide +kernel
theorem dX3_flagAt_16 : decode cX3_flagAt 16 = .ok (.iload_n 3, 1) := by decide +kernel
theorem dX3_flagAt_17 : decode cX3_flagAt 17 = .ok (.bipush 10, 2) := by decide +kernel
theorem dX3_flagAt_19 : decode cX3_flagAt 19 = .ok (.if_icmp .le 19, 3) := by decide +kernel
theorem dX3_flagAt_22 : decode cX3_flagAt 22 = .ok (.aload_n 0, 1) := by decide +kernel
theorem dX3_flagAt_23 : decode cX3_flagAt 23 = .ok (.iload_n 1, 1) := by decide +kernel
theorem dX3_flagAt_24 : decode cX3_flagAt 24 = .ok (.iload_n 3, 1) := by decide +kernel
theorem dX3_flagAt_25 : decode cX3_flagAt 25 = .ok (.bipush 10, 2) := by decide +kernel
theorem dX3_flagAt_27 : decode cX3_flagAt 27 = .ok (.isub, 1) := by decide +kernel
theorem dX3_flagAt_28 : decode cX3_flagAt 28 = .ok (.invokevirtual 31, 3) := by decide +kernel
theorem dX3_flagAt_31 : decode cX3_flagAt 31 = .ok (.istore_n 3, 1) := by decide +kernel
theorem dX3_flagAt_32 : decode cX3_flagAt 32 = .ok (.iinc 4 1, 3) := by decide +kernel
theorem dX3_flagAt_35 : decode cX3_flagAt 35 = .ok (.goto (-25), 3) := by decide +kernel
theorem dX3_flagAt_38 : decode cX3_flagAt 38 = .ok (.iload_n 3, 1) := by decide +kernel
theorem dX3_flagAt_39 : decode cX3_flagAt 39 = .ok (.ireturn, 1) := by decide +kernel
theorem dX3_add_0 : decode cX3_add 0 = .ok (.iload_n 1, 1) := by decide +kernel
theorem dX3_add_1 : decode cX3_add 1 = .ok (.iconst 5, 1) := by decide +kernel
theorem dX3_add_2 : decode cX3_add 2 = .ok (.invokestatic 24, 3) := by decide +kernel
theorem dX3_add_5 : decode cX3_add 5 = .ok (.ifCond .eq 42, 3) := by decide +kernel
theorem dX3_add_8 : decode cX3_add 8 = .ok (.aload_n 0, 1) := by decide +kernel
theorem dX3_add_9 : decode cX3_add 9 = .ok (.getfield 15, 3) := by decide +kernel
theorem dX3_add_12 : decode cX3_add 12 = .ok (.iload_n 1, 1) := by decide +kernel
theorem dX3_add_13 : decode cX3_add 13 = .ok (.iaload, 1) := by decide +kernel
theorem dX3_add_14 : decode cX3_add 14 = .ok (.iconst 4, 1) := by decide +kernel
theorem dX3_add_15 : decode cX3_add 15 = .ok (.invokestatic 24, 3) := by decide +kernel
theorem dX3_add_18 : decode cX3_add 18 = .ok (.ifCond .eq 29, 3) := by decide +kernel
theorem dX3_add_21 : decode cX3_add 21 = .ok (.aload_n 0, 1) := by decide +kernel
theorem dX3_add_22 : decode cX3_add 22 = .ok (.getfield 9, 3) := by decide +kernel
theorem dX3_add_25 : decode cX3_add 25 = .ok (.iload_n 1, 1) := by decide +kernel
theorem dX3_add_26 : decode cX3_add 26 = .ok (.iconst 4, 1) := by decide +kernel
theorem dX3_add_27 : decode cX3_add 27 = .ok (.imul, 1) := by decide +kernel
theorem dX3_add_28 : decode cX3_add 28 = .ok (.aload_n 0, 1) := by decide +kernel
theorem dX3_add_29 : decode cX3_add 29 = .ok (.getfield 15, 3) := by decide +kernel
theorem dX3_add_32 : decode cX3_add 32 = .ok (.iload_n 1, 1) := by decide +kernel
theorem dX3_add_33 : decode cX3_add 33 = .ok (.iaload, 1) := by decide +kernel
theorem dX3_add_34 : decode cX3_add 34 = .ok (.iadd, 1) := by decide +kernel
theorem dX3_add_35 : decode cX3_add 35 = .ok (.iload_n 2, 1) := by decide +kernel
theorem dX3_add_36 : decode cX3_add 36 = .ok (.iastore, 1) := by decide +kernel
theorem dX3_add_37 : decode cX3_add 37 = .ok (.aload_n 0, 1) := by decide +kernel
theorem dX3_add_38 : decode cX3_add 38 = .ok (.getfield 15, 3) := by decide +kernel
theorem dX3_add_41 : decode cX3_add 41 = .ok (.iload_n 1, 1) := by decide +kernel
theorem dX3_add_42 : decode cX3_add 42 = .ok (.dup2, 1) := by decide +kernel
theorem dX3_add_43 : decode cX3_add 43 = .ok (.iaload, 1) := by decide +kernel
theorem dX3_add_44 : decode cX3_add 44 = .ok (.iconst 1, 1) := by decide +kernel
theorem dX3_add_45 : decode cX3_add 45 = .ok (.iadd, 1) := by decide +kernel
theorem dX3_add_46 : decode cX3_add 46 = .ok (.iastore, 1) := by decide +kernel
theorem dX3_add_47 : decode cX3_add 47 = .ok (.return_, 1) := by decide +kernel
theorem dX3_removeLowest_0 : decode cX3_removeLowest 0 = .ok (.aload_n 0, 1) := by decide +kernel
theorem dX3_removeLowest_1 : decode cX3_removeLowest 1 = .ok (.iload_n 1, 1) := by decide +kernel
theorem dX3_removeLowest_2 : decode cX3_removeLowest 2 = .ok (.invokevirtual 35, 3) := by decide +kernel
theorem dX3_removeLowest_5 : decode cX3_removeLowest 5 = .ok (.istore_n 2, 1) := by decide +kernel
theorem dX3_removeLowest_6 : decode cX3_removeLowest 6 = .ok (.aload_n 0, 1) := by decide +kernel
theorem dX3_removeLowest_7 : decode cX3_removeLowest 7 = .ok (.iload_n 1, 1) := by decide +kernel
theorem dX3_removeLowest_8 : decode cX3_removeLowest 8 = .ok (.iload_n 2, 1) := by decide +kernel
theorem dX3_removeLowest_9 : decode cX3_removeLowest 9 = .ok (.invokevirtual 28, 3) := by decide +kernel
theorem dX3_removeLowest_12 : decode cX3_removeLowest 12 = .ok (.ifCond .ne 5, 3) := by decide +kernel
theorem dX3_removeLowest_15 : decode cX3_removeLowest 15 = .ok (.iconst (-1), 1) := by decide +kernel
theorem dX3_removeLowest_16 : decode cX3_removeLowest 16 = .ok (.ireturn, 1) := by decide +kernel
theorem dX3_removeLowest_17 : decode cX3_removeLowest 17 = .ok (.aload_n 0, 1) := by decide +kernel
theorem dX3_removeLowest_18 : decode cX3_removeLowest 18 = .ok (.getfield 15, 3) := by decide +kernel
theorem dX3_removeLowest_21 : decode cX3_removeLowest 21 = .ok (.iload_n 1, 1) := by decide +kernel
theorem dX3_removeLowest_22 : decode cX3_removeLowest 22 = .ok (.dup2, 1) := by decide +kernel
theorem dX3_removeLowest_23 : decode cX3_removeLowest 23 = .ok (.iaload, 1) := by decide +kernel
theorem dX3_removeLowest_24 : decode cX3_removeLowest 24 = .ok (.iconst 1, 1) := by decide +kernel
theorem dX3_removeLowest_25 : decode cX3_removeLowest 25 = .ok (.isub, 1) := by decide +kernel
theorem dX3_removeLowest_26 : decode cX3_removeLowest 26 = .ok (.iastore, 1) := by decide +kernel
theorem dX3_removeLowest_27 : decode cX3_removeLowest 27 = .ok (.aload_n 0, 1) := by decide +kernel
theorem dX3_removeLowest_28 : decode cX3_removeLowest 28 = .ok (.getfield 9, 3) := by decide +kernel
theorem dX3_removeLowest_31 : decode cX3_removeLowest 31 = .ok (.iload_n 1, 1) := by decide +kernel
theorem dX3_removeLowest_32 : decode cX3_removeLowest 32 = .ok (.iconst 4, 1) := by decide +kernel
theorem dX3_removeLowest_33 : decode cX3_removeLowest 33 = .ok (.imul, 1) := by decide +kernel
theorem dX3_removeLowest_34 : decode cX3_removeLowest 34 = .ok (.iload_n 2, 1) := by decide +kernel
theorem dX3_removeLowest_35 : decode cX3_removeLowest 35 = .ok (.iadd, 1) := by decide +kernel
theorem dX3_removeLowest_36 : decode cX3_removeLowest 36 = .ok (.iconst 1, 1) := by decide +kernel
theorem dX3_removeLowest_37 : decode cX3_removeLowest 37 = .ok (.isub, 1) := by decide +kernel
theorem dX3_removeLowest_38 : decode cX3_removeLowest 38 = .ok (.iaload, 1) := by decide +kernel
theorem dX3_removeLowest_39 : decode cX3_removeLowest 39 = .ok (.ireturn, 1) := by decide +kernel
theorem dX3_swap_0 : decode cX3_swap 0 = .ok (.iload_n 1, 1) := by decide +kernel
theorem dX3_swap_1 : decode cX3_swap 1 = .ok (.iconst 5, 1) := by decide +kernel
theorem dX3_swap_2 : decode cX3_swap 2 = .ok (.invokestatic 24, 3) := by decide +kernel
theorem dX3_swap_5 : decode cX3_swap 5 = .ok (.ifCond .eq 11, 3) := by decide +kernel
theorem dX3_swap_8 : decode cX3_swap 8 = .ok (.iload_n 2, 1) := by decide +kernel
theorem dX3_swap_9 : decode cX3_swap 9 = .ok (.iconst 5, 1) := by decide +kernel
theorem dX3_swap_10 : decode cX3_swap 10 = .ok (.invokestatic 24, 3) := by decide +kernel
theorem dX3_swap_13 : decode cX3_swap 13 = .ok (.ifCond .ne 4, 3) := by decide +kernel
theorem dX3_swap_16 : decode cX3_swap 16 = .ok (.return_, 1) := by decide +kernel
theorem dX3_swap_17 : decode cX3_swap 17 = .ok (.iconst 0, 1) := by decide +kernel
theorem dX3_swap_18 : decode cX3_swap 18 = .ok (.istore_n 3, 1) := by decide +kernel
theorem dX3_swap_19 : decode cX3_swap 19 = .ok (.iload_n 3, 1) := by decide +kernel
theorem dX3_swap_20 : decode cX3_swap 20 = .ok (.iconst 4, 1) := by decide +kernel
theorem dX3_swap_21 : decode cX3_swap 21 = .ok (.if_icmp .ge 53, 3) := by decide +kernel
theorem dX3_swap_24 : decode cX3_swap 24 = .ok (.aload_n 0, 1) := by decide +kernel
theorem dX3_swap_25 : decode cX3_swap 25 = .ok (.getfield 9, 3) := by decide +kernel
theorem dX3_swap_28 : decode cX3_swap 28 = .ok (.iload_n 1, 1) := by decide +kernel
theorem dX3_swap_29 : decode cX3_swap 29 = .ok (.iconst 4, 1) := by decide +kernel
theorem dX3_swap_30 : decode cX3_swap 30 = .ok (.imul, 1) := by decide +kernel
theorem dX3_swap_31 : decode cX3_swap 31 = .ok (.iload_n 3, 1) := by decide +kernel
theorem dX3_swap_32 : decode cX3_swap 32 = .ok (.iadd, 1) := by decide +kernel
theorem dX3_swap_33 : decode cX3_swap 33 = .ok (.iaload, 1) := by decide +kernel
theorem dX3_swap_34 : decode cX3_swap 34 = .ok (.istore 4, 2) := by decide +kernel
theorem dX3_swap_36 : decode cX3_swap 36 = .ok (.aload_n 0, 1) := by decide +kernel
theorem dX3_swap_37 : decode cX3_swap 37 = .ok (.getfield 9, 3) := by decide +kernel
theorem dX3_swap_40 : decode cX3_swap 40 = .ok (.iload_n 1, 1) := by decide +kernel
theorem dX3_swap_41 : decode cX3_swap 41 = .ok (.iconst 4, 1) := by decide +kernel
theorem dX3_swap_42 : decode cX3_swap 42 = .ok (.imul, 1) := by decide +kernel
theorem dX3_swap_43 : decode cX3_swap 43 = .ok (.iload_n 3, 1) := by decide +kernel
theorem dX3_swap_44 : decode cX3_swap 44 = .ok (.iadd, 1) := by decide +kernel
theorem dX3_swap_45 : decode cX3_swap 45 = .ok (.aload_n 0, 1) := by decide +kernel
theorem dX3_swap_46 : decode cX3_swap 46 = .ok (.getfield 9, 3) := by decide +kernel
theorem dX3_swap_49 : decode cX3_swap 49 = .ok (.iload_n 2, 1) := by decide +kernel
theorem dX3_swap_50 : decode cX3_swap 50 = .ok (.iconst 4, 1) := by decide +kernel
theorem dX3_swap_51 : decode cX3_swap 51 = .ok (.imul, 1) := by decide +kernel
theorem dX3_swap_52 : decode cX3_swap 52 = .ok (.iload_n 3, 1) := by decide +kernel
theorem dX3_swap_53 : decode cX3_swap 53 = .ok (.iadd, 1) := by decide +kernel
theorem dX3_swap_54 : decode cX3_swap 54 = .ok (.iaload, 1) := by decide +kernel
theorem dX3_swap_55 : decode cX3_swap 55 = .ok (.iastore, 1) := by decide +kernel
theorem dX3_swap_56 : decode cX3_swap 56 = .ok (.aload_n 0, 1) := by decide +kernel
theorem dX3_swap_57 : decode cX3_swap 57 = .ok (.getfield 9, 3) := by decide +kernel
theorem dX3_swap_60 : decode cX3_swap 60 = .ok (.iload_n 2, 1) := by decide +kernel
theorem dX3_swap_61 : decode cX3_swap 61 = .ok (.iconst 4, 1) := by decide +kernel
theorem dX3_swap_62 : decode cX3_swap 62 = .ok (.imul, 1) := by decide +kernel
theorem dX3_swap_63 : decode cX3_swap 63 = .ok (.iload_n 3, 1) := by decide +kernel
theorem dX3_swap_64 : decode cX3_swap 64 = .ok (.iadd, 1) := by decide +kernel
theorem dX3_swap_65 : decode cX3_swap 65 = .ok (.iload 4, 2) := by decide +kernel
theorem dX3_swap_67 : decode cX3_swap 67 = .ok (.iastore, 1) := by decide +kernel
theorem dX3_swap_68 : decode cX3_swap 68 = .ok (.iinc 3 1, 3) := by decide +kernel
theorem dX3_swap_71 : decode cX3_swap 71 = .ok (.goto (-52), 3) := by decide +kernel
theorem dX3_swap_74 : decode cX3_swap 74 = .ok (.aload_n 0, 1) := by decide +kernel
theorem dX3_swap_75 : decode cX3_swap 75 = .ok (.getfield 15, 3) := by decide +kernel
theorem dX3_swap_78 : decode cX3_swap 78 = .ok (.iload_n 1, 1) := by decide +kernel
theorem dX3_swap_79 : decode cX3_swap 79 = .ok (.iaload, 1) := by decide +kernel
theorem dX3_swap_80 : decode cX3_swap 80 = .ok (.istore_n 3, 1) := by decide +kernel
theorem dX3_swap_81 : decode cX3_swap 81 = .ok (.aload_n 0, 1) := by decide +kernel
theorem dX3_swap_82 : decode cX3_swap 82 = .ok (.getfield 15, 3) := by decide +kernel
theorem dX3_swap_85 : decode cX3_swap 85 = .ok (.iload_n 1, 1) := by decide +kernel
theorem dX3_swap_86 : decode cX3_swap 86 = .ok (.aload_n 0, 1) := by decide +kernel
theorem dX3_swap_87 : decode cX3_swap 87 = .ok (.getfield 15, 3) := by decide +kernel
theorem dX3_swap_90 : decode cX3_swap 90 = .ok (.iload_n 2, 1) := by decide +kernel
theorem dX3_swap_91 : decode cX3_swap 91 = .ok (.iaload, 1) := by decide +kernel
theorem dX3_swap_92 : decode cX3_swap 92 = .ok (.iastore, 1) := by decide +kernel
theorem dX3_swap_93 : decode cX3_swap 93 = .ok (.aload_n 0, 1) := by decide +kernel
theorem dX3_swap_94 : decode cX3_swap 94 = .ok (.getfield 15, 3) := by decide +kernel
theorem dX3_swap_97 : decode cX3_swap 97 = .ok (.iload_n 2, 1) := by decide +kernel
theorem dX3_swap_98 : decode cX3_swap 98 = .ok (.iload_n 3, 1) := by decide +kernel
theorem dX3_swap_99 : decode cX3_swap 99 = .ok (.iastore, 1) := by decide +kernel
theorem dX3_swap_100 : decode cX3_swap 100 = .ok (.return_, 1) := by decide +kernel
theorem dX3_countAll_0 : decode cX3_countAll 0 = .ok (.iconst 0, 1) := by decide +kernel
theorem dX3_countAll_1 : decode cX3_countAll 1 = .ok (.istore_n 1, 1) := by decide +kernel
theorem dX3_countAll_2 : decode cX3_countAll 2 = .ok (.iconst 0, 1) := by decide +kernel
theorem dX3_countAll_3 : decode cX3_countAll 3 = .ok (.istore_n 2, 1) := by decide +kernel
theorem dX3_countAll_4 : decode cX3_countAll 4 = .ok (.iload_n 2, 1) := by decide +kernel
theorem dX3_countAll_5 : decode cX3_countAll 5 = .ok (.iconst 5, 1) := by decide +kernel
theorem dX3_countAll_6 : decode cX3_countAll 6 = .ok (.if_icmp .ge 18, 3) := by decide +kernel
theorem dX3_countAll_9 : decode cX3_countAll 9 = .ok (.iload_n 1, 1) := by decide +kernel
theorem dX3_countAll_10 : decode cX3_countAll 10 = .ok (.aload_n 0, 1) := by decide +kernel
theorem dX3_countAll_11 : decode cX3_countAll 11 = .ok (.getfield 15, 3) := by decide +kernel
theorem dX3_countAll_14 : decode cX3_countAll 14 = .ok (.iload_n 2, 1) := by decide +kernel
theorem dX3_countAll_15 : decode cX3_countAll 15 = .ok (.iaload, 1) := by decide +kernel
theorem dX3_countAll_16 : decode cX3_countAll 16 = .ok (.iadd, 1) := by decide +kernel
theorem dX3_countAll_17 : decode cX3_countAll 17 = .ok (.istore_n 1, 1) := by decide +kernel
theorem dX3_countAll_18 : decode cX3_countAll 18 = .ok (.iinc 2 1, 3) := by decide +kernel
theorem dX3_countAll_21 : decode cX3_countAll 21 = .ok (.goto (-17), 3) := by decide +kernel
theorem dX3_countAll_24 : decode cX3_countAll 24 = .ok (.iload_n 1, 1) := by decide +kernel
theorem dX3_countAll_25 : decode cX3_countAll 25 = .ok (.ireturn, 1) := by decide +kernel
theorem dX3_countNotEmpty_0 : decode cX3_countNotEmpty 0 = .ok (.iconst 0, 1) := by decide +kernel
theorem dX3_countNotEmpty_1 : decode cX3_countNotEmpty 1 = .ok (.istore_n 1, 1) := by decide +kernel
theorem dX3_countNotEmpty_2 : decode cX3_countNotEmpty 2 = .ok (.iconst 0, 1) := by decide +kernel
theorem dX3_countNotEmpty_3 : decode cX3_countNotEmpty 3 = .ok (.istore_n 2, 1) := by decide +kernel
theorem dX3_countNotEmpty_4 : decode cX3_countNotEmpty 4 = .ok (.iload_n 2, 1) := by decide +kernel
theorem dX3_countNotEmpty_5 : decode cX3_countNotEmpty 5 = .ok (.iconst 5, 1) := by decide +kernel
theorem dX3_countNotEmpty_6 : decode cX3_countNotEmpty 6 = .ok (.if_icmp .ge 21, 3) := by decide +kernel
theorem dX3_countNotEmpty_9 : decode cX3_countNotEmpty 9 = .ok (.aload_n 0, 1) := by decide +kernel
theorem dX3_countNotEmpty_10 : decode cX3_countNotEmpty 10 = .ok (.getfield 15, 3) := by decide +kernel
theorem dX3_countNotEmpty_13 : decode cX3_countNotEmpty 13 = .ok (.iload_n 2, 1) := by decide +kernel
theorem dX3_countNotEmpty_14 : decode cX3_countNotEmpty 14 = .ok (.iaload, 1) := by decide +kernel
theorem dX3_countNotEmpty_15 : decode cX3_countNotEmpty 15 = .ok (.ifCond .le 6, 3) := by decide +kernel
theorem dX3_countNotEmpty_18 : decode cX3_countNotEmpty 18 = .ok (.iinc 1 1, 3) := by decide +kernel
theorem dX3_countNotEmpty_21 : decode cX3_countNotEmpty 21 = .ok (.iinc 2 1, 3) := by decide +kernel
theorem dX3_countNotEmpty_24 : decode cX3_countNotEmpty 24 = .ok (.goto (-20), 3) := by decide +kernel
theorem dX3_countNotEmpty_27 : decode cX3_countNotEmpty 27 = .ok (.iload_n 1, 1) := by decide +kernel
theorem dX3_countNotEmpty_28 : decode cX3_countNotEmpty 28 = .ok (.ireturn, 1) := by decide +kernel
theorem dX3_countOf_0 : decode cX3_countOf 0 = .ok (.iconst 0, 1) := by decide +kernel
theorem dX3_countOf_1 : decode cX3_countOf 1 = .ok (.istore_n 2, 1) := by decide +kernel
theorem dX3_countOf_2 : decode cX3_countOf 2 = .ok (.iconst 0, 1) := by decide +kernel
theorem dX3_countOf_3 : decode cX3_countOf 3 = .ok (.istore_n 3, 1) := by decide +kernel
theorem dX3_countOf_4 : decode cX3_countOf 4 = .ok (.iload_n 3, 1) := by decide +kernel
theorem dX3_countOf_5 : decode cX3_countOf 5 = .ok (.iconst 5, 1) := by decide +kernel
theorem dX3_countOf_6 : decode cX3_countOf 6 = .ok (.if_icmp .ge 43, 3) := by decide +kernel
theorem dX3_countOf_9 : decode cX3_countOf 9 = .ok (.iconst 1, 1) := by decide +kernel
theorem dX3_countOf_10 : decode cX3_countOf 10 = .ok (.istore 4, 2) := by decide +kernel
theorem dX3_countOf_12 : decode cX3_countOf 12 = .ok (.iload 4, 2) := by decide +kernel
theorem dX3_countOf_14 : decode cX3_countOf 14 = .ok (.aload_n 0, 1) := by decide +kernel
theorem dX3_countOf_15 : decode cX3_countOf 15 = .ok (.getfield 15, 3) := by decide +kernel
theorem dX3_countOf_18 : decode cX3_countOf 18 = .ok (.iload_n 3, 1) := by decide +kernel
theorem dX3_countOf_19 : decode cX3_countOf 19 = .ok (.iaload, 1) := by decide +kernel
theorem dX3_countOf_20 : decode cX3_countOf 20 = .ok (.if_icmp .gt 23, 3) := by decide +kernel
theorem dX3_countOf_23 : decode cX3_countOf 23 = .ok (.aload_n 0, 1) := by decide +kernel
theorem dX3_countOf_24 : decode cX3_countOf 24 = .ok (.iload_n 3, 1) := by decide +kernel
theorem dX3_countOf_25 : decode cX3_countOf 25 = .ok (.iload 4, 2) := by decide +kernel
theorem dX3_countOf_27 : decode cX3_countOf 27 = .ok (.invokevirtual 31, 3) := by decide +kernel
theorem dX3_countOf_30 : decode cX3_countOf 30 = .ok (.iload_n 1, 1) := by decide +kernel
theorem dX3_countOf_31 : decode cX3_countOf 31 = .ok (.if_icmp .ne 6, 3) := by decide +kernel
theorem dX3_countOf_34 : decode cX3_countOf 34 = .ok (.iinc 2 1, 3) := by decide +kernel
theorem dX3_countOf_37 : decode cX3_countOf 37 = .ok (.iinc 4 1, 3) := by decide +kernel
theorem dX3_countOf_40 : decode cX3_countOf 40 = .ok (.goto (-28), 3) := by decide +kernel
theorem dX3_countOf_43 : decode cX3_countOf 43 = .ok (.iinc 3 1, 3) := by decide +kernel
theorem dX3_countOf_46 : decode cX3_countOf 46 = .ok (.goto (-42), 3) := by decide +kernel
theorem dX3_countOf_49 : decode cX3_countOf 49 = .ok (.iload_n 2, 1) := by decide +kernel
theorem dX3_countOf_50 : decode cX3_countOf 50 = .ok (.ireturn, 1) := by decide +kernel
theorem dX3_mostOfAKind_0 : decode cX3_mostOfAKind 0 = .ok (.iconst 0, 1) := by decide +kernel
theorem dX3_mostOfAKind_1 : decode cX3_mostOfAKind 1 = .ok (.istore_n 1, 1) := by decide +kernel
theorem dX3_mostOfAKind_2 : decode cX3_mostOfAKind 2 = .ok (.iconst 0, 1) := by decide +kernel
theorem dX3_mostOfAKind_3 : decode cX3_mostOfAKind 3 = .ok (.istore_n 2, 1) := by decide +kernel
theorem dX3_mostOfAKind_4 : decode cX3_mostOfAKind 4 = .ok (.iload_n 2, 1) := by decide +kernel
theorem dX3_mostOfAKind_5 : decode cX3_mostOfAKind 5 = .ok (.bipush 13, 2) := by decide +kernel
theorem dX3_mostOfAKind_7 : decode cX3_mostOfAKind 7 = .ok (.if_icmp .gt 19, 3) := by decide +kernel
theorem dX3_mostOfAKind_10 : decode cX3_mostOfAKind 10 = .ok (.iload_n 1, 1) := by decide +kernel
theorem dX3_mostOfAKind_11 : decode cX3_mostOfAKind 11 = .ok (.aload_n 0, 1) := by decide +kernel
theorem dX3_mostOfAKind_12 : decode cX3_mostOfAKind 12 = .ok (.iload_n 2, 1) := by decide +kernel
theorem dX3_mostOfAKind_13 : decode cX3_mostOfAKind 13 = .ok (.invokevirtual 39, 3) := by decide +kernel
theorem dX3_mostOfAKind_16 : decode cX3_mostOfAKind 16 = .ok (.invokestatic 42, 3) := by decide +kernel
theorem dX3_mostOfAKind_19 : decode cX3_mostOfAKind 19 = .ok (.istore_n 1, 1) := by decide +kernel
theorem dX3_mostOfAKind_20 : decode cX3_mostOfAKind 20 = .ok (.iinc 2 1, 3) := by decide +kernel
theorem dX3_mostOfAKind_23 : decode cX3_mostOfAKind 23 = .ok (.goto (-19), 3) := by decide +kernel
theorem dX3_mostOfAKind_26 : decode cX3_mostOfAKind 26 = .ok (.iload_n 1, 1) := by decide +kernel
theorem dX3_mostOfAKind_27 : decode cX3_mostOfAKind 27 = .ok (.ireturn, 1) := by decide +kernel
theorem dX4_init_0 : decode cX4_init 0 = .ok (.aload_n 0, 1) := by decide +kernel
theorem dX4_init_1 : decode cX4_init 1 = .ok (.invokespecial 3, 3) := by decide +kernel
theorem dX4_init_4 : decode cX4_init 4 = .ok (.aload_n 0, 1) := by decide +kernel
theorem dX4_init_5 : decode cX4_init 5 = .ok (.bipush 40, 2) := by decide +kernel
theorem dX4_init_7 : decode cX4_init 7 = .ok (.newarray .int, 2) := by decide +kernel
theorem dX4_init_9 : decode cX4_init 9 = .ok (.putfield 9, 3) := by decide +kernel
theorem dX4_init_12 : decode cX4_init 12 = .ok (.aload_n 0, 1) := by decide +kernel
theorem dX4_init_13 : decode cX4_init 13 = .ok (.bipush 8, 2) := by decide +kernel
theorem dX4_init_15 : decode cX4_init 15 = .ok (.newarray .int, 2) := by decide +kernel
theorem dX4_init_17 : decode cX4_init 17 = .ok (.putfield 15, 3) := by decide +kernel
theorem dX4_init_20 : decode cX4_init 20 = .ok (.aload_n 0, 1) := by decide +kernel
theorem dX4_init_21 : decode cX4_init 21 = .ok (.iconst 0, 1) := by decide +kernel
theorem dX4_init_22 : decode cX4_init 22 = .ok (.putfield 18, 3) := by decide +kernel
theorem dX4_init_25 : decode cX4_init 25 = .ok (.aload_n 0, 1) := by decide +kernel
theorem dX4_init_26 : decode cX4_init 26 = .ok (.iconst 0, 1) := by decide +kernel
theorem dX4_init_27 : decode cX4_init 27 = .ok (.putfield 22, 3) := by decide +kernel
theorem dX4_init_30 : decode cX4_init 30 = .ok (.return_, 1) := by decide +kernel
theorem dX4_copyFrom_0 : decode cX4_copyFrom 0 = .ok (.aload_n 1, 1) := by decide +kernel
theorem dX4_copyFrom_1 : decode cX4_copyFrom 1 = .ok (.getfield 9, 3) := by decide +kernel
theorem dX4_copyFrom_4 : decode cX4_copyFrom 4 = .ok (.iconst 0, 1) := by decide +kernel
theorem dX4_copyFrom_5 : decode cX4_copyFrom 5 = .ok (.aload_n 0, 1) := by decide +kernel
theorem dX4_copyFrom_6 : decode cX4_copyFrom 6 = .ok (.getfield 9, 3) := by decide +kernel
theorem dX4_copyFrom_9 : decode cX4_copyFrom 9 = .ok (.iconst 0, 1) := by decide +kernel
theorem dX4_copyFrom_10 : decode cX4_copyFrom 10 = .ok (.bipush 40, 2) := by decide +kernel
theorem dX4_copyFrom_12 : decode cX4_copyFrom 12 = .ok (.invokestatic 25, 3) := by decide +kernel
theorem dX4_copyFrom_15 : decode cX4_copyFrom 15 = .ok (.aload_n 1, 1) := by decide +kernel
theorem dX4_copyFrom_16 : decode cX4_copyFrom 16 = .ok (.getfield 15, 3) := by decide +kernel
theorem dX4_copyFrom_19 : decode cX4_copyFrom 19 = .ok (.iconst 0, 1) := by decide +kernel
theorem dX4_copyFrom_20 : decode cX4_copyFrom 20 = .ok (.aload_n 0, 1) := by decide +kernel
theorem dX4_copyFrom_21 : decode cX4_copyFrom 21 = .ok (.getfield 15, 3) := by decide +kernel
theorem dX4_copyFrom_24 : decode cX4_copyFrom 24 = .ok (.iconst 0, 1) := by decide +kernel
theorem dX4_copyFrom_25 : decode cX4_copyFrom 25 = .ok (.bipush 8, 2) := by decide +kernel
theorem dX4_copyFrom_27 : decode cX4_copyFrom 27 = .ok (.invokestatic 25, 3) := by decide +kernel
theorem dX4_copyFrom_30 : decode cX4_copyFrom 30 = .ok (.aload_n 0, 1) := by decide +kernel
theorem dX4_copyFrom_31 : decode cX4_copyFrom 31 = .ok (.aload_n 1, 1) := by decide +kernel
theorem dX4_copyFrom_32 : decode cX4_copyFrom 32 = .ok (.getfield 18, 3) := by decide +kernel
theorem dX4_copyFrom_35 : decode cX4_copyFrom 35 = .ok (.putfield 18, 3) := by decide +kernel
theorem dX4_copyFrom_38 : decode cX4_copyFrom 38 = .ok (.aload_n 0, 1) := by decide +kernel
theorem dX4_copyFrom_39 : decode cX4_copyFrom 39 = .ok (.aload_n 1, 1) := by decide +kernel
theorem dX4_copyFrom_40 : decode cX4_copyFrom 40 = .ok (.getfield 22, 3) := by decide +kernel
theorem dX4_copyFrom_43 : decode cX4_copyFrom 43 = .ok (.putfield 22, 3) := by decide +kernel
theorem dX4_copyFrom_46 : decode cX4_copyFrom 46 = .ok (.return_, 1) := by decide +kernel
theorem dX4_size_0 : decode cX4_size 0 = .ok (.aload_n 0, 1) := by decide +kernel
theorem dX4_size_1 : decode cX4_size 1 = .ok (.getfield 18, 3) := by decide +kernel
theorem dX4_size_4 : decode cX4_size 4 = .ok (.ireturn, 1) := by decide +kernel
theorem dX4_countAll_0 : decode cX4_countAll 0 = .ok (.aload_n 0, 1) := by decide +kernel
theorem dX4_countAll_1 : decode cX4_countAll 1 = .ok (.getfield 22, 3) := by decide +kernel
theorem dX4_countAll_4 : decode cX4_countAll 4 = .ok (.ireturn, 1) := by decide +kernel
theorem dX4_wordsOf_0 : decode cX4_wordsOf 0 = .ok (.iload_n 1, 1) := by decide +kernel
theorem dX4_wordsOf_1 : decode cX4_wordsOf 1 = .ok (.bipush 8, 2) := by decide +kernel
theorem dX4_wordsOf_3 : decode cX4_wordsOf 3 = .ok (.invokestatic 31, 3) := by decide +kernel
theorem dX4_wordsOf_6 : decode cX4_wordsOf 6 = .ok (.ifCond .eq 12, 3) := by decide +kernel
theorem dX4_wordsOf_9 : decode cX4_wordsOf 9 = .ok (.aload_n 0, 1) := by decide +kernel
theorem dX4_wordsOf_10 : decode cX4_wordsOf 10 = .ok (.getfield 15, 3) := by decide +kernel
theorem dX4_wordsOf_13 : decode cX4_wordsOf 13 = .ok (.iload_n 1, 1) := by decide +kernel
theorem dX4_wordsOf_14 : decode cX4_wordsOf 14 = .ok (.iaload, 1) := by decide +kernel
theorem dX4_wordsOf_15 : decode cX4_wordsOf 15 = .ok (.goto 4, 3) := by decide +kernel
theorem dX4_wordsOf_18 : decode cX4_wordsOf 18 = .ok (.iconst 0, 1) := by decide +kernel
theorem dX4_wordsOf_19 : decode cX4_wordsOf 19 = .ok (.ireturn, 1) := by decide +kernel
theorem dX4_wordAt_0 : decode cX4_wordAt 0 = .ok (.iload_n 2, 1) := by decide +kernel
theorem dX4_wordAt_1 : decode cX4_wordAt 1 = .ok (.iconst 5, 1) := by decide +kernel
theorem dX4_wordAt_2 : decode cX4_wordAt 2 = .ok (.invokestatic 31, 3) := by decide +kernel
theorem dX4_wordAt_5 : decode cX4_wordAt 5 = .ok (.ifCond .eq 25, 3) := by decide +kernel
theorem dX4_wordAt_8 : decode cX4_wordAt 8 = .ok (.iload_n 1, 1) := by decide +kernel
theorem dX4_wordAt_9 : decode cX4_wordAt 9 = .ok (.bipush 8, 2) := by decide +kernel
theorem dX4_wordAt_11 : decode cX4_wordAt 11 = .ok (.invokestatic 31, 3) := by decide +kernel
theorem dX4_wordAt_14 : decode cX4_wordAt 14 = .ok (.ifCond .eq 16, 3) := by decide +kernel
theorem dX4_wordAt_17 : decode cX4_wordAt 17 = .ok (.aload_n 0, 1) := by decide +kernel
theorem dX4_wordAt_18 : decode cX4_wordAt 18 = .ok (.getfield 9, 3) := by decide +kernel
theorem dX4_wordAt_21 : decode cX4_wordAt 21 = .ok (.iload_n 1, 1) := by decide +kernel
theorem dX4_wordAt_22 : decode cX4_wordAt 22 = .ok (.iconst 5, 1) := by decide +kernel
theorem dX4_wordAt_23 : decode cX4_wordAt 23 = .ok (.imul, 1) := by decide +kernel
theorem dX4_wordAt_24 : decode cX4_wordAt 24 = .ok (.iload_n 2, 1) := by decide +kernel
theorem dX4_wordAt_25 : decode cX4_wordAt 25 = .ok (.iadd, 1) := by decide +kernel
theorem dX4_wordAt_26 : decode cX4_wordAt 26 = .ok (.iaload, 1) := by decide +kernel
theorem dX4_wordAt_27 : decode cX4_wordAt 27 = .ok (.goto 5, 3) := by decide +kernel
theorem dX4_wordAt_30 : decode cX4_wordAt 30 = .ok (.bipush (-6), 2) := by decide +kernel
theorem dX4_wordAt_32 : decode cX4_wordAt 32 = .ok (.ireturn, 1) := by decide +kernel
theorem dX4_add_0 : decode cX4_add 0 = .ok (.aload_n 0, 1) := by decide +kernel
theorem dX4_add_1 : decode cX4_add 1 = .ok (.getfield 18, 3) := by decide +kernel
theorem dX4_add_4 : decode cX4_add 4 = .ok (.bipush 8, 2) := by decide +kernel
theorem dX4_add_6 : decode cX4_add 6 = .ok (.if_icmp .lt 39, 3) := by decide +kernel
theorem dX4_add_9 : decode cX4_add 9 = .ok (.aload_n 0, 1) := by decide +kernel
theorem dX4_add_10 : decode cX4_add 10 = .ok (.getfield 9, 3) := by decide +kernel
theorem dX4_add_13 : decode cX4_add 13 = .ok (.iconst 5, 1) := by decide +kernel
theorem dX4_add_14 : decode cX4_add 14 = .ok (.aload_n 0, 1) := by decide +kernel
theorem dX4_add_15 : decode cX4_add 15 = .ok (.getfield 9, 3) := by decide +kernel
theorem dX4_add_18 : decode cX4_add 18 = .ok (.iconst 0, 1) := by decide +kernel
theorem dX4_add_19 : decode cX4_add 19 = .ok (.bipush 35, 2) := by decide +kernel
theorem dX4_add_21 : decode cX4_add 21 = .ok (.invokestatic 25, 3) := by decide +kernel
theorem dX4_add_24 : decode cX4_add 24 = .ok (.aload_n 0, 1) := by decide +kernel
theorem dX4_add_25 : decode cX4_add 25 = .ok (.getfield 15, 3) := by decide +kernel
theorem dX4_add_28 : decode cX4_add 28 = .ok (.iconst 1, 1) := by decide +kernel
theorem dX4_add_29 : decode cX4_add 29 = .ok (.aload_n 0, 1) := by decide +kernel
theorem dX4_add_30 : decode cX4_add 30 = .ok (.getfield 15, 3) := by decide +kernel
theorem dX4_add_33 : decode cX4_add 33 = .ok (.iconst 0, 1) := by decide +kernel
theorem dX4_add_34 : decode cX4_add 34 = .ok (.bipush 7, 2) := by decide +kernel
theorem dX4_add_36 : decode cX4_add 36 = .ok (.invokestatic 25, 3) := by decide +kernel
theorem dX4_add_39 : decode cX4_add 39 = .ok (.aload_n 0, 1) := by decide +kernel
theorem dX4_add_40 : decode cX4_add 40 = .ok (.bipush 7, 2) := by decide +kernel
theorem dX4_add_42 : decode cX4_add 42 = .ok (.putfield 18, 3) := by decide +kernel
theorem dX4_add_45 : decode cX4_add 45 = .ok (.aload_n 0, 1) := by decide +kernel
theorem dX4_add_46 : decode cX4_add 46 = .ok (.getfield 18, 3) := by decide +kernel
theorem dX4_add_49 : decode cX4_add 49 = .ok (.bipush 8, 2) := by decide +kernel
theorem dX4_add_51 : decode cX4_add 51 = .ok (.invokestatic 31, 3) := by decide +kernel
theorem dX4_add_54 : decode cX4_add 54 = .ok (.ifCond .eq 68, 3) := by decide +kernel
theorem dX4_add_57 : decode cX4_add 57 = .ok (.iconst 0, 1) := by decide +kernel
theorem dX4_add_58 : decode cX4_add 58 = .ok (.istore_n 3, 1) := by decide +kernel
theorem dX4_add_59 : decode cX4_add 59 = .ok (.iload_n 3, 1) := by decide +kernel
theorem dX4_add_60 : decode cX4_add 60 = .ok (.iconst 5, 1) := by decide +kernel
theorem dX4_add_61 : decode cX4_add 61 = .ok (.if_icmp .ge 31, 3) := by decide +kernel
theorem dX4_add_64 : decode cX4_add 64 = .ok (.iload_n 3, 1) := by decide +kernel
theorem dX4_add_65 : decode cX4_add 65 = .ok (.aload_n 1, 1) := by decide +kernel
theorem dX4_add_66 : decode cX4_add 66 = .ok (.arraylength, 1) := by decide +kernel
theorem dX4_add_67 : decode cX4_add 67 = .ok (.if_icmp .ge 25, 3) := by decide +kernel
theorem dX4_add_70 : decode cX4_add 70 = .ok (.aload_n 0, 1) := by decide +kernel
theorem dX4_add_71 : decode cX4_add 71 = .ok (.getfield 9, 3) := by decide +kernel
theorem dX4_add_74 : decode cX4_add 74 = .ok (.aload_n 0, 1) := by decide +kernel
theorem dX4_add_75 : decode cX4_add 75 = .ok (.getfield 18, 3) := by decide +kernel
theorem dX4_add_78 : decode cX4_add 78 = .ok (.iconst 5, 1) := by decide +kernel
theorem dX4_add_79 : decode cX4_add 79 = .ok (.imul, 1) := by decide +kernel
theorem dX4_add_80 : decode cX4_add 80 = .ok (.iload_n 3, 1) := by decide +kernel
theorem dX4_add_81 : decode cX4_add 81 = .ok (.iadd, 1) := by decide +kernel
theorem dX4_add_82 : decode cX4_add 82 = .ok (.aload_n 1, 1) := by decide +kernel
theorem dX4_add_83 : decode cX4_add 83 = .ok (.iload_n 3, 1) := by decide +kernel
theorem dX4_add_84 : decode cX4_add 84 = .ok (.iaload, 1) := by decide +kernel
theorem dX4_add_85 : decode cX4_add 85 = .ok (.iastore, 1) := by decide +kernel
theorem dX4_add_86 : decode cX4_add 86 = .ok (.iinc 3 1, 3) := by decide +kernel
theorem dX4_add_89 : decode cX4_add 89 = .ok (.goto (-30), 3) := by decide +kernel
theorem dX4_add_92 : decode cX4_add 92 = .ok (.aload_n 0, 1) := by decide +kernel
theorem dX4_add_93 : decode cX4_add 93 = .ok (.getfield 15, 3) := by decide +kernel
theorem dX4_add_96 : decode cX4_add 96 = .ok (.aload_n 0, 1) := by decide +kernel
theorem dX4_add_97 : decode cX4_add 97 = .ok (.getfield 18, 3) := by decide +kernel
theorem dX4_add_100 : decode cX4_add 100 = .ok (.iload_n 2, 1) := by decide +kernel
theorem dX4_add_101 : decode cX4_add 101 = .ok (.iastore, 1) := by decide +kernel
theorem dX4_add_102 : decode cX4_add 102 = .ok (.aload_n 0, 1) := by decide +kernel
theorem dX4_add_103 : decode cX4_add 103 = .ok (.dup, 1) := by decide +kernel
theorem dX4_add_104 : decode cX4_add 104 = .ok (.getfield 18, 3) := by decide +kernel
theorem dX4_add_107 : decode cX4_add 107 = .ok (.iconst 1, 1) := by decide +kernel
theorem dX4_add_108 : decode cX4_add 108 = .ok (.iadd, 1) := by decide +kernel
theorem dX4_add_109 : decode cX4_add 109 = .ok (.putfield 18, 3) := by decide +kernel
theorem dX4_add_112 : decode cX4_add 112 = .ok (.aload_n 0, 1) := by decide +kernel
theorem dX4_add_113 : decode cX4_add 113 = .ok (.dup, 1) := by decide +kernel
theorem dX4_add_114 : decode cX4_add 114 = .ok (.getfield 22, 3) := by decide +kernel
theorem dX4_add_117 : decode cX4_add 117 = .ok (.iconst 1, 1) := by decide +kernel
theorem dX4_add_118 : decode cX4_add 118 = .ok (.iadd, 1) := by decide +kernel
theorem dX4_add_119 : decode cX4_add 119 = .ok (.putfield 22, 3) := by decide +kernel
theorem dX4_add_122 : decode cX4_add 122 = .ok (.return_, 1) := by decide +kernel
theorem dX5_init_0 : decode cX5_init 0 = .ok (.aload_n 0, 1) := by decide +kernel
theorem dX5_init_1 : decode cX5_init 1 = .ok (.invokespecial 3, 3) := by decide +kernel
theorem dX5_init_4 : decode cX5_init 4 = .ok (.aload_n 0, 1) := by decide +kernel
theorem dX5_init_5 : decode cX5_init 5 = .ok (.iconst 5, 1) := by decide +kernel
theorem dX5_init_6 : decode cX5_init 6 = .ok (.newarray .int, 2) := by decide +kernel
theorem dX5_init_8 : decode cX5_init 8 = .ok (.putfield 9, 3) := by decide +kernel
theorem dX5_init_11 : decode cX5_init 11 = .ok (.aload_n 0, 1) := by decide +kernel
theorem dX5_init_12 : decode cX5_init 12 = .ok (.iconst 5, 1) := by decide +kernel
theorem dX5_init_13 : decode cX5_init 13 = .ok (.newarray .int, 2) := by decide +kernel
theorem dX5_init_15 : decode cX5_init 15 = .ok (.putfield 15, 3) := by decide +kernel
theorem dX5_init_18 : decode cX5_init 18 = .ok (.aload_n 0, 1) := by decide +kernel
theorem dX5_init_19 : decode cX5_init 19 = .ok (.iconst 0, 1) := by decide +kernel
theorem dX5_init_20 : decode cX5_init 20 = .ok (.putfield 18, 3) := by decide +kernel
theorem dX5_init_23 : decode cX5_init 23 = .ok (.aload_n 0, 1) := by decide +kernel
theorem dX5_init_24 : decode cX5_init 24 = .ok (.iload_n 1, 1) := by decide +kernel
theorem dX5_init_25 : decode cX5_init 25 = .ok (.putfield 22, 3) := by decide +kernel
theorem dX5_init_28 : decode cX5_init 28 = .ok (.return_, 1) := by decide +kernel
theorem dX5_look_0 : decode cX5_look 0 = .ok (.aload_n 0, 1) := by decide +kernel
theorem dX5_look_1 : decode cX5_look 1 = .ok (.getfield 22, 3) := by decide +kernel
theorem dX5_look_4 : decode cX5_look 4 = .ok (.iload_n 3, 1) := by decide +kernel
theorem dX5_look_5 : decode cX5_look 5 = .ok (.invokestatic 25, 3) := by decide +kernel
theorem dX5_look_8 : decode cX5_look 8 = .ok (.istore 4, 2) := by decide +kernel
theorem dX5_look_10 : decode cX5_look 10 = .ok (.iconst 0, 1) := by decide +kernel
theorem dX5_look_11 : decode cX5_look 11 = .ok (.istore 5, 2) := by decide +kernel
theorem dX5_look_13 : decode cX5_look 13 = .ok (.iload 5, 2) := by decide +kernel
theorem dX5_look_15 : decode cX5_look 15 = .ok (.iconst 5, 1) := by decide +kernel
theorem dX5_look_16 : decode cX5_look 16 = .ok (.if_icmp .ge 25, 3) := by decide +kernel
theorem dX5_look_19 : decode cX5_look 19 = .ok (.aload_n 0, 1) := by decide +kernel
theorem dX5_look_20 : decode cX5_look 20 = .ok (.getfield 9, 3) := by decide +kernel
theorem dX5_look_23 : decode cX5_look 23 = .ok (.iload 5, 2) := by decide +kernel
theorem dX5_look_25 : decode cX5_look 25 = .ok (.aload_n 1, 1) := by decide +kernel
theorem dX5_look_26 : decode cX5_look 26 = .ok (.iload 5, 2) := by decide +kernel
theorem dX5_look_28 : decode cX5_look 28 = .ok (.iload 4, 2) := by decide +kernel
theorem dX5_look_30 : decode cX5_look 30 = .ok (.iload_n 2, 1) := by decide +kernel
theorem dX5_look_31 : decode cX5_look 31 = .ok (.invokevirtual 29, 3) := by decide +kernel
theorem dX5_look_34 : decode cX5_look 34 = .ok (.iastore, 1) := by decide +kernel
theorem dX5_look_35 : decode cX5_look 35 = .ok (.iinc 5 1, 3) := by decide +kernel
theorem dX5_look_38 : decode cX5_look 38 = .ok (.goto (-25), 3) := by decide +kernel
theorem dX5_look_41 : decode cX5_look 41 = .ok (.aload_n 0, 1) := by decide +kernel
theorem dX5_look_42 : decode cX5_look 42 = .ok (.iconst 0, 1) := by decide +kernel
theorem dX5_look_43 : decode cX5_look 43 = .ok (.iconst 0, 1) := by decide +kernel
theorem dX5_look_44 : decode cX5_look 44 = .ok (.invokevirtual 35, 3) := by decide +kernel
theorem dX5_look_47 : decode cX5_look 47 = .ok (.return_, 1) := by decide +kernel
theorem dX5_arrange_0 : decode cX5_arrange 0 = .ok (.aload_n 0, 1) := by decide +kernel
theorem dX5_arrange_1 : decode cX5_arrange 1 = .ok (.iconst 0, 1) := by decide +kernel
theorem dX5_arrange_2 : decode cX5_arrange 2 = .ok (.putfield 18, 3) := by decide +kernel
theorem dX5_arrange_5 : decode cX5_arrange 5 = .ok (.iconst 0, 1) := by decide +kernel
theorem dX5_arrange_6 : decode cX5_arrange 6 = .ok (.istore_n 3, 1) := by decide +kernel
theorem dX5_arrange_7 : decode cX5_arrange 7 = .ok (.iload_n 3, 1) := by decide +kernel
theorem dX5_arrange_8 : decode cX5_arrange 8 = .ok (.iconst 5, 1) := by decide +kernel
theorem dX5_arrange_9 : decode cX5_arrange 9 = .ok (.if_icmp .ge 104, 3) := by decide +kernel
theorem dX5_arrange_12 : decode cX5_arrange 12 = .ok (.aload_n 0, 1) := by decide +kernel
theorem dX5_arrange_13 : decode cX5_arrange 13 = .ok (.getfield 22, 3) := by decide +kernel
theorem dX5_arrange_16 : decode cX5_arrange 16 = .ok (.ifCond .ne 7, 3) := by decide +kernel
theorem dX5_arrange_19 : decode cX5_arrange 19 = .ok (.iload_n 3, 1) := by decide +kernel
theorem dX5_arrange_20 : decode cX5_arrange 20 = .ok (.goto 6, 3) := by decide +kernel
theorem dX5_arrange_23 : decode cX5_arrange 23 = .ok (.iconst 4, 1) := by decide +kernel
theorem dX5_arrange_24 : decode cX5_arrange 24 = .ok (.iload_n 3, 1) := by decide +kernel
theorem dX5_arrange_25 : decode cX5_arrange 25 = .ok (.isub, 1) := by decide +kernel
theorem dX5_arrange_26 : decode cX5_arrange 26 = .ok (.istore 4, 2) := by decide +kernel
theorem dX5_arrange_28 : decode cX5_arrange 28 = .ok (.iload 4, 2) := by decide +kernel
theorem dX5_arrange_30 : decode cX5_arrange 30 = .ok (.iload_n 1, 1) := by decide +kernel
theorem dX5_arrange_31 : decode cX5_arrange 31 = .ok (.if_icmp .ne 9, 3) := by decide +kernel
theorem dX5_arrange_34 : decode cX5_arrange 34 = .ok (.iload_n 2, 1) := by decide +kernel
theorem dX5_arrange_35 : decode cX5_arrange 35 = .ok (.istore 4, 2) := by decide +kernel
theorem dX5_arrange_37 : decode cX5_arrange 37 = .ok (.goto 12, 3) := by decide +kernel
theorem dX5_arrange_40 : decode cX5_arrange 40 = .ok (.iload 4, 2) := by decide +kernel
theorem dX5_arrange_42 : decode cX5_arrange 42 = .ok (.iload_n 2, 1) := by decide +kernel
theorem dX5_arrange_43 : decode cX5_arrange 43 = .ok (.if_icmp .ne 6, 3) := by decide +kernel
theorem dX5_arrange_46 : decode cX5_arrange 46 = .ok (.iload_n 1, 1) := by decide +kernel
theorem dX5_arrange_47 : decode cX5_arrange 47 = .ok (.istore 4, 2) := by decide +kernel
theorem dX5_arrange_49 : decode cX5_arrange 49 = .ok (.iload 4, 2) := by decide +kernel
theorem dX5_arrange_51 : decode cX5_arrange 51 = .ok (.iconst 5, 1) := by decide +kernel
theorem dX5_arrange_52 : decode cX5_arrange 52 = .ok (.invokestatic 39, 3) := by decide +kernel
theorem dX5_arrange_55 : decode cX5_arrange 55 = .ok (.ifCond .eq 52, 3) := by decide +kernel
theorem dX5_arrange_58 : decode cX5_arrange 58 = .ok (.aload_n 0, 1) := by decide +kernel
theorem dX5_arrange_59 : decode cX5_arrange 59 = .ok (.getfield 18, 3) := by decide +kernel
theorem dX5_arrange_62 : decode cX5_arrange 62 = .ok (.iconst 5, 1) := by decide +kernel
theorem dX5_arrange_63 : decode cX5_arrange 63 = .ok (.invokestatic 39, 3) := by decide +kernel
theorem dX5_arrange_66 : decode cX5_arrange 66 = .ok (.ifCond .eq 41, 3) := by decide +kernel
theorem dX5_arrange_69 : decode cX5_arrange 69 = .ok (.aload_n 0, 1) := by decide +kernel
theorem dX5_arrange_70 : decode cX5_arrange 70 = .ok (.getfield 9, 3) := by decide +kernel
theorem dX5_arrange_73 : decode cX5_arrange 73 = .ok (.iload 4, 2) := by decide +kernel
theorem dX5_arrange_75 : decode cX5_arrange 75 = .ok (.iaload, 1) := by decide +kernel
theorem dX5_arrange_76 : decode cX5_arrange 76 = .ok (.bipush (-7), 2) := by decide +kernel
theorem dX5_arrange_78 : decode cX5_arrange 78 = .ok (.if_icmp .eq 29, 3) := by decide +kernel
theorem dX5_arrange_81 : decode cX5_arrange 81 = .ok (.aload_n 0, 1) := by decide +kernel
theorem dX5_arrange_82 : decode cX5_arrange 82 = .ok (.getfield 15, 3) := by decide +kernel
theorem dX5_arrange_85 : decode cX5_arrange 85 = .ok (.aload_n 0, 1) := by decide +kernel
theorem dX5_arrange_86 : decode cX5_arrange 86 = .ok (.getfield 18, 3) := by decide +kernel
theorem dX5_arrange_89 : decode cX5_arrange 89 = .ok (.aload_n 0, 1) := by decide +kernel
theorem dX5_arrange_90 : decode cX5_arrange 90 = .ok (.getfield 9, 3) := by decide +kernel
theorem dX5_arrange_93 : decode cX5_arrange 93 = .ok (.iload 4, 2) := by decide +kernel
theorem dX5_arrange_95 : decode cX5_arrange 95 = .ok (.iaload, 1) := by decide +kernel
theorem dX5_arrange_96 : decode cX5_arrange 96 = .ok (.iastore, 1) := by decide +kernel
theorem dX5_arrange_97 : decode cX5_arrange 97 = .ok (.aload_n 0, 1) := by decide +kernel
theorem dX5_arrange_98 : decode cX5_arrange 98 = .ok (.dup, 1) := by decide +kernel
theorem dX5_arrange_99 : decode cX5_arrange 99 = .ok (.getfield 18, 3) := by decide +kernel
theorem dX5_arrange_102 : decode cX5_arrange 102 = .ok (.iconst 1, 1) := by decide +kernel
theorem dX5_arrange_103 : decode cX5_arrange 103 = .ok (.iadd, 1) := by decide +kernel
theorem dX5_arrange_104 : decode cX5_arrange 104 = .ok (.putfield 18, 3) := by decide +kernel
theorem dX5_arrange_107 : decode cX5_arrange 107 = .ok (.iinc 3 1, 3) := by decide +kernel
theorem dX5_arrange_110 : decode cX5_arrange 110 = .ok (.goto (-103), 3) := by decide +kernel
theorem dX5_arrange_113 : decode cX5_arrange 113 = .ok (.return_, 1) := by decide +kernel
theorem dX5_size_0 : decode cX5_size 0 = .ok (.aload_n 0, 1) := by decide +kernel
theorem dX5_size_1 : decode cX5_size 1 = .ok (.getfield 18, 3) := by decide +kernel
theorem dX5_size_4 : decode cX5_size 4 = .ok (.ireturn, 1) := by decide +kernel
theorem dX5_wordAt_0 : decode cX5_wordAt 0 = .ok (.iload_n 1, 1) := by decide +kernel
theorem dX5_wordAt_1 : decode cX5_wordAt 1 = .ok (.iconst 5, 1) := by decide +kernel
theorem dX5_wordAt_2 : decode cX5_wordAt 2 = .ok (.invokestatic 39, 3) := by decide +kernel
theorem dX5_wordAt_5 : decode cX5_wordAt 5 = .ok (.ifCond .eq 12, 3) := by decide +kernel
theorem dX5_wordAt_8 : decode cX5_wordAt 8 = .ok (.aload_n 0, 1) := by decide +kernel
theorem dX5_wordAt_9 : decode cX5_wordAt 9 = .ok (.getfield 15, 3) := by decide +kernel
theorem dX5_wordAt_12 : decode cX5_wordAt 12 = .ok (.iload_n 1, 1) := by decide +kernel
theorem dX5_wordAt_13 : decode cX5_wordAt 13 = .ok (.iaload, 1) := by decide +kernel
theorem dX5_wordAt_14 : decode cX5_wordAt 14 = .ok (.goto 5, 3) := by decide +kernel
theorem dX5_wordAt_17 : decode cX5_wordAt 17 = .ok (.bipush (-6), 2) := by decide +kernel
theorem dX5_wordAt_19 : decode cX5_wordAt 19 = .ok (.ireturn, 1) := by decide +kernel
theorem dX5_countKnown_0 : decode cX5_countKnown 0 = .ok (.iconst 0, 1) := by decide +kernel
theorem dX5_countKnown_1 : decode cX5_countKnown 1 = .ok (.istore_n 1, 1) := by decide +kernel
theorem dX5_countKnown_2 : decode cX5_countKnown 2 = .ok (.iconst 0, 1) := by decide +kernel
theorem dX5_countKnown_3 : decode cX5_countKnown 3 = .ok (.istore_n 2, 1) := by decide +kernel
theorem dX5_countKnown_4 : decode cX5_countKnown 4 = .ok (.iload_n 2, 1) := by decide +kernel
theorem dX5_countKnown_5 : decode cX5_countKnown 5 = .ok (.aload_n 0, 1) := by decide +kernel
theorem dX5_countKnown_6 : decode cX5_countKnown 6 = .ok (.getfield 18, 3) := by decide +kernel
theorem dX5_countKnown_9 : decode cX5_countKnown 9 = .ok (.if_icmp .ge 28, 3) := by decide +kernel
theorem dX5_countKnown_12 : decode cX5_countKnown 12 = .ok (.iload_n 2, 1) := by decide +kernel
theorem dX5_countKnown_13 : decode cX5_countKnown 13 = .ok (.iconst 5, 1) := by decide +kernel
theorem dX5_countKnown_14 : decode cX5_countKnown 14 = .ok (.if_icmp .ge 23, 3) := by decide +kernel
theorem dX5_countKnown_17 : decode cX5_countKnown 17 = .ok (.aload_n 0, 1) := by decide +kernel
theorem dX5_countKnown_18 : decode cX5_countKnown 18 = .ok (.getfield 15, 3) := by decide +kernel
theorem dX5_countKnown_21 : decode cX5_countKnown 21 = .ok (.iload_n 2, 1) := by decide +kernel
theorem dX5_countKnown_22 : decode cX5_countKnown 22 = .ok (.iaload, 1) := by decide +kernel
theorem dX5_countKnown_23 : decode cX5_countKnown 23 = .ok (.bipush (-6), 2) := by decide +kernel
theorem dX5_countKnown_25 : decode cX5_countKnown 25 = .ok (.if_icmp .eq 6, 3) := by decide +kernel
theorem dX5_countKnown_28 : decode cX5_countKnown 28 = .ok (.iinc 1 1, 3) := by decide +kernel
theorem dX5_countKnown_31 : decode cX5_countKnown 31 = .ok (.iinc 2 1, 3) := by decide +kernel
theorem dX5_countKnown_34 : decode cX5_countKnown 34 = .ok (.goto (-30), 3) := by decide +kernel
theorem dX5_countKnown_37 : decode cX5_countKnown 37 = .ok (.iload_n 1, 1) := by decide +kernel
theorem dX5_countKnown_38 : decode cX5_countKnown 38 = .ok (.ireturn, 1) := by decide +kernel
theorem dX5_knowsAll_0 : decode cX5_knowsAll 0 = .ok (.aload_n 0, 1) := by decide +kernel
theorem dX5_knowsAll_1 : decode cX5_knowsAll 1 = .ok (.getfield 18, 3) := by decide +kernel
theorem dX5_knowsAll_4 : decode cX5_knowsAll 4 = .ok (.ifCond .le 18, 3) := by decide +kernel
theorem dX5_knowsAll_7 : decode cX5_knowsAll 7 = .ok (.aload_n 0, 1) := by decide +kernel
theorem dX5_knowsAll_8 : decode cX5_knowsAll 8 = .ok (.invokevirtual 42, 3) := by decide +kernel
theorem dX5_knowsAll_11 : decode cX5_knowsAll 11 = .ok (.aload_n 0, 1) := by decide +kernel
theorem dX5_knowsAll_12 : decode cX5_knowsAll 12 = .ok (.getfield 18, 3) := by decide +kernel
theorem dX5_knowsAll_15 : decode cX5_knowsAll 15 = .ok (.if_icmp .ne 7, 3) := by decide +kernel
theorem dX5_knowsAll_18 : decode cX5_knowsAll 18 = .ok (.iconst 1, 1) := by decide +kernel
theorem dX5_knowsAll_19 : decode cX5_knowsAll 19 = .ok (.goto 4, 3) := by decide +kernel
theorem dX5_knowsAll_22 : decode cX5_knowsAll 22 = .ok (.iconst 0, 1) := by decide +kernel
theorem dX5_knowsAll_23 : decode cX5_knowsAll 23 = .ok (.ireturn, 1) := by decide +kernel
theorem dX5_agreesWith_0 : decode cX5_agreesWith 0 = .ok (.aload_n 0, 1) := by decide +kernel
theorem dX5_agreesWith_1 : decode cX5_agreesWith 1 = .ok (.invokevirtual 46, 3) := by decide +kernel
theorem dX5_agreesWith_4 : decode cX5_agreesWith 4 = .ok (.ifCond .eq 14, 3) := by decide +kernel
theorem dX5_agreesWith_7 : decode cX5_agreesWith 7 = .ok (.aload_n 0, 1) := by decide +kernel
theorem dX5_agreesWith_8 : decode cX5_agreesWith 8 = .ok (.getfield 18, 3) := by decide +kernel
theorem dX5_agreesWith_11 : decode cX5_agreesWith 11 = .ok (.aload_n 1, 1) := by decide +kernel
theorem dX5_agreesWith_12 : decode cX5_agreesWith 12 = .ok (.getfield 18, 3) := by decide +kernel
theorem dX5_agreesWith_15 : decode cX5_agreesWith 15 = .ok (.if_icmp .eq 5, 3) := by decide +kernel
theorem dX5_agreesWith_18 : decode cX5_agreesWith 18 = .ok (.iconst 0, 1) := by decide +kernel
theorem dX5_agreesWith_19 : decode cX5_agreesWith 19 = .ok (.ireturn, 1) := by decide +kernel
theorem dX5_agreesWith_20 : decode cX5_agreesWith 20 = .ok (.iconst 0, 1) := by decide +kernel
theorem dX5_agreesWith_21 : decode cX5_agreesWith 21 = .ok (.istore_n 2, 1) := by decide +kernel
theorem dX5_agreesWith_22 : decode cX5_agreesWith 22 = .ok (.iload_n 2, 1) := by decide +kernel
theorem dX5_agreesWith_23 : decode cX5_agreesWith 23 = .ok (.aload_n 0, 1) := by decide +kernel
theorem dX5_agreesWith_24 : decode cX5_agreesWith 24 = .ok (.getfield 18, 3) := by decide +kernel
theorem dX5_agreesWith_27 : decode cX5_agreesWith 27 = .ok (.if_icmp .ge 31, 3) := by decide +kernel
theorem dX5_agreesWith_30 : decode cX5_agreesWith 30 = .ok (.iload_n 2, 1) := by decide +kernel
theorem dX5_agreesWith_31 : decode cX5_agreesWith 31 = .ok (.iconst 5, 1) := by decide +kernel
theorem dX5_agreesWith_32 : decode cX5_agreesWith 32 = .ok (.if_icmp .ge 26, 3) := by decide +kernel
theorem dX5_agreesWith_35 : decode cX5_agreesWith 35 = .ok (.aload_n 0, 1) := by decide +kernel
theorem dX5_agreesWith_36 : decode cX5_agreesWith 36 = .ok (.getfield 15, 3) := by decide +kernel
theorem dX5_agreesWith_39 : decode cX5_agreesWith 39 = .ok (.iload_n 2, 1) := by decide +kernel
theorem dX5_agreesWith_40 : decode cX5_agreesWith 40 = .ok (.iaload, 1) := by decide +kernel
theorem dX5_agreesWith_41 : decode cX5_agreesWith 41 = .ok (.aload_n 1, 1) := by decide +kernel
theorem dX5_agreesWith_42 : decode cX5_agreesWith 42 = .ok (.getfield 15, 3) := by decide +kernel
theorem dX5_agreesWith_45 : decode cX5_agreesWith 45 = .ok (.iload_n 2, 1) := by decide +kernel
theorem dX5_agreesWith_46 : decode cX5_agreesWith 46 = .ok (.iaload, 1) := by decide +kernel
theorem dX5_agreesWith_47 : decode cX5_agreesWith 47 = .ok (.if_icmp .eq 5, 3) := by decide +kernel
theorem dX5_agreesWith_50 : decode cX5_agreesWith 50 = .ok (.iconst 0, 1) := by decide +kernel
theorem dX5_agreesWith_51 : decode cX5_agreesWith 51 = .ok (.ireturn, 1) := by decide +kernel
theorem dX5_agreesWith_52 : decode cX5_agreesWith 52 = .ok (.iinc 2 1, 3) := by decide +kernel
theorem dX5_agreesWith_55 : decode cX5_agreesWith 55 = .ok (.goto (-33), 3) := by decide +kernel
theorem dX5_agreesWith_58 : decode cX5_agreesWith 58 = .ok (.iconst 1, 1) := by decide +kernel
theorem dX5_agreesWith_59 : decode cX5_agreesWith 59 = .ok (.ireturn, 1) := by decide +kernel
theorem dX6_init_0 : decode cX6_init 0 = .ok (.aload_n 0, 1) := by decide +kernel
theorem dX6_init_1 : decode cX6_init 1 = .ok (.invokespecial 3, 3) := by decide +kernel
theorem dX6_init_4 : decode cX6_init 4 = .ok (.aload_n 0, 1) := by decide +kernel
theorem dX6_init_5 : decode cX6_init 5 = .ok (.new 9, 3) := by decide +kernel
theorem dX6_init_8 : decode cX6_init 8 = .ok (.dup, 1) := by decide +kernel
theorem dX6_init_9 : decode cX6_init 9 = .ok (.invokespecial 11, 3) := by decide +kernel
theorem dX6_init_12 : decode cX6_init 12 = .ok (.putfield 12, 3) := by decide +kernel
theorem dX6_init_15 : decode cX6_init 15 = .ok (.aload_n 0, 1) := by decide +kernel
theorem dX6_init_16 : decode cX6_init 16 = .ok (.new 18, 3) := by decide +kernel
theorem dX6_init_19 : decode cX6_init 19 = .ok (.dup, 1) := by decide +kernel
theorem dX6_init_20 : decode cX6_init 20 = .ok (.invokespecial 20, 3) := by decide +kernel
theorem dX6_init_23 : decode cX6_init 23 = .ok (.putfield 21, 3) := by decide +kernel
theorem dX6_init_26 : decode cX6_init 26 = .ok (.aload_n 0, 1) := by decide +kernel
theorem dX6_init_27 : decode cX6_init 27 = .ok (.new 25, 3) := by decide +kernel
theorem dX6_init_30 : decode cX6_init 30 = .ok (.dup, 1) := by decide +kernel
theorem dX6_init_31 : decode cX6_init 31 = .ok (.invokespecial 27, 3) := by decide +kernel
theorem dX6_init_34 : decode cX6_init 34 = .ok (.putfield 28, 3) := by decide +kernel
theorem dX6_init_37 : decode cX6_init 37 = .ok (.aload_n 0, 1) := by decide +kernel
theorem dX6_init_38 : decode cX6_init 38 = .ok (.new 32, 3) := by decide +kernel
theorem dX6_init_41 : decode cX6_init 41 = .ok (.dup, 1) := by decide +kernel
theorem dX6_init_42 : decode cX6_init 42 = .ok (.invokespecial 34, 3) := by decide +kernel
theorem dX6_init_45 : decode cX6_init 45 = .ok (.putfield 35, 3) := by decide +kernel
theorem dX6_init_48 : decode cX6_init 48 = .ok (.aload_n 0, 1) := by decide +kernel
theorem dX6_init_49 : decode cX6_init 49 = .ok (.iconst 1, 1) := by decide +kernel
theorem dX6_init_50 : decode cX6_init 50 = .ok (.putfield 39, 3) := by decide +kernel
theorem dX6_init_53 : decode cX6_init 53 = .ok (.aload_n 0, 1) := by decide +kernel
theorem dX6_init_54 : decode cX6_init 54 = .ok (.iconst 5, 1) := by decide +kernel
theorem dX6_init_55 : decode cX6_init 55 = .ok (.putfield 43, 3) := by decide +kernel
theorem dX6_init_58 : decode cX6_init 58 = .ok (.aload_n 0, 1) := by decide +kernel
theorem dX6_init_59 : decode cX6_init 59 = .ok (.iconst 0, 1) := by decide +kernel
theorem dX6_init_60 : decode cX6_init 60 = .ok (.putfield 46, 3) := by decide +kernel
theorem dX6_init_63 : decode cX6_init 63 = .ok (.aload_n 0, 1) := by decide +kernel
theorem dX6_init_64 : decode cX6_init 64 = .ok (.iconst 0, 1) := by decide +kernel
theorem dX6_init_65 : decode cX6_init 65 = .ok (.putfield 49, 3) := by decide +kernel
theorem dX6_init_68 : decode cX6_init 68 = .ok (.aload_n 0, 1) := by decide +kernel
theorem dX6_init_69 : decode cX6_init 69 = .ok (.iconst 0, 1) := by decide +kernel
theorem dX6_init_70 : decode cX6_init 70 = .ok (.putfield 52, 3) := by decide +kernel
theorem dX6_init_73 : decode cX6_init 73 = .ok (.return_, 1) := by decide +kernel
theorem dX6_copyFrom_0 : decode cX6_copyFrom 0 = .ok (.aload_n 0, 1) := by decide +kernel
theorem dX6_copyFrom_1 : decode cX6_copyFrom 1 = .ok (.getfield 12, 3) := by decide +kernel
theorem dX6_copyFrom_4 : decode cX6_copyFrom 4 = .ok (.aload_n 1, 1) := by decide +kernel
theorem dX6_copyFrom_5 : decode cX6_copyFrom 5 = .ok (.getfield 12, 3) := by decide +kernel
theorem dX6_copyFrom_8 : decode cX6_copyFrom 8 = .ok (.invokevirtual 55, 3) := by decide +kernel
theorem dX6_copyFrom_11 : decode cX6_copyFrom 11 = .ok (.aload_n 0, 1) := by decide +kernel
theorem dX6_copyFrom_12 : decode cX6_copyFrom 12 = .ok (.getfield 21, 3) := by decide +kernel
theorem dX6_copyFrom_15 : decode cX6_copyFrom 15 = .ok (.aload_n 1, 1) := by decide +kernel
theorem dX6_copyFrom_16 : decode cX6_copyFrom 16 = .ok (.getfield 21, 3) := by decide +kernel
theorem dX6_copyFrom_19 : decode cX6_copyFrom 19 = .ok (.invokevirtual 59, 3) := by decide +kernel
theorem dX6_copyFrom_22 : decode cX6_copyFrom 22 = .ok (.aload_n 0, 1) := by decide +kernel
theorem dX6_copyFrom_23 : decode cX6_copyFrom 23 = .ok (.getfield 28, 3) := by decide +kernel
theorem dX6_copyFrom_26 : decode cX6_copyFrom 26 = .ok (.aload_n 1, 1) := by decide +kernel
theorem dX6_copyFrom_27 : decode cX6_copyFrom 27 = .ok (.getfield 28, 3) := by decide +kernel
theorem dX6_copyFrom_30 : decode cX6_copyFrom 30 = .ok (.invokevirtual 62, 3) := by decide +kernel
theorem dX6_copyFrom_33 : decode cX6_copyFrom 33 = .ok (.aload_n 0, 1) := by decide +kernel
theorem dX6_copyFrom_34 : decode cX6_copyFrom 34 = .ok (.getfield 35, 3) := by decide +kernel
theorem dX6_copyFrom_37 : decode cX6_copyFrom 37 = .ok (.aload_n 1, 1) := by decide +kernel
theorem dX6_copyFrom_38 : decode cX6_copyFrom 38 = .ok (.getfield 35, 3) := by decide +kernel
theorem dX6_copyFrom_41 : decode cX6_copyFrom 41 = .ok (.invokevirtual 65, 3) := by decide +kernel
theorem dX6_copyFrom_44 : decode cX6_copyFrom 44 = .ok (.aload_n 0, 1) := by decide +kernel
theorem dX6_copyFrom_45 : decode cX6_copyFrom 45 = .ok (.aload_n 1, 1) := by decide +kernel
theorem dX6_copyFrom_46 : decode cX6_copyFrom 46 = .ok (.getfield 39, 3) := by decide +kernel
theorem dX6_copyFrom_49 : decode cX6_copyFrom 49 = .ok (.putfield 39, 3) := by decide +kernel
theorem dX6_copyFrom_52 : decode cX6_copyFrom 52 = .ok (.aload_n 0, 1) := by decide +kernel
theorem dX6_copyFrom_53 : decode cX6_copyFrom 53 = .ok (.aload_n 1, 1) := by decide +kernel
theorem dX6_copyFrom_54 : decode cX6_copyFrom 54 = .ok (.getfield 43, 3) := by decide +kernel
theorem dX6_copyFrom_57 : decode cX6_copyFrom 57 = .ok (.putfield 43, 3) := by decide +kernel
theorem dX6_copyFrom_60 : decode cX6_copyFrom 60 = .ok (.aload_n 0, 1) := by decide +kernel
theorem dX6_copyFrom_61 : decode cX6_copyFrom 61 = .ok (.aload_n 1, 1) := by decide +kernel
theorem dX6_copyFrom_62 : decode cX6_copyFrom 62 = .ok (.getfield 46, 3) := by decide +kernel
theorem dX6_copyFrom_65 : decode cX6_copyFrom 65 = .ok (.putfield 46, 3) := by decide +kernel
theorem dX6_copyFrom_68 : decode cX6_copyFrom 68 = .ok (.aload_n 0, 1) := by decide +kernel
theorem dX6_copyFrom_69 : decode cX6_copyFrom 69 = .ok (.aload_n 1, 1) := by decide +kernel
theorem dX6_copyFrom_70 : decode cX6_copyFrom 70 = .ok (.getfield 49, 3) := by decide +kernel
theorem dX6_copyFrom_73 : decode cX6_copyFrom 73 = .ok (.putfield 49, 3) := by decide +kernel
theorem dX6_copyFrom_76 : decode cX6_copyFrom 76 = .ok (.aload_n 0, 1) := by decide +kernel
theorem dX6_copyFrom_77 : decode cX6_copyFrom 77 = .ok (.aload_n 1, 1) := by decide +kernel
theorem dX6_copyFrom_78 : decode cX6_copyFrom 78 = .ok (.getfield 52, 3) := by decide +kernel
theorem dX6_copyFrom_81 : decode cX6_copyFrom 81 = .ok (.putfield 52, 3) := by decide +kernel
theorem dX6_copyFrom_84 : decode cX6_copyFrom 84 = .ok (.return_, 1) := by decide +kernel
theorem dX6_readHoist_0 : decode cX6_readHoist 0 = .ok (.aload_n 0, 1) := by decide +kernel
theorem dX6_readHoist_1 : decode cX6_readHoist 1 = .ok (.getfield 21, 3) := by decide +kernel
theorem dX6_readHoist_4 : decode cX6_readHoist 4 = .ok (.iload_n 1, 1) := by decide +kernel
theorem dX6_readHoist_5 : decode cX6_readHoist 5 = .ok (.invokevirtual 68, 3) := by decide +kernel
theorem dX6_readHoist_8 : decode cX6_readHoist 8 = .ok (.istore 4, 2) := by decide +kernel
theorem dX6_readHoist_10 : decode cX6_readHoist 10 = .ok (.iload 4, 2) := by decide +kernel
theorem dX6_readHoist_12 : decode cX6_readHoist 12 = .ok (.ifCond .ne 6, 3) := by decide +kernel
theorem dX6_readHoist_15 : decode cX6_readHoist 15 = .ok (.bipush (-7), 2) := by decide +kernel
theorem dX6_readHoist_17 : decode cX6_readHoist 17 = .ok (.ireturn, 1) := by decide +kernel
theorem dX6_readHoist_18 : decode cX6_readHoist 18 = .ok (.iconst 1, 1) := by decide +kernel
theorem dX6_readHoist_19 : decode cX6_readHoist 19 = .ok (.istore 5, 2) := by decide +kernel
theorem dX6_readHoist_21 : decode cX6_readHoist 21 = .ok (.iconst 1, 1) := by decide +kernel
theorem dX6_readHoist_22 : decode cX6_readHoist 22 = .ok (.istore 6, 2) := by decide +kernel
theorem dX6_readHoist_24 : decode cX6_readHoist 24 = .ok (.iload 6, 2) := by decide +kernel
theorem dX6_readHoist_26 : decode cX6_readHoist 26 = .ok (.iload 4, 2) := by decide +kernel
theorem dX6_readHoist_28 : decode cX6_readHoist 28 = .ok (.if_icmp .gt 50, 3) := by decide +kernel
theorem dX6_readHoist_31 : decode cX6_readHoist 31 = .ok (.aload_n 0, 1) := by decide +kernel
theorem dX6_readHoist_32 : decode cX6_readHoist 32 = .ok (.getfield 12, 3) := by decide +kernel
theorem dX6_readHoist_35 : decode cX6_readHoist 35 = .ok (.aload_n 0, 1) := by decide +kernel
theorem dX6_readHoist_36 : decode cX6_readHoist 36 = .ok (.getfield 21, 3) := by decide +kernel
theorem dX6_readHoist_39 : decode cX6_readHoist 39 = .ok (.iload_n 1, 1) := by decide +kernel
theorem dX6_readHoist_40 : decode cX6_readHoist 40 = .ok (.iload 6, 2) := by decide +kernel
theorem dX6_readHoist_42 : decode cX6_readHoist 42 = .ok (.invokevirtual 72, 3) := by decide +kernel
theorem dX6_readHoist_45 : decode cX6_readHoist 45 = .ok (.iload_n 2, 1) := by decide +kernel
theorem dX6_readHoist_46 : decode cX6_readHoist 46 = .ok (.iload_n 3, 1) := by decide +kernel
theorem dX6_readHoist_47 : decode cX6_readHoist 47 = .ok (.invokevirtual 76, 3) := by decide +kernel
theorem dX6_readHoist_50 : decode cX6_readHoist 50 = .ok (.istore 7, 2) := by decide +kernel
theorem dX6_readHoist_52 : decode cX6_readHoist 52 = .ok (.iload 7, 2) := by decide +kernel
theorem dX6_readHoist_54 : decode cX6_readHoist 54 = .ok (.bipush (-6), 2) := by decide +kernel
theorem dX6_readHoist_56 : decode cX6_readHoist 56 = .ok (.if_icmp .ne 6, 3) := by decide +kernel
theorem dX6_readHoist_59 : decode cX6_readHoist 59 = .ok (.bipush (-6), 2) := by decide +kernel
theorem dX6_readHoist_61 : decode cX6_readHoist 61 = .ok (.ireturn, 1) := by decide +kernel
theorem dX6_readHoist_62 : decode cX6_readHoist 62 = .ok (.bipush 10, 2) := by decide +kernel
theorem dX6_readHoist_64 : decode cX6_readHoist 64 = .ok (.iload 5, 2) := by decide +kernel
theorem dX6_readHoist_66 : decode cX6_readHoist 66 = .ok (.imul, 1) := by decide +kernel
theorem dX6_readHoist_67 : decode cX6_readHoist 67 = .ok (.iload 7, 2) := by decide +kernel
theorem dX6_readHoist_69 : decode cX6_readHoist 69 = .ok (.iadd, 1) := by decide +kernel
theorem dX6_readHoist_70 : decode cX6_readHoist 70 = .ok (.istore 5, 2) := by decide +kernel
theorem dX6_readHoist_72 : decode cX6_readHoist 72 = .ok (.iinc 6 1, 3) := by decide +kernel
theorem dX6_readHoist_75 : decode cX6_readHoist 75 = .ok (.goto (-51), 3) := by decide +kernel
theorem dX6_readHoist_78 : decode cX6_readHoist 78 = .ok (.aload_n 0, 1) := by decide +kernel
theorem dX6_readHoist_79 : decode cX6_readHoist 79 = .ok (.getfield 28, 3) := by decide +kernel
theorem dX6_readHoist_82 : decode cX6_readHoist 82 = .ok (.iload 5, 2) := by decide +kernel
theorem dX6_readHoist_84 : decode cX6_readHoist 84 = .ok (.invokevirtual 80, 3) := by decide +kernel
theorem dX6_readHoist_87 : decode cX6_readHoist 87 = .ok (.ireturn, 1) := by decide +kernel
theorem dX7_init_0 : decode cX7_init 0 = .ok (.aload_n 0, 1) := by decide +kernel
theorem dX7_init_1 : decode cX7_init 1 = .ok (.invokespecial 3, 3) := by decide +kernel
theorem dX7_init_4 : decode cX7_init 4 = .ok (.aload_n 0, 1) := by decide +kernel
theorem dX7_init_5 : decode cX7_init 5 = .ok (.bipush 50, 2) := by decide +kernel
theorem dX7_init_7 : decode cX7_init 7 = .ok (.newarray .int, 2) := by decide +kernel
theorem dX7_init_9 : decode cX7_init 9 = .ok (.putfield 9, 3) := by decide +kernel
theorem dX7_init_12 : decode cX7_init 12 = .ok (.aload_n 0, 1) := by decide +kernel
theorem dX7_init_13 : decode cX7_init 13 = .ok (.iconst 0, 1) := by decide +kernel
theorem dX7_init_14 : decode cX7_init 14 = .ok (.putfield 15, 3) := by decide +kernel
theorem dX7_init_17 : decode cX7_init 17 = .ok (.aload_n 0, 1) := by decide +kernel
theorem dX7_init_18 : decode cX7_init 18 = .ok (.new 19, 3) := by decide +kernel
theorem dX7_init_21 : decode cX7_init 21 = .ok (.dup, 1) := by decide +kernel
theorem dX7_init_22 : decode cX7_init 22 = .ok (.invokespecial 21, 3) := by decide +kernel
theorem dX7_init_25 : decode cX7_init 25 = .ok (.putfield 22, 3) := by decide +kernel
theorem dX7_init_28 : decode cX7_init 28 = .ok (.aload_n 0, 1) := by decide +kernel
theorem dX7_init_29 : decode cX7_init 29 = .ok (.iconst (-1), 1) := by decide +kernel
theorem dX7_init_30 : decode cX7_init 30 = .ok (.putfield 26, 3) := by decide +kernel
theorem dX7_init_33 : decode cX7_init 33 = .ok (.aload_n 0, 1) := by decide +kernel
theorem dX7_init_34 : decode cX7_init 34 = .ok (.iconst 0, 1) := by decide +kernel
theorem dX7_init_35 : decode cX7_init 35 = .ok (.putfield 29, 3) := by decide +kernel
theorem dX7_init_38 : decode cX7_init 38 = .ok (.return_, 1) := by decide +kernel
theorem dX7_size_0 : decode cX7_size 0 = .ok (.aload_n 0, 1) := by decide +kernel
theorem dX7_size_1 : decode cX7_size 1 = .ok (.getfield 15, 3) := by decide +kernel
theorem dX7_size_4 : decode cX7_size 4 = .ok (.ireturn, 1) := by decide +kernel
theorem dX7_add_0 : decode cX7_add 0 = .ok (.aload_n 0, 1) := by decide +kernel
theorem dX7_add_1 : decode cX7_add 1 = .ok (.getfield 15, 3) := by decide +kernel
theorem dX7_add_4 : decode cX7_add 4 = .ok (.bipush 50, 2) := by decide +kernel
theorem dX7_add_6 : decode cX7_add 6 = .ok (.invokestatic 32, 3) := by decide +kernel
theorem dX7_add_9 : decode cX7_add 9 = .ok (.ifCond .eq 23, 3) := by decide +kernel
theorem dX7_add_12 : decode cX7_add 12 = .ok (.aload_n 0, 1) := by decide +kernel
theorem dX7_add_13 : decode cX7_add 13 = .ok (.getfield 9, 3) := by decide +kernel
theorem dX7_add_16 : decode cX7_add 16 = .ok (.aload_n 0, 1) := by decide +kernel
theorem dX7_add_17 : decode cX7_add 17 = .ok (.getfield 15, 3) := by decide +kernel
theorem dX7_add_20 : decode cX7_add 20 = .ok (.iload_n 1, 1) := by decide +kernel
theorem dX7_add_21 : decode cX7_add 21 = .ok (.iastore, 1) := by decide +kernel
theorem dX7_add_22 : decode cX7_add 22 = .ok (.aload_n 0, 1) := by decide +kernel
theorem dX7_add_23 : decode cX7_add 23 = .ok (.dup, 1) := by decide +kernel
theorem dX7_add_24 : decode cX7_add 24 = .ok (.getfield 15, 3) := by decide +kernel
theorem dX7_add_27 : decode cX7_add 27 = .ok (.iconst 1, 1) := by decide +kernel
theorem dX7_add_28 : decode cX7_add 28 = .ok (.iadd, 1) := by decide +kernel
theorem dX7_add_29 : decode cX7_add 29 = .ok (.putfield 15, 3) := by decide +kernel
theorem dX7_add_32 : decode cX7_add 32 = .ok (.return_, 1) := by decide +kernel
theorem dX7_clear_0 : decode cX7_clear 0 = .ok (.aload_n 0, 1) := by decide +kernel
theorem dX7_clear_1 : decode cX7_clear 1 = .ok (.iconst 0, 1) := by decide +kernel
theorem dX7_clear_2 : decode cX7_clear 2 = .ok (.putfield 15, 3) := by decide +kernel
theorem dX7_clear_5 : decode cX7_clear 5 = .ok (.return_, 1) := by decide +kernel
theorem dX7_parse_0 : decode cX7_parse 0 = .ok (.aload_n 0, 1) := by decide +kernel
theorem dX7_parse_1 : decode cX7_parse 1 = .ok (.getfield 22, 3) := by decide +kernel
theorem dX7_parse_4 : decode cX7_parse 4 = .ok (.invokevirtual 36, 3) := by decide +kernel
theorem dX7_parse_7 : decode cX7_parse 7 = .ok (.aload_n 0, 1) := by decide +kernel
theorem dX7_parse_8 : decode cX7_parse 8 = .ok (.iconst (-1), 1) := by decide +kernel
theorem dX7_parse_9 : decode cX7_parse 9 = .ok (.putfield 26, 3) := by decide +kernel
theorem dX7_parse_12 : decode cX7_parse 12 = .ok (.aload_n 0, 1) := by decide +kernel
theorem dX7_parse_13 : decode cX7_parse 13 = .ok (.iconst 0, 1) := by decide +kernel
theorem dX7_parse_14 : decode cX7_parse 14 = .ok (.putfield 29, 3) := by decide +kernel
theorem dX7_parse_17 : decode cX7_parse 17 = .ok (.iconst 0, 1) := by decide +kernel
theorem dX7_parse_18 : decode cX7_parse 18 = .ok (.istore_n 1, 1) := by decide +kernel
theorem dX7_parse_19 : decode cX7_parse 19 = .ok (.iload_n 1, 1) := by decide +kernel
theorem dX7_parse_20 : decode cX7_parse 20 = .ok (.aload_n 0, 1) := by decide +kernel
theorem dX7_parse_21 : decode cX7_parse 21 = .ok (.getfield 15, 3) := by decide +kernel
theorem dX7_parse_24 : decode cX7_parse 24 = .ok (.if_icmp .ge 30, 3) := by decide +kernel
theorem dX7_parse_27 : decode cX7_parse 27 = .ok (.iload_n 1, 1) := by decide +kernel
theorem dX7_parse_28 : decode cX7_parse 28 = .ok (.bipush 50, 2) := by decide +kernel
theorem dX7_parse_30 : decode cX7_parse 30 = .ok (.if_icmp .ge 24, 3) := by decide +kernel
theorem dX7_parse_33 : decode cX7_parse 33 = .ok (.aload_n 0, 1) := by decide +kernel
theorem dX7_parse_34 : decode cX7_parse 34 = .ok (.aload_n 0, 1) := by decide +kernel
theorem dX7_parse_35 : decode cX7_parse 35 = .ok (.getfield 9, 3) := by decide +kernel
theorem dX7_parse_38 : decode cX7_parse 38 = .ok (.iload_n 1, 1) := by decide +kernel
theorem dX7_parse_39 : decode cX7_parse 39 = .ok (.iaload, 1) := by decide +kernel
theorem dX7_parse_40 : decode cX7_parse 40 = .ok (.invokevirtual 39, 3) := by decide +kernel
theorem dX7_parse_43 : decode cX7_parse 43 = .ok (.ifCond .ne 5, 3) := by decide +kernel
theorem dX7_parse_46 : decode cX7_parse 46 = .ok (.iload_n 1, 1) := by decide +kernel
theorem dX7_parse_47 : decode cX7_parse 47 = .ok (.ireturn, 1) := by decide +kernel
theorem dX7_parse_48 : decode cX7_parse 48 = .ok (.iinc 1 1, 3) := by decide +kernel
theorem dX7_parse_51 : decode cX7_parse 51 = .ok (.goto (-32), 3) := by decide +kernel
theorem dX7_parse_54 : decode cX7_parse 54 = .ok (.aload_n 0, 1) := by decide +kernel
theorem dX7_parse_55 : decode cX7_parse 55 = .ok (.getfield 29, 3) := by decide +kernel
theorem dX7_parse_58 : decode cX7_parse 58 = .ok (.iconst 3, 1) := by decide +kernel
theorem dX7_parse_59 : decode cX7_parse 59 = .ok (.if_icmp .ne 8, 3) := by decide +kernel
theorem dX7_parse_62 : decode cX7_parse 62 = .ok (.bipush (-6), 2) := by decide +kernel
theorem dX7_parse_64 : decode cX7_parse 64 = .ok (.goto 7, 3) := by decide +kernel
theorem dX7_parse_67 : decode cX7_parse 67 = .ok (.aload_n 0, 1) := by decide +kernel
theorem dX7_parse_68 : decode cX7_parse 68 = .ok (.getfield 15, 3) := by decide +kernel
theorem dX7_parse_71 : decode cX7_parse 71 = .ok (.ireturn, 1) := by decide +kernel
theorem dX7_accept_0 : decode cX7_accept 0 = .ok (.aload_n 0, 1) := by decide +kernel
theorem dX7_accept_1 : decode cX7_accept 1 = .ok (.getfield 29, 3) := by decide +kernel
theorem dX7_accept_4 : decode cX7_accept 4 = .ok (.tableswitch 73 0 3 #[32, 41, 58, 67], 32) := by decide +kernel
theorem dX7_accept_36 : decode cX7_accept 36 = .ok (.aload_n 0, 1) := by decide +kernel
theorem dX7_accept_37 : decode cX7_accept 37 = .ok (.iload_n 1, 1) := by decide +kernel
theorem dX7_accept_38 : decode cX7_accept 38 = .ok (.bipush 48, 2) := by decide +kernel
theorem dX7_accept_40 : decode cX7_accept 40 = .ok (.isub, 1) := by decide +kernel
theorem dX7_accept_41 : decode cX7_accept 41 = .ok (.invokevirtual 43, 3) := by decide +kernel
theorem dX7_accept_44 : decode cX7_accept 44 = .ok (.ireturn, 1) := by decide +kernel
theorem dX7_accept_45 : decode cX7_accept 45 = .ok (.aload_n 0, 1) := by decide +kernel
theorem dX7_accept_46 : decode cX7_accept 46 = .ok (.iconst 2, 1) := by decide +kernel
theorem dX7_accept_47 : decode cX7_accept 47 = .ok (.putfield 29, 3) := by decide +kernel
theorem dX7_accept_50 : decode cX7_accept 50 = .ok (.iload_n 1, 1) := by decide +kernel
theorem dX7_accept_51 : decode cX7_accept 51 = .ok (.bipush 58, 2) := by decide +kernel
theorem dX7_accept_53 : decode cX7_accept 53 = .ok (.if_icmp .ne 7, 3) := by decide +kernel
theorem dX7_accept_56 : decode cX7_accept 56 = .ok (.iconst 1, 1) := by decide +kernel
theorem dX7_accept_57 : decode cX7_accept 57 = .ok (.goto 4, 3) := by decide +kernel
theorem dX7_accept_60 : decode cX7_accept 60 = .ok (.iconst 0, 1) := by decide +kernel
theorem dX7_accept_61 : decode cX7_accept 61 = .ok (.ireturn, 1) := by decide +kernel
theorem dX7_accept_62 : decode cX7_accept 62 = .ok (.aload_n 0, 1) := by decide +kernel
theorem dX7_accept_63 : decode cX7_accept 63 = .ok (.iload_n 1, 1) := by decide +kernel
theorem dX7_accept_64 : decode cX7_accept 64 = .ok (.bipush 48, 2) := by decide +kernel
theorem dX7_accept_66 : decode cX7_accept 66 = .ok (.isub, 1) := by decide +kernel
theorem dX7_accept_67 : decode cX7_accept 67 = .ok (.invokevirtual 46, 3) := by decide +kernel
theorem dX7_accept_70 : decode cX7_accept 70 = .ok (.ireturn, 1) := by decide +kernel
theorem dX7_accept_71 : decode cX7_accept 71 = .ok (.aload_n 0, 1) := by decide +kernel
theorem dX7_accept_72 : decode cX7_accept 72 = .ok (.iload_n 1, 1) := by decide +kernel
theorem dX7_accept_73 : decode cX7_accept 73 = .ok (.invokevirtual 49, 3) := by decide +kernel
theorem dX7_accept_76 : decode cX7_accept 76 = .ok (.ireturn, 1) := by decide +kernel
theorem dX7_accept_77 : decode cX7_accept 77 = .ok (.aload_n 0, 1) := by decide +kernel
theorem dX7_accept_78 : decode cX7_accept 78 = .ok (.iload_n 1, 1) := by decide +kernel
theorem dX7_accept_79 : decode cX7_accept 79 = .ok (.bipush 48, 2) := by decide +kernel
theorem dX7_accept_81 : decode cX7_accept 81 = .ok (.isub, 1) := by decide +kernel
theorem dX7_accept_82 : decode cX7_accept 82 = .ok (.invokevirtual 52, 3) := by decide +kernel
theorem dX7_accept_85 : decode cX7_accept 85 = .ok (.ireturn, 1) := by decide +kernel
theorem dX7_acceptHalyard_0 : decode cX7_acceptHalyard 0 = .ok (.iload_n 1, 1) := by decide +kernel
theorem dX7_acceptHalyard_1 : decode cX7_acceptHalyard 1 = .ok (.aload_n 0, 1) := by decide +kernel
theorem dX7_acceptHalyard_2 : decode cX7_acceptHalyard 2 = .ok (.getfield 26, 3) := by decide +kernel
theorem dX7_acceptHalyard_5 : decode cX7_acceptHalyard 5 = .ok (.if_icmp .le 8, 3) := by decide +kernel
theorem dX7_acceptHalyard_8 : decode cX7_acceptHalyard 8 = .ok (.iload_n 1, 1) := by decide +kernel
theorem dX7_acceptHalyard_9 : decode cX7_acceptHalyard 9 = .ok (.iconst 5, 1) := by decide +kernel
theorem dX7_acceptHalyard_10 : decode cX7_acceptHalyard 10 = .ok (.if_icmp .lt 5, 3) := by decide +kernel
theorem dX7_acceptHalyard_13 : decode cX7_acceptHalyard 13 = .ok (.iconst 0, 1) := by decide +kernel
theorem dX7_acceptHalyard_14 : decode cX7_acceptHalyard 14 = .ok (.ireturn, 1) := by decide +kernel
theorem dX7_acceptHalyard_15 : decode cX7_acceptHalyard 15 = .ok (.aload_n 0, 1) := by decide +kernel
theorem dX7_acceptHalyard_16 : decode cX7_acceptHalyard 16 = .ok (.iload_n 1, 1) := by decide +kernel
theorem dX7_acceptHalyard_17 : decode cX7_acceptHalyard 17 = .ok (.putfield 26, 3) := by decide +kernel
theorem dX7_acceptHalyard_20 : decode cX7_acceptHalyard 20 = .ok (.aload_n 0, 1) := by decide +kernel
theorem dX7_acceptHalyard_21 : decode cX7_acceptHalyard 21 = .ok (.iconst 1, 1) := by decide +kernel
theorem dX7_acceptHalyard_22 : decode cX7_acceptHalyard 22 = .ok (.putfield 29, 3) := by decide +kernel
theorem dX7_acceptHalyard_25 : decode cX7_acceptHalyard 25 = .ok (.iconst 1, 1) := by decide +kernel
theorem dX7_acceptHalyard_26 : decode cX7_acceptHalyard 26 = .ok (.ireturn, 1) := by decide +kernel
theorem dX7_acceptFlag_0 : decode cX7_acceptFlag 0 = .ok (.iload_n 1, 1) := by decide +kernel
theorem dX7_acceptFlag_1 : decode cX7_acceptFlag 1 = .ok (.bipush 10, 2) := by decide +kernel
theorem dX7_acceptFlag_3 : decode cX7_acceptFlag 3 = .ok (.invokestatic 32, 3) := by decide +kernel
theorem dX7_acceptFlag_6 : decode cX7_acceptFlag 6 = .ok (.ifCond .eq 18, 3) := by decide +kernel
theorem dX7_acceptFlag_9 : decode cX7_acceptFlag 9 = .ok (.aload_n 0, 1) := by decide +kernel
theorem dX7_acceptFlag_10 : decode cX7_acceptFlag 10 = .ok (.getfield 22, 3) := by decide +kernel
theorem dX7_acceptFlag_13 : decode cX7_acceptFlag 13 = .ok (.aload_n 0, 1) := by decide +kernel
theorem dX7_acceptFlag_14 : decode cX7_acceptFlag 14 = .ok (.getfield 26, 3) := by decide +kernel
theorem dX7_acceptFlag_17 : decode cX7_acceptFlag 17 = .ok (.invokevirtual 55, 3) := by decide +kernel
theorem dX7_acceptFlag_20 : decode cX7_acceptFlag 20 = .ok (.iconst 4, 1) := by decide +kernel
theorem dX7_acceptFlag_21 : decode cX7_acceptFlag 21 = .ok (.if_icmp .lt 5, 3) := by decide +kernel
theorem dX7_acceptFlag_24 : decode cX7_acceptFlag 24 = .ok (.iconst 0, 1) := by decide +kernel
theorem dX7_acceptFlag_25 : decode cX7_acceptFlag 25 = .ok (.ireturn, 1) := by decide +kernel
theorem dX7_acceptFlag_26 : decode cX7_acceptFlag 26 = .ok (.aload_n 0, 1) := by decide +kernel
theorem dX7_acceptFlag_27 : decode cX7_acceptFlag 27 = .ok (.getfield 22, 3) := by decide +kernel
theorem dX7_acceptFlag_30 : decode cX7_acceptFlag 30 = .ok (.aload_n 0, 1) := by decide +kernel
theorem dX7_acceptFlag_31 : decode cX7_acceptFlag 31 = .ok (.getfield 26, 3) := by decide +kernel
theorem dX7_acceptFlag_34 : decode cX7_acceptFlag 34 = .ok (.iload_n 1, 1) := by decide +kernel
theorem dX7_acceptFlag_35 : decode cX7_acceptFlag 35 = .ok (.invokevirtual 59, 3) := by decide +kernel
theorem dX7_acceptFlag_38 : decode cX7_acceptFlag 38 = .ok (.aload_n 0, 1) := by decide +kernel
theorem dX7_acceptFlag_39 : decode cX7_acceptFlag 39 = .ok (.iconst 3, 1) := by decide +kernel
theorem dX7_acceptFlag_40 : decode cX7_acceptFlag 40 = .ok (.putfield 29, 3) := by decide +kernel
theorem dX7_acceptFlag_43 : decode cX7_acceptFlag 43 = .ok (.iconst 1, 1) := by decide +kernel
theorem dX7_acceptFlag_44 : decode cX7_acceptFlag 44 = .ok (.ireturn, 1) := by decide +kernel
theorem dX7_acceptMore_0 : decode cX7_acceptMore 0 = .ok (.iload_n 1, 1) := by decide +kernel
theorem dX7_acceptMore_1 : decode cX7_acceptMore 1 = .ok (.bipush 44, 2) := by decide +kernel
theorem dX7_acceptMore_3 : decode cX7_acceptMore 3 = .ok (.if_icmp .ne 22, 3) := by decide +kernel
theorem dX7_acceptMore_6 : decode cX7_acceptMore 6 = .ok (.aload_n 0, 1) := by decide +kernel
theorem dX7_acceptMore_7 : decode cX7_acceptMore 7 = .ok (.iconst 0, 1) := by decide +kernel
theorem dX7_acceptMore_8 : decode cX7_acceptMore 8 = .ok (.putfield 29, 3) := by decide +kernel
theorem dX7_acceptMore_11 : decode cX7_acceptMore 11 = .ok (.aload_n 0, 1) := by decide +kernel
theorem dX7_acceptMore_12 : decode cX7_acceptMore 12 = .ok (.getfield 26, 3) := by decide +kernel
theorem dX7_acceptMore_15 : decode cX7_acceptMore 15 = .ok (.iconst 4, 1) := by decide +kernel
theorem dX7_acceptMore_16 : decode cX7_acceptMore 16 = .ok (.if_icmp .ge 7, 3) := by decide +kernel
theorem dX7_acceptMore_19 : decode cX7_acceptMore 19 = .ok (.iconst 1, 1) := by decide +kernel
theorem dX7_acceptMore_20 : decode cX7_acceptMore 20 = .ok (.goto 4, 3) := by decide +kernel
theorem dX7_acceptMore_23 : decode cX7_acceptMore 23 = .ok (.iconst 0, 1) := by decide +kernel
theorem dX7_acceptMore_24 : decode cX7_acceptMore 24 = .ok (.ireturn, 1) := by decide +kernel
theorem dX7_acceptMore_25 : decode cX7_acceptMore 25 = .ok (.iload_n 1, 1) := by decide +kernel
theorem dX7_acceptMore_26 : decode cX7_acceptMore 26 = .ok (.bipush 114, 2) := by decide +kernel
theorem dX7_acceptMore_28 : decode cX7_acceptMore 28 = .ok (.if_icmp .ne 29, 3) := by decide +kernel
theorem dX7_acceptMore_31 : decode cX7_acceptMore 31 = .ok (.aload_n 0, 1) := by decide +kernel
theorem dX7_acceptMore_32 : decode cX7_acceptMore 32 = .ok (.iconst 4, 1) := by decide +kernel
theorem dX7_acceptMore_33 : decode cX7_acceptMore 33 = .ok (.putfield 29, 3) := by decide +kernel
theorem dX7_acceptMore_36 : decode cX7_acceptMore 36 = .ok (.aload_n 0, 1) := by decide +kernel
theorem dX7_acceptMore_37 : decode cX7_acceptMore 37 = .ok (.getfield 22, 3) := by decide +kernel
theorem dX7_acceptMore_40 : decode cX7_acceptMore 40 = .ok (.aload_n 0, 1) := by decide +kernel
theorem dX7_acceptMore_41 : decode cX7_acceptMore 41 = .ok (.getfield 26, 3) := by decide +kernel
theorem dX7_acceptMore_44 : decode cX7_acceptMore 44 = .ok (.invokevirtual 55, 3) := by decide +kernel
theorem dX7_acceptMore_47 : decode cX7_acceptMore 47 = .ok (.iconst 4, 1) := by decide +kernel
theorem dX7_acceptMore_48 : decode cX7_acceptMore 48 = .ok (.if_icmp .ge 7, 3) := by decide +kernel
theorem dX7_acceptMore_51 : decode cX7_acceptMore 51 = .ok (.iconst 1, 1) := by decide +kernel
theorem dX7_acceptMore_52 : decode cX7_acceptMore 52 = .ok (.goto 4, 3) := by decide +kernel
theorem dX7_acceptMore_55 : decode cX7_acceptMore 55 = .ok (.iconst 0, 1) := by decide +kernel
theorem dX7_acceptMore_56 : decode cX7_acceptMore 56 = .ok (.ireturn, 1) := by decide +kernel
theorem dX7_acceptMore_57 : decode cX7_acceptMore 57 = .ok (.aload_n 0, 1) := by decide +kernel
theorem dX7_acceptMore_58 : decode cX7_acceptMore 58 = .ok (.iload_n 1, 1) := by decide +kernel
theorem dX7_acceptMore_59 : decode cX7_acceptMore 59 = .ok (.bipush 48, 2) := by decide +kernel
theorem dX7_acceptMore_61 : decode cX7_acceptMore 61 = .ok (.isub, 1) := by decide +kernel
theorem dX7_acceptMore_62 : decode cX7_acceptMore 62 = .ok (.invokevirtual 46, 3) := by decide +kernel
theorem dX7_acceptMore_65 : decode cX7_acceptMore 65 = .ok (.ireturn, 1) := by decide +kernel
theorem dX7_acceptPennant_0 : decode cX7_acceptPennant 0 = .ok (.iload_n 1, 1) := by decide +kernel
theorem dX7_acceptPennant_1 : decode cX7_acceptPennant 1 = .ok (.iconst 1, 1) := by decide +kernel
theorem dX7_acceptPennant_2 : decode cX7_acceptPennant 2 = .ok (.if_icmp .lt 23, 3) := by decide +kernel
theorem dX7_acceptPennant_5 : decode cX7_acceptPennant 5 = .ok (.iload_n 1, 1) := by decide +kernel
theorem dX7_acceptPennant_6 : decode cX7_acceptPennant 6 = .ok (.iconst 3, 1) := by decide +kernel
theorem dX7_acceptPennant_7 : decode cX7_acceptPennant 7 = .ok (.if_icmp .gt 18, 3) := by decide +kernel
theorem dX7_acceptPennant_10 : decode cX7_acceptPennant 10 = .ok (.iload_n 1, 1) := by decide +kernel
theorem dX7_acceptPennant_11 : decode cX7_acceptPennant 11 = .ok (.aload_n 0, 1) := by decide +kernel
theorem dX7_acceptPennant_12 : decode cX7_acceptPennant 12 = .ok (.getfield 22, 3) := by decide +kernel
theorem dX7_acceptPennant_15 : decode cX7_acceptPennant 15 = .ok (.aload_n 0, 1) := by decide +kernel
theorem dX7_acceptPennant_16 : decode cX7_acceptPennant 16 = .ok (.getfield 26, 3) := by decide +kernel
theorem dX7_acceptPennant_19 : decode cX7_acceptPennant 19 = .ok (.invokevirtual 55, 3) := by decide +kernel
theorem dX7_acceptPennant_22 : decode cX7_acceptPennant 22 = .ok (.if_icmp .le 5, 3) := by decide +kernel
theorem dX7_acceptPennant_25 : decode cX7_acceptPennant 25 = .ok (.iconst 0, 1) := by decide +kernel
theorem dX7_acceptPennant_26 : decode cX7_acceptPennant 26 = .ok (.ireturn, 1) := by decide +kernel
theorem dX7_acceptPennant_27 : decode cX7_acceptPennant 27 = .ok (.aload_n 0, 1) := by decide +kernel
theorem dX7_acceptPennant_28 : decode cX7_acceptPennant 28 = .ok (.getfield 22, 3) := by decide +kernel
theorem dX7_acceptPennant_31 : decode cX7_acceptPennant 31 = .ok (.aload_n 0, 1) := by decide +kernel
theorem dX7_acceptPennant_32 : decode cX7_acceptPennant 32 = .ok (.getfield 26, 3) := by decide +kernel
theorem dX7_acceptPennant_35 : decode cX7_acceptPennant 35 = .ok (.bipush 10, 2) := by decide +kernel
theorem dX7_acceptPennant_37 : decode cX7_acceptPennant 37 = .ok (.iload_n 1, 1) := by decide +kernel
theorem dX7_acceptPennant_38 : decode cX7_acceptPennant 38 = .ok (.iadd, 1) := by decide +kernel
theorem dX7_acceptPennant_39 : decode cX7_acceptPennant 39 = .ok (.invokevirtual 59, 3) := by decide +kernel
theorem dX7_acceptPennant_42 : decode cX7_acceptPennant 42 = .ok (.aload_n 0, 1) := by decide +kernel
theorem dX7_acceptPennant_43 : decode cX7_acceptPennant 43 = .ok (.iconst 3, 1) := by decide +kernel
theorem dX7_acceptPennant_44 : decode cX7_acceptPennant 44 = .ok (.putfield 29, 3) := by decide +kernel
theorem dX7_acceptPennant_47 : decode cX7_acceptPennant 47 = .ok (.iconst 1, 1) := by decide +kernel
theorem dX7_acceptPennant_48 : decode cX7_acceptPennant 48 = .ok (.ireturn, 1) := by decide +kernel
theorem dX8_init_0 : decode cX8_init 0 = .ok (.aload_n 0, 1) := by decide +kernel
theorem dX8_init_1 : decode cX8_init 1 = .ok (.invokespecial 1, 3) := by decide +kernel
theorem dX8_init_4 : decode cX8_init 4 = .ok (.aload_n 0, 1) := by decide +kernel
theorem dX8_init_5 : decode cX8_init 5 = .ok (.new 7, 3) := by decide +kernel
theorem dX8_init_8 : decode cX8_init 8 = .ok (.dup, 1) := by decide +kernel
theorem dX8_init_9 : decode cX8_init 9 = .ok (.invokespecial 9, 3) := by decide +kernel
theorem dX8_init_12 : decode cX8_init 12 = .ok (.putfield 10, 3) := by decide +kernel
theorem dX8_init_15 : decode cX8_init 15 = .ok (.aload_n 0, 1) := by decide +kernel
theorem dX8_init_16 : decode cX8_init 16 = .ok (.new 7, 3) := by decide +kernel
theorem dX8_init_19 : decode cX8_init 19 = .ok (.dup, 1) := by decide +kernel
theorem dX8_init_20 : decode cX8_init 20 = .ok (.invokespecial 9, 3) := by decide +kernel
theorem dX8_init_23 : decode cX8_init 23 = .ok (.putfield 16, 3) := by decide +kernel
theorem dX8_init_26 : decode cX8_init 26 = .ok (.aload_n 0, 1) := by decide +kernel
theorem dX8_init_27 : decode cX8_init 27 = .ok (.iconst 0, 1) := by decide +kernel
theorem dX8_init_28 : decode cX8_init 28 = .ok (.putfield 19, 3) := by decide +kernel
theorem dX8_init_31 : decode cX8_init 31 = .ok (.aload_n 0, 1) := by decide +kernel
theorem dX8_init_32 : decode cX8_init 32 = .ok (.new 23, 3) := by decide +kernel
theorem dX8_init_35 : decode cX8_init 35 = .ok (.dup, 1) := by decide +kernel
theorem dX8_init_36 : decode cX8_init 36 = .ok (.invokespecial 25, 3) := by decide +kernel
theorem dX8_init_39 : decode cX8_init 39 = .ok (.putfield 26, 3) := by decide +kernel
theorem dX8_init_42 : decode cX8_init 42 = .ok (.aload_n 0, 1) := by decide +kernel
theorem dX8_init_43 : decode cX8_init 43 = .ok (.new 30, 3) := by decide +kernel
theorem dX8_init_46 : decode cX8_init 46 = .ok (.dup, 1) := by decide +kernel
theorem dX8_init_47 : decode cX8_init 47 = .ok (.invokespecial 32, 3) := by decide +kernel
theorem dX8_init_50 : decode cX8_init 50 = .ok (.putfield 33, 3) := by decide +kernel
theorem dX8_init_53 : decode cX8_init 53 = .ok (.aload_n 0, 1) := by decide +kernel
theorem dX8_init_54 : decode cX8_init 54 = .ok (.new 37, 3) := by decide +kernel
theorem dX8_init_57 : decode cX8_init 57 = .ok (.dup, 1) := by decide +kernel
theorem dX8_init_58 : decode cX8_init 58 = .ok (.iconst 0, 1) := by decide +kernel
theorem dX8_init_59 : decode cX8_init 59 = .ok (.invokespecial 39, 3) := by decide +kernel
theorem dX8_init_62 : decode cX8_init 62 = .ok (.putfield 42, 3) := by decide +kernel
theorem dX8_init_65 : decode cX8_init 65 = .ok (.aload_n 0, 1) := by decide +kernel
theorem dX8_init_66 : decode cX8_init 66 = .ok (.new 37, 3) := by decide +kernel
theorem dX8_init_69 : decode cX8_init 69 = .ok (.dup, 1) := by decide +kernel
theorem dX8_init_70 : decode cX8_init 70 = .ok (.iconst 1, 1) := by decide +kernel
theorem dX8_init_71 : decode cX8_init 71 = .ok (.invokespecial 39, 3) := by decide +kernel
theorem dX8_init_74 : decode cX8_init 74 = .ok (.putfield 46, 3) := by decide +kernel
theorem dX8_init_77 : decode cX8_init 77 = .ok (.return_, 1) := by decide +kernel
theorem dX8_paint_0 : decode cX8_paint 0 = .ok (.iload_n 1, 1) := by decide +kernel
theorem dX8_paint_1 : decode cX8_paint 1 = .ok (.bipush 10, 2) := by decide +kernel
theorem dX8_paint_3 : decode cX8_paint 3 = .ok (.invokestatic 49, 3) := by decide +kernel
theorem dX8_paint_6 : decode cX8_paint 6 = .ok (.ifCond .ne 5, 3) := by decide +kernel
theorem dX8_paint_9 : decode cX8_paint 9 = .ok (.iconst (-1), 1) := by decide +kernel
theorem dX8_paint_10 : decode cX8_paint 10 = .ok (.ireturn, 1) := by decide +kernel
theorem dX8_paint_11 : decode cX8_paint 11 = .ok (.iload_n 2, 1) := by decide +kernel
theorem dX8_paint_12 : decode cX8_paint 12 = .ok (.bipush 8, 2) := by decide +kernel
theorem dX8_paint_14 : decode cX8_paint 14 = .ok (.invokestatic 49, 3) := by decide +kernel
theorem dX8_paint_17 : decode cX8_paint 17 = .ok (.ifCond .eq 22, 3) := by decide +kernel
theorem dX8_paint_20 : decode cX8_paint 20 = .ok (.iload_n 3, 1) := by decide +kernel
theorem dX8_paint_21 : decode cX8_paint 21 = .ok (.bipush 8, 2) := by decide +kernel
theorem dX8_paint_23 : decode cX8_paint 23 = .ok (.invokestatic 49, 3) := by decide +kernel
theorem dX8_paint_26 : decode cX8_paint 26 = .ok (.ifCond .eq 13, 3) := by decide +kernel
theorem dX8_paint_29 : decode cX8_paint 29 = .ok (.iload 4, 2) := by decide +kernel
theorem dX8_paint_31 : decode cX8_paint 31 = .ok (.bipush 10, 2) := by decide +kernel
theorem dX8_paint_33 : decode cX8_paint 33 = .ok (.invokestatic 49, 3) := by decide +kernel
theorem dX8_paint_36 : decode cX8_paint 36 = .ok (.ifCond .ne 6, 3) := by decide +kernel
theorem dX8_paint_39 : decode cX8_paint 39 = .ok (.bipush (-2), 2) := by decide +kernel
theorem dX8_paint_41 : decode cX8_paint 41 = .ok (.ireturn, 1) := by decide +kernel
theorem dX8_paint_42 : decode cX8_paint 42 = .ok (.aload_n 0, 1) := by decide +kernel
theorem dX8_paint_43 : decode cX8_paint 43 = .ok (.invokevirtual 53, 3) := by decide +kernel
theorem dX8_paint_46 : decode cX8_paint 46 = .ok (.aload_n 0, 1) := by decide +kernel
theorem dX8_paint_47 : decode cX8_paint 47 = .ok (.getfield 10, 3) := by decide +kernel
theorem dX8_paint_50 : decode cX8_paint 50 = .ok (.getfield 56, 3) := by decide +kernel
theorem dX8_paint_53 : decode cX8_paint 53 = .ok (.iload_n 1, 1) := by decide +kernel
theorem dX8_paint_54 : decode cX8_paint 54 = .ok (.iload_n 2, 1) := by decide +kernel
theorem dX8_paint_55 : decode cX8_paint 55 = .ok (.iload_n 3, 1) := by decide +kernel
theorem dX8_paint_56 : decode cX8_paint 56 = .ok (.iload 4, 2) := by decide +kernel
theorem dX8_paint_58 : decode cX8_paint 58 = .ok (.invokevirtual 60, 3) := by decide +kernel
theorem dX8_paint_61 : decode cX8_paint 61 = .ok (.aload_n 0, 1) := by decide +kernel
theorem dX8_paint_62 : decode cX8_paint 62 = .ok (.getfield 10, 3) := by decide +kernel
theorem dX8_paint_65 : decode cX8_paint 65 = .ok (.getfield 56, 3) := by decide +kernel
theorem dX8_paint_68 : decode cX8_paint 68 = .ok (.iload_n 2, 1) := by decide +kernel
theorem dX8_paint_69 : decode cX8_paint 69 = .ok (.iload_n 3, 1) := by decide +kernel
theorem dX8_paint_70 : decode cX8_paint 70 = .ok (.invokevirtual 66, 3) := by decide +kernel
theorem dX8_paint_73 : decode cX8_paint 73 = .ok (.ireturn, 1) := by decide +kernel
theorem dX8_setStock_0 : decode cX8_setStock 0 = .ok (.iload_n 1, 1) := by decide +kernel
theorem dX8_setStock_1 : decode cX8_setStock 1 = .ok (.iconst 1, 1) := by decide +kernel
theorem dX8_setStock_2 : decode cX8_setStock 2 = .ok (.if_icmp .lt 8, 3) := by decide +kernel
theorem dX8_setStock_5 : decode cX8_setStock 5 = .ok (.iload_n 1, 1) := by decide +kernel
theorem dX8_setStock_6 : decode cX8_setStock 6 = .ok (.iconst 3, 1) := by decide +kernel
theorem dX8_setStock_7 : decode cX8_setStock 7 = .ok (.if_icmp .le 6, 3) := by decide +kernel
theorem dX8_setStock_10 : decode cX8_setStock 10 = .ok (.bipush (-2), 2) := by decide +kernel
theorem dX8_setStock_12 : decode cX8_setStock 12 = .ok (.ireturn, 1) := by decide +kernel
theorem dX8_setStock_13 : decode cX8_setStock 13 = .ok (.aload_n 0, 1) := by decide +kernel
theorem dX8_setStock_14 : decode cX8_setStock 14 = .ok (.getfield 10, 3) := by decide +kernel
theorem dX8_setStock_17 : decode cX8_setStock 17 = .ok (.getfield 70, 3) := by decide +kernel
theorem dX8_setStock_20 : decode cX8_setStock 20 = .ok (.invokevirtual 74, 3) := by decide +kernel
theorem dX8_setStock_23 : decode cX8_setStock 23 = .ok (.iload_n 1, 1) := by decide +kernel
theorem dX8_setStock_24 : decode cX8_setStock 24 = .ok (.if_icmp .le 6, 3) := by decide +kernel
theorem dX8_setStock_27 : decode cX8_setStock 27 = .ok (.bipush (-3), 2) := by decide +kernel
theorem dX8_setStock_29 : decode cX8_setStock 29 = .ok (.ireturn, 1) := by decide +kernel
theorem dX8_setStock_30 : decode cX8_setStock 30 = .ok (.aload_n 0, 1) := by decide +kernel
theorem dX8_setStock_31 : decode cX8_setStock 31 = .ok (.getfield 26, 3) := by decide +kernel
theorem dX8_setStock_34 : decode cX8_setStock 34 = .ok (.aload_n 0, 1) := by decide +kernel
theorem dX8_setStock_35 : decode cX8_setStock 35 = .ok (.getfield 10, 3) := by decide +kernel
theorem dX8_setStock_38 : decode cX8_setStock 38 = .ok (.invokevirtual 80, 3) := by decide +kernel
theorem dX8_setStock_41 : decode cX8_setStock 41 = .ok (.aload_n 0, 1) := by decide +kernel
theorem dX8_setStock_42 : decode cX8_setStock 42 = .ok (.getfield 10, 3) := by decide +kernel
theorem dX8_setStock_45 : decode cX8_setStock 45 = .ok (.getfield 84, 3) := by decide +kernel
theorem dX8_setStock_48 : decode cX8_setStock 48 = .ok (.istore_n 2, 1) := by decide +kernel
theorem dX8_setStock_49 : decode cX8_setStock 49 = .ok (.aload_n 0, 1) := by decide +kernel
theorem dX8_setStock_50 : decode cX8_setStock 50 = .ok (.getfield 10, 3) := by decide +kernel
theorem dX8_setStock_53 : decode cX8_setStock 53 = .ok (.iload_n 1, 1) := by decide +kernel
theorem dX8_setStock_54 : decode cX8_setStock 54 = .ok (.putfield 84, 3) := by decide +kernel
theorem dX8_setStock_57 : decode cX8_setStock 57 = .ok (.iload_n 2, 1) := by decide +kernel
theorem dX8_setStock_58 : decode cX8_setStock 58 = .ok (.ireturn, 1) := by decide +kernel
theorem dX8_setWind_0 : decode cX8_setWind 0 = .ok (.iload_n 1, 1) := by decide +kernel
theorem dX8_setWind_1 : decode cX8_setWind 1 = .ok (.bipush 10, 2) := by decide +kernel
theorem dX8_setWind_3 : decode cX8_setWind 3 = .ok (.invokestatic 49, 3) := by decide +kernel
theorem dX8_setWind_6 : decode cX8_setWind 6 = .ok (.ifCond .eq 11, 3) := by decide +kernel
theorem dX8_setWind_9 : decode cX8_setWind 9 = .ok (.iload_n 2, 1) := by decide +kernel
theorem dX8_setWind_10 : decode cX8_setWind 10 = .ok (.iconst 2, 1) := by decide +kernel
theorem dX8_setWind_11 : decode cX8_setWind 11 = .ok (.invokestatic 49, 3) := by decide +kernel
theorem dX8_setWind_14 : decode cX8_setWind 14 = .ok (.ifCond .ne 6, 3) := by decide +kernel
theorem dX8_setWind_17 : decode cX8_setWind 17 = .ok (.bipush (-2), 2) := by decide +kernel
theorem dX8_setWind_19 : decode cX8_setWind 19 = .ok (.ireturn, 1) := by decide +kernel
theorem dX8_setWind_20 : decode cX8_setWind 20 = .ok (.aload_n 0, 1) := by decide +kernel
theorem dX8_setWind_21 : decode cX8_setWind 21 = .ok (.invokevirtual 53, 3) := by decide +kernel
theorem dX8_setWind_24 : decode cX8_setWind 24 = .ok (.aload_n 0, 1) := by decide +kernel
theorem dX8_setWind_25 : decode cX8_setWind 25 = .ok (.getfield 10, 3) := by decide +kernel
theorem dX8_setWind_28 : decode cX8_setWind 28 = .ok (.getfield 88, 3) := by decide +kernel
theorem dX8_setWind_31 : decode cX8_setWind 31 = .ok (.istore_n 3, 1) := by decide +kernel
theorem dX8_setWind_32 : decode cX8_setWind 32 = .ok (.aload_n 0, 1) := by decide +kernel
theorem dX8_setWind_33 : decode cX8_setWind 33 = .ok (.getfield 10, 3) := by decide +kernel
theorem dX8_setWind_36 : decode cX8_setWind 36 = .ok (.iload_n 1, 1) := by decide +kernel
theorem dX8_setWind_37 : decode cX8_setWind 37 = .ok (.putfield 88, 3) := by decide +kernel
theorem dX8_setWind_40 : decode cX8_setWind 40 = .ok (.aload_n 0, 1) := by decide +kernel
theorem dX8_setWind_41 : decode cX8_setWind 41 = .ok (.getfield 10, 3) := by decide +kernel
theorem dX8_setWind_44 : decode cX8_setWind 44 = .ok (.iload_n 2, 1) := by decide +kernel
theorem dX8_setWind_45 : decode cX8_setWind 45 = .ok (.putfield 91, 3) := by decide +kernel
theorem dX8_setWind_48 : decode cX8_setWind 48 = .ok (.iload_n 3, 1) := by decide +kernel
theorem dX8_setWind_49 : decode cX8_setWind 49 = .ok (.ireturn, 1) := by decide +kernel
theorem dX8_flag_0 : decode cX8_flag 0 = .ok (.iload_n 1, 1) := by decide +kernel
theorem dX8_flag_1 : decode cX8_flag 1 = .ok (.bipush 10, 2) := by decide +kernel
theorem dX8_flag_3 : decode cX8_flag 3 = .ok (.invokestatic 49, 3) := by decide +kernel
theorem dX8_flag_6 : decode cX8_flag 6 = .ok (.ifCond .ne 5, 3) := by decide +kernel
theorem dX8_flag_9 : decode cX8_flag 9 = .ok (.iconst (-1), 1) := by decide +kernel
theorem dX8_flag_10 : decode cX8_flag 10 = .ok (.ireturn, 1) := by decide +kernel
theorem dX8_flag_11 : decode cX8_flag 11 = .ok (.iload_n 2, 1) := by decide +kernel
theorem dX8_flag_12 : decode cX8_flag 12 = .ok (.tableswitch 125 0 4 #[36, 48, 60, 72, 92], 36) := by decide +kernel
theorem dX8_flag_48 : decode cX8_flag 48 = .ok (.aload_n 0, 1) := by decide +kernel
theorem dX8_flag_49 : decode cX8_flag 49 = .ok (.getfield 10, 3) := by decide +kernel
theorem dX8_flag_52 : decode cX8_flag 52 = .ok (.getfield 56, 3) := by decide +kernel
theorem dX8_flag_55 : decode cX8_flag 55 = .ok (.iload_n 1, 1) := by decide +kernel
theorem dX8_flag_56 : decode cX8_flag 56 = .ok (.invokevirtual 94, 3) := by decide +kernel
theorem dX8_flag_59 : decode cX8_flag 59 = .ok (.ireturn, 1) := by decide +kernel
theorem dX8_flag_60 : decode cX8_flag 60 = .ok (.aload_n 0, 1) := by decide +kernel
theorem dX8_flag_61 : decode cX8_flag 61 = .ok (.getfield 10, 3) := by decide +kernel
theorem dX8_flag_64 : decode cX8_flag 64 = .ok (.getfield 56, 3) := by decide +kernel
theorem dX8_flag_67 : decode cX8_flag 67 = .ok (.iload_n 1, 1) := by decide +kernel
theorem dX8_flag_68 : decode cX8_flag 68 = .ok (.invokevirtual 98, 3) := by decide +kernel
theorem dX8_flag_71 : decode cX8_flag 71 = .ok (.ireturn, 1) := by decide +kernel
theorem dX8_flag_72 : decode cX8_flag 72 = .ok (.aload_n 0, 1) := by decide +kernel
theorem dX8_flag_73 : decode cX8_flag 73 = .ok (.getfield 10, 3) := by decide +kernel
theorem dX8_flag_76 : decode cX8_flag 76 = .ok (.getfield 56, 3) := by decide +kernel
theorem dX8_flag_79 : decode cX8_flag 79 = .ok (.iload_n 1, 1) := by decide +kernel
theorem dX8_flag_80 : decode cX8_flag 80 = .ok (.invokevirtual 101, 3) := by decide +kernel
theorem dX8_flag_83 : decode cX8_flag 83 = .ok (.ireturn, 1) := by decide +kernel
theorem dX8_flag_84 : decode cX8_flag 84 = .ok (.aload_n 0, 1) := by decide +kernel
theorem dX8_flag_85 : decode cX8_flag 85 = .ok (.getfield 10, 3) := by decide +kernel
theorem dX8_flag_88 : decode cX8_flag 88 = .ok (.getfield 84, 3) := by decide +kernel
theorem dX8_flag_91 : decode cX8_flag 91 = .ok (.aload_n 0, 1) := by decide +kernel
theorem dX8_flag_92 : decode cX8_flag 92 = .ok (.getfield 10, 3) := by decide +kernel
theorem dX8_flag_95 : decode cX8_flag 95 = .ok (.getfield 70, 3) := by decide +kernel
theorem dX8_flag_98 : decode cX8_flag 98 = .ok (.iload_n 1, 1) := by decide +kernel
theorem dX8_flag_99 : decode cX8_flag 99 = .ok (.invokevirtual 104, 3) := by decide +kernel
theorem dX8_flag_102 : decode cX8_flag 102 = .ok (.isub, 1) := by decide +kernel
theorem dX8_flag_103 : decode cX8_flag 103 = .ok (.ireturn, 1) := by decide +kernel
theorem dX8_flag_104 : decode cX8_flag 104 = .ok (.aload_n 0, 1) := by decide +kernel
theorem dX8_flag_105 : decode cX8_flag 105 = .ok (.getfield 10, 3) := by decide +kernel
theorem dX8_flag_108 : decode cX8_flag 108 = .ok (.getfield 56, 3) := by decide +kernel
theorem dX8_flag_111 : decode cX8_flag 111 = .ok (.aload_n 0, 1) := by decide +kernel
theorem dX8_flag_112 : decode cX8_flag 112 = .ok (.getfield 10, 3) := by decide +kernel
theorem dX8_flag_115 : decode cX8_flag 115 = .ok (.getfield 56, 3) := by decide +kernel
theorem dX8_flag_118 : decode cX8_flag 118 = .ok (.iload_n 1, 1) := by decide +kernel
theorem dX8_flag_119 : decode cX8_flag 119 = .ok (.invokevirtual 98, 3) := by decide +kernel
theorem dX8_flag_122 : decode cX8_flag 122 = .ok (.aload_n 0, 1) := by decide +kernel
theorem dX8_flag_123 : decode cX8_flag 123 = .ok (.getfield 10, 3) := by decide +kernel
theorem dX8_flag_126 : decode cX8_flag 126 = .ok (.getfield 56, 3) := by decide +kernel
theorem dX8_flag_129 : decode cX8_flag 129 = .ok (.iload_n 1, 1) := by decide +kernel
theorem dX8_flag_130 : decode cX8_flag 130 = .ok (.invokevirtual 94, 3) := by decide +kernel
theorem dX8_flag_133 : decode cX8_flag 133 = .ok (.invokevirtual 107, 3) := by decide +kernel
theorem dX8_flag_136 : decode cX8_flag 136 = .ok (.ireturn, 1) := by decide +kernel
theorem dX8_flag_137 : decode cX8_flag 137 = .ok (.bipush (-2), 2) := by decide +kernel
theorem dX8_flag_139 : decode cX8_flag 139 = .ok (.ireturn, 1) := by decide +kernel
theorem dX8_bend_0 : decode cX8_bend 0 = .ok (.iload_n 1, 1) := by decide +kernel
theorem dX8_bend_1 : decode cX8_bend 1 = .ok (.iconst 5, 1) := by decide +kernel
theorem dX8_bend_2 : decode cX8_bend 2 = .ok (.invokestatic 49, 3) := by decide +kernel
theorem dX8_bend_5 : decode cX8_bend 5 = .ok (.ifCond .eq 10, 3) := by decide +kernel
theorem dX8_bend_8 : decode cX8_bend 8 = .ok (.iload_n 2, 1) := by decide +kernel
theorem dX8_bend_9 : decode cX8_bend 9 = .ok (.invokestatic 110, 3) := by decide +kernel
theorem dX8_bend_12 : decode cX8_bend 12 = .ok (.ifCond .ne 5, 3) := by decide +kernel
theorem dX8_bend_15 : decode cX8_bend 15 = .ok (.iconst (-1), 1) := by decide +kernel
theorem dX8_bend_16 : decode cX8_bend 16 = .ok (.ireturn, 1) := by decide +kernel
theorem dX8_bend_17 : decode cX8_bend 17 = .ok (.aload_n 0, 1) := by decide +kernel
theorem dX8_bend_18 : decode cX8_bend 18 = .ok (.getfield 10, 3) := by decide +kernel
theorem dX8_bend_21 : decode cX8_bend 21 = .ok (.getfield 70, 3) := by decide +kernel
theorem dX8_bend_24 : decode cX8_bend 24 = .ok (.iload_n 1, 1) := by decide +kernel
theorem dX8_bend_25 : decode cX8_bend 25 = .ok (.invokevirtual 114, 3) := by decide +kernel
theorem dX8_bend_28 : decode cX8_bend 28 = .ok (.istore_n 3, 1) := by decide +kernel
theorem dX8_bend_29 : decode cX8_bend 29 = .ok (.iload_n 2, 1) := by decide +kernel
theorem dX8_bend_30 : decode cX8_bend 30 = .ok (.bipush 10, 2) := by decide +kernel
theorem dX8_bend_32 : decode cX8_bend 32 = .ok (.if_icmp .le 14, 3) := by decide +kernel
theorem dX8_bend_35 : decode cX8_bend 35 = .ok (.iload_n 2, 1) := by decide +kernel
theorem dX8_bend_36 : decode cX8_bend 36 = .ok (.bipush 10, 2) := by decide +kernel
theorem dX8_bend_38 : decode cX8_bend 38 = .ok (.isub, 1) := by decide +kernel
theorem dX8_bend_39 : decode cX8_bend 39 = .ok (.iload_n 3, 1) := by decide +kernel
theorem dX8_bend_40 : decode cX8_bend 40 = .ok (.if_icmp .le 6, 3) := by decide +kernel
theorem dX8_bend_43 : decode cX8_bend 43 = .ok (.bipush (-3), 2) := by decide +kernel
theorem dX8_bend_45 : decode cX8_bend 45 = .ok (.ireturn, 1) := by decide +kernel
theorem dX8_bend_46 : decode cX8_bend 46 = .ok (.iload_n 3, 1) := by decide +kernel
theorem dX8_bend_47 : decode cX8_bend 47 = .ok (.iconst 4, 1) := by decide +kernel
theorem dX8_bend_48 : decode cX8_bend 48 = .ok (.if_icmp .ge 24, 3) := by decide +kernel
theorem dX8_bend_51 : decode cX8_bend 51 = .ok (.aload_n 0, 1) := by decide +kernel
theorem dX8_bend_52 : decode cX8_bend 52 = .ok (.getfield 10, 3) := by decide +kernel
theorem dX8_bend_55 : decode cX8_bend 55 = .ok (.getfield 70, 3) := by decide +kernel
theorem dX8_bend_58 : decode cX8_bend 58 = .ok (.iload_n 2, 1) := by decide +kernel
theorem dX8_bend_59 : decode cX8_bend 59 = .ok (.invokevirtual 104, 3) := by decide +kernel
theorem dX8_bend_62 : decode cX8_bend 62 = .ok (.aload_n 0, 1) := by decide +kernel
theorem dX8_bend_63 : decode cX8_bend 63 = .ok (.getfield 10, 3) := by decide +kernel
theorem dX8_bend_66 : decode cX8_bend 66 = .ok (.getfield 84, 3) := by decide +kernel
theorem dX8_bend_69 : decode cX8_bend 69 = .ok (.if_icmp .lt 6, 3) := by decide +kernel
theorem dX8_bend_72 : decode cX8_bend 72 = .ok (.bipush (-4), 2) := by decide +kernel
theorem dX8_bend_74 : decode cX8_bend 74 = .ok (.ireturn, 1) := by decide +kernel
theorem dX8_bend_75 : decode cX8_bend 75 = .ok (.aload_n 0, 1) := by decide +kernel
theorem dX8_bend_76 : decode cX8_bend 76 = .ok (.invokevirtual 53, 3) := by decide +kernel
theorem dX8_bend_79 : decode cX8_bend 79 = .ok (.aload_n 0, 1) := by decide +kernel
theorem dX8_bend_80 : decode cX8_bend 80 = .ok (.getfield 10, 3) := by decide +kernel
theorem dX8_bend_83 : decode cX8_bend 83 = .ok (.getfield 70, 3) := by decide +kernel
theorem dX8_bend_86 : decode cX8_bend 86 = .ok (.iload_n 1, 1) := by decide +kernel
theorem dX8_bend_87 : decode cX8_bend 87 = .ok (.iload_n 2, 1) := by decide +kernel
theorem dX8_bend_88 : decode cX8_bend 88 = .ok (.invokevirtual 117, 3) := by decide +kernel
theorem dX8_bend_91 : decode cX8_bend 91 = .ok (.iload_n 3, 1) := by decide +kernel
theorem dX8_bend_92 : decode cX8_bend 92 = .ok (.iconst 1, 1) := by decide +kernel
theorem dX8_bend_93 : decode cX8_bend 93 = .ok (.iadd, 1) := by decide +kernel
theorem dX8_bend_94 : decode cX8_bend 94 = .ok (.ireturn, 1) := by decide +kernel
theorem dX8_unbend_0 : decode cX8_unbend 0 = .ok (.iload_n 1, 1) := by decide +kernel
theorem dX8_unbend_1 : decode cX8_unbend 1 = .ok (.iconst 5, 1) := by decide +kernel
theorem dX8_unbend_2 : decode cX8_unbend 2 = .ok (.invokestatic 49, 3) := by decide +kernel
theorem dX8_unbend_5 : decode cX8_unbend 5 = .ok (.ifCond .ne 5, 3) := by decide +kernel
theorem dX8_unbend_8 : decode cX8_unbend 8 = .ok (.iconst (-1), 1) := by decide +kernel
theorem dX8_unbend_9 : decode cX8_unbend 9 = .ok (.ireturn, 1) := by decide +kernel
theorem dX8_unbend_10 : decode cX8_unbend 10 = .ok (.aload_n 0, 1) := by decide +kernel
theorem dX8_unbend_11 : decode cX8_unbend 11 = .ok (.getfield 10, 3) := by decide +kernel
theorem dX8_unbend_14 : decode cX8_unbend 14 = .ok (.getfield 70, 3) := by decide +kernel
theorem dX8_unbend_17 : decode cX8_unbend 17 = .ok (.iload_n 1, 1) := by decide +kernel
theorem dX8_unbend_18 : decode cX8_unbend 18 = .ok (.invokevirtual 114, 3) := by decide +kernel
theorem dX8_unbend_21 : decode cX8_unbend 21 = .ok (.ifCond .ne 6, 3) := by decide +kernel
theorem dX8_unbend_24 : decode cX8_unbend 24 = .ok (.bipush (-3), 2) := by decide +kernel
theorem dX8_unbend_26 : decode cX8_unbend 26 = .ok (.ireturn, 1) := by decide +kernel
theorem dX8_unbend_27 : decode cX8_unbend 27 = .ok (.aload_n 0, 1) := by decide +kernel
theorem dX8_unbend_28 : decode cX8_unbend 28 = .ok (.invokevirtual 53, 3) := by decide +kernel
theorem dX8_unbend_31 : decode cX8_unbend 31 = .ok (.aload_n 0, 1) := by decide +kernel
theorem dX8_unbend_32 : decode cX8_unbend 32 = .ok (.getfield 10, 3) := by decide +kernel
theorem dX8_unbend_35 : decode cX8_unbend 35 = .ok (.getfield 70, 3) := by decide +kernel
theorem dX8_unbend_38 : decode cX8_unbend 38 = .ok (.iload_n 1, 1) := by decide +kernel
theorem dX8_unbend_39 : decode cX8_unbend 39 = .ok (.invokevirtual 121, 3) := by decide +kernel
theorem dX8_unbend_42 : decode cX8_unbend 42 = .ok (.ireturn, 1) := by decide +kernel
theorem dX8_exchange_0 : decode cX8_exchange 0 = .ok (.iload_n 1, 1) := by decide +kernel
theorem dX8_exchange_1 : decode cX8_exchange 1 = .ok (.iconst 5, 1) := by decide +kernel
theorem dX8_exchange_2 : decode cX8_exchange 2 = .ok (.invokestatic 49, 3) := by decide +kernel
theorem dX8_exchange_5 : decode cX8_exchange 5 = .ok (.ifCond .eq 11, 3) := by decide +kernel
theorem dX8_exchange_8 : decode cX8_exchange 8 = .ok (.iload_n 2, 1) := by decide +kernel
theorem dX8_exchange_9 : decode cX8_exchange 9 = .ok (.iconst 5, 1) := by decide +kernel
theorem dX8_exchange_10 : decode cX8_exchange 10 = .ok (.invokestatic 49, 3) := by decide +kernel
theorem dX8_exchange_13 : decode cX8_exchange 13 = .ok (.ifCond .ne 5, 3) := by decide +kernel
theorem dX8_exchange_16 : decode cX8_exchange 16 = .ok (.iconst (-1), 1) := by decide +kernel
theorem dX8_exchange_17 : decode cX8_exchange 17 = .ok (.ireturn, 1) := by decide +kernel
theorem dX8_exchange_18 : decode cX8_exchange 18 = .ok (.iload_n 1, 1) := by decide +kernel
theorem dX8_exchange_19 : decode cX8_exchange 19 = .ok (.iload_n 2, 1) := by decide +kernel
theorem dX8_exchange_20 : decode cX8_exchange 20 = .ok (.if_icmp .ne 6, 3) := by decide +kernel
theorem dX8_exchange_23 : decode cX8_exchange 23 = .ok (.bipush (-2), 2) := by decide +kernel
theorem dX8_exchange_25 : decode cX8_exchange 25 = .ok (.ireturn, 1) := by decide +kernel
theorem dX8_exchange_26 : decode cX8_exchange 26 = .ok (.aload_n 0, 1) := by decide +kernel
theorem dX8_exchange_27 : decode cX8_exchange 27 = .ok (.invokevirtual 53, 3) := by decide +kernel
theorem dX8_exchange_30 : decode cX8_exchange 30 = .ok (.aload_n 0, 1) := by decide +kernel
theorem dX8_exchange_31 : decode cX8_exchange 31 = .ok (.getfield 10, 3) := by decide +kernel
theorem dX8_exchange_34 : decode cX8_exchange 34 = .ok (.getfield 70, 3) := by decide +kernel
theorem dX8_exchange_37 : decode cX8_exchange 37 = .ok (.iload_n 1, 1) := by decide +kernel
theorem dX8_exchange_38 : decode cX8_exchange 38 = .ok (.iload_n 2, 1) := by decide +kernel
theorem dX8_exchange_39 : decode cX8_exchange 39 = .ok (.invokevirtual 124, 3) := by decide +kernel
theorem dX8_exchange_42 : decode cX8_exchange 42 = .ok (.aload_n 0, 1) := by decide +kernel
theorem dX8_exchange_43 : decode cX8_exchange 43 = .ok (.getfield 10, 3) := by decide +kernel
theorem dX8_exchange_46 : decode cX8_exchange 46 = .ok (.getfield 70, 3) := by decide +kernel
theorem dX8_exchange_49 : decode cX8_exchange 49 = .ok (.iload_n 1, 1) := by decide +kernel
theorem dX8_exchange_50 : decode cX8_exchange 50 = .ok (.invokevirtual 114, 3) := by decide +kernel
theorem dX8_exchange_53 : decode cX8_exchange 53 = .ok (.aload_n 0, 1) := by decide +kernel
theorem dX8_exchange_54 : decode cX8_exchange 54 = .ok (.getfield 10, 3) := by decide +kernel
theorem dX8_exchange_57 : decode cX8_exchange 57 = .ok (.getfield 70, 3) := by decide +kernel
theorem dX8_exchange_60 : decode cX8_exchange 60 = .ok (.iload_n 2, 1) := by decide +kernel
theorem dX8_exchange_61 : decode cX8_exchange 61 = .ok (.invokevirtual 114, 3) := by decide +kernel
theorem dX8_exchange_64 : decode cX8_exchange 64 = .ok (.iadd, 1) := by decide +kernel
theorem dX8_exchange_65 : decode cX8_exchange 65 = .ok (.ireturn, 1) := by decide +kernel
theorem dX8_lower_0 : decode cX8_lower 0 = .ok (.aload_n 0, 1) := by decide +kernel
theorem dX8_lower_1 : decode cX8_lower 1 = .ok (.getfield 10, 3) := by decide +kernel
theorem dX8_lower_4 : decode cX8_lower 4 = .ok (.getfield 127, 3) := by decide +kernel
theorem dX8_lower_7 : decode cX8_lower 7 = .ok (.iconst 2, 1) := by decide +kernel
theorem dX8_lower_8 : decode cX8_lower 8 = .ok (.if_icmp .ne 7, 3) := by decide +kernel
theorem dX8_lower_11 : decode cX8_lower 11 = .ok (.iconst 1, 1) := by decide +kernel
theorem dX8_lower_12 : decode cX8_lower 12 = .ok (.goto 4, 3) := by decide +kernel
theorem dX8_lower_15 : decode cX8_lower 15 = .ok (.iconst 0, 1) := by decide +kernel
theorem dX8_lower_16 : decode cX8_lower 16 = .ok (.istore_n 1, 1) := by decide +kernel
theorem dX8_lower_17 : decode cX8_lower 17 = .ok (.aload_n 0, 1) := by decide +kernel
theorem dX8_lower_18 : decode cX8_lower 18 = .ok (.invokevirtual 53, 3) := by decide +kernel
theorem dX8_lower_21 : decode cX8_lower 21 = .ok (.iconst 0, 1) := by decide +kernel
theorem dX8_lower_22 : decode cX8_lower 22 = .ok (.istore_n 2, 1) := by decide +kernel
theorem dX8_lower_23 : decode cX8_lower 23 = .ok (.iload_n 1, 1) := by decide +kernel
theorem dX8_lower_24 : decode cX8_lower 24 = .ok (.ifCond .eq 35, 3) := by decide +kernel
theorem dX8_lower_27 : decode cX8_lower 27 = .ok (.aload_n 0, 1) := by decide +kernel
theorem dX8_lower_28 : decode cX8_lower 28 = .ok (.aload_n 0, 1) := by decide +kernel
theorem dX8_lower_29 : decode cX8_lower 29 = .ok (.getfield 10, 3) := by decide +kernel
theorem dX8_lower_32 : decode cX8_lower 32 = .ok (.getfield 130, 3) := by decide +kernel
theorem dX8_lower_35 : decode cX8_lower 35 = .ok (.invokevirtual 133, 3) := by decide +kernel
theorem dX8_lower_38 : decode cX8_lower 38 = .ok (.astore_n 3, 1) := by decide +kernel
theorem dX8_lower_39 : decode cX8_lower 39 = .ok (.aload_n 3, 1) := by decide +kernel
theorem dX8_lower_40 : decode cX8_lower 40 = .ok (.invokevirtual 137, 3) := by decide +kernel
theorem dX8_lower_43 : decode cX8_lower 43 = .ok (.istore_n 2, 1) := by decide +kernel
theorem dX8_lower_44 : decode cX8_lower 44 = .ok (.aload_n 0, 1) := by decide +kernel
theorem dX8_lower_45 : decode cX8_lower 45 = .ok (.getfield 10, 3) := by decide +kernel
theorem dX8_lower_48 : decode cX8_lower 48 = .ok (.getfield 140, 3) := by decide +kernel
theorem dX8_lower_51 : decode cX8_lower 51 = .ok (.aload_n 3, 1) := by decide +kernel
theorem dX8_lower_52 : decode cX8_lower 52 = .ok (.getfield 144, 3) := by decide +kernel
theorem dX8_lower_55 : decode cX8_lower 55 = .ok (.iload_n 2, 1) := by decide +kernel
theorem dX8_lower_56 : decode cX8_lower 56 = .ok (.invokevirtual 148, 3) := by decide +kernel
theorem dX8_lower_59 : decode cX8_lower 59 = .ok (.aload_n 0, 1) := by decide +kernel
theorem dX8_lower_60 : decode cX8_lower 60 = .ok (.getfield 10, 3) := by decide +kernel
theorem dX8_lower_63 : decode cX8_lower 63 = .ok (.getfield 70, 3) := by decide +kernel
theorem dX8_lower_66 : decode cX8_lower 66 = .ok (.invokevirtual 153, 3) := by decide +kernel
theorem dX8_lower_69 : decode cX8_lower 69 = .ok (.iload_n 2, 1) := by decide +kernel
theorem dX8_lower_70 : decode cX8_lower 70 = .ok (.ireturn, 1) := by decide +kernel
theorem dX8_sign_0 : decode cX8_sign 0 = .ok (.aload_n 0, 1) := by decide +kernel
theorem dX8_sign_1 : decode cX8_sign 1 = .ok (.getfield 10, 3) := by decide +kernel
theorem dX8_sign_4 : decode cX8_sign 4 = .ok (.getfield 70, 3) := by decide +kernel
theorem dX8_sign_7 : decode cX8_sign 7 = .ok (.iload_n 1, 1) := by decide +kernel
theorem dX8_sign_8 : decode cX8_sign 8 = .ok (.iload_n 2, 1) := by decide +kernel
theorem dX8_sign_9 : decode cX8_sign 9 = .ok (.invokevirtual 156, 3) := by decide +kernel
theorem dX8_sign_12 : decode cX8_sign 12 = .ok (.ifCond .ne 5, 3) := by decide +kernel
theorem dX8_sign_15 : decode cX8_sign 15 = .ok (.iconst (-1), 1) := by decide +kernel
theorem dX8_sign_16 : decode cX8_sign 16 = .ok (.ireturn, 1) := by decide +kernel
theorem dX8_sign_17 : decode cX8_sign 17 = .ok (.iload_n 3, 1) := by decide +kernel
theorem dX8_sign_18 : decode cX8_sign 18 = .ok (.tableswitch 90 0 2 #[26, 39, 52], 26) := by decide +kernel
theorem dX8_sign_44 : decode cX8_sign 44 = .ok (.aload_n 0, 1) := by decide +kernel
theorem dX8_sign_45 : decode cX8_sign 45 = .ok (.getfield 10, 3) := by decide +kernel
theorem dX8_sign_48 : decode cX8_sign 48 = .ok (.getfield 70, 3) := by decide +kernel
theorem dX8_sign_51 : decode cX8_sign 51 = .ok (.iload_n 1, 1) := by decide +kernel
theorem dX8_sign_52 : decode cX8_sign 52 = .ok (.iload_n 2, 1) := by decide +kernel
theorem dX8_sign_53 : decode cX8_sign 53 = .ok (.invokevirtual 159, 3) := by decide +kernel
theorem dX8_sign_56 : decode cX8_sign 56 = .ok (.ireturn, 1) := by decide +kernel
theorem dX8_sign_57 : decode cX8_sign 57 = .ok (.aload_n 0, 1) := by decide +kernel
theorem dX8_sign_58 : decode cX8_sign 58 = .ok (.getfield 10, 3) := by decide +kernel
theorem dX8_sign_61 : decode cX8_sign 61 = .ok (.getfield 70, 3) := by decide +kernel
theorem dX8_sign_64 : decode cX8_sign 64 = .ok (.iload_n 1, 1) := by decide +kernel
theorem dX8_sign_65 : decode cX8_sign 65 = .ok (.iload_n 2, 1) := by decide +kernel
theorem dX8_sign_66 : decode cX8_sign 66 = .ok (.invokevirtual 162, 3) := by decide +kernel
theorem dX8_sign_69 : decode cX8_sign 69 = .ok (.ireturn, 1) := by decide +kernel
theorem dX8_sign_70 : decode cX8_sign 70 = .ok (.aload_n 0, 1) := by decide +kernel
theorem dX8_sign_71 : decode cX8_sign 71 = .ok (.getfield 10, 3) := by decide +kernel
theorem dX8_sign_74 : decode cX8_sign 74 = .ok (.getfield 56, 3) := by decide +kernel
theorem dX8_sign_77 : decode cX8_sign 77 = .ok (.aload_n 0, 1) := by decide +kernel
theorem dX8_sign_78 : decode cX8_sign 78 = .ok (.getfield 10, 3) := by decide +kernel
theorem dX8_sign_81 : decode cX8_sign 81 = .ok (.getfield 70, 3) := by decide +kernel
theorem dX8_sign_84 : decode cX8_sign 84 = .ok (.iload_n 1, 1) := by decide +kernel
theorem dX8_sign_85 : decode cX8_sign 85 = .ok (.iload_n 2, 1) := by decide +kernel
theorem dX8_sign_86 : decode cX8_sign 86 = .ok (.invokevirtual 162, 3) := by decide +kernel
theorem dX8_sign_89 : decode cX8_sign 89 = .ok (.invokevirtual 101, 3) := by decide +kernel
theorem dX8_sign_92 : decode cX8_sign 92 = .ok (.aload_n 0, 1) := by decide +kernel
theorem dX8_sign_93 : decode cX8_sign 93 = .ok (.getfield 10, 3) := by decide +kernel
theorem dX8_sign_96 : decode cX8_sign 96 = .ok (.getfield 88, 3) := by decide +kernel
theorem dX8_sign_99 : decode cX8_sign 99 = .ok (.if_icmp .le 7, 3) := by decide +kernel
theorem dX8_sign_102 : decode cX8_sign 102 = .ok (.iconst 1, 1) := by decide +kernel
theorem dX8_sign_103 : decode cX8_sign 103 = .ok (.goto 4, 3) := by decide +kernel
theorem dX8_sign_106 : decode cX8_sign 106 = .ok (.iconst 0, 1) := by decide +kernel
theorem dX8_sign_107 : decode cX8_sign 107 = .ok (.ireturn, 1) := by decide +kernel
theorem dX8_sign_108 : decode cX8_sign 108 = .ok (.bipush (-2), 2) := by decide +kernel
theorem dX8_sign_110 : decode cX8_sign 110 = .ok (.ireturn, 1) := by decide +kernel
theorem dX8_enter_0 : decode cX8_enter 0 = .ok (.iload_n 1, 1) := by decide +kernel
theorem dX8_enter_1 : decode cX8_enter 1 = .ok (.invokestatic 165, 3) := by decide +kernel
theorem dX8_enter_4 : decode cX8_enter 4 = .ok (.ifCond .eq 12, 3) := by decide +kernel
theorem dX8_enter_7 : decode cX8_enter 7 = .ok (.iload_n 2, 1) := by decide +kernel
theorem dX8_enter_8 : decode cX8_enter 8 = .ok (.bipush 100, 2) := by decide +kernel
theorem dX8_enter_10 : decode cX8_enter 10 = .ok (.invokestatic 49, 3) := by decide +kernel
theorem dX8_enter_13 : decode cX8_enter 13 = .ok (.ifCond .ne 6, 3) := by decide +kernel
theorem dX8_enter_16 : decode cX8_enter 16 = .ok (.bipush (-2), 2) := by decide +kernel
theorem dX8_enter_18 : decode cX8_enter 18 = .ok (.ireturn, 1) := by decide +kernel
theorem dX8_enter_19 : decode cX8_enter 19 = .ok (.aload_n 0, 1) := by decide +kernel
theorem dX8_enter_20 : decode cX8_enter 20 = .ok (.getfield 10, 3) := by decide +kernel
theorem dX8_enter_23 : decode cX8_enter 23 = .ok (.getfield 168, 3) := by decide +kernel
theorem dX8_enter_26 : decode cX8_enter 26 = .ok (.invokevirtual 172, 3) := by decide +kernel
theorem dX8_enter_29 : decode cX8_enter 29 = .ok (.bipush 12, 2) := by decide +kernel
theorem dX8_enter_31 : decode cX8_enter 31 = .ok (.if_icmp .lt 6, 3) := by decide +kernel
theorem dX8_enter_34 : decode cX8_enter 34 = .ok (.bipush (-4), 2) := by decide +kernel
theorem dX8_enter_36 : decode cX8_enter 36 = .ok (.ireturn, 1) := by decide +kernel
theorem dX8_enter_37 : decode cX8_enter 37 = .ok (.aload_n 0, 1) := by decide +kernel
theorem dX8_enter_38 : decode cX8_enter 38 = .ok (.invokevirtual 53, 3) := by decide +kernel
theorem dX8_enter_41 : decode cX8_enter 41 = .ok (.aload_n 0, 1) := by decide +kernel
theorem dX8_enter_42 : decode cX8_enter 42 = .ok (.getfield 10, 3) := by decide +kernel
theorem dX8_enter_45 : decode cX8_enter 45 = .ok (.getfield 168, 3) := by decide +kernel
theorem dX8_enter_48 : decode cX8_enter 48 = .ok (.iload_n 1, 1) := by decide +kernel
theorem dX8_enter_49 : decode cX8_enter 49 = .ok (.iload_n 2, 1) := by decide +kernel
theorem dX8_enter_50 : decode cX8_enter 50 = .ok (.invokevirtual 175, 3) := by decide +kernel
theorem dX8_enter_53 : decode cX8_enter 53 = .ok (.aload_n 0, 1) := by decide +kernel
theorem dX8_enter_54 : decode cX8_enter 54 = .ok (.getfield 10, 3) := by decide +kernel
theorem dX8_enter_57 : decode cX8_enter 57 = .ok (.getfield 168, 3) := by decide +kernel
theorem dX8_enter_60 : decode cX8_enter 60 = .ok (.invokevirtual 172, 3) := by decide +kernel
theorem dX8_enter_63 : decode cX8_enter 63 = .ok (.ireturn, 1) := by decide +kernel
theorem dX8_strike_0 : decode cX8_strike 0 = .ok (.iload_n 1, 1) := by decide +kernel
theorem dX8_strike_1 : decode cX8_strike 1 = .ok (.aload_n 0, 1) := by decide +kernel
theorem dX8_strike_2 : decode cX8_strike 2 = .ok (.getfield 10, 3) := by decide +kernel
theorem dX8_strike_5 : decode cX8_strike 5 = .ok (.getfield 168, 3) := by decide +kernel
theorem dX8_strike_8 : decode cX8_strike 8 = .ok (.invokevirtual 172, 3) := by decide +kernel
theorem dX8_strike_11 : decode cX8_strike 11 = .ok (.invokestatic 49, 3) := by decide +kernel
theorem dX8_strike_14 : decode cX8_strike 14 = .ok (.ifCond .ne 5, 3) := by decide +kernel
theorem dX8_strike_17 : decode cX8_strike 17 = .ok (.iconst (-1), 1) := by decide +kernel
theorem dX8_strike_18 : decode cX8_strike 18 = .ok (.ireturn, 1) := by decide +kernel
theorem dX8_strike_19 : decode cX8_strike 19 = .ok (.aload_n 0, 1) := by decide +kernel
theorem dX8_strike_20 : decode cX8_strike 20 = .ok (.invokevirtual 53, 3) := by decide +kernel
theorem dX8_strike_23 : decode cX8_strike 23 = .ok (.aload_n 0, 1) := by decide +kernel
theorem dX8_strike_24 : decode cX8_strike 24 = .ok (.getfield 10, 3) := by decide +kernel
theorem dX8_strike_27 : decode cX8_strike 27 = .ok (.getfield 168, 3) := by decide +kernel
theorem dX8_strike_30 : decode cX8_strike 30 = .ok (.iload_n 1, 1) := by decide +kernel
theorem dX8_strike_31 : decode cX8_strike 31 = .ok (.invokevirtual 176, 3) := by decide +kernel
theorem dX8_strike_34 : decode cX8_strike 34 = .ok (.ireturn, 1) := by decide +kernel
theorem dX8_entry_0 : decode cX8_entry 0 = .ok (.iload_n 1, 1) := by decide +kernel
theorem dX8_entry_1 : decode cX8_entry 1 = .ok (.aload_n 0, 1) := by decide +kernel
theorem dX8_entry_2 : decode cX8_entry 2 = .ok (.getfield 10, 3) := by decide +kernel
theorem dX8_entry_5 : decode cX8_entry 5 = .ok (.getfield 168, 3) := by decide +kernel
theorem dX8_entry_8 : decode cX8_entry 8 = .ok (.invokevirtual 172, 3) := by decide +kernel
theorem dX8_entry_11 : decode cX8_entry 11 = .ok (.invokestatic 49, 3) := by decide +kernel
theorem dX8_entry_14 : decode cX8_entry 14 = .ok (.ifCond .ne 5, 3) := by decide +kernel
theorem dX8_entry_17 : decode cX8_entry 17 = .ok (.iconst (-1), 1) := by decide +kernel
theorem dX8_entry_18 : decode cX8_entry 18 = .ok (.ireturn, 1) := by decide +kernel
theorem dX8_entry_19 : decode cX8_entry 19 = .ok (.iload_n 2, 1) := by decide +kernel
theorem dX8_entry_20 : decode cX8_entry 20 = .ok (.lookupswitch 52 #[(0, 28), (1, 40)], 28) := by decide +kernel
theorem dX8_entry_48 : decode cX8_entry 48 = .ok (.aload_n 0, 1) := by decide +kernel
theorem dX8_entry_49 : decode cX8_entry 49 = .ok (.getfield 10, 3) := by decide +kernel
theorem dX8_entry_52 : decode cX8_entry 52 = .ok (.getfield 168, 3) := by decide +kernel
theorem dX8_entry_55 : decode cX8_entry 55 = .ok (.iload_n 1, 1) := by decide +kernel
theorem dX8_entry_56 : decode cX8_entry 56 = .ok (.invokevirtual 179, 3) := by decide +kernel
theorem dX8_entry_59 : decode cX8_entry 59 = .ok (.ireturn, 1) := by decide +kernel
theorem dX8_entry_60 : decode cX8_entry 60 = .ok (.aload_n 0, 1) := by decide +kernel
theorem dX8_entry_61 : decode cX8_entry 61 = .ok (.getfield 10, 3) := by decide +kernel
theorem dX8_entry_64 : decode cX8_entry 64 = .ok (.getfield 168, 3) := by decide +kernel
theorem dX8_entry_67 : decode cX8_entry 67 = .ok (.iload_n 1, 1) := by decide +kernel
theorem dX8_entry_68 : decode cX8_entry 68 = .ok (.invokevirtual 182, 3) := by decide +kernel
theorem dX8_entry_71 : decode cX8_entry 71 = .ok (.ireturn, 1) := by decide +kernel
theorem dX8_entry_72 : decode cX8_entry 72 = .ok (.bipush (-2), 2) := by decide +kernel
theorem dX8_entry_74 : decode cX8_entry 74 = .ok (.ireturn, 1) := by decide +kernel
theorem dX8_seen_0 : decode cX8_seen 0 = .ok (.iload_n 1, 1) := by decide +kernel
theorem dX8_seen_1 : decode cX8_seen 1 = .ok (.iconst 2, 1) := by decide +kernel
theorem dX8_seen_2 : decode cX8_seen 2 = .ok (.invokestatic 49, 3) := by decide +kernel
theorem dX8_seen_5 : decode cX8_seen 5 = .ok (.ifCond .ne 6, 3) := by decide +kernel
theorem dX8_seen_8 : decode cX8_seen 8 = .ok (.bipush (-2), 2) := by decide +kernel
theorem dX8_seen_10 : decode cX8_seen 10 = .ok (.ireturn, 1) := by decide +kernel
theorem dX8_seen_11 : decode cX8_seen 11 = .ok (.aload_n 0, 1) := by decide +kernel
theorem dX8_seen_12 : decode cX8_seen 12 = .ok (.getfield 10, 3) := by decide +kernel
theorem dX8_seen_15 : decode cX8_seen 15 = .ok (.getfield 70, 3) := by decide +kernel
theorem dX8_seen_18 : decode cX8_seen 18 = .ok (.iload_n 2, 1) := by decide +kernel
theorem dX8_seen_19 : decode cX8_seen 19 = .ok (.iload_n 3, 1) := by decide +kernel
theorem dX8_seen_20 : decode cX8_seen 20 = .ok (.invokevirtual 156, 3) := by decide +kernel
theorem dX8_seen_23 : decode cX8_seen 23 = .ok (.ifCond .ne 5, 3) := by decide +kernel
theorem dX8_seen_26 : decode cX8_seen 26 = .ok (.iconst (-1), 1) := by decide +kernel
theorem dX8_seen_27 : decode cX8_seen 27 = .ok (.ireturn, 1) := by decide +kernel
theorem dX8_seen_28 : decode cX8_seen 28 = .ok (.aload_n 0, 1) := by decide +kernel
theorem dX8_seen_29 : decode cX8_seen 29 = .ok (.getfield 10, 3) := by decide +kernel
theorem dX8_seen_32 : decode cX8_seen 32 = .ok (.getfield 70, 3) := by decide +kernel
theorem dX8_seen_35 : decode cX8_seen 35 = .ok (.iload_n 2, 1) := by decide +kernel
theorem dX8_seen_36 : decode cX8_seen 36 = .ok (.iload_n 3, 1) := by decide +kernel
theorem dX8_seen_37 : decode cX8_seen 37 = .ok (.invokevirtual 162, 3) := by decide +kernel
theorem dX8_seen_40 : decode cX8_seen 40 = .ok (.istore 4, 2) := by decide +kernel
theorem dX8_seen_42 : decode cX8_seen 42 = .ok (.aload_n 0, 1) := by decide +kernel
theorem dX8_seen_43 : decode cX8_seen 43 = .ok (.getfield 10, 3) := by decide +kernel
theorem dX8_seen_46 : decode cX8_seen 46 = .ok (.getfield 56, 3) := by decide +kernel
theorem dX8_seen_49 : decode cX8_seen 49 = .ok (.iload 4, 2) := by decide +kernel
theorem dX8_seen_51 : decode cX8_seen 51 = .ok (.iload_n 1, 1) := by decide +kernel
theorem dX8_seen_52 : decode cX8_seen 52 = .ok (.aload_n 0, 1) := by decide +kernel
theorem dX8_seen_53 : decode cX8_seen 53 = .ok (.getfield 10, 3) := by decide +kernel
theorem dX8_seen_56 : decode cX8_seen 56 = .ok (.getfield 91, 3) := by decide +kernel
theorem dX8_seen_59 : decode cX8_seen 59 = .ok (.invokestatic 185, 3) := by decide +kernel
theorem dX8_seen_62 : decode cX8_seen 62 = .ok (.aload_n 0, 1) := by decide +kernel
theorem dX8_seen_63 : decode cX8_seen 63 = .ok (.getfield 10, 3) := by decide +kernel
theorem dX8_seen_66 : decode cX8_seen 66 = .ok (.getfield 88, 3) := by decide +kernel
theorem dX8_seen_69 : decode cX8_seen 69 = .ok (.invokevirtual 188, 3) := by decide +kernel
theorem dX8_seen_72 : decode cX8_seen 72 = .ok (.ireturn, 1) := by decide +kernel
theorem dX8_word_0 : decode cX8_word 0 = .ok (.iload_n 1, 1) := by decide +kernel
theorem dX8_word_1 : decode cX8_word 1 = .ok (.iconst 2, 1) := by decide +kernel
theorem dX8_word_2 : decode cX8_word 2 = .ok (.invokestatic 49, 3) := by decide +kernel
theorem dX8_word_5 : decode cX8_word 5 = .ok (.ifCond .ne 6, 3) := by decide +kernel
theorem dX8_word_8 : decode cX8_word 8 = .ok (.bipush (-2), 2) := by decide +kernel
theorem dX8_word_10 : decode cX8_word 10 = .ok (.ireturn, 1) := by decide +kernel
theorem dX8_word_11 : decode cX8_word 11 = .ok (.aload_n 0, 1) := by decide +kernel
theorem dX8_word_12 : decode cX8_word 12 = .ok (.iload_n 1, 1) := by decide +kernel
theorem dX8_word_13 : decode cX8_word 13 = .ok (.invokevirtual 133, 3) := by decide +kernel
theorem dX8_word_16 : decode cX8_word 16 = .ok (.astore_n 3, 1) := by decide +kernel
theorem dX8_word_17 : decode cX8_word 17 = .ok (.iload_n 2, 1) := by decide +kernel
theorem dX8_word_18 : decode cX8_word 18 = .ok (.aload_n 3, 1) := by decide +kernel
theorem dX8_word_19 : decode cX8_word 19 = .ok (.invokevirtual 137, 3) := by decide +kernel
theorem dX8_word_22 : decode cX8_word 22 = .ok (.invokestatic 49, 3) := by decide +kernel
theorem dX8_word_25 : decode cX8_word 25 = .ok (.ifCond .eq 11, 3) := by decide +kernel
theorem dX8_word_28 : decode cX8_word 28 = .ok (.aload_n 3, 1) := by decide +kernel
theorem dX8_word_29 : decode cX8_word 29 = .ok (.iload_n 2, 1) := by decide +kernel
theorem dX8_word_30 : decode cX8_word 30 = .ok (.invokevirtual 192, 3) := by decide +kernel
theorem dX8_word_33 : decode cX8_word 33 = .ok (.goto 4, 3) := by decide +kernel
theorem dX8_word_36 : decode cX8_word 36 = .ok (.iconst (-1), 1) := by decide +kernel
theorem dX8_word_37 : decode cX8_word 37 = .ok (.ireturn, 1) := by decide +kernel
theorem dX8_known_0 : decode cX8_known 0 = .ok (.iload_n 1, 1) := by decide +kernel
theorem dX8_known_1 : decode cX8_known 1 = .ok (.iconst 2, 1) := by decide +kernel
theorem dX8_known_2 : decode cX8_known 2 = .ok (.invokestatic 49, 3) := by decide +kernel
theorem dX8_known_5 : decode cX8_known 5 = .ok (.ifCond .ne 6, 3) := by decide +kernel
theorem dX8_known_8 : decode cX8_known 8 = .ok (.bipush (-2), 2) := by decide +kernel
theorem dX8_known_10 : decode cX8_known 10 = .ok (.ireturn, 1) := by decide +kernel
theorem dX8_known_11 : decode cX8_known 11 = .ok (.aload_n 0, 1) := by decide +kernel
theorem dX8_known_12 : decode cX8_known 12 = .ok (.iload_n 1, 1) := by decide +kernel
theorem dX8_known_13 : decode cX8_known 13 = .ok (.invokevirtual 133, 3) := by decide +kernel
theorem dX8_known_16 : decode cX8_known 16 = .ok (.invokevirtual 193, 3) := by decide +kernel
theorem dX8_known_19 : decode cX8_known 19 = .ok (.ireturn, 1) := by decide +kernel
theorem dX8_isSame_0 : decode cX8_isSame 0 = .ok (.aload_n 0, 1) := by decide +kernel
theorem dX8_isSame_1 : decode cX8_isSame 1 = .ok (.iconst 0, 1) := by decide +kernel
theorem dX8_isSame_2 : decode cX8_isSame 2 = .ok (.invokevirtual 133, 3) := by decide +kernel
theorem dX8_isSame_5 : decode cX8_isSame 5 = .ok (.aload_n 0, 1) := by decide +kernel
theorem dX8_isSame_6 : decode cX8_isSame 6 = .ok (.iconst 1, 1) := by decide +kernel
theorem dX8_isSame_7 : decode cX8_isSame 7 = .ok (.invokevirtual 133, 3) := by decide +kernel
theorem dX8_isSame_10 : decode cX8_isSame 10 = .ok (.invokevirtual 196, 3) := by decide +kernel
theorem dX8_isSame_13 : decode cX8_isSame 13 = .ok (.ifCond .eq 7, 3) := by decide +kernel
theorem dX8_isSame_16 : decode cX8_isSame 16 = .ok (.iconst 1, 1) := by decide +kernel
theorem dX8_isSame_17 : decode cX8_isSame 17 = .ok (.goto 4, 3) := by decide +kernel
theorem dX8_isSame_20 : decode cX8_isSame 20 = .ok (.iconst 0, 1) := by decide +kernel
theorem dX8_isSame_21 : decode cX8_isSame 21 = .ok (.ireturn, 1) := by decide +kernel
theorem dX8_sail_0 : decode cX8_sail 0 = .ok (.iload_n 1, 1) := by decide +kernel
theorem dX8_sail_1 : decode cX8_sail 1 = .ok (.iconst 2, 1) := by decide +kernel
theorem dX8_sail_2 : decode cX8_sail 2 = .ok (.invokestatic 49, 3) := by decide +kernel
theorem dX8_sail_5 : decode cX8_sail 5 = .ok (.ifCond .ne 6, 3) := by decide +kernel
theorem dX8_sail_8 : decode cX8_sail 8 = .ok (.bipush (-2), 2) := by decide +kernel
theorem dX8_sail_10 : decode cX8_sail 10 = .ok (.ireturn, 1) := by decide +kernel
theorem dX8_sail_11 : decode cX8_sail 11 = .ok (.aload_n 0, 1) := by decide +kernel
theorem dX8_sail_12 : decode cX8_sail 12 = .ok (.invokevirtual 53, 3) := by decide +kernel
theorem dX8_sail_15 : decode cX8_sail 15 = .ok (.aload_n 0, 1) := by decide +kernel
theorem dX8_sail_16 : decode cX8_sail 16 = .ok (.getfield 10, 3) := by decide +kernel
theorem dX8_sail_19 : decode cX8_sail 19 = .ok (.getfield 130, 3) := by decide +kernel
theorem dX8_sail_22 : decode cX8_sail 22 = .ok (.istore_n 2, 1) := by decide +kernel
theorem dX8_sail_23 : decode cX8_sail 23 = .ok (.aload_n 0, 1) := by decide +kernel
theorem dX8_sail_24 : decode cX8_sail 24 = .ok (.getfield 10, 3) := by decide +kernel
theorem dX8_sail_27 : decode cX8_sail 27 = .ok (.iload_n 1, 1) := by decide +kernel
theorem dX8_sail_28 : decode cX8_sail 28 = .ok (.putfield 130, 3) := by decide +kernel
theorem dX8_sail_31 : decode cX8_sail 31 = .ok (.iload_n 2, 1) := by decide +kernel
theorem dX8_sail_32 : decode cX8_sail 32 = .ok (.ireturn, 1) := by decide +kernel
theorem dX8_answer_0 : decode cX8_answer 0 = .ok (.aload_n 0, 1) := by decide +kernel
theorem dX8_answer_1 : decode cX8_answer 1 = .ok (.getfield 10, 3) := by decide +kernel
theorem dX8_answer_4 : decode cX8_answer 4 = .ok (.getfield 70, 3) := by decide +kernel
theorem dX8_answer_7 : decode cX8_answer 7 = .ok (.invokevirtual 200, 3) := by decide +kernel
theorem dX8_answer_10 : decode cX8_answer 10 = .ok (.ifCond .eq 14, 3) := by decide +kernel
theorem dX8_answer_13 : decode cX8_answer 13 = .ok (.aload_n 0, 1) := by decide +kernel
theorem dX8_answer_14 : decode cX8_answer 14 = .ok (.getfield 10, 3) := by decide +kernel
theorem dX8_answer_17 : decode cX8_answer 17 = .ok (.getfield 127, 3) := by decide +kernel
theorem dX8_answer_20 : decode cX8_answer 20 = .ok (.iconst 2, 1) := by decide +kernel
theorem dX8_answer_21 : decode cX8_answer 21 = .ok (.if_icmp .ne 6, 3) := by decide +kernel
theorem dX8_answer_24 : decode cX8_answer 24 = .ok (.bipush (-3), 2) := by decide +kernel
theorem dX8_answer_26 : decode cX8_answer 26 = .ok (.ireturn, 1) := by decide +kernel
theorem dX8_answer_27 : decode cX8_answer 27 = .ok (.aload_n 0, 1) := by decide +kernel
theorem dX8_answer_28 : decode cX8_answer 28 = .ok (.getfield 10, 3) := by decide +kernel
theorem dX8_answer_31 : decode cX8_answer 31 = .ok (.getfield 127, 3) := by decide +kernel
theorem dX8_answer_34 : decode cX8_answer 34 = .ok (.iconst 1, 1) := by decide +kernel
theorem dX8_answer_35 : decode cX8_answer 35 = .ok (.if_icmp .ne 23, 3) := by decide +kernel
theorem dX8_answer_38 : decode cX8_answer 38 = .ok (.aload_n 0, 1) := by decide +kernel
theorem dX8_answer_39 : decode cX8_answer 39 = .ok (.aload_n 0, 1) := by decide +kernel
theorem dX8_answer_40 : decode cX8_answer 40 = .ok (.getfield 10, 3) := by decide +kernel
theorem dX8_answer_43 : decode cX8_answer 43 = .ok (.getfield 130, 3) := by decide +kernel
theorem dX8_answer_46 : decode cX8_answer 46 = .ok (.invokevirtual 133, 3) := by decide +kernel
theorem dX8_answer_49 : decode cX8_answer 49 = .ok (.invokevirtual 203, 3) := by decide +kernel
theorem dX8_answer_52 : decode cX8_answer 52 = .ok (.ifCond .ne 6, 3) := by decide +kernel
theorem dX8_answer_55 : decode cX8_answer 55 = .ok (.bipush (-3), 2) := by decide +kernel
theorem dX8_answer_57 : decode cX8_answer 57 = .ok (.ireturn, 1) := by decide +kernel
theorem dX8_answer_58 : decode cX8_answer 58 = .ok (.aload_n 0, 1) := by decide +kernel
theorem dX8_answer_59 : decode cX8_answer 59 = .ok (.getfield 26, 3) := by decide +kernel
theorem dX8_answer_62 : decode cX8_answer 62 = .ok (.aload_n 0, 1) := by decide +kernel
theorem dX8_answer_63 : decode cX8_answer 63 = .ok (.getfield 10, 3) := by decide +kernel
theorem dX8_answer_66 : decode cX8_answer 66 = .ok (.invokevirtual 80, 3) := by decide +kernel
theorem dX8_answer_69 : decode cX8_answer 69 = .ok (.aload_n 0, 1) := by decide +kernel
theorem dX8_answer_70 : decode cX8_answer 70 = .ok (.getfield 10, 3) := by decide +kernel
theorem dX8_answer_73 : decode cX8_answer 73 = .ok (.aload_n 0, 1) := by decide +kernel
theorem dX8_answer_74 : decode cX8_answer 74 = .ok (.getfield 10, 3) := by decide +kernel
theorem dX8_answer_77 : decode cX8_answer 77 = .ok (.getfield 127, 3) := by decide +kernel
theorem dX8_answer_80 : decode cX8_answer 80 = .ok (.ifCond .ne 7, 3) := by decide +kernel
theorem dX8_answer_83 : decode cX8_answer 83 = .ok (.iconst 1, 1) := by decide +kernel
theorem dX8_answer_84 : decode cX8_answer 84 = .ok (.goto 4, 3) := by decide +kernel
theorem dX8_answer_87 : decode cX8_answer 87 = .ok (.iconst 2, 1) := by decide +kernel
theorem dX8_answer_88 : decode cX8_answer 88 = .ok (.putfield 127, 3) := by decide +kernel
theorem dX8_answer_91 : decode cX8_answer 91 = .ok (.aload_n 0, 1) := by decide +kernel
theorem dX8_answer_92 : decode cX8_answer 92 = .ok (.getfield 10, 3) := by decide +kernel
theorem dX8_answer_95 : decode cX8_answer 95 = .ok (.getfield 127, 3) := by decide +kernel
theorem dX8_answer_98 : decode cX8_answer 98 = .ok (.ireturn, 1) := by decide +kernel
theorem dX8_logged_0 : decode cX8_logged 0 = .ok (.iload_n 1, 1) := by decide +kernel
theorem dX8_logged_1 : decode cX8_logged 1 = .ok (.aload_n 0, 1) := by decide +kernel
theorem dX8_logged_2 : decode cX8_logged 2 = .ok (.getfield 10, 3) := by decide +kernel
theorem dX8_logged_5 : decode cX8_logged 5 = .ok (.getfield 140, 3) := by decide +kernel
theorem dX8_logged_8 : decode cX8_logged 8 = .ok (.invokevirtual 207, 3) := by decide +kernel
theorem dX8_logged_11 : decode cX8_logged 11 = .ok (.invokestatic 49, 3) := by decide +kernel
theorem dX8_logged_14 : decode cX8_logged 14 = .ok (.ifCond .ne 5, 3) := by decide +kernel
theorem dX8_logged_17 : decode cX8_logged 17 = .ok (.iconst (-1), 1) := by decide +kernel
theorem dX8_logged_18 : decode cX8_logged 18 = .ok (.ireturn, 1) := by decide +kernel
theorem dX8_logged_19 : decode cX8_logged 19 = .ok (.iload_n 2, 1) := by decide +kernel
theorem dX8_logged_20 : decode cX8_logged 20 = .ok (.ifCond .lt 8, 3) := by decide +kernel
theorem dX8_logged_23 : decode cX8_logged 23 = .ok (.iload_n 2, 1) := by decide +kernel
theorem dX8_logged_24 : decode cX8_logged 24 = .ok (.iconst 5, 1) := by decide +kernel
theorem dX8_logged_25 : decode cX8_logged 25 = .ok (.if_icmp .le 6, 3) := by decide +kernel
theorem dX8_logged_28 : decode cX8_logged 28 = .ok (.bipush (-2), 2) := by decide +kernel
theorem dX8_logged_30 : decode cX8_logged 30 = .ok (.ireturn, 1) := by decide +kernel
theorem dX8_logged_31 : decode cX8_logged 31 = .ok (.iload_n 2, 1) := by decide +kernel
theorem dX8_logged_32 : decode cX8_logged 32 = .ok (.aload_n 0, 1) := by decide +kernel
theorem dX8_logged_33 : decode cX8_logged 33 = .ok (.getfield 10, 3) := by decide +kernel
theorem dX8_logged_36 : decode cX8_logged 36 = .ok (.getfield 140, 3) := by decide +kernel
theorem dX8_logged_39 : decode cX8_logged 39 = .ok (.iload_n 1, 1) := by decide +kernel
theorem dX8_logged_40 : decode cX8_logged 40 = .ok (.invokevirtual 208, 3) := by decide +kernel
theorem dX8_logged_43 : decode cX8_logged 43 = .ok (.if_icmp .le 5, 3) := by decide +kernel
theorem dX8_logged_46 : decode cX8_logged 46 = .ok (.iconst (-1), 1) := by decide +kernel
theorem dX8_logged_47 : decode cX8_logged 47 = .ok (.ireturn, 1) := by decide +kernel
theorem dX8_logged_48 : decode cX8_logged 48 = .ok (.iload_n 2, 1) := by decide +kernel
theorem dX8_logged_49 : decode cX8_logged 49 = .ok (.ifCond .ne 17, 3) := by decide +kernel
theorem dX8_logged_52 : decode cX8_logged 52 = .ok (.aload_n 0, 1) := by decide +kernel
theorem dX8_logged_53 : decode cX8_logged 53 = .ok (.getfield 10, 3) := by decide +kernel
theorem dX8_logged_56 : decode cX8_logged 56 = .ok (.getfield 140, 3) := by decide +kernel
theorem dX8_logged_59 : decode cX8_logged 59 = .ok (.iload_n 1, 1) := by decide +kernel
theorem dX8_logged_60 : decode cX8_logged 60 = .ok (.invokevirtual 208, 3) := by decide +kernel
theorem dX8_logged_63 : decode cX8_logged 63 = .ok (.goto 17, 3) := by decide +kernel
theorem dX8_logged_66 : decode cX8_logged 66 = .ok (.aload_n 0, 1) := by decide +kernel
theorem dX8_logged_67 : decode cX8_logged 67 = .ok (.getfield 10, 3) := by decide +kernel
theorem dX8_logged_70 : decode cX8_logged 70 = .ok (.getfield 140, 3) := by decide +kernel
theorem dX8_logged_73 : decode cX8_logged 73 = .ok (.iload_n 1, 1) := by decide +kernel
theorem dX8_logged_74 : decode cX8_logged 74 = .ok (.iload_n 2, 1) := by decide +kernel
theorem dX8_logged_75 : decode cX8_logged 75 = .ok (.iconst 1, 1) := by decide +kernel
theorem dX8_logged_76 : decode cX8_logged 76 = .ok (.isub, 1) := by decide +kernel
theorem dX8_logged_77 : decode cX8_logged 77 = .ok (.invokevirtual 211, 3) := by decide +kernel
theorem dX8_logged_80 : decode cX8_logged 80 = .ok (.ireturn, 1) := by decide +kernel
theorem dX8_total_0 : decode cX8_total 0 = .ok (.iload_n 1, 1) := by decide +kernel
theorem dX8_total_1 : decode cX8_total 1 = .ok (.tableswitch 150 0 9 #[55, 63, 71, 79, 90, 101, 112, 120, 128, 139], 55) := by decide +kernel
theorem dX8_total_56 : decode cX8_total 56 = .ok (.aload_n 0, 1) := by decide +kernel
theorem dX8_total_57 : decode cX8_total 57 = .ok (.getfield 10, 3) := by decide +kernel
theorem dX8_total_60 : decode cX8_total 60 = .ok (.getfield 88, 3) := by decide +kernel
theorem dX8_total_63 : decode cX8_total 63 = .ok (.ireturn, 1) := by decide +kernel
theorem dX8_total_64 : decode cX8_total 64 = .ok (.aload_n 0, 1) := by decide +kernel
theorem dX8_total_65 : decode cX8_total 65 = .ok (.getfield 10, 3) := by decide +kernel
theorem dX8_total_68 : decode cX8_total 68 = .ok (.getfield 91, 3) := by decide +kernel
theorem dX8_total_71 : decode cX8_total 71 = .ok (.ireturn, 1) := by decide +kernel
theorem dX8_total_72 : decode cX8_total 72 = .ok (.aload_n 0, 1) := by decide +kernel
theorem dX8_total_73 : decode cX8_total 73 = .ok (.getfield 10, 3) := by decide +kernel
theorem dX8_total_76 : decode cX8_total 76 = .ok (.getfield 84, 3) := by decide +kernel
theorem dX8_total_79 : decode cX8_total 79 = .ok (.ireturn, 1) := by decide +kernel
theorem dX8_total_80 : decode cX8_total 80 = .ok (.aload_n 0, 1) := by decide +kernel
theorem dX8_total_81 : decode cX8_total 81 = .ok (.getfield 10, 3) := by decide +kernel
theorem dX8_total_84 : decode cX8_total 84 = .ok (.getfield 70, 3) := by decide +kernel
theorem dX8_total_87 : decode cX8_total 87 = .ok (.invokevirtual 200, 3) := by decide +kernel
theorem dX8_total_90 : decode cX8_total 90 = .ok (.ireturn, 1) := by decide +kernel
theorem dX8_total_91 : decode cX8_total 91 = .ok (.aload_n 0, 1) := by decide +kernel
theorem dX8_total_92 : decode cX8_total 92 = .ok (.getfield 10, 3) := by decide +kernel
theorem dX8_total_95 : decode cX8_total 95 = .ok (.getfield 70, 3) := by decide +kernel
theorem dX8_total_98 : decode cX8_total 98 = .ok (.invokevirtual 213, 3) := by decide +kernel
theorem dX8_total_101 : decode cX8_total 101 = .ok (.ireturn, 1) := by decide +kernel
theorem dX8_total_102 : decode cX8_total 102 = .ok (.aload_n 0, 1) := by decide +kernel
theorem dX8_total_103 : decode cX8_total 103 = .ok (.getfield 10, 3) := by decide +kernel
theorem dX8_total_106 : decode cX8_total 106 = .ok (.getfield 168, 3) := by decide +kernel
theorem dX8_total_109 : decode cX8_total 109 = .ok (.invokevirtual 172, 3) := by decide +kernel
theorem dX8_total_112 : decode cX8_total 112 = .ok (.ireturn, 1) := by decide +kernel
theorem dX8_total_113 : decode cX8_total 113 = .ok (.aload_n 0, 1) := by decide +kernel
theorem dX8_total_114 : decode cX8_total 114 = .ok (.getfield 10, 3) := by decide +kernel
theorem dX8_total_117 : decode cX8_total 117 = .ok (.getfield 130, 3) := by decide +kernel
theorem dX8_total_120 : decode cX8_total 120 = .ok (.ireturn, 1) := by decide +kernel
theorem dX8_total_121 : decode cX8_total 121 = .ok (.aload_n 0, 1) := by decide +kernel
theorem dX8_total_122 : decode cX8_total 122 = .ok (.getfield 10, 3) := by decide +kernel
theorem dX8_total_125 : decode cX8_total 125 = .ok (.getfield 127, 3) := by decide +kernel
theorem dX8_total_128 : decode cX8_total 128 = .ok (.ireturn, 1) := by decide +kernel
theorem dX8_total_129 : decode cX8_total 129 = .ok (.aload_n 0, 1) := by decide +kernel
theorem dX8_total_130 : decode cX8_total 130 = .ok (.getfield 10, 3) := by decide +kernel
theorem dX8_total_133 : decode cX8_total 133 = .ok (.getfield 140, 3) := by decide +kernel
theorem dX8_total_136 : decode cX8_total 136 = .ok (.invokevirtual 207, 3) := by decide +kernel
theorem dX8_total_139 : decode cX8_total 139 = .ok (.ireturn, 1) := by decide +kernel
theorem dX8_total_140 : decode cX8_total 140 = .ok (.aload_n 0, 1) := by decide +kernel
theorem dX8_total_141 : decode cX8_total 141 = .ok (.getfield 10, 3) := by decide +kernel
theorem dX8_total_144 : decode cX8_total 144 = .ok (.getfield 140, 3) := by decide +kernel
theorem dX8_total_147 : decode cX8_total 147 = .ok (.invokevirtual 216, 3) := by decide +kernel
theorem dX8_total_150 : decode cX8_total 150 = .ok (.ireturn, 1) := by decide +kernel
theorem dX8_total_151 : decode cX8_total 151 = .ok (.bipush (-2), 2) := by decide +kernel
theorem dX8_total_153 : decode cX8_total 153 = .ok (.ireturn, 1) := by decide +kernel
theorem dX8_leastWind_0 : decode cX8_leastWind 0 = .ok (.iload_n 1, 1) := by decide +kernel
theorem dX8_leastWind_1 : decode cX8_leastWind 1 = .ok (.iconst 2, 1) := by decide +kernel
theorem dX8_leastWind_2 : decode cX8_leastWind 2 = .ok (.invokestatic 49, 3) := by decide +kernel
theorem dX8_leastWind_5 : decode cX8_leastWind 5 = .ok (.ifCond .ne 6, 3) := by decide +kernel
theorem dX8_leastWind_8 : decode cX8_leastWind 8 = .ok (.bipush (-2), 2) := by decide +kernel
theorem dX8_leastWind_10 : decode cX8_leastWind 10 = .ok (.ireturn, 1) := by decide +kernel
theorem dX8_leastWind_11 : decode cX8_leastWind 11 = .ok (.aload_n 0, 1) := by decide +kernel
theorem dX8_leastWind_12 : decode cX8_leastWind 12 = .ok (.iload_n 1, 1) := by decide +kernel
theorem dX8_leastWind_13 : decode cX8_leastWind 13 = .ok (.invokevirtual 217, 3) := by decide +kernel
theorem dX8_leastWind_16 : decode cX8_leastWind 16 = .ok (.astore_n 2, 1) := by decide +kernel
theorem dX8_leastWind_17 : decode cX8_leastWind 17 = .ok (.iconst 0, 1) := by decide +kernel
theorem dX8_leastWind_18 : decode cX8_leastWind 18 = .ok (.istore_n 3, 1) := by decide +kernel
theorem dX8_leastWind_19 : decode cX8_leastWind 19 = .ok (.iload_n 3, 1) := by decide +kernel
theorem dX8_leastWind_20 : decode cX8_leastWind 20 = .ok (.bipush 10, 2) := by decide +kernel
theorem dX8_leastWind_22 : decode cX8_leastWind 22 = .ok (.if_icmp .ge 34, 3) := by decide +kernel
theorem dX8_leastWind_25 : decode cX8_leastWind 25 = .ok (.aload_n 2, 1) := by decide +kernel
theorem dX8_leastWind_26 : decode cX8_leastWind 26 = .ok (.aload_n 0, 1) := by decide +kernel
theorem dX8_leastWind_27 : decode cX8_leastWind 27 = .ok (.getfield 10, 3) := by decide +kernel
theorem dX8_leastWind_30 : decode cX8_leastWind 30 = .ok (.iload_n 3, 1) := by decide +kernel
theorem dX8_leastWind_31 : decode cX8_leastWind 31 = .ok (.aload_n 0, 1) := by decide +kernel
theorem dX8_leastWind_32 : decode cX8_leastWind 32 = .ok (.getfield 10, 3) := by decide +kernel
theorem dX8_leastWind_35 : decode cX8_leastWind 35 = .ok (.getfield 91, 3) := by decide +kernel
theorem dX8_leastWind_38 : decode cX8_leastWind 38 = .ok (.invokevirtual 220, 3) := by decide +kernel
theorem dX8_leastWind_41 : decode cX8_leastWind 41 = .ok (.aload_n 2, 1) := by decide +kernel
theorem dX8_leastWind_42 : decode cX8_leastWind 42 = .ok (.invokevirtual 203, 3) := by decide +kernel
theorem dX8_leastWind_45 : decode cX8_leastWind 45 = .ok (.ifCond .eq 5, 3) := by decide +kernel
theorem dX8_leastWind_48 : decode cX8_leastWind 48 = .ok (.iload_n 3, 1) := by decide +kernel
theorem dX8_leastWind_49 : decode cX8_leastWind 49 = .ok (.ireturn, 1) := by decide +kernel
theorem dX8_leastWind_50 : decode cX8_leastWind 50 = .ok (.iinc 3 1, 3) := by decide +kernel
theorem dX8_leastWind_53 : decode cX8_leastWind 53 = .ok (.goto (-34), 3) := by decide +kernel
theorem dX8_leastWind_56 : decode cX8_leastWind 56 = .ok (.bipush (-6), 2) := by decide +kernel
theorem dX8_leastWind_58 : decode cX8_leastWind 58 = .ok (.ireturn, 1) := by decide +kernel
theorem dX8_ifTurned_0 : decode cX8_ifTurned 0 = .ok (.iload_n 1, 1) := by decide +kernel
theorem dX8_ifTurned_1 : decode cX8_ifTurned 1 = .ok (.iconst 2, 1) := by decide +kernel
theorem dX8_ifTurned_2 : decode cX8_ifTurned 2 = .ok (.invokestatic 49, 3) := by decide +kernel
theorem dX8_ifTurned_5 : decode cX8_ifTurned 5 = .ok (.ifCond .ne 6, 3) := by decide +kernel
theorem dX8_ifTurned_8 : decode cX8_ifTurned 8 = .ok (.bipush (-2), 2) := by decide +kernel
theorem dX8_ifTurned_10 : decode cX8_ifTurned 10 = .ok (.ireturn, 1) := by decide +kernel
theorem dX8_ifTurned_11 : decode cX8_ifTurned 11 = .ok (.aload_n 0, 1) := by decide +kernel
theorem dX8_ifTurned_12 : decode cX8_ifTurned 12 = .ok (.iload_n 1, 1) := by decide +kernel
theorem dX8_ifTurned_13 : decode cX8_ifTurned 13 = .ok (.invokevirtual 217, 3) := by decide +kernel
theorem dX8_ifTurned_16 : decode cX8_ifTurned 16 = .ok (.astore_n 2, 1) := by decide +kernel
theorem dX8_ifTurned_17 : decode cX8_ifTurned 17 = .ok (.aload_n 2, 1) := by decide +kernel
theorem dX8_ifTurned_18 : decode cX8_ifTurned 18 = .ok (.aload_n 0, 1) := by decide +kernel
theorem dX8_ifTurned_19 : decode cX8_ifTurned 19 = .ok (.getfield 10, 3) := by decide +kernel
theorem dX8_ifTurned_22 : decode cX8_ifTurned 22 = .ok (.aload_n 0, 1) := by decide +kernel
theorem dX8_ifTurned_23 : decode cX8_ifTurned 23 = .ok (.getfield 10, 3) := by decide +kernel
theorem dX8_ifTurned_26 : decode cX8_ifTurned 26 = .ok (.getfield 88, 3) := by decide +kernel
theorem dX8_ifTurned_29 : decode cX8_ifTurned 29 = .ok (.iconst 1, 1) := by decide +kernel
theorem dX8_ifTurned_30 : decode cX8_ifTurned 30 = .ok (.aload_n 0, 1) := by decide +kernel
theorem dX8_ifTurned_31 : decode cX8_ifTurned 31 = .ok (.getfield 10, 3) := by decide +kernel
theorem dX8_ifTurned_34 : decode cX8_ifTurned 34 = .ok (.getfield 91, 3) := by decide +kernel
theorem dX8_ifTurned_37 : decode cX8_ifTurned 37 = .ok (.isub, 1) := by decide +kernel
theorem dX8_ifTurned_38 : decode cX8_ifTurned 38 = .ok (.invokevirtual 220, 3) := by decide +kernel
theorem dX8_ifTurned_41 : decode cX8_ifTurned 41 = .ok (.aload_n 2, 1) := by decide +kernel
theorem dX8_ifTurned_42 : decode cX8_ifTurned 42 = .ok (.invokevirtual 193, 3) := by decide +kernel
theorem dX8_ifTurned_45 : decode cX8_ifTurned 45 = .ok (.ireturn, 1) := by decide +kernel
theorem dX8_mendingExchange_0 : decode cX8_mendingExchange 0 = .ok (.aload_n 0, 1) := by decide +kernel
theorem dX8_mendingExchange_1 : decode cX8_mendingExchange 1 = .ok (.iconst 0, 1) := by decide +kernel
theorem dX8_mendingExchange_2 : decode cX8_mendingExchange 2 = .ok (.invokevirtual 133, 3) := by decide +kernel
theorem dX8_mendingExchange_5 : decode cX8_mendingExchange 5 = .ok (.aload_n 0, 1) := by decide +kernel
theorem dX8_mendingExchange_6 : decode cX8_mendingExchange 6 = .ok (.iconst 1, 1) := by decide +kernel
theorem dX8_mendingExchange_7 : decode cX8_mendingExchange 7 = .ok (.invokevirtual 133, 3) := by decide +kernel
theorem dX8_mendingExchange_10 : decode cX8_mendingExchange 10 = .ok (.invokevirtual 196, 3) := by decide +kernel
theorem dX8_mendingExchange_13 : decode cX8_mendingExchange 13 = .ok (.ifCond .eq 5, 3) := by decide +kernel
theorem dX8_mendingExchange_16 : decode cX8_mendingExchange 16 = .ok (.iconst 0, 1) := by decide +kernel
theorem dX8_mendingExchange_17 : decode cX8_mendingExchange 17 = .ok (.ireturn, 1) := by decide +kernel
theorem dX8_mendingExchange_18 : decode cX8_mendingExchange 18 = .ok (.iconst 0, 1) := by decide +kernel
theorem dX8_mendingExchange_19 : decode cX8_mendingExchange 19 = .ok (.istore_n 1, 1) := by decide +kernel
theorem dX8_mendingExchange_20 : decode cX8_mendingExchange 20 = .ok (.iload_n 1, 1) := by decide +kernel
theorem dX8_mendingExchange_21 : decode cX8_mendingExchange 21 = .ok (.iconst 5, 1) := by decide +kernel
theorem dX8_mendingExchange_22 : decode cX8_mendingExchange 22 = .ok (.if_icmp .ge 63, 3) := by decide +kernel
theorem dX8_mendingExchange_25 : decode cX8_mendingExchange 25 = .ok (.iload_n 1, 1) := by decide +kernel
theorem dX8_mendingExchange_26 : decode cX8_mendingExchange 26 = .ok (.iconst 1, 1) := by decide +kernel
theorem dX8_mendingExchange_27 : decode cX8_mendingExchange 27 = .ok (.iadd, 1) := by decide +kernel
theorem dX8_mendingExchange_28 : decode cX8_mendingExchange 28 = .ok (.istore_n 2, 1) := by decide +kernel
theorem dX8_mendingExchange_29 : decode cX8_mendingExchange 29 = .ok (.iload_n 2, 1) := by decide +kernel
theorem dX8_mendingExchange_30 : decode cX8_mendingExchange 30 = .ok (.iconst 5, 1) := by decide +kernel
theorem dX8_mendingExchange_31 : decode cX8_mendingExchange 31 = .ok (.if_icmp .ge 48, 3) := by decide +kernel
theorem dX8_mendingExchange_34 : decode cX8_mendingExchange 34 = .ok (.aload_n 0, 1) := by decide +kernel
theorem dX8_mendingExchange_35 : decode cX8_mendingExchange 35 = .ok (.getfield 42, 3) := by decide +kernel
theorem dX8_mendingExchange_38 : decode cX8_mendingExchange 38 = .ok (.iload_n 1, 1) := by decide +kernel
theorem dX8_mendingExchange_39 : decode cX8_mendingExchange 39 = .ok (.iload_n 2, 1) := by decide +kernel
theorem dX8_mendingExchange_40 : decode cX8_mendingExchange 40 = .ok (.invokevirtual 224, 3) := by decide +kernel
theorem dX8_mendingExchange_43 : decode cX8_mendingExchange 43 = .ok (.aload_n 0, 1) := by decide +kernel
theorem dX8_mendingExchange_44 : decode cX8_mendingExchange 44 = .ok (.getfield 46, 3) := by decide +kernel
theorem dX8_mendingExchange_47 : decode cX8_mendingExchange 47 = .ok (.iload_n 1, 1) := by decide +kernel
theorem dX8_mendingExchange_48 : decode cX8_mendingExchange 48 = .ok (.iload_n 2, 1) := by decide +kernel
theorem dX8_mendingExchange_49 : decode cX8_mendingExchange 49 = .ok (.invokevirtual 224, 3) := by decide +kernel
theorem dX8_mendingExchange_52 : decode cX8_mendingExchange 52 = .ok (.aload_n 0, 1) := by decide +kernel
theorem dX8_mendingExchange_53 : decode cX8_mendingExchange 53 = .ok (.getfield 42, 3) := by decide +kernel
theorem dX8_mendingExchange_56 : decode cX8_mendingExchange 56 = .ok (.aload_n 0, 1) := by decide +kernel
theorem dX8_mendingExchange_57 : decode cX8_mendingExchange 57 = .ok (.getfield 46, 3) := by decide +kernel
theorem dX8_mendingExchange_60 : decode cX8_mendingExchange 60 = .ok (.invokevirtual 196, 3) := by decide +kernel
theorem dX8_mendingExchange_63 : decode cX8_mendingExchange 63 = .ok (.ifCond .eq 10, 3) := by decide +kernel
theorem dX8_mendingExchange_66 : decode cX8_mendingExchange 66 = .ok (.bipush 10, 2) := by decide +kernel
theorem dX8_mendingExchange_68 : decode cX8_mendingExchange 68 = .ok (.iload_n 1, 1) := by decide +kernel
theorem dX8_mendingExchange_69 : decode cX8_mendingExchange 69 = .ok (.imul, 1) := by decide +kernel
theorem dX8_mendingExchange_70 : decode cX8_mendingExchange 70 = .ok (.iload_n 2, 1) := by decide +kernel
theorem dX8_mendingExchange_71 : decode cX8_mendingExchange 71 = .ok (.iadd, 1) := by decide +kernel
theorem dX8_mendingExchange_72 : decode cX8_mendingExchange 72 = .ok (.ireturn, 1) := by decide +kernel
theorem dX8_mendingExchange_73 : decode cX8_mendingExchange 73 = .ok (.iinc 2 1, 3) := by decide +kernel
theorem dX8_mendingExchange_76 : decode cX8_mendingExchange 76 = .ok (.goto (-47), 3) := by decide +kernel
theorem dX8_mendingExchange_79 : decode cX8_mendingExchange 79 = .ok (.iinc 1 1, 3) := by decide +kernel
theorem dX8_mendingExchange_82 : decode cX8_mendingExchange 82 = .ok (.goto (-62), 3) := by decide +kernel
theorem dX8_mendingExchange_85 : decode cX8_mendingExchange 85 = .ok (.bipush (-6), 2) := by decide +kernel
theorem dX8_mendingExchange_87 : decode cX8_mendingExchange 87 = .ok (.ireturn, 1) := by decide +kernel
theorem dX8_bestEntry_0 : decode cX8_bestEntry 0 = .ok (.iload_n 1, 1) := by decide +kernel
theorem dX8_bestEntry_1 : decode cX8_bestEntry 1 = .ok (.bipush 100, 2) := by decide +kernel
theorem dX8_bestEntry_3 : decode cX8_bestEntry 3 = .ok (.invokestatic 49, 3) := by decide +kernel
theorem dX8_bestEntry_6 : decode cX8_bestEntry 6 = .ok (.ifCond .ne 6, 3) := by decide +kernel
theorem dX8_bestEntry_9 : decode cX8_bestEntry 9 = .ok (.bipush (-2), 2) := by decide +kernel
theorem dX8_bestEntry_11 : decode cX8_bestEntry 11 = .ok (.ireturn, 1) := by decide +kernel
theorem dX8_bestEntry_12 : decode cX8_bestEntry 12 = .ok (.bipush (-6), 2) := by decide +kernel
theorem dX8_bestEntry_14 : decode cX8_bestEntry 14 = .ok (.istore_n 2, 1) := by decide +kernel
theorem dX8_bestEntry_15 : decode cX8_bestEntry 15 = .ok (.iconst 5, 1) := by decide +kernel
theorem dX8_bestEntry_16 : decode cX8_bestEntry 16 = .ok (.istore_n 3, 1) := by decide +kernel
theorem dX8_bestEntry_17 : decode cX8_bestEntry 17 = .ok (.iconst 0, 1) := by decide +kernel
theorem dX8_bestEntry_18 : decode cX8_bestEntry 18 = .ok (.istore 4, 2) := by decide +kernel
theorem dX8_bestEntry_20 : decode cX8_bestEntry 20 = .ok (.iload 4, 2) := by decide +kernel
theorem dX8_bestEntry_22 : decode cX8_bestEntry 22 = .ok (.aload_n 0, 1) := by decide +kernel
theorem dX8_bestEntry_23 : decode cX8_bestEntry 23 = .ok (.getfield 10, 3) := by decide +kernel
theorem dX8_bestEntry_26 : decode cX8_bestEntry 26 = .ok (.getfield 168, 3) := by decide +kernel
theorem dX8_bestEntry_29 : decode cX8_bestEntry 29 = .ok (.invokevirtual 172, 3) := by decide +kernel
theorem dX8_bestEntry_32 : decode cX8_bestEntry 32 = .ok (.if_icmp .ge 67, 3) := by decide +kernel
theorem dX8_bestEntry_35 : decode cX8_bestEntry 35 = .ok (.aload_n 0, 1) := by decide +kernel
theorem dX8_bestEntry_36 : decode cX8_bestEntry 36 = .ok (.getfield 10, 3) := by decide +kernel
theorem dX8_bestEntry_39 : decode cX8_bestEntry 39 = .ok (.getfield 168, 3) := by decide +kernel
theorem dX8_bestEntry_42 : decode cX8_bestEntry 42 = .ok (.iload 4, 2) := by decide +kernel
theorem dX8_bestEntry_44 : decode cX8_bestEntry 44 = .ok (.invokevirtual 179, 3) := by decide +kernel
theorem dX8_bestEntry_47 : decode cX8_bestEntry 47 = .ok (.istore 5, 2) := by decide +kernel
theorem dX8_bestEntry_49 : decode cX8_bestEntry 49 = .ok (.iload 5, 2) := by decide +kernel
theorem dX8_bestEntry_51 : decode cX8_bestEntry 51 = .ok (.invokestatic 227, 3) := by decide +kernel
theorem dX8_bestEntry_54 : decode cX8_bestEntry 54 = .ok (.istore 6, 2) := by decide +kernel
theorem dX8_bestEntry_56 : decode cX8_bestEntry 56 = .ok (.aload_n 0, 1) := by decide +kernel
theorem dX8_bestEntry_57 : decode cX8_bestEntry 57 = .ok (.getfield 10, 3) := by decide +kernel
theorem dX8_bestEntry_60 : decode cX8_bestEntry 60 = .ok (.getfield 168, 3) := by decide +kernel
theorem dX8_bestEntry_63 : decode cX8_bestEntry 63 = .ok (.iload 4, 2) := by decide +kernel
theorem dX8_bestEntry_65 : decode cX8_bestEntry 65 = .ok (.invokevirtual 182, 3) := by decide +kernel
theorem dX8_bestEntry_68 : decode cX8_bestEntry 68 = .ok (.iload_n 1, 1) := by decide +kernel
theorem dX8_bestEntry_69 : decode cX8_bestEntry 69 = .ok (.if_icmp .ne 24, 3) := by decide +kernel
theorem dX8_bestEntry_72 : decode cX8_bestEntry 72 = .ok (.iload 6, 2) := by decide +kernel
theorem dX8_bestEntry_74 : decode cX8_bestEntry 74 = .ok (.iload_n 3, 1) := by decide +kernel
theorem dX8_bestEntry_75 : decode cX8_bestEntry 75 = .ok (.if_icmp .ge 18, 3) := by decide +kernel
theorem dX8_bestEntry_78 : decode cX8_bestEntry 78 = .ok (.aload_n 0, 1) := by decide +kernel
theorem dX8_bestEntry_79 : decode cX8_bestEntry 79 = .ok (.iload 5, 2) := by decide +kernel
theorem dX8_bestEntry_81 : decode cX8_bestEntry 81 = .ok (.invokevirtual 230, 3) := by decide +kernel
theorem dX8_bestEntry_84 : decode cX8_bestEntry 84 = .ok (.ifCond .eq 9, 3) := by decide +kernel
theorem dX8_bestEntry_87 : decode cX8_bestEntry 87 = .ok (.iload 4, 2) := by decide +kernel
theorem dX8_bestEntry_89 : decode cX8_bestEntry 89 = .ok (.istore_n 2, 1) := by decide +kernel
theorem dX8_bestEntry_90 : decode cX8_bestEntry 90 = .ok (.iload 6, 2) := by decide +kernel
theorem dX8_bestEntry_92 : decode cX8_bestEntry 92 = .ok (.istore_n 3, 1) := by decide +kernel
theorem dX8_bestEntry_93 : decode cX8_bestEntry 93 = .ok (.iinc 4 1, 3) := by decide +kernel
theorem dX8_bestEntry_96 : decode cX8_bestEntry 96 = .ok (.goto (-76), 3) := by decide +kernel
theorem dX8_bestEntry_99 : decode cX8_bestEntry 99 = .ok (.iload_n 2, 1) := by decide +kernel
theorem dX8_bestEntry_100 : decode cX8_bestEntry 100 = .ok (.ireturn, 1) := by decide +kernel
theorem dX8_append_0 : decode cX8_append 0 = .ok (.iload_n 1, 1) := by decide +kernel
theorem dX8_append_1 : decode cX8_append 1 = .ok (.bipush 33, 2) := by decide +kernel
theorem dX8_append_3 : decode cX8_append 3 = .ok (.if_icmp .lt 9, 3) := by decide +kernel
theorem dX8_append_6 : decode cX8_append 6 = .ok (.iload_n 1, 1) := by decide +kernel
theorem dX8_append_7 : decode cX8_append 7 = .ok (.bipush 126, 2) := by decide +kernel
theorem dX8_append_9 : decode cX8_append 9 = .ok (.if_icmp .le 6, 3) := by decide +kernel
theorem dX8_append_12 : decode cX8_append 12 = .ok (.bipush (-2), 2) := by decide +kernel
theorem dX8_append_14 : decode cX8_append 14 = .ok (.ireturn, 1) := by decide +kernel
theorem dX8_append_15 : decode cX8_append 15 = .ok (.aload_n 0, 1) := by decide +kernel
theorem dX8_append_16 : decode cX8_append 16 = .ok (.getfield 33, 3) := by decide +kernel
theorem dX8_append_19 : decode cX8_append 19 = .ok (.invokevirtual 233, 3) := by decide +kernel
theorem dX8_append_22 : decode cX8_append 22 = .ok (.bipush 50, 2) := by decide +kernel
theorem dX8_append_24 : decode cX8_append 24 = .ok (.if_icmp .lt 6, 3) := by decide +kernel
theorem dX8_append_27 : decode cX8_append 27 = .ok (.bipush (-4), 2) := by decide +kernel
theorem dX8_append_29 : decode cX8_append 29 = .ok (.ireturn, 1) := by decide +kernel
theorem dX8_append_30 : decode cX8_append 30 = .ok (.aload_n 0, 1) := by decide +kernel
theorem dX8_append_31 : decode cX8_append 31 = .ok (.getfield 33, 3) := by decide +kernel
theorem dX8_append_34 : decode cX8_append 34 = .ok (.iload_n 1, 1) := by decide +kernel
theorem dX8_append_35 : decode cX8_append 35 = .ok (.invokevirtual 234, 3) := by decide +kernel
theorem dX8_append_38 : decode cX8_append 38 = .ok (.aload_n 0, 1) := by decide +kernel
theorem dX8_append_39 : decode cX8_append 39 = .ok (.getfield 33, 3) := by decide +kernel
theorem dX8_append_42 : decode cX8_append 42 = .ok (.invokevirtual 233, 3) := by decide +kernel
theorem dX8_append_45 : decode cX8_append 45 = .ok (.ireturn, 1) := by decide +kernel
theorem dX8_clearText_0 : decode cX8_clearText 0 = .ok (.aload_n 0, 1) := by decide +kernel
theorem dX8_clearText_1 : decode cX8_clearText 1 = .ok (.getfield 33, 3) := by decide +kernel
theorem dX8_clearText_4 : decode cX8_clearText 4 = .ok (.invokevirtual 233, 3) := by decide +kernel
theorem dX8_clearText_7 : decode cX8_clearText 7 = .ok (.istore_n 1, 1) := by decide +kernel
theorem dX8_clearText_8 : decode cX8_clearText 8 = .ok (.aload_n 0, 1) := by decide +kernel
theorem dX8_clearText_9 : decode cX8_clearText 9 = .ok (.getfield 33, 3) := by decide +kernel
theorem dX8_clearText_12 : decode cX8_clearText 12 = .ok (.invokevirtual 236, 3) := by decide +kernel
theorem dX8_clearText_15 : decode cX8_clearText 15 = .ok (.iload_n 1, 1) := by decide +kernel
theorem dX8_clearText_16 : decode cX8_clearText 16 = .ok (.ireturn, 1) := by decide +kernel
theorem dX8_errorPosition_0 : decode cX8_errorPosition 0 = .ok (.aload_n 0, 1) := by decide +kernel
theorem dX8_errorPosition_1 : decode cX8_errorPosition 1 = .ok (.getfield 33, 3) := by decide +kernel
theorem dX8_errorPosition_4 : decode cX8_errorPosition 4 = .ok (.invokevirtual 237, 3) := by decide +kernel
theorem dX8_errorPosition_7 : decode cX8_errorPosition 7 = .ok (.ireturn, 1) := by decide +kernel
theorem dX8_hoist_0 : decode cX8_hoist 0 = .ok (.aload_n 0, 1) := by decide +kernel
theorem dX8_hoist_1 : decode cX8_hoist 1 = .ok (.getfield 33, 3) := by decide +kernel
theorem dX8_hoist_4 : decode cX8_hoist 4 = .ok (.invokevirtual 237, 3) := by decide +kernel
theorem dX8_hoist_7 : decode cX8_hoist 7 = .ok (.bipush (-6), 2) := by decide +kernel
theorem dX8_hoist_9 : decode cX8_hoist 9 = .ok (.if_icmp .eq 6, 3) := by decide +kernel
theorem dX8_hoist_12 : decode cX8_hoist 12 = .ok (.bipush (-5), 2) := by decide +kernel
theorem dX8_hoist_14 : decode cX8_hoist 14 = .ok (.ireturn, 1) := by decide +kernel
theorem dX8_hoist_15 : decode cX8_hoist 15 = .ok (.aload_n 0, 1) := by decide +kernel
theorem dX8_hoist_16 : decode cX8_hoist 16 = .ok (.getfield 33, 3) := by decide +kernel
theorem dX8_hoist_19 : decode cX8_hoist 19 = .ok (.getfield 240, 3) := by decide +kernel
theorem dX8_hoist_22 : decode cX8_hoist 22 = .ok (.invokevirtual 74, 3) := by decide +kernel
theorem dX8_hoist_25 : decode cX8_hoist 25 = .ok (.aload_n 0, 1) := by decide +kernel
theorem dX8_hoist_26 : decode cX8_hoist 26 = .ok (.getfield 10, 3) := by decide +kernel
theorem dX8_hoist_29 : decode cX8_hoist 29 = .ok (.getfield 84, 3) := by decide +kernel
theorem dX8_hoist_32 : decode cX8_hoist 32 = .ok (.if_icmp .le 6, 3) := by decide +kernel
theorem dX8_hoist_35 : decode cX8_hoist 35 = .ok (.bipush (-4), 2) := by decide +kernel
theorem dX8_hoist_37 : decode cX8_hoist 37 = .ok (.ireturn, 1) := by decide +kernel
theorem dX8_hoist_38 : decode cX8_hoist 38 = .ok (.aload_n 0, 1) := by decide +kernel
theorem dX8_hoist_39 : decode cX8_hoist 39 = .ok (.invokevirtual 53, 3) := by decide +kernel
theorem dX8_hoist_42 : decode cX8_hoist 42 = .ok (.aload_n 0, 1) := by decide +kernel
theorem dX8_hoist_43 : decode cX8_hoist 43 = .ok (.getfield 10, 3) := by decide +kernel
theorem dX8_hoist_46 : decode cX8_hoist 46 = .ok (.getfield 70, 3) := by decide +kernel
theorem dX8_hoist_49 : decode cX8_hoist 49 = .ok (.aload_n 0, 1) := by decide +kernel
theorem dX8_hoist_50 : decode cX8_hoist 50 = .ok (.getfield 33, 3) := by decide +kernel
theorem dX8_hoist_53 : decode cX8_hoist 53 = .ok (.getfield 240, 3) := by decide +kernel
theorem dX8_hoist_56 : decode cX8_hoist 56 = .ok (.invokevirtual 241, 3) := by decide +kernel
theorem dX8_hoist_59 : decode cX8_hoist 59 = .ok (.aload_n 0, 1) := by decide +kernel
theorem dX8_hoist_60 : decode cX8_hoist 60 = .ok (.getfield 33, 3) := by decide +kernel
theorem dX8_hoist_63 : decode cX8_hoist 63 = .ok (.invokevirtual 236, 3) := by decide +kernel
theorem dX8_hoist_66 : decode cX8_hoist 66 = .ok (.aload_n 0, 1) := by decide +kernel
theorem dX8_hoist_67 : decode cX8_hoist 67 = .ok (.getfield 10, 3) := by decide +kernel
