theorem dX6_init_37 : decode cX6_init 37 = .ok (.aload_n 0, 1) := by decide +kernel
theorem dX6_init_38 : decode cX6_init 38 = .ok (.new 32, 3) := by decide +kernel
theorem dX6_init_41 : decode cX6_init 41 = .ok (.dup, 1) := by decide +kernel
theorem dX6_init_42 : decode cX6_init 42 = .ok (.invokespecial 34, 3) := by decide +kernel
theorem dX6_init_45 : decode cX6_init 45 = .ok (.putfield 35, 3) := by decide +kernel
theorem dX6_init_48 : decode cX6_init 48 = .ok (.aload_n 0, 1) := by decide +kernel
theorem dX6_init_49 : decode cX6_init 49 = .ok (.iconst 1, 1) := by decide +kernel
theorem dX6_init_50 : decode cX6_init 50 = .ok (.putfield 39, 3) := by decide +kernel
theorem dX6_init_53 : decode cX6_init 53 = .ok (.aload_n 0, 1) := by decide +kernel
theorem dX6_init_54 : decode cX6_init 54 = .ok (.iconst 5, 1) := by decide +kernel
theorem dX6_init_55 : decode cX6_init 55 = .ok (.putfield 43, 3) := by decide +kernel
theorem dX6_init_58 : decode cX6_init 58 = .ok (.aload_n 0, 1) := by decide +kernel
theorem dX6_init_59 : decode cX6_init 59 = .ok (.iconst 0, 1) := by decide +kernel
theorem dX6_init_60 : decode cX6_init 60 = .ok (.putfield 46, 3) := by decide +kernel
theorem dX6_init_63 : decode cX6_init 63 = .ok (.aload_n 0, 1) := by decide +kernel
theorem dX6_init_64 : decode cX6_init 64 = .ok (.iconst 0, 1) := by decide +kernel
theorem dX6_init_65 : decode cX6_init 65 = .ok (.putfield 49, 3) := by decide +kernel
theorem dX6_init_68 : decode cX6_init 68 = .ok (.aload_n 0, 1) := by decide +kernel
theorem dX6_init_69 : decode cX6_init 69 = .ok (.iconst 0, 1) := by decide +kernel
theorem dX6_init_70 : decode cX6_init 70 = .ok (.putfield 52, 3) := by decide +kernel
theorem dX6_init_73 : decode cX6_init 73 = .ok (.return_, 1) := by decide +kernel
theorem dX6_copyFrom_0 : decode cX6_copyFrom 0 = .ok (.aload_n 0, 1) := by decide +kernel
theorem dX6_copyFrom_1 : decode cX6_copyFrom 1 = .ok (.getfield 12, 3) := by decide +kernel
theorem dX6_copyFrom_4 : decode cX6_copyFrom 4 = .ok (.aload_n 1, 1) := by decide +kernel
theorem dX6_copyFrom_5 : decode cX6_copyFrom 5 = .ok (.getfield 12, 3) := by decide +kernel
theorem dX6_copyFrom_8 : decode cX6_copyFrom 8 = .ok (.invokevirtual 55, 3) := by decide +kernel
theorem dX6_copyFrom_11 : decode cX6_copyFrom 11 = .ok (.aload_n 0, 1) := by decide +kernel
theorem dX6_copyFrom_12 : decode cX6_copyFrom 12 = .ok (.getfield 21, 3) := by decide +kernel
theorem dX6_copyFrom_15 : decode cX6_copyFrom 15 = .ok (.aload_n 1, 1) := by decide +kernel
theorem dX6_copyFrom_16 : decode cX6_copyFrom 16 = .ok (.getfield 21, 3) := by decide +kernel
theorem dX6_copyFrom_19 : decode cX6_copyFrom 19 = .ok (.invokevirtual 59, 3) := by decide +kernel
theorem dX6_copyFrom_22 : decode cX6_copyFrom 22 = .ok (.aload_n 0, 1) := by decide +kernel
theorem dX6_copyFrom_23 : decode cX6_copyFrom 23 = .ok (.getfield 28, 3) := by decide +kernel
theorem dX6_copyFrom_26 : decode cX6_copyFrom 26 = .ok (.aload_n 1, 1) := by decide +kernel
theorem dX6_copyFrom_27 : decode cX6_copyFrom 27 = .ok (.getfield 28, 3) := by decide +kernel
theorem dX6_copyFrom_30 : decode cX6_copyFrom 30 = .ok (.invokevirtual 62, 3) := by decide +kernel
theorem dX6_copyFrom_33 : decode cX6_copyFrom 33 = .ok (.aload_n 0, 1) := by decide +kernel
theorem dX6_copyFrom_34 : decode cX6_copyFrom 34 = .ok (.getfield 35, 3) := by decide +kernel
theorem dX6_copyFrom_37 : decode cX6_copyFrom 37 = .ok (.aload_n 1, 1) := by decide +kernel
theorem dX6_copyFrom_38 : decode cX6_copyFrom 38 = .ok (.getfield 35, 3) := by decide +kernel
theorem dX6_copyFrom_41 : decode cX6_copyFrom 41 = .ok (.invokevirtual 65, 3) := by decide +kernel
theorem dX6_copyFrom_44 : decode cX6_copyFrom 44 = .ok (.aload_n 0, 1) := by decide +kernel
theorem dX6_copyFrom_45 : decode cX6_copyFrom 45 = .ok (.aload_n 1, 1) := by decide +kernel
theorem dX6_copyFrom_46 : decode cX6_copyFrom 46 = .ok (.getfield 39, 3) := by decide +kernel
theorem dX6_copyFrom_49 : decode cX6_copyFrom 49 = .ok (.putfield 39, 3) := by decide +kernel
theorem dX6_copyFrom_52 : decode cX6_copyFrom 52 = .ok (.aload_n 0, 1) := by decide +kernel
theorem dX6_copyFrom_53 : decode cX6_copyFrom 53 = .ok (.aload_n 1, 1) := by decide +kernel
theorem dX6_copyFrom_54 : decode cX6_copyFrom 54 = .ok (.getfield 43, 3) := by decide +kernel
theorem dX6_copyFrom_57 : decode cX6_copyFrom 57 = .ok (.putfield 43, 3) := by decide +kernel
theorem dX6_copyFrom_60 : decode cX6_copyFrom 60 = .ok (.aload_n 0, 1) := by decide +kernel
theorem dX6_copyFrom_61 : decode cX6_copyFrom 61 = .ok (.aload_n 1, 1) := by decide +kernel
theorem dX6_copyFrom_62 : decode cX6_copyFrom 62 = .ok (.getfield 46, 3) := by decide +kernel
theorem dX6_copyFrom_65 : decode cX6_copyFrom 65 = .ok (.putfield 46, 3) := by decide +kernel
theorem dX6_copyFrom_68 : decode cX6_copyFrom 68 = .ok (.aload_n 0, 1) := by decide +kernel
theorem dX6_copyFrom_69 : decode cX6_copyFrom 69 = .ok (.aload_n 1, 1) := by decide +kernel
theorem dX6_copyFrom_70 : decode cX6_copyFrom 70 = .ok (.getfield 49, 3) := by decide +kernel
theorem dX6_copyFrom_73 : decode cX6_copyFrom 73 = .ok (.putfield 49, 3) := by decide +kernel
theorem dX6_copyFrom_76 : decode cX6_copyFrom 76 = .ok (.aload_n 0, 1) := by decide +kernel
theorem dX6_copyFrom_77 : decode cX6_copyFrom 77 = .ok (.aload_n 1, 1) := by decide +kernel
theorem dX6_copyFrom_78 : decode cX6_copyFrom 78 = .ok (.getfield 52, 3) := by decide +kernel
theorem dX6_copyFrom_81 : decode cX6_copyFrom 81 = .ok (.putfield 52, 3) := by decide +kernel
theorem dX6_copyFrom_84 : decode cX6_copyFrom 84 = .ok (.return_, 1) := by decide +kernel
theorem dX6_readHoist_0 : decode cX6_readHoist 0 = .ok (.aload_n 0, 1) := by decide +kernel
theorem dX6_readHoist_1 : decode cX6_readHoist 1 = .ok (.getfield 21, 3) := by decide +kernel
theorem dX6_readHoist_4 : decode cX6_readHoist 4 = .ok (.iload_n 1, 1) := by decide +kernel
theorem dX6_readHoist_5 : decode cX6_readHoist 5 = .ok (.invokevirtual 68, 3) := by decide +kernel
theorem dX6_readHoist_8 : decode cX6_readHoist 8 = .ok (.istore 4, 2) := by decide +kernel
theorem dX6_readHoist_10 : decode cX6_readHoist 10 = .ok (.iload 4, 2) := by decide +kernel
theorem dX6_readHoist_12 : decode cX6_readHoist 12 = .ok (.ifCond .ne 6, 3) := by decide +kernel
theorem dX6_readHoist_15 : decode cX6_readHoist 15 = .ok (.bipush (-7), 2) := by decide +kernel
theorem dX6_readHoist_17 : decode cX6_readHoist 17 = .ok (.ireturn, 1) := by decide +kernel
theorem dX6_readHoist_18 : decode cX6_readHoist 18 = .ok (.iconst 1, 1) := by decide +kernel
theorem dX6_readHoist_19 : decode cX6_readHoist 19 = .ok (.istore 5, 2) := by decide +kernel
theorem dX6_readHoist_21 : decode cX6_readHoist 21 = .ok (.iconst 1, 1) := by decide +kernel
theorem dX6_readHoist_22 : decode cX6_readHoist 22 = .ok (.istore 6, 2) := by decide +kernel
theorem dX6_readHoist_24 : decode cX6_readHoist 24 = .ok (.iload 6, 2) := by decide +kernel
theorem dX6_readHoist_26 : decode cX6_readHoist 26 = .ok (.iload 4, 2) := by decide +kernel
theorem dX6_readHoist_28 : decode cX6_readHoist 28 = .ok (.if_icmp .gt 50, 3) := by decide +kernel
theorem dX6_readHoist_31 : decode cX6_readHoist 31 = .ok (.aload_n 0, 1) := by decide +kernel
theorem dX6_readHoist_32 : decode cX6_readHoist 32 = .ok (.getfield 12, 3) := by decide +kernel
theorem dX6_readHoist_35 : decode cX6_readHoist 35 = .ok (.aload_n 0, 1) := by decide +kernel
theorem dX6_readHoist_36 : decode cX6_readHoist 36 = .ok (.getfield 21, 3) := by decide +kernel
theorem dX6_readHoist_39 : decode cX6_readHoist 39 = .ok (.iload_n 1, 1) := by decide +kernel
theorem dX6_readHoist_40 : decode cX6_readHoist 40 = .ok (.iload 6, 2) := by decide +kernel
theorem dX6_readHoist_42 : decode cX6_readHoist 42 = .ok (.invokevirtual 72, 3) := by decide +kernel
theorem dX6_readHoist_45 : decode cX6_readHoist 45 = .ok (.iload_n 2, 1) := by decide +kernel
theorem dX6_readHoist_46 : decode cX6_readHoist 46 = .ok (.iload_n 3, 1) := by decide +kernel
theorem dX6_readHoist_47 : decode cX6_readHoist 47 = .ok (.invokevirtual 76, 3) := by decide +kernel
theorem dX6_readHoist_50 : decode cX6_readHoist 50 = .ok (.istore 7, 2) := by decide +kernel
theorem dX6_readHoist_52 : decode cX6_readHoist 52 = .ok (.iload 7, 2) := by decide +kernel
theorem dX6_readHoist_54 : decode cX6_readHoist 54 = .ok (.bipush (-6), 2) := by decide +kernel
theorem dX6_readHoist_56 : decode cX6_readHoist 56 = .ok (.if_icmp .ne 6, 3) := by decide +kernel
theorem dX6_readHoist_59 : decode cX6_readHoist 59 = .ok (.bipush (-6), 2) := by decide +kernel
theorem dX6_readHoist_61 : decode cX6_readHoist 61 = .ok (.ireturn, 1) := by decide +kernel
theorem dX6_readHoist_62 : decode cX6_readHoist 62 = .ok (.bipush 10, 2) := by decide +kernel
theorem dX6_readHoist_64 : decode cX6_readHoist 64 = .ok (.iload 5, 2) := by decide +kernel
theorem dX6_readHoist_66 : decode cX6_readHoist 66 = .ok (.imul, 1) := by decide +kernel
theorem dX6_readHoist_67 : decode cX6_readHoist 67 = .ok (.iload 7, 2) := by decide +kernel
theorem dX6_readHoist_69 : decode cX6_readHoist 69 = .ok (.iadd, 1) := by decide +kernel
theorem dX6_readHoist_70 : decode cX6_readHoist 70 = .ok (.istore 5, 2) := by decide +kernel
theorem dX6_readHoist_72 : decode cX6_readHoist 72 = .ok (.iinc 6 1, 3) := by decide +kernel
theorem dX6_readHoist_75 : decode cX6_readHoist 75 = .ok (.goto (-51), 3) := by decide +kernel
theorem dX6_readHoist_78 : decode cX6_readHoist 78 = .ok (.aload_n 0, 1) := by decide +kernel
theorem dX6_readHoist_79 : decode cX6_readHoist 79 = .ok (.getfield 28, 3) := by decide +kernel
theorem dX6_readHoist_82 : decode cX6_readHoist 82 = .ok (.iload 5, 2) := by decide +kernel
theorem dX6_readHoist_84 : decode cX6_readHoist 84 = .ok (.invokevirtual 80, 3) := by decide +kernel
theorem dX6_readHoist_87 : decode cX6_readHoist 87 = .ok (.ireturn, 1) := by decide +kernel
theorem dX7_init_0 : decode cX7_init 0 = .ok (.aload_n 0, 1) := by decide +kernel
theorem dX7_init_1 : decode cX7_init 1 = .ok (.invokespecial 3, 3) := by decide +kernel
theorem dX7_init_4 : decode cX7_init 4 = .ok (.aload_n 0, 1) := by decide +kernel
theorem dX7_init_5 : decode cX7_init 5 = .ok (.bipush 50, 2) := by decide +kernel
theorem dX7_init_7 : decode cX7_init 7 = .ok (.newarray .int, 2) := by decide +kernel
theorem dX7_init_9 : decode cX7_init 9 = .ok (.putfield 9, 3) := by decide +kernel
theorem dX7_init_12 : decode cX7_init 12 = .ok (.aload_n 0, 1) := by decide +kernel
theorem dX7_init_13 : decode cX7_init 13 = .ok (.iconst 0, 1) := by decide +kernel
theorem dX7_init_14 : decode cX7_init 14 = .ok (.putfield 15, 3) := by decide +kernel
theorem dX7_init_17 : decode cX7_init 17 = .ok (.aload_n 0, 1) := by decide +kernel
theorem dX7_init_18 : decode cX7_init 18 = .ok (.new 19, 3) := by decide +kernel
theorem dX7_init_21 : decode cX7_init 21 = .ok (.dup, 1) := by decide +kernel
theorem dX7_init_22 : decode cX7_init 22 = .ok (.invokespecial 21, 3) := by decide +kernel
theorem dX7_init_25 : decode cX7_init 25 = .ok (.putfield 22, 3) := by decide +kernel
theorem dX7_init_28 : decode cX7_init 28 = .ok (.aload_n 0, 1) := by decide +kernel
theorem dX7_init_29 : decode cX7_init 29 = .ok (.iconst (-1), 1) := by decide +kernel
theorem dX7_init_30 : decode cX7_init 30 = .ok (.putfield 26, 3) := by decide +kernel
theorem dX7_init_33 : decode cX7_init 33 = .ok (.aload_n 0, 1) := by decide +kernel
theorem dX7_init_34 : decode cX7_init 34 = .ok (.iconst 0, 1) := by decide +kernel
theorem dX7_init_35 : decode cX7_init 35 = .ok (.putfield 29, 3) := by decide +kernel
theorem dX7_init_38 : decode cX7_init 38 = .ok (.return_, 1) := by decide +kernel
theorem dX8_init_0 : decode cX8_init 0 = .ok (.aload_n 0, 1) := by decide +kernel
theorem dX8_init_1 : decode cX8_init 1 = .ok (.invokespecial 1, 3) := by decide +kernel
theorem dX8_init_4 : decode cX8_init 4 = .ok (.aload_n 0, 1) := by decide +kernel
theorem dX8_init_5 : decode cX8_init 5 = .ok (.new 7, 3) := by decide +kernel
theorem dX8_init_8 : decode cX8_init 8 = .ok (.dup, 1) := by decide +kernel
theorem dX8_init_9 : decode cX8_init 9 = .ok (.invokespecial 9, 3) := by decide +kernel
theorem dX8_init_12 : decode cX8_init 12 = .ok (.putfield 10, 3) := by decide +kernel
theorem dX8_init_15 : decode cX8_init 15 = .ok (.aload_n 0, 1) := by decide +kernel
theorem dX8_init_16 : decode cX8_init 16 = .ok (.new 7, 3) := by decide +kernel
theorem dX8_init_19 : decode cX8_init 19 = .ok (.dup, 1) := by decide +kernel
theorem dX8_init_20 : decode cX8_init 20 = .ok (.invokespecial 9, 3) := by decide +kernel
theorem dX8_init_23 : decode cX8_init 23 = .ok (.putfield 16, 3) := by decide +kernel
theorem dX8_init_26 : decode cX8_init 26 = .ok (.aload_n 0, 1) := by decide +kernel
theorem dX8_init_27 : decode cX8_init 27 = .ok (.iconst 0, 1) := by decide +kernel
theorem dX8_init_28 : decode cX8_init 28 = .ok (.putfield 19, 3) := by decide +kernel
theorem dX8_init_31 : decode cX8_init 31 = .ok (.aload_n 0, 1) := by decide +kernel
theorem dX8_init_32 : decode cX8_init 32 = .ok (.new 23, 3) := by decide +kernel
theorem dX8_init_35 : decode cX8_init 35 = .ok (.dup, 1) := by decide +kernel
theorem dX8_init_36 : decode cX8_init 36 = .ok (.invokespecial 25, 3) := by decide +kernel
theorem dX8_init_39 : decode cX8_init 39 = .ok (.putfield 26, 3) := by decide +kernel
theorem dX8_init_42 : decode cX8_init 42 = .ok (.aload_n 0, 1) := by decide +kernel
theorem dX8_init_43 : decode cX8_init 43 = .ok (.new 30, 3) := by decide +kernel
theorem dX8_init_46 : decode cX8_init 46 = .ok (.dup, 1) := by decide +kernel
theorem dX8_init_47 : decode cX8_init 47 = .ok (.invokespecial 32, 3) := by decide +kernel
theorem dX8_init_50 : decode cX8_init 50 = .ok (.putfield 33, 3) := by decide +kernel
theorem dX8_init_53 : decode cX8_init 53 = .ok (.aload_n 0, 1) := by decide +kernel
theorem dX8_init_54 : decode cX8_init 54 = .ok (.new 37, 3) := by decide +kernel
theorem dX8_init_57 : decode cX8_init 57 = .ok (.dup, 1) := by decide +kernel
theorem dX8_init_58 : decode cX8_init 58 = .ok (.iconst 0, 1) := by decide +kernel
theorem dX8_init_59 : decode cX8_init 59 = .ok (.invokespecial 39, 3) := by decide +kernel
theorem dX8_init_62 : decode cX8_init 62 = .ok (.putfield 42, 3) := by decide +kernel
theorem dX8_init_65 : decode cX8_init 65 = .ok (.aload_n 0, 1) := by decide +kernel
theorem dX8_init_66 : decode cX8_init 66 = .ok (.new 37, 3) := by decide +kernel
theorem dX8_init_69 : decode cX8_init 69 = .ok (.dup, 1) := by decide +kernel
theorem dX8_init_70 : decode cX8_init 70 = .ok (.iconst 1, 1) := by decide +kernel
theorem dX8_init_71 : decode cX8_init 71 = .ok (.invokespecial 39, 3) := by decide +kernel
theorem dX8_init_74 : decode cX8_init 74 = .ok (.putfield 46, 3) := by decide +kernel
theorem dX8_init_77 : decode cX8_init 77 = .ok (.return_, 1) := by decide +kernel
theorem dX8_paint_0 : decode cX8_paint 0 = .ok (.iload_n 1, 1) := by decide +kernel
theorem dX8_paint_1 : decode cX8_paint 1 = .ok (.bipush 10, 2) := by decide +kernel
theorem dX8_paint_3 : decode cX8_paint 3 = .ok (.invokestatic 49, 3) := by decide +kernel
theorem dX8_paint_6 : decode cX8_paint 6 = .ok (.ifCond .ne 5, 3) := by decide +kernel
theorem dX8_paint_9 : decode cX8_paint 9 = .ok (.iconst (-1), 1) := by decide +kernel
theorem dX8_paint_10 : decode cX8_paint 10 = .ok (.ireturn, 1) := by decide +kernel
theorem dX8_paint_11 : decode cX8_paint 11 = .ok (.iload_n 2, 1) := by decide +kernel
theorem dX8_paint_12 : decode cX8_paint 12 = .ok (.bipush 8, 2) := by decide +kernel
theorem dX8_paint_14 : decode cX8_paint 14 = .ok (.invokestatic 49, 3) := by decide +kernel
theorem dX8_paint_17 : decode cX8_paint 17 = .ok (.ifCond .eq 22, 3) := by decide +kernel
theorem dX8_paint_20 : decode cX8_paint 20 = .ok (.iload_n 3, 1) := by decide +kernel
theorem dX8_paint_21 : decode cX8_paint 21 = .ok (.bipush 8, 2) := by decide +kernel
theorem dX8_paint_23 : decode cX8_paint 23 = .ok (.invokestatic 49, 3) := by decide +kernel
theorem dX8_paint_26 : decode cX8_paint 26 = .ok (.ifCond .eq 13, 3) := by decide +kernel
theorem dX8_paint_29 : decode cX8_paint 29 = .ok (.iload 4, 2) := by decide +kernel
theorem dX8_paint_31 : decode cX8_paint 31 = .ok (.bipush 10, 2) := by decide +kernel
theorem dX8_paint_33 : decode cX8_paint 33 = .ok (.invokestatic 49, 3) := by decide +kernel
theorem dX8_paint_36 : decode cX8_paint 36 = .ok (.ifCond .ne 6, 3) := by decide +kernel
theorem dX8_paint_39 : decode cX8_paint 39 = .ok (.bipush (-2), 2) := by decide +kernel
theorem dX8_paint_41 : decode cX8_paint 41 = .ok (.ireturn, 1) := by decide +kernel
theorem dX8_paint_42 : decode cX8_paint 42 = .ok (.aload_n 0, 1) := by decide +kernel
theorem dX8_paint_43 : decode cX8_paint 43 = .ok (.invokevirtual 53, 3) := by decide +kernel
theorem dX8_paint_46 : decode cX8_paint 46 = .ok (.aload_n 0, 1) := by decide +kernel
theorem dX8_paint_47 : decode cX8_paint 47 = .ok (.getfield 10, 3) := by decide +kernel
theorem dX8_paint_50 : decode cX8_paint 50 = .ok (.getfield 56, 3) := by decide +kernel
theorem dX8_paint_53 : decode cX8_paint 53 = .ok (.iload_n 1, 1) := by decide +kernel
theorem dX8_paint_54 : decode cX8_paint 54 = .ok (.iload_n 2, 1) := by decide +kernel
theorem dX8_paint_55 : decode cX8_paint 55 = .ok (.iload_n 3, 1) := by decide +kernel
theorem dX8_paint_56 : decode cX8_paint 56 = .ok (.iload 4, 2) := by decide +kernel
theorem dX8_paint_58 : decode cX8_paint 58 = .ok (.invokevirtual 60, 3) := by decide +kernel
theorem dX8_paint_61 : decode cX8_paint 61 = .ok (.aload_n 0, 1) := by decide +kernel
theorem dX8_paint_62 : decode cX8_paint 62 = .ok (.getfield 10, 3) := by decide +kernel
theorem dX8_paint_65 : decode cX8_paint 65 = .ok (.getfield 56, 3) := by decide +kernel
theorem dX8_paint_68 : decode cX8_paint 68 = .ok (.iload_n 2, 1) := by decide +kernel
theorem dX8_paint_69 : decode cX8_paint 69 = .ok (.iload_n 3, 1) := by decide +kernel
theorem dX8_paint_70 : decode cX8_paint 70 = .ok (.invokevirtual 66, 3) := by decide +kernel
theorem dX8_paint_73 : decode cX8_paint 73 = .ok (.ireturn, 1) := by decide +kernel
theorem dX8_setStock_0 : decode cX8_setStock 0 = .ok (.iload_n 1, 1) := by decide +kernel
theorem dX8_setStock_1 : decode cX8_setStock 1 = .ok (.iconst 1, 1) := by decide +kernel
theorem dX8_setStock_2 : decode cX8_setStock 2 = .ok (.if_icmp .lt 8, 3) := by decide +kernel
theorem dX8_setStock_5 : decode cX8_setStock 5 = .ok (.iload_n 1, 1) := by decide +kernel
theorem dX8_setStock_6 : decode cX8_setStock 6 = .ok (.iconst 3, 1) := by decide +kernel
theorem dX8_setStock_7 : decode cX8_setStock 7 = .ok (.if_icmp .le 6, 3) := by decide +kernel
theorem dX8_setStock_10 : decode cX8_setStock 10 = .ok (.bipush (-2), 2) := by decide +kernel
theorem dX8_setStock_12 : decode cX8_setStock 12 = .ok (.ireturn, 1) := by decide +kernel
theorem dX8_setStock_13 : decode cX8_setStock 13 = .ok (.aload_n 0, 1) := by decide +kernel
theorem dX8_setStock_14 : decode cX8_setStock 14 = .ok (.getfield 10, 3) := by decide +kernel
theorem dX8_setStock_17 : decode cX8_setStock 17 = .ok (.getfield 70, 3) := by decide +kernel
theorem dX8_setStock_20 : decode cX8_setStock 20 = .ok (.invokevirtual 74, 3) := by decide +kernel
theorem dX8_setStock_23 : decode cX8_setStock 23 = .ok (.iload_n 1, 1) := by decide +kernel
theorem dX8_setStock_24 : decode cX8_setStock 24 = .ok (.if_icmp .le 6, 3) := by decide +kernel
theorem dX8_setStock_27 : decode cX8_setStock 27 = .ok (.bipush (-3), 2) := by decide +kernel
theorem dX8_setStock_29 : decode cX8_setStock 29 = .ok (.ireturn, 1) := by decide +kernel
theorem dX8_setStock_30 : decode cX8_setStock 30 = .ok (.aload_n 0, 1) := by decide +kernel
theorem dX8_setStock_31 : decode cX8_setStock 31 = .ok (.getfield 26, 3) := by decide +kernel
theorem dX8_setStock_34 : decode cX8_setStock 34 = .ok (.aload_n 0, 1) := by decide +kernel
theorem dX8_setStock_35 : decode cX8_setStock 35 = .ok (.getfield 10, 3) := by decide +kernel
theorem dX8_setStock_38 : decode cX8_setStock 38 = .ok (.invokevirtual 80, 3) := by decide +kernel
theorem dX8_setStock_41 : decode cX8_setStock 41 = .ok (.aload_n 0, 1) := by decide +kernel
theorem dX8_setStock_42 : decode cX8_setStock 42 = .ok (.getfield 10, 3) := by decide +kernel
theorem dX8_setStock_45 : decode cX8_setStock 45 = .ok (.getfield 84, 3) := by decide +kernel
theorem dX8_setStock_48 : decode cX8_setStock 48 = .ok (.istore_n 2, 1) := by decide +kernel
theorem dX8_setStock_49 : decode cX8_setStock 49 = .ok (.aload_n 0, 1) := by decide +kernel
theorem dX8_setStock_50 : decode cX8_setStock 50 = .ok (.getfield 10, 3) := by decide +kernel
theorem dX8_setStock_53 : decode cX8_setStock 53 = .ok (.iload_n 1, 1) := by decide +kernel
theorem dX8_setStock_54 : decode cX8_setStock 54 = .ok (.putfield 84, 3) := by decide +kernel
theorem dX8_setStock_57 : decode cX8_setStock 57 = .ok (.iload_n 2, 1) := by decide +kernel
theorem dX8_setStock_58 : decode cX8_setStock 58 = .ok (.ireturn, 1) := by decide +kernel
theorem dX8_setWind_0 : decode cX8_setWind 0 = .ok (.iload_n 1, 1) := by decide +kernel
theorem dX8_setWind_1 : decode cX8_setWind 1 = .ok (.bipush 10, 2) := by decide +kernel
theorem dX8_setWind_3 : decode cX8_setWind 3 = .ok (.invokestatic 49, 3) := by decide +kernel
theorem dX8_setWind_6 : decode cX8_setWind 6 = .ok (.ifCond .eq 11, 3) := by decide +kernel
theorem dX8_setWind_9 : decode cX8_setWind 9 = .ok (.iload_n 2, 1) := by decide +kernel
theorem dX8_setWind_10 : decode cX8_setWind 10 = .ok (.iconst 2, 1) := by decide +kernel
theorem dX8_setWind_11 : decode cX8_setWind 11 = .ok (.invokestatic 49, 3) := by decide +kernel
theorem dX8_setWind_14 : decode cX8_setWind 14 = .ok (.ifCond .ne 6, 3) := by decide +kernel
theorem dX8_setWind_17 : decode cX8_setWind 17 = .ok (.bipush (-2), 2) := by decide +kernel
theorem dX8_setWind_19 : decode cX8_setWind 19 = .ok (.ireturn, 1) := by decide +kernel
theorem dX8_setWind_20 : decode cX8_setWind 20 = .ok (.aload_n 0, 1) := by decide +kernel
theorem dX8_setWind_21 : decode cX8_setWind 21 = .ok (.invokevirtual 53, 3) := by decide +kernel
theorem dX8_setWind_24 : decode cX8_setWind 24 = .ok (.aload_n 0, 1) := by decide +kernel
theorem dX8_setWind_25 : decode cX8_setWind 25 = .ok (.getfield 10, 3) := by decide +kernel
theorem dX8_setWind_28 : decode cX8_setWind 28 = .ok (.getfield 88, 3) := by decide +kernel
theorem dX8_setWind_31 : decode cX8_setWind 31 = .ok (.istore_n 3, 1) := by decide +kernel
theorem dX8_setWind_32 : decode cX8_setWind 32 = .ok (.aload_n 0, 1) := by decide +kernel
theorem dX8_setWind_33 : decode cX8_setWind 33 = .ok (.getfield 10, 3) := by decide +kernel
theorem dX8_setWind_36 : decode cX8_setWind 36 = .ok (.iload_n 1, 1) := by decide +kernel
theorem dX8_setWind_37 : decode cX8_setWind 37 = .ok (.putfield 88, 3) := by decide +kernel
theorem dX8_setWind_40 : decode cX8_setWind 40 = .ok (.aload_n 0, 1) := by decide +kernel
theorem dX8_setWind_41 : decode cX8_setWind 41 = .ok (.getfield 10, 3) := by decide +kernel
theorem dX8_setWind_44 : decode cX8_setWind 44 = .ok (.iload_n 2, 1) := by decide +kernel
theorem dX8_setWind_45 : decode cX8_setWind 45 = .ok (.putfield 91, 3) := by decide +kernel
theorem dX8_setWind_48 : decode cX8_setWind 48 = .ok (.iload_n 3, 1) := by decide +kernel
theorem dX8_setWind_49 : decode cX8_setWind 49 = .ok (.ireturn, 1) := by decide +kernel
theorem dX8_flag_0 : decode cX8_flag 0 = .ok (.iload_n 1, 1) := by decide +kernel
theorem dX8_flag_1 : decode cX8_flag 1 = .ok (.bipush 10, 2) := by decide +kernel
theorem dX8_flag_3 : decode cX8_flag 3 = .ok (.invokestatic 49, 3) := by decide +kernel
theorem dX8_flag_6 : decode cX8_flag 6 = .ok (.ifCond .ne 5, 3) := by decide +kernel
theorem dX8_flag_9 : decode cX8_flag 9 = .ok (.iconst (-1), 1) := by decide +kernel
theorem dX8_flag_10 : decode cX8_flag 10 = .ok (.ireturn, 1) := by decide +kernel
theorem dX8_flag_11 : decode cX8_flag 11 = .ok (.iload_n 2, 1) := by decide +kernel
theorem dX8_flag_12 : decode cX8_flag 12 = .ok (.tableswitch 125 0 4 #[36, 48, 60, 72, 92], 36) := by decide +kernel
theorem dX8_flag_48 : decode cX8_flag 48 = .ok (.aload_n 0, 1) := by decide +kernel
theorem dX8_flag_49 : decode cX8_flag 49 = .ok (.getfield 10, 3) := by decide +kernel
theorem dX8_flag_52 : decode cX8_flag 52 = .ok (.getfield 56, 3) := by decide +kernel
theorem dX8_flag_55 : decode cX8_flag 55 = .ok (.iload_n 1, 1) := by decide +kernel
theorem dX8_flag_56 : decode cX8_flag 56 = .ok (.invokevirtual 94, 3) := by decide +kernel
theorem dX8_flag_59 : decode cX8_flag 59 = .ok (.ireturn, 1) := by decide +kernel
theorem dX8_flag_60 : decode cX8_flag 60 = .ok (.aload_n 0, 1) := by decide +kernel
theorem dX8_flag_61 : decode cX8_flag 61 = .ok (.getfield 10, 3) := by decide +kernel
theorem dX8_flag_64 : decode cX8_flag 64 = .ok (.getfield 56, 3) := by decide +kernel
theorem dX8_flag_67 : decode cX8_flag 67 = .ok (.iload_n 1, 1) := by decide +kernel
theorem dX8_flag_68 : decode cX8_flag 68 = .ok (.invokevirtual 98, 3) := by decide +kernel
theorem dX8_flag_71 : decode cX8_flag 71 = .ok (.ireturn, 1) := by decide +kernel
theorem dX8_flag_72 : decode cX8_flag 72 = .ok (.aload_n 0, 1) := by decide +kernel
theorem dX8_flag_73 : decode cX8_flag 73 = .ok (.getfield 10, 3) := by decide +kernel
theorem dX8_flag_76 : decode cX8_flag 76 = .ok (.getfield 56, 3) := by decide +kernel
theorem dX8_flag_79 : decode cX8_flag 79 = .ok (.iload_n 1, 1) := by decide +kernel
theorem dX8_flag_80 : decode cX8_flag 80 = .ok (.invokevirtual 101, 3) := by decide +kernel
theorem dX8_flag_83 : decode cX8_flag 83 = .ok (.ireturn, 1) := by decide +kernel
theorem dX8_flag_84 : decode cX8_flag 84 = .ok (.aload_n 0, 1) := by decide +kernel
theorem dX8_flag_85 : decode cX8_flag 85 = .ok (.getfield 10, 3) := by decide +kernel
theorem dX8_flag_88 : decode cX8_flag 88 = .ok (.getfield 84, 3) := by decide +kernel
theorem dX8_flag_91 : decode cX8_flag 91 = .ok (.aload_n 0, 1) := by decide +kernel
theorem dX8_flag_92 : decode cX8_flag 92 = .ok (.getfield 10, 3) := by decide +kernel
theorem dX8_flag_95 : decode cX8_flag 95 = .ok (.getfield 70, 3) := by decide +kernel
theorem dX8_flag_98 : decode cX8_flag 98 = .ok (.iload_n 1, 1) := by decide +kernel
theorem dX8_flag_99 : decode cX8_flag 99 = .ok (.invokevirtual 104, 3) := by decide +kernel
theorem dX8_flag_102 : decode cX8_flag 102 = .ok (.isub, 1) := by decide +kernel
theorem dX8_flag_103 : decode cX8_flag 103 = .ok (.ireturn, 1) := by decide +kernel
theorem dX8_flag_104 : decode cX8_flag 104 = .ok (.aload_n 0, 1) := by decide +kernel
theorem dX8_flag_105 : decode cX8_flag 105 = .ok (.getfield 10, 3) := by decide +kernel
theorem dX8_flag_108 : decode cX8_flag 108 = .ok (.getfield 56, 3) := by decide +kernel
theorem dX8_flag_111 : decode cX8_flag 111 = .ok (.aload_n 0, 1) := by decide +kernel
theorem dX8_flag_112 : decode cX8_flag 112 = .ok (.getfield 10, 3) := by decide +kernel
theorem dX8_flag_115 : decode cX8_flag 115 = .ok (.getfield 56, 3) := by decide +kernel
theorem dX8_flag_118 : decode cX8_flag 118 = .ok (.iload_n 1, 1) := by decide +kernel
theorem dX8_flag_119 : decode cX8_flag 119 = .ok (.invokevirtual 98, 3) := by decide +kernel
theorem dX8_flag_122 : decode cX8_flag 122 = .ok (.aload_n 0, 1) := by decide +kernel
theorem dX8_flag_123 : decode cX8_flag 123 = .ok (.getfield 10, 3) := by decide +kernel
theorem dX8_flag_126 : decode cX8_flag 126 = .ok (.getfield 56, 3) := by decide +kernel
theorem dX8_flag_129 : decode cX8_flag 129 = .ok (.iload_n 1, 1) := by decide +kernel
theorem dX8_flag_130 : decode cX8_flag 130 = .ok (.invokevirtual 94, 3) := by decide +kernel
theorem dX8_flag_133 : decode cX8_flag 133 = .ok (.invokevirtual 107, 3) := by decide +kernel
theorem dX8_flag_136 : decode cX8_flag 136 = .ok (.ireturn, 1) := by decide +kernel
theorem dX8_flag_137 : decode cX8_flag 137 = .ok (.bipush (-2), 2) := by decide +kernel
theorem dX8_flag_139 : decode cX8_flag 139 = .ok (.ireturn, 1) := by decide +kernel
theorem dX8_bend_0 : decode cX8_bend 0 = .ok (.iload_n 1, 1) := by decide +kernel
theorem dX8_bend_1 : decode cX8_bend 1 = .ok (.iconst 5, 1) := by decide +kernel
theorem dX8_bend_2 : decode cX8_bend 2 = .ok (.invokestatic 49, 3) := by decide +kernel
theorem dX8_bend_5 : decode cX8_bend 5 = .ok (.ifCond .eq 10, 3) := by decide +kernel
theorem dX8_bend_8 : decode cX8_bend 8 = .ok (.iload_n 2, 1) := by decide +kernel
theorem dX8_bend_9 : decode cX8_bend 9 = .ok (.invokestatic 110, 3) := by decide +kernel
theorem dX8_bend_12 : decode cX8_bend 12 = .ok (.ifCond .ne 5, 3) := by decide +kernel
theorem dX8_bend_15 : decode cX8_bend 15 = .ok (.iconst (-1), 1) := by decide +kernel
theorem dX8_bend_16 : decode cX8_bend 16 = .ok (.ireturn, 1) := by decide +kernel
theorem dX8_bend_17 : decode cX8_bend 17 = .ok (.aload_n 0, 1) := by decide +kernel
theorem dX8_bend_18 : decode cX8_bend 18 = .ok (.getfield 10, 3) := by decide +kernel
theorem dX8_bend_21 : decode cX8_bend 21 = .ok (.getfield 70, 3) := by decide +kernel
theorem dX8_bend_24 : decode cX8_bend 24 = .ok (.iload_n 1, 1) := by decide +kernel
theorem dX8_bend_25 : decode cX8_bend 25 = .ok (.invokevirtual 114, 3) := by decide +kernel
theorem dX8_bend_28 : decode cX8_bend 28 = .ok (.istore_n 3, 1) := by decide +kernel
theorem dX8_bend_29 : decode cX8_bend 29 = .ok (.iload_n 2, 1) := by decide +kernel
theorem dX8_bend_30 : decode cX8_bend 30 = .ok (.bipush 10, 2) := by decide +kernel
theorem dX8_bend_32 : decode cX8_bend 32 = .ok (.if_icmp .le 14, 3) := by decide +kernel
theorem dX8_bend_35 : decode cX8_bend 35 = .ok (.iload_n 2, 1) := by decide +kernel
theorem dX8_bend_36 : decode cX8_bend 36 = .ok (.bipush 10, 2) := by decide +kernel
theorem dX8_bend_38 : decode cX8_bend 38 = .ok (.isub, 1) := by decide +kernel
theorem dX8_bend_39 : decode cX8_bend 39 = .ok (.iload_n 3, 1) := by decide +kernel
theorem dX8_bend_40 : decode cX8_bend 40 = .ok (.if_icmp .le 6, 3) := by decide +kernel
theorem dX8_bend_43 : decode cX8_bend 43 = .ok (.bipush (-3), 2) := by decide +kernel
theorem dX8_bend_45 : decode cX8_bend 45 = .ok (.ireturn, 1) := by decide +kernel
theorem dX8_bend_46 : decode cX8_bend 46 = .ok (.iload_n 3, 1) := by decide +kernel
theorem dX8_bend_47 : decode cX8_bend 47 = .ok (.iconst 4, 1) := by decide +kernel
theorem dX8_bend_48 : decode cX8_bend 48 = .ok (.if_icmp .ge 24, 3) := by decide +kernel
theorem dX8_bend_51 : decode cX8_bend 51 = .ok (.aload_n 0, 1) := by decide +kernel
theorem dX8_bend_52 : decode cX8_bend 52 = .ok (.getfield 10, 3) := by decide +kernel
theorem dX8_bend_55 : decode cX8_bend 55 = .ok (.getfield 70, 3) := by decide +kernel
theorem dX8_bend_58 : decode cX8_bend 58 = .ok (.iload_n 2, 1) := by decide +kernel
theorem dX8_bend_59 : decode cX8_bend 59 = .ok (.invokevirtual 104, 3) := by decide +kernel
theorem dX8_bend_62 : decode cX8_bend 62 = .ok (.aload_n 0, 1) := by decide +kernel
theorem dX8_bend_63 : decode cX8_bend 63 = .ok (.getfield 10, 3) := by decide +kernel
theorem dX8_bend_66 : decode cX8_bend 66 = .ok (.getfield 84, 3) := by decide +kernel
theorem dX8_bend_69 : decode cX8_bend 69 = .ok (.if_icmp .lt 6, 3) := by decide +kernel
theorem dX8_bend_72 : decode cX8_bend 72 = .ok (.bipush (-4), 2) := by decide +kernel
theorem dX8_bend_74 : decode cX8_bend 74 = .ok (.ireturn, 1) := by decide +kernel
theorem dX8_bend_75 : decode cX8_bend 75 = .ok (.aload_n 0, 1) := by decide +kernel
theorem dX8_bend_76 : decode cX8_bend 76 = .ok (.invokevirtual 53, 3) := by decide +kernel
theorem dX8_bend_79 : decode cX8_bend 79 = .ok (.aload_n 0, 1) := by decide +kernel
theorem dX8_bend_80 : decode cX8_bend 80 = .ok (.getfield 10, 3) := by decide +kernel
theorem dX8_bend_83 : decode cX8_bend 83 = .ok (.getfield 70, 3) := by decide +kernel
theorem dX8_bend_86 : decode cX8_bend 86 = .ok (.iload_n 1, 1) := by decide +kernel
theorem dX8_bend_87 : decode cX8_bend 87 = .ok (.iload_n 2, 1) := by decide +kernel
theorem dX8_bend_88 : decode cX8_bend 88 = .ok (.invokevirtual 117, 3) := by decide +kernel
theorem dX8_bend_91 : decode cX8_bend 91 = .ok (.iload_n 3, 1) := by decide +kernel
theorem dX8_bend_92 : decode cX8_bend 92 = .ok (.iconst 1, 1) := by decide +kernel
theorem dX8_bend_93 : decode cX8_bend 93 = .ok (.iadd, 1) := by decide +kernel
theorem dX8_bend_94 : decode cX8_bend 94 = .ok (.ireturn, 1) := by decide +kernel
theorem dX8_unbend_0 : decode cX8_unbend 0 = .ok (.iload_n 1, 1) := by decide +kernel
theorem dX8_unbend_1 : decode cX8_unbend 1 = .ok (.iconst 5, 1) := by decide +kernel
theorem dX8_unbend_2 : decode cX8_unbend 2 = .ok (.invokestatic 49, 3) := by decide +kernel
theorem dX8_unbend_5 : decode cX8_unbend 5 = .ok (.ifCond .ne 5, 3) := by decide +kernel
theorem dX8_unbend_8 : decode cX8_unbend 8 = .ok (.iconst (-1), 1) := by decide +kernel
theorem dX8_unbend_9 : decode cX8_unbend 9 = .ok (.ireturn, 1) := by decide +kernel
theorem dX8_unbend_10 : decode cX8_unbend 10 = .ok (.aload_n 0, 1) := by decide +kernel
theorem dX8_unbend_11 : decode cX8_unbend 11 = .ok (.getfield 10, 3) := by decide +kernel
theorem dX8_unbend_14 : decode cX8_unbend 14 = .ok (.getfield 70, 3) := by decide +kernel
theorem dX8_unbend_17 : decode cX8_unbend 17 = .ok (.iload_n 1, 1) := by decide +kernel
theorem dX8_unbend_18 : decode cX8_unbend 18 = .ok (.invokevirtual 114, 3) := by decide +kernel
theorem dX8_unbend_21 : decode cX8_unbend 21 = .ok (.ifCond .ne 6, 3) := by decide +kernel
theorem dX8_unbend_24 : decode cX8_unbend 24 = .ok (.bipush (-3), 2) := by decide +kernel
theorem dX8_unbend_26 : decode cX8_unbend 26 = .ok (.ireturn, 1) := by decide +kernel
theorem dX8_unbend_27 : decode cX8_unbend 27 = .ok (.aload_n 0, 1) := by decide +kernel
theorem dX8_unbend_28 : decode cX8_unbend 28 = .ok (.invokevirtual 53, 3) := by decide +kernel
theorem dX8_unbend_31 : decode cX8_unbend 31 = .ok (.aload_n 0, 1) := by decide +kernel
theorem dX8_unbend_32 : decode cX8_unbend 32 = .ok (.getfield 10, 3) := by decide +kernel
theorem dX8_unbend_35 : decode cX8_unbend 35 = .ok (.getfield 70, 3) := by decide +kernel
theorem dX8_unbend_38 : decode cX8_unbend 38 = .ok (.iload_n 1, 1) := by decide +kernel
theorem dX8_unbend_39 : decode cX8_unbend 39 = .ok (.invokevirtual 121, 3) := by decide +kernel
theorem dX8_unbend_42 : decode cX8_unbend 42 = .ok (.ireturn, 1) := by decide +kernel
theorem dX8_exchange_0 : decode cX8_exchange 0 = .ok (.iload_n 1, 1) := by decide +kernel
theorem dX8_exchange_1 : decode cX8_exchange 1 = .ok (.iconst 5, 1) := by decide +kernel
theorem dX8_exchange_2 : decode cX8_exchange 2 = .ok (.invokestatic 49, 3) := by decide +kernel
theorem dX8_exchange_5 : decode cX8_exchange 5 = .ok (.ifCond .eq 11, 3) := by decide +kernel
theorem dX8_exchange_8 : decode cX8_exchange 8 = .ok (.iload_n 2, 1) := by decide +kernel
theorem dX8_exchange_9 : decode cX8_exchange 9 = .ok (.iconst 5, 1) := by decide +kernel
theorem dX8_exchange_10 : decode cX8_exchange 10 = .ok (.invokestatic 49, 3) := by decide +kernel
theorem dX8_exchange_13 : decode cX8_exchange 13 = .ok (.ifCond .ne 5, 3) := by decide +kernel
theorem dX8_exchange_16 : decode cX8_exchange 16 = .ok (.iconst (-1), 1) := by decide +kernel
theorem dX8_exchange_17 : decode cX8_exchange 17 = .ok (.ireturn, 1) := by decide +kernel
theorem dX8_exchange_18 : decode cX8_exchange 18 = .ok (.iload_n 1, 1) := by decide +kernel
theorem dX8_exchange_19 : decode cX8_exchange 19 = .ok (.iload_n 2, 1) := by decide +kernel
theorem dX8_exchange_20 : decode cX8_exchange 20 = .ok (.if_icmp .ne 6, 3) := by decide +kernel
theorem dX8_exchange_23 : decode cX8_exchange 23 = .ok (.bipush (-2), 2) := by decide +kernel
theorem dX8_exchange_25 : decode cX8_exchange 25 = .ok (.ireturn, 1) := by decide +kernel
theorem dX8_exchange_26 : decode cX8_exchange 26 = .ok (.aload_n 0, 1) := by decide +kernel
theorem dX8_exchange_27 : decode cX8_exchange 27 = .ok (.invokevirtual 53, 3) := by decide +kernel
theorem dX8_exchange_30 : decode cX8_exchange 30 = .ok (.aload_n 0, 1) := by decide +kernel
theorem dX8_exchange_31 : decode cX8_exchange 31 = .ok (.getfield 10, 3) := by decide +kernel
theorem dX8_exchange_34 : decode cX8_exchange 34 = .ok (.getfield 70, 3) := by decide +kernel
theorem dX8_exchange_37 : decode cX8_exchange 37 = .ok (.iload_n 1, 1) := by decide +kernel
theorem dX8_exchange_38 : decode cX8_exchange 38 = .ok (.iload_n 2, 1) := by decide +kernel
theorem dX8_exchange_39 : decode cX8_exchange 39 = .ok (.invokevirtual 124, 3) := by decide +kernel
theorem dX8_exchange_42 : decode cX8_exchange 42 = .ok (.aload_n 0, 1) := by decide +kernel
theorem dX8_exchange_43 : decode cX8_exchange 43 = .ok (.getfield 10, 3) := by decide +kernel
theorem dX8_exchange_46 : decode cX8_exchange 46 = .ok (.getfield 70, 3) := by decide +kernel
theorem dX8_exchange_49 : decode cX8_exchange 49 = .ok (.iload_n 1, 1) := by decide +kernel
theorem dX8_exchange_50 : decode cX8_exchange 50 = .ok (.invokevirtual 114, 3) := by decide +kernel
theorem dX8_exchange_53 : decode cX8_exchange 53 = .ok (.aload_n 0, 1) := by decide +kernel
theorem dX8_exchange_54 : decode cX8_exchange 54 = .ok (.getfield 10, 3) := by decide +kernel
theorem dX8_exchange_57 : decode cX8_exchange 57 = .ok (.getfield 70, 3) := by decide +kernel
theorem dX8_exchange_60 : decode cX8_exchange 60 = .ok (.iload_n 2, 1) := by decide +kernel
theorem dX8_exchange_61 : decode cX8_exchange 61 = .ok (.invokevirtual 114, 3) := by decide +kernel
theorem dX8_exchange_64 : decode cX8_exchange 64 = .ok (.iadd, 1) := by decide +kernel
theorem dX8_exchange_65 : decode cX8_exchange 65 = .ok (.ireturn, 1) := by decide +kernel
theorem dX8_lower_0 : decode cX8_lower 0 = .ok (.aload_n 0, 1) := by decide +kernel
theorem dX8_lower_1 : decode cX8_lower 1 = .ok (.getfield 10, 3) := by decide +kernel
theorem dX8_lower_4 : decode cX8_lower 4 = .ok (.getfield 127, 3) := by decide +kernel
theorem dX8_lower_7 : decode cX8_lower 7 = .ok (.iconst 2, 1) := by decide +kernel
theorem dX8_lower_8 : decode cX8_lower 8 = .ok (.if_icmp .ne 7, 3) := by decide +kernel
theorem dX8_lower_11 : decode cX8_lower 11 = .ok (.iconst 1, 1) := by decide +kernel
theorem dX8_lower_12 : decode cX8_lower 12 = .ok (.goto 4, 3) := by decide +kernel
theorem dX8_lower_15 : decode cX8_lower 15 = .ok (.iconst 0, 1) := by decide +kernel
theorem dX8_lower_16 : decode cX8_lower 16 = .ok (.istore_n 1, 1) := by decide +kernel
theorem dX8_lower_17 : decode cX8_lower 17 = .ok (.aload_n 0, 1) := by decide +kernel
theorem dX8_lower_18 : decode cX8_lower 18 = .ok (.invokevirtual 53, 3) := by decide +kernel
theorem dX8_lower_21 : decode cX8_lower 21 = .ok (.iconst 0, 1) := by decide +kernel
theorem dX8_lower_22 : decode cX8_lower 22 = .ok (.istore_n 2, 1) := by decide +kernel
theorem dX8_lower_23 : decode cX8_lower 23 = .ok (.iload_n 1, 1) := by decide +kernel
theorem dX8_lower_24 : decode cX8_lower 24 = .ok (.ifCond .eq 35, 3) := by decide +kernel
theorem dX8_lower_27 : decode cX8_lower 27 = .ok (.aload_n 0, 1) := by decide +kernel
theorem dX8_lower_28 : decode cX8_lower 28 = .ok (.aload_n 0, 1) := by decide +kernel
theorem dX8_lower_29 : decode cX8_lower 29 = .ok (.getfield 10, 3) := by decide +kernel
theorem dX8_lower_32 : decode cX8_lower 32 = .ok (.getfield 130, 3) := by decide +kernel
theorem dX8_lower_35 : decode cX8_lower 35 = .ok (.invokevirtual 133, 3) := by decide +kernel
theorem dX8_lower_38 : decode cX8_lower 38 = .ok (.astore_n 3, 1) := by decide +kernel
theorem dX8_lower_39 : decode cX8_lower 39 = .ok (.aload_n 3, 1) := by decide +kernel
theorem dX8_lower_40 : decode cX8_lower 40 = .ok (.invokevirtual 137, 3) := by decide +kernel
theorem dX8_lower_43 : decode cX8_lower 43 = .ok (.istore_n 2, 1) := by decide +kernel
theorem dX8_lower_44 : decode cX8_lower 44 = .ok (.aload_n 0, 1) := by decide +kernel
theorem dX8_lower_45 : decode cX8_lower 45 = .ok (.getfield 10, 3) := by decide +kernel
theorem dX8_lower_48 : decode cX8_lower 48 = .ok (.getfield 140, 3) := by decide +kernel
theorem dX8_lower_51 : decode cX8_lower 51 = .ok (.aload_n 3, 1) := by decide +kernel
theorem dX8_lower_52 : decode cX8_lower 52 = .ok (.getfield 144, 3) := by decide +kernel
theorem dX8_lower_55 : decode cX8_lower 55 = .ok (.iload_n 2, 1) := by decide +kernel
theorem dX8_lower_56 : decode cX8_lower 56 = .ok (.invokevirtual 148, 3) := by decide +kernel
theorem dX8_lower_59 : decode cX8_lower 59 = .ok (.aload_n 0, 1) := by decide +kernel
theorem dX8_lower_60 : decode cX8_lower 60 = .ok (.getfield 10, 3) := by decide +kernel
theorem dX8_lower_63 : decode cX8_lower 63 = .ok (.getfield 70, 3) := by decide +kernel
theorem dX8_lower_66 : decode cX8_lower 66 = .ok (.invokevirtual 153, 3) := by decide +kernel
theorem dX8_lower_69 : decode cX8_lower 69 = .ok (.iload_n 2, 1) := by decide +kernel
theorem dX8_lower_70 : decode cX8_lower 70 = .ok (.ireturn, 1) := by decide +kernel
theorem dX8_sign_0 : decode cX8_sign 0 = .ok (.aload_n 0, 1) := by decide +kernel
theorem dX8_sign_1 : decode cX8_sign 1 = .ok (.getfield 10, 3) := by decide +kernel
theorem dX8_sign_4 : decode cX8_sign 4 = .ok (.getfield 70, 3) := by decide +kernel
theorem dX8_sign_7 : decode cX8_sign 7 = .ok (.iload_n 1, 1) := by decide +kernel
theorem dX8_sign_8 : decode cX8_sign 8 = .ok (.iload_n 2, 1) := by decide +kernel
theorem dX8_sign_9 : decode cX8_sign 9 = .ok (.invokevirtual 156, 3) := by decide +kernel
theorem dX8_sign_12 : decode cX8_sign 12 = .ok (.ifCond .ne 5, 3) := by decide +kernel
theorem dX8_sign_15 : decode cX8_sign 15 = .ok (.iconst (-1), 1) := by decide +kernel
theorem dX8_sign_16 : decode cX8_sign 16 = .ok (.ireturn, 1) := by decide +kernel
theorem dX8_sign_17 : decode cX8_sign 17 = .ok (.iload_n 3, 1) := by decide +kernel
theorem dX8_sign_18 : decode cX8_sign 18 = .ok (.tableswitch 90 0 2 #[26, 39, 52], 26) := by decide +kernel
theorem dX8_sign_44 : decode cX8_sign 44 = .ok (.aload_n 0, 1) := by decide +kernel
theorem dX8_sign_45 : decode cX8_sign 45 = .ok (.getfield 10, 3) := by decide +kernel
theorem dX8_sign_48 : decode cX8_sign 48 = .ok (.getfield 70, 3) := by decide +kernel
theorem dX8_sign_51 : decode cX8_sign 51 = .ok (.iload_n 1, 1) := by decide +kernel
theorem dX8_sign_52 : decode cX8_sign 52 = .ok (.iload_n 2, 1) := by decide +kernel
theorem dX8_sign_53 : decode cX8_sign 53 = .ok (.invokevirtual 159, 3) := by decide +kernel
theorem dX8_sign_56 : decode cX8_sign 56 = .ok (.ireturn, 1) := by decide +kernel
theorem dX8_sign_57 : decode cX8_sign 57 = .ok (.aload_n 0, 1) := by decide +kernel
theorem dX8_sign_58 : decode cX8_sign 58 = .ok (.getfield 10, 3) := by decide +kernel
theorem dX8_sign_61 : decode cX8_sign 61 = .ok (.getfield 70, 3) := by decide +kernel
theorem dX8_sign_64 : decode cX8_sign 64 = .ok (.iload_n 1, 1) := by decide +kernel
theorem dX8_sign_65 : decode cX8_sign 65 = .ok (.iload_n 2, 1) := by decide +kernel
theorem dX8_sign_66 : decode cX8_sign 66 = .ok (.invokevirtual 162, 3) := by decide +kernel
theorem dX8_sign_69 : decode cX8_sign 69 = .ok (.ireturn, 1) := by decide +kernel
theorem dX8_sign_70 : decode cX8_sign 70 = .ok (.aload_n 0, 1) := by decide +kernel
theorem dX8_sign_71 : decode cX8_sign 71 = .ok (.getfield 10, 3) := by decide +kernel
theorem dX8_sign_74 : decode cX8_sign 74 = .ok (.getfield 56, 3) := by decide +kernel
theorem dX8_sign_77 : decode cX8_sign 77 = .ok (.aload_n 0, 1) := by decide +kernel
theorem dX8_sign_78 : decode cX8_sign 78 = .ok (.getfield 10, 3) := by decide +kernel
theorem dX8_sign_81 : decode cX8_sign 81 = .ok (.getfield 70, 3) := by decide +kernel
theorem dX8_sign_84 : decode cX8_sign 84 = .ok (.iload_n 1, 1) := by decide +kernel
theorem dX8_sign_85 : decode cX8_sign 85 = .ok (.iload_n 2, 1) := by decide +kernel
theorem dX8_sign_86 : decode cX8_sign 86 = .ok (.invokevirtual 162, 3) := by decide +kernel
theorem dX8_sign_89 : decode cX8_sign 89 = .ok (.invokevirtual 101, 3) := by decide +kernel
theorem dX8_sign_92 : decode cX8_sign 92 = .ok (.aload_n 0, 1) := by decide +kernel
theorem dX8_sign_93 : decode cX8_sign 93 = .ok (.getfield 10, 3) := by decide +kernel
theorem dX8_sign_96 : decode cX8_sign 96 = .ok (.getfield 88, 3) := by decide +kernel
theorem dX8_sign_99 : decode cX8_sign 99 = .ok (.if_icmp .le 7, 3) := by decide +kernel
theorem dX8_sign_102 : decode cX8_sign 102 = .ok (.iconst 1, 1) := by decide +kernel
theorem dX8_sign_103 : decode cX8_sign 103 = .ok (.goto 4, 3) := by decide +kernel
theorem dX8_sign_106 : decode cX8_sign 106 = .ok (.iconst 0, 1) := by decide +kernel
theorem dX8_sign_107 : decode cX8_sign 107 = .ok (.ireturn, 1) := by decide +kernel
theorem dX8_sign_108 : decode cX8_sign 108 = .ok (.bipush (-2), 2) := by decide +kernel
theorem dX8_sign_110 : decode cX8_sign 110 = .ok (.ireturn, 1) := by decide +kernel
theorem dX8_enter_0 : decode cX8_enter 0 = .ok (.iload_n 1, 1) := by decide +kernel
theorem dX8_enter_1 : decode cX8_enter 1 = .ok (.invokestatic 165, 3) := by decide +kernel
theorem dX8_enter_4 : decode cX8_enter 4 = .ok (.ifCond .eq 12, 3) := by decide +kernel
theorem dX8_enter_7 : decode cX8_enter 7 = .ok (.iload_n 2, 1) := by decide +kernel
theorem dX8_enter_8 : decode cX8_enter 8 = .ok (.bipush 100, 2) := by decide +kernel
theorem dX8_enter_10 : decode cX8_enter 10 = .ok (.invokestatic 49, 3) := by decide +kernel
theorem dX8_enter_13 : decode cX8_enter 13 = .ok (.ifCond .ne 6, 3) := by decide +kernel
theorem dX8_enter_16 : decode cX8_enter 16 = .ok (.bipush (-2), 2) := by decide +kernel
theorem dX8_enter_18 : decode cX8_enter 18 = .ok (.ireturn, 1) := by decide +kernel
theorem dX8_enter_19 : decode cX8_enter 19 = .ok (.aload_n 0, 1) := by decide +kernel
theorem dX8_enter_20 : decode cX8_enter 20 = .ok (.getfield 10, 3) := by decide +kernel
theorem dX8_enter_23 : decode cX8_enter 23 = .ok (.getfield 168, 3) := by decide +kernel
theorem dX8_enter_26 : decode cX8_enter 26 = .ok (.invokevirtual 172, 3) := by decide +kernel
theorem dX8_enter_29 : decode cX8_enter 29 = .ok (.bipush 12, 2) := by decide +kernel
theorem dX8_enter_31 : decode cX8_enter 31 = .ok (.if_icmp .lt 6, 3) := by decide +kernel
theorem dX8_enter_34 : decode cX8_enter 34 = .ok (.bipush (-4), 2) := by decide +kernel
theorem dX8_enter_36 : decode cX8_enter 36 = .ok (.ireturn, 1) := by decide +kernel
theorem dX8_enter_37 : decode cX8_enter 37 = .ok (.aload_n 0, 1) := by decide +kernel
theorem dX8_enter_38 : decode cX8_enter 38 = .ok (.invokevirtual 53, 3) := by decide +kernel
theorem dX8_enter_41 : decode cX8_enter 41 = .ok (.aload_n 0, 1) := by decide +kernel
theorem dX8_enter_42 : decode cX8_enter 42 = .ok (.getfield 10, 3) := by decide +kernel
theorem dX8_enter_45 : decode cX8_enter 45 = .ok (.getfield 168, 3) := by decide +kernel
theorem dX8_enter_48 : decode cX8_enter 48 = .ok (.iload_n 1, 1) := by decide +kernel
theorem dX8_enter_49 : decode cX8_enter 49 = .ok (.iload_n 2, 1) := by decide +kernel
theorem dX8_enter_50 : decode cX8_enter 50 = .ok (.invokevirtual 175, 3) := by decide +kernel
theorem dX8_enter_53 : decode cX8_enter 53 = .ok (.aload_n 0, 1) := by decide +kernel
theorem dX8_enter_54 : decode cX8_enter 54 = .ok (.getfield 10, 3) := by decide +kernel
theorem dX8_enter_57 : decode cX8_enter 57 = .ok (.getfield 168, 3) := by decide +kernel
theorem dX8_enter_60 : decode cX8_enter 60 = .ok (.invokevirtual 172, 3) := by decide +kernel
theorem dX8_enter_63 : decode cX8_enter 63 = .ok (.ireturn, 1) := by decide +kernel
theorem dX8_strike_0 : decode cX8_strike 0 = .ok (.iload_n 1, 1) := by decide +kernel
theorem dX8_strike_1 : decode cX8_strike 1 = .ok (.aload_n 0, 1) := by decide +kernel
theorem dX8_strike_2 : decode cX8_strike 2 = .ok (.getfield 10, 3) := by decide +kernel
theorem dX8_strike_5 : decode cX8_strike 5 = .ok (.getfield 168, 3) := by decide +kernel
theorem dX8_strike_8 : decode cX8_strike 8 = .ok (.invokevirtual 172, 3) := by decide +kernel
theorem dX8_strike_11 : decode cX8_strike 11 = .ok (.invokestatic 49, 3) := by decide +kernel
theorem dX8_strike_14 : decode cX8_strike 14 = .ok (.ifCond .ne 5, 3) := by decide +kernel
theorem dX8_strike_17 : decode cX8_strike 17 = .ok (.iconst (-1), 1) := by decide +kernel
theorem dX8_strike_18 : decode cX8_strike 18 = .ok (.ireturn, 1) := by decide +kernel
theorem dX8_strike_19 : decode cX8_strike 19 = .ok (.aload_n 0, 1) := by decide +kernel
theorem dX8_strike_20 : decode cX8_strike 20 = .ok (.invokevirtual 53, 3) := by decide +kernel
theorem dX8_strike_23 : decode cX8_strike 23 = .ok (.aload_n 0, 1) := by decide +kernel
theorem dX8_strike_24 : decode cX8_strike 24 = .ok (.getfield 10, 3) := by decide +kernel
theorem dX8_strike_27 : decode cX8_strike 27 = .ok (.getfield 168, 3) := by decide +kernel
theorem dX8_strike_30 : decode cX8_strike 30 = .ok (.iload_n 1, 1) := by decide +kernel
theorem dX8_strike_31 : decode cX8_strike 31 = .ok (.invokevirtual 176, 3) := by decide +kernel
theorem dX8_strike_34 : decode cX8_strike 34 = .ok (.ireturn, 1) := by decide +kernel
theorem dX8_entry_0 : decode cX8_entry 0 = .ok (.iload_n 1, 1) := by decide +kernel
theorem dX8_entry_1 : decode cX8_entry 1 = .ok (.aload_n 0, 1) := by decide +kernel
theorem dX8_entry_2 : decode cX8_entry 2 = .ok (.getfield 10, 3) := by decide +kernel
theorem dX8_entry_5 : decode cX8_entry 5 = .ok (.getfield 168, 3) := by decide +kernel
theorem dX8_entry_8 : decode cX8_entry 8 = .ok (.invokevirtual 172, 3) := by decide +kernel
theorem dX8_entry_11 : decode cX8_entry 11 = .ok (.invokestatic 49, 3) := by decide +kernel
theorem dX8_entry_14 : decode cX8_entry 14 = .ok (.ifCond .ne 5, 3) := by decide +kernel
theorem dX8_entry_17 : decode cX8_entry 17 = .ok (.iconst (-1), 1) := by decide +kernel
theorem dX8_entry_18 : decode cX8_entry 18 = .ok (.ireturn, 1) := by decide +kernel
theorem dX8_entry_19 : decode cX8_entry 19 = .ok (.iload_n 2, 1) := by decide +kernel
theorem dX8_entry_20 : decode cX8_entry 20 = .ok (.lookupswitch 52 #[(0, 28), (1, 40)], 28) := by decide +kernel
theorem dX8_entry_48 : decode cX8_entry 48 = .ok (.aload_n 0, 1) := by decide +kernel
theorem dX8_entry_49 : decode cX8_entry 49 = .ok (.getfield 10, 3) := by decide +kernel
theorem dX8_entry_52 : decode cX8_entry 52 = .ok (.getfield 168, 3) := by decide +kernel
theorem dX8_entry_55 : decode cX8_entry 55 = .ok (.iload_n 1, 1) := by decide +kernel
theorem dX8_entry_56 : decode cX8_entry 56 = .ok (.invokevirtual 179, 3) := by decide +kernel
theorem dX8_entry_59 : decode cX8_entry 59 = .ok (.ireturn, 1) := by decide +kernel
theorem dX8_entry_60 : decode cX8_entry 60 = .ok (.aload_n 0, 1) := by decide +kernel
theorem dX8_entry_61 : decode cX8_entry 61 = .ok (.getfield 10, 3) := by decide +kernel
theorem dX8_entry_64 : decode cX8_entry 64 = .ok (.getfield 168, 3) := by decide +kernel
theorem dX8_entry_67 : decode cX8_entry 67 = .ok (.iload_n 1, 1) := by decide +kernel
theorem dX8_entry_68 : decode cX8_entry 68 = .ok (.invokevirtual 182, 3) := by decide +kernel
theorem dX8_entry_71 : decode cX8_entry 71 = .ok (.ireturn, 1) := by decide +kernel
theorem dX8_entry_72 : decode cX8_entry 72 = .ok (.bipush (-2), 2) := by decide +kernel
theorem dX8_entry_74 : decode cX8_entry 74 = .ok (.ireturn, 1) := by decide +kernel
theorem dX8_seen_0 : decode cX8_seen 0 = .ok (.iload_n 1, 1) := by decide +kernel
theorem dX8_seen_1 : decode cX8_seen 1 = .ok (.iconst 2, 1) := by decide +kernel
theorem dX8_seen_2 : decode cX8_seen 2 = .ok (.invokestatic 49, 3) := by decide +kernel
theorem dX8_seen_5 : decode cX8_seen 5 = .ok (.ifCond .ne 6, 3) := by decide +kernel
theorem dX8_seen_8 : decode cX8_seen 8 = .ok (.bipush (-2), 2) := by decide +kernel
theorem dX8_seen_10 : decode cX8_seen 10 = .ok (.ireturn, 1) := by decide +kernel
theorem dX8_seen_11 : decode cX8_seen 11 = .ok (.aload_n 0, 1) := by decide +kernel
theorem dX8_seen_12 : decode cX8_seen 12 = .ok (.getfield 10, 3) := by decide +kernel
theorem dX8_seen_15 : decode cX8_seen 15 = .ok (.getfield 70, 3) := by decide +kernel
theorem dX8_seen_18 : decode cX8_seen 18 = .ok (.iload_n 2, 1) := by decide +kernel
theorem dX8_seen_19 : decode cX8_seen 19 = .ok (.iload_n 3, 1) := by decide +kernel
theorem dX8_seen_20 : decode cX8_seen 20 = .ok (.invokevirtual 156, 3) := by decide +kernel
theorem dX8_seen_23 : decode cX8_seen 23 = .ok (.ifCond .ne 5, 3) := by decide +kernel
theorem dX8_seen_26 : decode cX8_seen 26 = .ok (.iconst (-1), 1) := by decide +kernel
theorem dX8_seen_27 : decode cX8_seen 27 = .ok (.ireturn, 1) := by decide +kernel
theorem dX8_seen_28 : decode cX8_seen 28 = .ok (.aload_n 0, 1) := by decide +kernel
theorem dX8_seen_29 : decode cX8_seen 29 = .ok (.getfield 10, 3) := by decide +kernel
theorem dX8_seen_32 : decode cX8_seen 32 = .ok (.getfield 70, 3) := by decide +kernel
theorem dX8_seen_35 : decode cX8_seen 35 = .ok (.iload_n 2, 1) := by decide +kernel
theorem dX8_seen_36 : decode cX8_seen 36 = .ok (.iload_n 3, 1) := by decide +kernel
theorem dX8_seen_37 : decode cX8_seen 37 = .ok (.invokevirtual 162, 3) := by decide +kernel
theorem dX8_seen_40 : decode cX8_seen 40 = .ok (.istore 4, 2) := by decide +kernel
theorem dX8_seen_42 : decode cX8_seen 42 = .ok (.aload_n 0, 1) := by decide +kernel
theorem dX8_seen_43 : decode cX8_seen 43 = .ok (.getfield 10, 3) := by decide +kernel
theorem dX8_seen_46 : decode cX8_seen 46 = .ok (.getfield 56, 3) := by decide +kernel
theorem dX8_seen_49 : decode cX8_seen 49 = .ok (.iload 4, 2) := by decide +kernel
theorem dX8_seen_51 : decode cX8_seen 51 = .ok (.iload_n 1, 1) := by decide +kernel
theorem dX8_seen_52 : decode cX8_seen 52 = .ok (.aload_n 0, 1) := by decide +kernel
theorem dX8_seen_53 : decode cX8_seen 53 = .ok (.getfield 10, 3) := by decide +kernel
theorem dX8_seen_56 : decode cX8_seen 56 = .ok (.getfield 91, 3) := by decide +kernel
theorem dX8_seen_59 : decode cX8_seen 59 = .ok (.invokestatic 185, 3) := by decide +kernel
theorem dX8_seen_62 : decode cX8_seen 62 = .ok (.aload_n 0, 1) := by decide +kernel
theorem dX8_seen_63 : decode cX8_seen 63 = .ok (.getfield 10, 3) := by decide +kernel
theorem dX8_seen_66 : decode cX8_seen 66 = .ok (.getfield 88, 3) := by decide +kernel
theorem dX8_seen_69 : decode cX8_seen 69 = .ok (.invokevirtual 188, 3) := by decide +kernel
theorem dX8_seen_72 : decode cX8_seen 72 = .ok (.ireturn, 1) := by decide +kernel
theorem dX8_word_0 : decode cX8_word 0 = .ok (.iload_n 1, 1) := by decide +kernel
theorem dX8_word_1 : decode cX8_word 1 = .ok (.iconst 2, 1) := by decide +kernel
theorem dX8_word_2 : decode cX8_word 2 = .ok (.invokestatic 49, 3) := by decide +kernel
theorem dX8_word_5 : decode cX8_word 5 = .ok (.ifCond .ne 6, 3) := by decide +kernel
theorem dX8_word_8 : decode cX8_word 8 = .ok (.bipush (-2), 2) := by decide +kernel
theorem dX8_word_10 : decode cX8_word 10 = .ok (.ireturn, 1) := by decide +kernel
theorem dX8_word_11 : decode cX8_word 11 = .ok (.aload_n 0, 1) := by decide +kernel
theorem dX8_word_12 : decode cX8_word 12 = .ok (.iload_n 1, 1) := by decide +kernel
theorem dX8_word_13 : decode cX8_word 13 = .ok (.invokevirtual 133, 3) := by decide +kernel
theorem dX8_word_16 : decode cX8_word 16 = .ok (.astore_n 3, 1) := by decide +kernel
theorem dX8_word_17 : decode cX8_word 17 = .ok (.iload_n 2, 1) := by decide +kernel
theorem dX8_word_18 : decode cX8_word 18 = .ok (.aload_n 3, 1) := by decide +kernel
theorem dX8_word_19 : decode cX8_word 19 = .ok (.invokevirtual 137, 3) := by decide +kernel
theorem dX8_word_22 : decode cX8_word 22 = .ok (.invokestatic 49, 3) := by decide +kernel
theorem dX8_word_25 : decode cX8_word 25 = .ok (.ifCond .eq 11, 3) := by decide +kernel
theorem dX8_word_28 : decode cX8_word 28 = .ok (.aload_n 3, 1) := by decide +kernel
theorem dX8_word_29 : decode cX8_word 29 = .ok (.iload_n 2, 1) := by decide +kernel
theorem dX8_word_30 : decode cX8_word 30 = .ok (.invokevirtual 192, 3) := by decide +kernel
theorem dX8_word_33 : decode cX8_word 33 = .ok (.goto 4, 3) := by decide +kernel
theorem dX8_word_36 : decode cX8_word 36 = .ok (.iconst (-1), 1) := by decide +kernel
theorem dX8_word_37 : decode cX8_word 37 = .ok (.ireturn, 1) := by decide +kernel
theorem dX8_known_0 : decode cX8_known 0 = .ok (.iload_n 1, 1) := by decide +kernel
theorem dX8_known_1 : decode cX8_known 1 = .ok (.iconst 2, 1) := by decide +kernel
theorem dX8_known_2 : decode cX8_known 2 = .ok (.invokestatic 49, 3) := by decide +kernel
theorem dX8_known_5 : decode cX8_known 5 = .ok (.ifCond .ne 6, 3) := by decide +kernel
theorem dX8_known_8 : decode cX8_known 8 = .ok (.bipush (-2), 2) := by decide +kernel
theorem dX8_known_10 : decode cX8_known 10 = .ok (.ireturn, 1) := by decide +kernel
theorem dX8_known_11 : decode cX8_known 11 = .ok (.aload_n 0, 1) := by decide +kernel
theorem dX8_known_12 : decode cX8_known 12 = .ok (.iload_n 1, 1) := by decide +kernel
theorem dX8_known_13 : decode cX8_known 13 = .ok (.invokevirtual 133, 3) := by decide +kernel
theorem dX8_known_16 : decode cX8_known 16 = .ok (.invokevirtual 193, 3) := by decide +kernel
theorem dX8_known_19 : decode cX8_known 19 = .ok (.ireturn, 1) := by decide +kernel
theorem dX8_isSame_0 : decode cX8_isSame 0 = .ok (.aload_n 0, 1) := by decide +kernel
theorem dX8_isSame_1 : decode cX8_isSame 1 = .ok (.iconst 0, 1) := by decide +kernel
theorem dX8_isSame_2 : decode cX8_isSame 2 = .ok (.invokevirtual 133, 3) := by decide +kernel
theorem dX8_isSame_5 : decode cX8_isSame 5 = .ok (.aload_n 0, 1) := by decide +kernel
theorem dX8_isSame_6 : decode cX8_isSame 6 = .ok (.iconst 1, 1) := by decide +kernel
theorem dX8_isSame_7 : decode cX8_isSame 7 = .ok (.invokevirtual 133, 3) := by decide +kernel
theorem dX8_isSame_10 : decode cX8_isSame 10 = .ok (.invokevirtual 196, 3) := by decide +kernel
theorem dX8_isSame_13 : decode cX8_isSame 13 = .ok (.ifCond .eq 7, 3) := by decide +kernel
theorem dX8_isSame_16 : decode cX8_isSame 16 = .ok (.iconst 1, 1) := by decide +kernel
theorem dX8_isSame_17 : decode cX8_isSame 17 = .ok (.goto 4, 3) := by decide +kernel
theorem dX8_isSame_20 : decode cX8_isSame 20 = .ok (.iconst 0, 1) := by decide +kernel
theorem dX8_isSame_21 : decode cX8_isSame 21 = .ok (.ireturn, 1) := by decide +kernel
theorem dX8_sail_0 : decode cX8_sail 0 = .ok (.iload_n 1, 1) := by decide +kernel
theorem dX8_sail_1 : decode cX8_sail 1 = .ok (.iconst 2, 1) := by decide +kernel
theorem dX8_sail_2 : decode cX8_sail 2 = .ok (.invokestatic 49, 3) := by decide +kernel
theorem dX8_sail_5 : decode cX8_sail 5 = .ok (.ifCond .ne 6, 3) := by decide +kernel
theorem dX8_sail_8 : decode cX8_sail 8 = .ok (.bipush (-2), 2) := by decide +kernel
theorem dX8_sail_10 : decode cX8_sail 10 = .ok (.ireturn, 1) := by decide +kernel
theorem dX8_sail_11 : decode cX8_sail 11 = .ok (.aload_n 0, 1) := by decide +kernel
theorem dX8_sail_12 : decode cX8_sail 12 = .ok (.invokevirtual 53, 3) := by decide +kernel
theorem dX8_sail_15 : decode cX8_sail 15 = .ok (.aload_n 0, 1) := by decide +kernel
theorem dX8_sail_16 : decode cX8_sail 16 = .ok (.getfield 10, 3) := by decide +kernel
theorem dX8_sail_19 : decode cX8_sail 19 = .ok (.getfield 130, 3) := by decide +kernel
theorem dX8_sail_22 : decode cX8_sail 22 = .ok (.istore_n 2, 1) := by decide +kernel
theorem dX8_sail_23 : decode cX8_sail 23 = .ok (.aload_n 0, 1) := by decide +kernel
theorem dX8_sail_24 : decode cX8_sail 24 = .ok (.getfield 10, 3) := by decide +kernel
theorem dX8_sail_27 : decode cX8_sail 27 = .ok (.iload_n 1, 1) := by decide +kernel
theorem dX8_sail_28 : decode cX8_sail 28 = .ok (.putfield 130, 3) := by decide +kernel
theorem dX8_sail_31 : decode cX8_sail 31 = .ok (.iload_n 2, 1) := by decide +kernel
theorem dX8_sail_32 : decode cX8_sail 32 = .ok (.ireturn, 1) := by decide +kernel
theorem dX8_answer_0 : decode cX8_answer 0 = .ok (.aload_n 0, 1) := by decide +kernel
theorem dX8_answer_1 : decode cX8_answer 1 = .ok (.getfield 10, 3) := by decide +kernel
theorem dX8_answer_4 : decode cX8_answer 4 = .ok (.getfield 70, 3) := by decide +kernel
theorem dX8_answer_7 : decode cX8_answer 7 = .ok (.invokevirtual 200, 3) := by decide +kernel
theorem dX8_answer_10 : decode cX8_answer 10 = .ok (.ifCond .eq 14, 3) := by decide +kernel
theorem dX8_answer_13 : decode cX8_answer 13 = .ok (.aload_n 0, 1) := by decide +kernel
theorem dX8_answer_14 : decode cX8_answer 14 = .ok (.getfield 10, 3) := by decide +kernel
theorem dX8_answer_17 : decode cX8_answer 17 = .ok (.getfield 127, 3) := by decide +kernel
theorem dX8_answer_20 : decode cX8_answer 20 = .ok (.iconst 2, 1) := by decide +kernel
theorem dX8_answer_21 : decode cX8_answer 21 = .ok (.if_icmp .ne 6, 3) := by decide +kernel
theorem dX8_answer_24 : decode cX8_answer 24 = .ok (.bipush (-3), 2) := by decide +kernel
theorem dX8_answer_26 : decode cX8_answer 26 = .ok (.ireturn, 1) := by decide +kernel
theorem dX8_answer_27 : decode cX8_answer 27 = .ok (.aload_n 0, 1) := by decide +kernel
theorem dX8_answer_28 : decode cX8_answer 28 = .ok (.getfield 10, 3) := by decide +kernel
theorem dX8_answer_31 : decode cX8_answer 31 = .ok (.getfield 127, 3) := by decide +kernel
theorem dX8_answer_34 : decode cX8_answer 34 = .ok (.iconst 1, 1) := by decide +kernel
theorem dX8_answer_35 : decode cX8_answer 35 = .ok (.if_icmp .ne 23, 3) := by decide +kernel
theorem dX8_answer_38 : decode cX8_answer 38 = .ok (.aload_n 0, 1) := by decide +kernel
theorem dX8_answer_39 : decode cX8_answer 39 = .ok (.aload_n 0, 1) := by decide +kernel
theorem dX8_answer_40 : decode cX8_answer 40 = .ok (.getfield 10, 3) := by decide +kernel
theorem dX8_answer_43 : decode cX8_answer 43 = .ok (.getfield 130, 3) := by decide +kernel
theorem dX8_answer_46 : decode cX8_answer 46 = .ok (.invokevirtual 133, 3) := by decide +kernel
theorem dX8_answer_49 : decode cX8_answer 49 = .ok (.invokevirtual 203, 3) := by decide +kernel
theorem dX8_answer_52 : decode cX8_answer 52 = .ok (.ifCond .ne 6, 3) := by decide +kernel
theorem dX8_answer_55 : decode cX8_answer 55 = .ok (.bipush (-3), 2) := by decide +kernel
theorem dX8_answer_57 : decode cX8_answer 57 = .ok (.ireturn, 1) := by decide +kernel
theorem dX8_answer_58 : decode cX8_answer 58 = .ok (.aload_n 0, 1) := by decide +kernel
theorem dX8_answer_59 : decode cX8_answer 59 = .ok (.getfield 26, 3) := by decide +kernel
theorem dX8_answer_62 : decode cX8_answer 62 = .ok (.aload_n 0, 1) := by decide +kernel
theorem dX8_answer_63 : decode cX8_answer 63 = .ok (.getfield 10, 3) := by decide +kernel
theorem dX8_answer_66 : decode cX8_answer 66 = .ok (.invokevirtual 80, 3) := by decide +kernel
theorem dX8_answer_69 : decode cX8_answer 69 = .ok (.aload_n 0, 1) := by decide +kernel
theorem dX8_answer_70 : decode cX8_answer 70 = .ok (.getfield 10, 3) := by decide +kernel
theorem dX8_answer_73 : decode cX8_answer 73 = .ok (.aload_n 0, 1) := by decide +kernel
theorem dX8_answer_74 : decode cX8_answer 74 = .ok (.getfield 10, 3) := by decide +kernel
theorem dX8_answer_77 : decode cX8_answer 77 = .ok (.getfield 127, 3) := by decide +kernel
theorem dX8_answer_80 : decode cX8_answer 80 = .ok (.ifCond .ne 7, 3) := by decide +kernel
theorem dX8_answer_83 : decode cX8_answer 83 = .ok (.iconst 1, 1) := by decide +kernel
theorem dX8_answer_84 : decode cX8_answer 84 = .ok (.goto 4, 3) := by decide +kernel
theorem dX8_answer_87 : decode cX8_answer 87 = .ok (.iconst 2, 1) := by decide +kernel
theorem dX8_answer_88 : decode cX8_answer 88 = .ok (.putfield 127, 3) := by decide +kernel
theorem dX8_answer_91 : decode cX8_answer 91 = .ok (.aload_n 0, 1) := by decide +kernel
theorem dX8_answer_92 : decode cX8_answer 92 = .ok (.getfield 10, 3) := by decide +kernel
theorem dX8_answer_95 : decode cX8_answer 95 = .ok (.getfield 127, 3) := by decide +kernel
theorem dX8_answer_98 : decode cX8_answer 98 = .ok (.ireturn, 1) := by decide +kernel
theorem dX8_logged_0 : decode cX8_logged 0 = .ok (.iload_n 1, 1) := by decide +kernel
theorem dX8_logged_1 : decode cX8_logged 1 = .ok (.aload_n 0, 1) := by decide +kernel
theorem dX8_logged_2 : decode cX8_logged 2 = .ok (.getfield 10, 3) := by decide +kernel
theorem dX8_logged_5 : decode cX8_logged 5 = .ok (.getfield 140, 3) := by decide +kernel
theorem dX8_logged_8 : decode cX8_logged 8 = .ok (.invokevirtual 207, 3) := by decide +kernel
theorem dX8_logged_11 : decode cX8_logged 11 = .ok (.invokestatic 49, 3) := by decide +kernel
theorem dX8_logged_14 : decode cX8_logged 14 = .ok (.ifCond .ne 5, 3) := by decide +kernel
theorem dX8_logged_17 : decode cX8_logged 17 = .ok (.iconst (-1), 1) := by decide +kernel
theorem dX8_logged_18 : decode cX8_logged 18 = .ok (.ireturn, 1) := by decide +kernel
theorem dX8_logged_19 : decode cX8_logged 19 = .ok (.iload_n 2, 1) := by decide +kernel
theorem dX8_logged_20 : decode cX8_logged 20 = .ok (.ifCond .lt 8, 3) := by decide +kernel
theorem dX8_logged_23 : decode cX8_logged 23 = .ok (.iload_n 2, 1) := by decide +kernel
theorem dX8_logged_24 : decode cX8_logged 24 = .ok (.iconst 5, 1) := by decide +kernel
theorem dX8_logged_25 : decode cX8_logged 25 = .ok (.if_icmp .le 6, 3) := by decide +kernel
theorem dX8_logged_28 : decode cX8_logged 28 = .ok (.bipush (-2), 2) := by decide +kernel
theorem dX8_logged_30 : decode cX8_logged 30 = .ok (.ireturn, 1) := by decide +kernel
theorem dX8_logged_31 : decode cX8_logged 31 = .ok (.iload_n 2, 1) := by decide +kernel
theorem dX8_logged_32 : decode cX8_logged 32 = .ok (.aload_n 0, 1) := by decide +kernel
theorem dX8_logged_33 : decode cX8_logged 33 = .ok (.getfield 10, 3) := by decide +kernel
theorem dX8_logged_36 : decode cX8_logged 36 = .ok (.getfield 140, 3) := by decide +kernel
theorem dX8_logged_39 : decode cX8_logged 39 = .ok (.iload_n 1, 1) := by decide +kernel
theorem dX8_logged_40 : decode cX8_logged 40 = .ok (.invokevirtual 208, 3) := by decide +kernel
theorem dX8_logged_43 : decode cX8_logged 43 = .ok (.if_icmp .le 5, 3) := by decide +kernel
theorem dX8_logged_46 : decode cX8_logged 46 = .ok (.iconst (-1), 1) := by decide +kernel
theorem dX8_logged_47 : decode cX8_logged 47 = .ok (.ireturn, 1) := by decide +kernel
theorem dX8_logged_48 : decode cX8_logged 48 = .ok (.iload_n 2, 1) := by decide +kernel
theorem dX8_logged_49 : decode cX8_logged 49 = .ok (.ifCond .ne 17, 3) := by decide +kernel
theorem dX8_logged_52 : decode cX8_logged 52 = .ok (.aload_n 0, 1) := by decide +kernel
theorem dX8_logged_53 : decode cX8_logged 53 = .ok (.getfield 10, 3) := by decide +kernel
theorem dX8_logged_56 : decode cX8_logged 56 = .ok (.getfield 140, 3) := by decide +kernel
theorem dX8_logged_59 : decode cX8_logged 59 = .ok (.iload_n 1, 1) := by decide +kernel
theorem dX8_logged_60 : decode cX8_logged 60 = .ok (.invokevirtual 208, 3) := by decide +kernel
theorem dX8_logged_63 : decode cX8_logged 63 = .ok (.goto 17, 3) := by decide +kernel
theorem dX8_logged_66 : decode cX8_logged 66 = .ok (.aload_n 0, 1) := by decide +kernel
theorem dX8_logged_67 : decode cX8_logged 67 = .ok (.getfield 10, 3) := by decide +kernel
theorem dX8_logged_70 : decode cX8_logged 70 = .ok (.getfield 140, 3) := by decide +kernel
theorem dX8_logged_73 : decode cX8_logged 73 = .ok (.iload_n 1, 1) := by decide +kernel
theorem dX8_logged_74 : decode cX8_logged 74 = .ok (.iload_n 2, 1) := by decide +kernel
theorem dX8_logged_75 : decode cX8_logged 75 = .ok (.iconst 1, 1) := by decide +kernel
theorem dX8_logged_76 : decode cX8_logged 76 = .ok (.isub, 1) := by decide +kernel
theorem dX8_logged_77 : decode cX8_logged 77 = .ok (.invokevirtual 211, 3) := by decide +kernel
theorem dX8_logged_80 : decode cX8_logged 80 = .ok (.ireturn, 1) := by decide +kernel
theorem dX8_total_0 : decode cX8_total 0 = .ok (.iload_n 1, 1) := by decide +kernel
theorem dX8_total_1 : decode cX8_total 1 = .ok (.tableswitch 150 0 9 #[55, 63, 71, 79, 90, 101, 112, 120, 128, 139], 55) := by decide +kernel
theorem dX8_total_56 : decode cX8_total 56 = .ok (.aload_n 0, 1) := by decide +kernel
theorem dX8_total_57 : decode cX8_total 57 = .ok (.getfield 10, 3) := by decide +kernel
theorem dX8_total_60 : decode cX8_total 60 = .ok (.getfield 88, 3) := by decide +kernel
theorem dX8_total_63 : decode cX8_total 63 = .ok (.ireturn, 1) := by decide +kernel
theorem dX8_total_64 : decode cX8_total 64 = .ok (.aload_n 0, 1) := by decide +kernel
theorem dX8_total_65 : decode cX8_total 65 = .ok (.getfield 10, 3) := by decide +kernel
theorem dX8_total_68 : decode cX8_total 68 = .ok (.getfield 91, 3) := by decide +kernel
theorem dX8_total_71 : decode cX8_total 71 = .ok (.ireturn, 1) := by decide +kernel
theorem dX8_total_72 : decode cX8_total 72 = .ok (.aload_n 0, 1) := by decide +kernel
theorem dX8_total_73 : decode cX8_total 73 = .ok (.getfield 10, 3) := by decide +kernel
theorem dX8_total_76 : decode cX8_total 76 = .ok (.getfield 84, 3) := by decide +kernel
theorem dX8_total_79 : decode cX8_total 79 = .ok (.ireturn, 1) := by decide +kernel
theorem dX8_total_80 : decode cX8_total 80 = .ok (.aload_n 0, 1) := by decide +kernel
theorem dX8_total_81 : decode cX8_total 81 = .ok (.getfield 10, 3) := by decide +kernel
theorem dX8_total_84 : decode cX8_total 84 = .ok (.getfield 70, 3) := by decide +kernel
theorem dX8_total_87 : decode cX8_total 87 = .ok (.invokevirtual 200, 3) := by decide +kernel
theorem dX8_total_90 : decode cX8_total 90 = .ok (.ireturn, 1) := by decide +kernel
theorem dX8_total_91 : decode cX8_total 91 = .ok (.aload_n 0, 1) := by decide +kernel
theorem dX8_total_92 : decode cX8_total 92 = .ok (.getfield 10, 3) := by decide +kernel
theorem dX8_total_95 : decode cX8_total 95 = .ok (.getfield 70, 3) := by decide +kernel
theorem dX8_total_98 : decode cX8_total 98 = .ok (.invokevirtual 213, 3) := by decide +kernel
theorem dX8_total_101 : decode cX8_total 101 = .ok (.ireturn, 1) := by decide +kernel
theorem dX8_total_102 : decode cX8_total 102 = .ok (.aload_n 0, 1) := by decide +kernel
theorem dX8_total_103 : decode cX8_total 103 = .ok (.getfield 10, 3) := by decide +kernel
theorem dX8_total_106 : decode cX8_total 106 = .ok (.getfield 168, 3) := by decide +kernel
theorem dX8_total_109 : decode cX8_total 109 = .ok (.invokevirtual 172, 3) := by decide +kernel
theorem dX8_total_112 : decode cX8_total 112 = .ok (.ireturn, 1) := by decide +kernel
theorem dX8_total_113 : decode cX8_total 113 = .ok (.aload_n 0, 1) := by decide +kernel
theorem dX8_total_114 : decode cX8_total 114 = .ok (.getfield 10, 3) := by decide +kernel
theorem dX8_total_117 : decode cX8_total 117 = .ok (.getfield 130, 3) := by decide +kernel
theorem dX8_total_120 : decode cX8_total 120 = .ok (.ireturn, 1) := by decide +kernel
theorem dX8_total_121 : decode cX8_total 121 = .ok (.aload_n 0, 1) := by decide +kernel
theorem dX8_total_122 : decode cX8_total 122 = .ok (.getfield 10, 3) := by decide +kernel
theorem dX8_total_125 : decode cX8_total 125 = .ok (.getfield 127, 3) := by decide +kernel
theorem dX8_total_128 : decode cX8_total 128 = .ok (.ireturn, 1) := by decide +kernel
theorem dX8_total_129 : decode cX8_total 129 = .ok (.aload_n 0, 1) := by decide +kernel
theorem dX8_total_130 : decode cX8_total 130 = .ok (.getfield 10, 3) := by decide +kernel
theorem dX8_total_133 : decode cX8_total 133 = .ok (.getfield 140, 3) := by decide +kernel
theorem dX8_total_136 : decode cX8_total 136 = .ok (.invokevirtual 207, 3) := by decide +kernel
theorem dX8_total_139 : decode cX8_total 139 = .ok (.ireturn, 1) := by decide +kernel
theorem dX8_total_140 : decode cX8_total 140 = .ok (.aload_n 0, 1) := by decide +kernel
theorem dX8_total_141 : decode cX8_total 141 = .ok (.getfield 10, 3) := by decide +kernel
theorem dX8_total_144 : decode cX8_total 144 = .ok (.getfield 140, 3) := by decide +kernel
theorem dX8_total_147 : decode cX8_total 147 = .ok (.invokevirtual 216, 3) := by decide +kernel
theorem dX8_total_150 : decode cX8_total 150 = .ok (.ireturn, 1) := by decide +kernel
theorem dX8_total_151 : decode cX8_total 151 = .ok (.bipush (-2), 2) := by decide +kernel
theorem dX8_total_153 : decode cX8_total 153 = .ok (.ireturn, 1) := by decide +kernel
theorem dX8_leastWind_0 : decode cX8_leastWind 0 = .ok (.iload_n 1, 1) := by decide +kernel
theorem dX8_leastWind_1 : decode cX8_leastWind 1 = .ok (.iconst 2, 1) := by decide +kernel
theorem dX8_leastWind_2 : decode cX8_leastWind 2 = .ok (.invokestatic 49, 3) := by decide +kernel
theorem dX8_leastWind_5 : decode cX8_leastWind 5 = .ok (.ifCond .ne 6, 3) := by decide +kernel
theorem dX8_leastWind_8 : decode cX8_leastWind 8 = .ok (.bipush (-2), 2) := by decide +kernel
theorem dX8_leastWind_10 : decode cX8_leastWind 10 = .ok (.ireturn, 1) := by decide +kernel
theorem dX8_leastWind_11 : decode cX8_leastWind 11 = .ok (.aload_n 0, 1) := by decide +kernel
theorem dX8_leastWind_12 : decode cX8_leastWind 12 = .ok (.iload_n 1, 1) := by decide +kernel
theorem dX8_leastWind_13 : decode cX8_leastWind 13 = .ok (.invokevirtual 217, 3) := by decide +kernel
theorem dX8_leastWind_16 : decode cX8_leastWind 16 = .ok (.astore_n 2, 1) := by decide +kernel
theorem dX8_leastWind_17 : decode cX8_leastWind 17 = .ok (.iconst 0, 1) := by decide +kernel
theorem dX8_leastWind_18 : decode cX8_leastWind 18 = .ok (.istore_n 3, 1) := by decide +kernel
theorem dX8_leastWind_19 : decode cX8_leastWind 19 = .ok (.iload_n 3, 1) := by decide +kernel
theorem dX8_leastWind_20 : decode cX8_leastWind 20 = .ok (.bipush 10, 2) := by decide +kernel
theorem dX8_leastWind_22 : decode cX8_leastWind 22 = .ok (.if_icmp .ge 34, 3) := by decide +kernel
theorem dX8_leastWind_25 : decode cX8_leastWind 25 = .ok (.aload_n 2, 1) := by decide +kernel
theorem dX8_leastWind_26 : decode cX8_leastWind 26 = .ok (.aload_n 0, 1) := by decide +kernel
theorem dX8_leastWind_27 : decode cX8_leastWind 27 = .ok (.getfield 10, 3) := by decide +kernel
theorem dX8_leastWind_30 : decode cX8_leastWind 30 = .ok (.iload_n 3, 1) := by decide +kernel
theorem dX8_leastWind_31 : decode cX8_leastWind 31 = .ok (.aload_n 0, 1) := by decide +kernel
theorem dX8_leastWind_32 : decode cX8_leastWind 32 = .ok (.getfield 10, 3) := by decide +kernel
theorem dX8_leastWind_35 : decode cX8_leastWind 35 = .ok (.getfield 91, 3) := by decide +kernel
theorem dX8_leastWind_38 : decode cX8_leastWind 38 = .ok (.invokevirtual 220, 3) := by decide +kernel
theorem dX8_leastWind_41 : decode cX8_leastWind 41 = .ok (.aload_n 2, 1) := by decide +kernel
theorem dX8_leastWind_42 : decode cX8_leastWind 42 = .ok (.invokevirtual 203, 3) := by decide +kernel
theorem dX8_leastWind_45 : decode cX8_leastWind 45 = .ok (.ifCond .eq 5, 3) := by decide +kernel
theorem dX8_leastWind_48 : decode cX8_leastWind 48 = .ok (.iload_n 3, 1) := by decide +kernel
theorem dX8_leastWind_49 : decode cX8_leastWind 49 = .ok (.ireturn, 1) := by decide +kernel
theorem dX8_leastWind_50 : decode cX8_leastWind 50 = .ok (.iinc 3 1, 3) := by decide +kernel
theorem dX8_leastWind_53 : decode cX8_leastWind 53 = .ok (.goto (-34), 3) := by decide +kernel
theorem dX8_leastWind_56 : decode cX8_leastWind 56 = .ok (.bipush (-6), 2) := by decide +kernel
theorem dX8_leastWind_58 : decode cX8_leastWind 58 = .ok (.ireturn, 1) := by decide +kernel
theorem dX8_ifTurned_0 : decode cX8_ifTurned 0 = .ok (.iload_n 1, 1) := by decide +kernel
theorem dX8_ifTurned_1 : decode cX8_ifTurned 1 = .ok (.iconst 2, 1) := by decide +kernel
theorem dX8_ifTurned_2 : decode cX8_ifTurned 2 = .ok (.invokestatic 49, 3) := by decide +kernel
theorem dX8_ifTurned_5 : decode cX8_ifTurned 5 = .ok (.ifCond .ne 6, 3) := by decide +kernel
theorem dX8_ifTurned_8 : decode cX8_ifTurned 8 = .ok (.bipush (-2), 2) := by decide +kernel
theorem dX8_ifTurned_10 : decode cX8_ifTurned 10 = .ok (.ireturn, 1) := by decide +kernel
theorem dX8_ifTurned_11 : decode cX8_ifTurned 11 = .ok (.aload_n 0, 1) := by decide +kernel
theorem dX8_ifTurned_12 : decode cX8_ifTurned 12 = .ok (.iload_n 1, 1) := by decide +kernel
theorem dX8_ifTurned_13 : decode cX8_ifTurned 13 = .ok (.invokevirtual 217, 3) := by decide +kernel
theorem dX8_ifTurned_16 : decode cX8_ifTurned 16 = .ok (.astore_n 2, 1) := by decide +kernel
theorem dX8_ifTurned_17 : decode cX8_ifTurned 17 = .ok (.aload_n 2, 1) := by decide +kernel
theorem dX8_ifTurned_18 : decode cX8_ifTurned 18 = .ok (.aload_n 0, 1) := by decide +kernel
theorem dX8_ifTurned_19 : decode cX8_ifTurned 19 = .ok (.getfield 10, 3) := by decide +kernel
theorem dX8_ifTurned_22 : decode cX8_ifTurned 22 = .ok (.aload_n 0, 1) := by decide +kernel
theorem dX8_ifTurned_23 : decode cX8_ifTurned 23 = .ok (.getfield 10, 3) := by decide +kernel
theorem dX8_ifTurned_26 : decode cX8_ifTurned 26 = .ok (.getfield 88, 3) := by decide +kernel
theorem dX8_ifTurned_29 : decode cX8_ifTurned 29 = .ok (.iconst 1, 1) := by decide +kernel
theorem dX8_ifTurned_30 : decode cX8_ifTurned 30 = .ok (.aload_n 0, 1) := by decide +kernel
theorem dX8_ifTurned_31 : decode cX8_ifTurned 31 = .ok (.getfield 10, 3) := by decide +kernel
theorem dX8_ifTurned_34 : decode cX8_ifTurned 34 = .ok (.getfield 91, 3) := by decide +kernel
theorem dX8_ifTurned_37 : decode cX8_ifTurned 37 = .ok (.isub, 1) := by decide +kernel
theorem dX8_ifTurned_38 : decode cX8_ifTurned 38 = .ok (.invokevirtual 220, 3) := by decide +kernel
theorem dX8_ifTurned_41 : decode cX8_ifTurned 41 = .ok (.aload_n 2, 1) := by decide +kernel
theorem dX8_ifTurned_42 : decode cX8_ifTurned 42 = .ok (.invokevirtual 193, 3) := by decide +kernel
theorem dX8_ifTurned_45 : decode cX8_ifTurned 45 = .ok (.ireturn, 1) := by decide +kernel
theorem dX8_mendingExchange_0 : decode cX8_mendingExchange 0 = .ok (.aload_n 0, 1) := by decide +kernel
theorem dX8_mendingExchange_1 : decode cX8_mendingExchange 1 = .ok (.iconst 0, 1) := by decide +kernel
theorem dX8_mendingExchange_2 : decode cX8_mendingExchange 2 = .ok (.invokevirtual 133, 3) := by decide +kernel
theorem dX8_mendingExchange_5 : decode cX8_mendingExchange 5 = .ok (.aload_n 0, 1) := by decide +kernel
theorem dX8_mendingExchange_6 : decode cX8_mendingExchange 6 = .ok (.iconst 1, 1) := by decide +kernel
theorem dX8_mendingExchange_7 : decode cX8_mendingExchange 7 = .ok (.invokevirtual 133, 3) := by decide +kernel
theorem dX8_mendingExchange_10 : decode cX8_mendingExchange 10 = .ok (.invokevirtual 196, 3) := by decide +kernel
theorem dX8_mendingExchange_13 : decode cX8_mendingExchange 13 = .ok (.ifCond .eq 5, 3) := by decide +kernel
theorem dX8_mendingExchange_16 : decode cX8_mendingExchange 16 = .ok (.iconst 0, 1) := by decide +kernel
theorem dX8_mendingExchange_17 : decode cX8_mendingExchange 17 = .ok (.ireturn, 1) := by decide +kernel
theorem dX8_mendingExchange_18 : decode cX8_mendingExchange 18 = .ok (.iconst 0, 1) := by decide +kernel
theorem dX8_mendingExchange_19 : decode cX8_mendingExchange 19 = .ok (.istore_n 1, 1) := by decide +kernel
theorem dX8_mendingExchange_20 : decode cX8_mendingExchange 20 = .ok (.iload_n 1, 1) := by decide +kernel
theorem dX8_mendingExchange_21 : decode cX8_mendingExchange 21 = .ok (.iconst 5, 1) := by decide +kernel
theorem dX8_mendingExchange_22 : decode cX8_mendingExchange 22 = .ok (.if_icmp .ge 63, 3) := by decide +kernel
theorem dX8_mendingExchange_25 : decode cX8_mendingExchange 25 = .ok (.iload_n 1, 1) := by decide +kernel
theorem dX8_mendingExchange_26 : decode cX8_mendingExchange 26 = .ok (.iconst 1, 1) := by decide +kernel
theorem dX8_mendingExchange_27 : decode cX8_mendingExchange 27 = .ok (.iadd, 1) := by decide +kernel
theorem dX8_mendingExchange_28 : decode cX8_mendingExchange 28 = .ok (.istore_n 2, 1) := by decide +kernel
theorem dX8_mendingExchange_29 : decode cX8_mendingExchange 29 = .ok (.iload_n 2, 1) := by decide +kernel
theorem dX8_mendingExchange_30 : decode cX8_mendingExchange 30 = .ok (.iconst 5, 1) := by decide +kernel
theorem dX8_mendingExchange_31 : decode cX8_mendingExchange 31 = .ok (.if_icmp .ge 48, 3) := by decide +kernel
theorem dX8_mendingExchange_34 : decode cX8_mendingExchange 34 = .ok (.aload_n 0, 1) := by decide +kernel
theorem dX8_mendingExchange_35 : decode cX8_mendingExchange 35 = .ok (.getfield 42, 3) := by decide +kernel
theorem dX8_mendingExchange_38 : decode cX8_mendingExchange 38 = .ok (.iload_n 1, 1) := by decide +kernel
theorem dX8_mendingExchange_39 : decode cX8_mendingExchange 39 = .ok (.iload_n 2, 1) := by decide +kernel
theorem dX8_mendingExchange_40 : decode cX8_mendingExchange 40 = .ok (.invokevirtual 224, 3) := by decide +kernel
theorem dX8_mendingExchange_43 : decode cX8_mendingExchange 43 = .ok (.aload_n 0, 1) := by decide +kernel
theorem dX8_mendingExchange_44 : decode cX8_mendingExchange 44 = .ok (.getfield 46, 3) := by decide +kernel
theorem dX8_mendingExchange_47 : decode cX8_mendingExchange 47 = .ok (.iload_n 1, 1) := by decide +kernel
theorem dX8_mendingExchange_48 : decode cX8_mendingExchange 48 = .ok (.iload_n 2, 1) := by decide +kernel
theorem dX8_mendingExchange_49 : decode cX8_mendingExchange 49 = .ok (.invokevirtual 224, 3) := by decide +kernel
theorem dX8_mendingExchange_52 : decode cX8_mendingExchange 52 = .ok (.aload_n 0, 1) := by decide +kernel
theorem dX8_mendingExchange_53 : decode cX8_mendingExchange 53 = .ok (.getfield 42, 3) := by decide +kernel
theorem dX8_mendingExchange_56 : decode cX8_mendingExchange 56 = .ok (.aload_n 0, 1) := by decide +kernel
theorem dX8_mendingExchange_57 : decode cX8_mendingExchange 57 = .ok (.getfield 46, 3) := by decide +kernel
theorem dX8_mendingExchange_60 : decode cX8_mendingExchange 60 = .ok (.invokevirtual 196, 3) := by decide +kernel
theorem dX8_mendingExchange_63 : decode cX8_mendingExchange 63 = .ok (.ifCond .eq 10, 3) := by decide +kernel
theorem dX8_mendingExchange_66 : decode cX8_mendingExchange 66 = .ok (.bipush 10, 2) := by decide +kernel
theorem dX8_mendingExchange_68 : decode cX8_mendingExchange 68 = .ok (.iload_n 1, 1) := by decide +kernel
theorem dX8_mendingExchange_69 : decode cX8_mendingExchange 69 = .ok (.imul, 1) := by decide +kernel
theorem dX8_mendingExchange_70 : decode cX8_mendingExchange 70 = .ok (.iload_n 2, 1) := by decide +kernel
theorem dX8_mendingExchange_71 : decode cX8_mendingExchange 71 = .ok (.iadd, 1) := by decide +kernel
theorem dX8_mendingExchange_72 : decode cX8_mendingExchange 72 = .ok (.ireturn, 1) := by decide +kernel
theorem dX8_mendingExchange_73 : decode cX8_mendingExchange 73 = .ok (.iinc 2 1, 3) := by decide +kernel
theorem dX8_mendingExchange_76 : decode cX8_mendingExchange 76 = .ok (.goto (-47), 3) := by decide +kernel
theorem dX8_mendingExchange_79 : decode cX8_mendingExchange 79 = .ok (.iinc 1 1, 3) := by decide +kernel
theorem dX8_mendingExchange_82 : decode cX8_mendingExchange 82 = .ok (.goto (-62), 3) := by decide +kernel
theorem dX8_mendingExchange_85 : decode cX8_mendingExchange 85 = .ok (.bipush (-6), 2) := by decide +kernel
theorem dX8_mendingExchange_87 : decode cX8_mendingExchange 87 = .ok (.ireturn, 1) := by decide +kernel
theorem dX8_bestEntry_0 : decode cX8_bestEntry 0 = .ok (.iload_n 1, 1) := by decide +kernel
theorem dX8_bestEntry_1 : decode cX8_bestEntry 1 = .ok (.bipush 100, 2) := by decide +kernel
theorem dX8_bestEntry_3 : decode cX8_bestEntry 3 = .ok (.invokestatic 49, 3) := by decide +kernel
theorem dX8_bestEntry_6 : decode cX8_bestEntry 6 = .ok (.ifCond .ne 6, 3) := by decide +kernel
theorem dX8_bestEntry_9 : decode cX8_bestEntry 9 = .ok (.bipush (-2), 2) := by decide +kernel
theorem dX8_bestEntry_11 : decode cX8_bestEntry 11 = .ok (.ireturn, 1) := by decide +kernel
theorem dX8_bestEntry_12 : decode cX8_bestEntry 12 = .ok (.bipush (-6), 2) := by decide +kernel
theorem dX8_bestEntry_14 : decode cX8_bestEntry 14 = .ok (.istore_n 2, 1) := by decide +kernel
theorem dX8_bestEntry_15 : decode cX8_bestEntry 15 = .ok (.iconst 5, 1) := by decide +kernel
theorem dX8_bestEntry_16 : decode cX8_bestEntry 16 = .ok (.istore_n 3, 1) := by decide +kernel
theorem dX8_bestEntry_17 : decode cX8_bestEntry 17 = .ok (.iconst 0, 1) := by decide +kernel
theorem dX8_bestEntry_18 : decode cX8_bestEntry 18 = .ok (.istore 4, 2) := by decide +kernel
theorem dX8_bestEntry_20 : decode cX8_bestEntry 20 = .ok (.iload 4, 2) := by decide +kernel
theorem dX8_bestEntry_22 : decode cX8_bestEntry 22 = .ok (.aload_n 0, 1) := by decide +kernel
theorem dX8_bestEntry_23 : decode cX8_bestEntry 23 = .ok (.getfield 10, 3) := by decide +kernel
theorem dX8_bestEntry_26 : decode cX8_bestEntry 26 = .ok (.getfield 168, 3) := by decide +kernel
theorem dX8_bestEntry_29 : decode cX8_bestEntry 29 = .ok (.invokevirtual 172, 3) := by decide +kernel
theorem dX8_bestEntry_32 : decode cX8_bestEntry 32 = .ok (.if_icmp .ge 67, 3) := by decide +kernel
theorem dX8_bestEntry_35 : decode cX8_bestEntry 35 = .ok (.aload_n 0, 1) := by decide +kernel
theorem dX8_bestEntry_36 : decode cX8_bestEntry 36 = .ok (.getfield 10, 3) := by decide +kernel
theorem dX8_bestEntry_39 : decode cX8_bestEntry 39 = .ok (.getfield 168, 3) := by decide +kernel
theorem dX8_bestEntry_42 : decode cX8_bestEntry 42 = .ok (.iload 4, 2) := by decide +kernel
theorem dX8_bestEntry_44 : decode cX8_bestEntry 44 = .ok (.invokevirtual 179, 3) := by decide +kernel
theorem dX8_bestEntry_47 : decode cX8_bestEntry 47 = .ok (.istore 5, 2) := by decide +kernel
theorem dX8_bestEntry_49 : decode cX8_bestEntry 49 = .ok (.iload 5, 2) := by decide +kernel
theorem dX8_bestEntry_51 : decode cX8_bestEntry 51 = .ok (.invokestatic 227, 3) := by decide +kernel
theorem dX8_bestEntry_54 : decode cX8_bestEntry 54 = .ok (.istore 6, 2) := by decide +kernel
theorem dX8_bestEntry_56 : decode cX8_bestEntry 56 = .ok (.aload_n 0, 1) := by decide +kernel
theorem dX8_bestEntry_57 : decode cX8_bestEntry 57 = .ok (.getfield 10, 3) := by decide +kernel
theorem dX8_bestEntry_60 : decode cX8_bestEntry 60 = .ok (.getfield 168, 3) := by decide +kernel
theorem dX8_bestEntry_63 : decode cX8_bestEntry 63 = .ok (.iload 4, 2) := by decide +kernel
theorem dX8_bestEntry_65 : decode cX8_bestEntry 65 = .ok (.invokevirtual 182, 3) := by decide +kernel
theorem dX8_bestEntry_68 : decode cX8_bestEntry 68 = .ok (.iload_n 1, 1) := by decide +kernel
theorem dX8_bestEntry_69 : decode cX8_bestEntry 69 = .ok (.if_icmp .ne 24, 3) := by decide +kernel
theorem dX8_bestEntry_72 : decode cX8_bestEntry 72 = .ok (.iload 6, 2) := by decide +kernel
theorem dX8_bestEntry_74 : decode cX8_bestEntry 74 = .ok (.iload_n 3, 1) := by decide +kernel
theorem dX8_bestEntry_75 : decode cX8_bestEntry 75 = .ok (.if_icmp .ge 18, 3) := by decide +kernel
theorem dX8_bestEntry_78 : decode cX8_bestEntry 78 = .ok (.aload_n 0, 1) := by decide +kernel
theorem dX8_bestEntry_79 : decode cX8_bestEntry 79 = .ok (.iload 5, 2) := by decide +kernel
theorem dX8_bestEntry_81 : decode cX8_bestEntry 81 = .ok (.invokevirtual 230, 3) := by decide +kernel
theorem dX8_bestEntry_84 : decode cX8_bestEntry 84 = .ok (.ifCond .eq 9, 3) := by decide +kernel
theorem dX8_bestEntry_87 : decode cX8_bestEntry 87 = .ok (.iload 4, 2) := by decide +kernel
theorem dX8_bestEntry_89 : decode cX8_bestEntry 89 = .ok (.istore_n 2, 1) := by decide +kernel
theorem dX8_bestEntry_90 : decode cX8_bestEntry 90 = .ok (.iload 6, 2) := by decide +kernel
theorem dX8_bestEntry_92 : decode cX8_bestEntry 92 = .ok (.istore_n 3, 1) := by decide +kernel
theorem dX8_bestEntry_93 : decode cX8_bestEntry 93 = .ok (.iinc 4 1, 3) := by decide +kernel
theorem dX8_bestEntry_96 : decode cX8_bestEntry 96 = .ok (.goto (-76), 3) := by decide +kernel
theorem dX8_bestEntry_99 : decode cX8_bestEntry 99 = .ok (.iload_n 2, 1) := by decide +kernel
theorem dX8_bestEntry_100 : decode cX8_bestEntry 100 = .ok (.ireturn, 1) := by decide +kernel
theorem dX8_recordAndBringPennantDown_0 : decode cX8_recordAndBringPennantDown 0 = .ok (.aload_n 0, 1) := by decide +kernel
theorem dX8_recordAndBringPennantDown_1 : decode cX8_recordAndBringPennantDown 1 = .ok (.getfield 26, 3) := by decide +kernel
theorem dX8_recordAndBringPennantDown_4 : decode cX8_recordAndBringPennantDown 4 = .ok (.aload_n 0, 1) := by decide +kernel
theorem dX8_recordAndBringPennantDown_5 : decode cX8_recordAndBringPennantDown 5 = .ok (.getfield 10, 3) := by decide +kernel
theorem dX8_recordAndBringPennantDown_8 : decode cX8_recordAndBringPennantDown 8 = .ok (.invokevirtual 80, 3) := by decide +kernel
theorem dX8_recordAndBringPennantDown_11 : decode cX8_recordAndBringPennantDown 11 = .ok (.aload_n 0, 1) := by decide +kernel
theorem dX8_recordAndBringPennantDown_12 : decode cX8_recordAndBringPennantDown 12 = .ok (.getfield 10, 3) := by decide +kernel
theorem dX8_recordAndBringPennantDown_15 : decode cX8_recordAndBringPennantDown 15 = .ok (.iconst 0, 1) := by decide +kernel
theorem dX8_recordAndBringPennantDown_16 : decode cX8_recordAndBringPennantDown 16 = .ok (.putfield 127, 3) := by decide +kernel
theorem dX8_recordAndBringPennantDown_19 : decode cX8_recordAndBringPennantDown 19 = .ok (.return_, 1) := by decide +kernel
theorem dX8_readingOf_0 : decode cX8_readingOf 0 = .ok (.iload_n 1, 1) := by decide +kernel
theorem dX8_readingOf_1 : decode cX8_readingOf 1 = .ok (.ifCond .ne 10, 3) := by decide +kernel
theorem dX8_readingOf_4 : decode cX8_readingOf 4 = .ok (.aload_n 0, 1) := by decide +kernel
theorem dX8_readingOf_5 : decode cX8_readingOf 5 = .ok (.getfield 42, 3) := by decide +kernel
theorem dX8_readingOf_8 : decode cX8_readingOf 8 = .ok (.goto 7, 3) := by decide +kernel
theorem dX8_readingOf_11 : decode cX8_readingOf 11 = .ok (.aload_n 0, 1) := by decide +kernel
theorem dX8_readingOf_12 : decode cX8_readingOf 12 = .ok (.getfield 46, 3) := by decide +kernel
theorem dX8_readingOf_15 : decode cX8_readingOf 15 = .ok (.areturn, 1) := by decide +kernel
theorem dX8_read_0 : decode cX8_read 0 = .ok (.aload_n 0, 1) := by decide +kernel
theorem dX8_read_1 : decode cX8_read 1 = .ok (.iload_n 1, 1) := by decide +kernel
theorem dX8_read_2 : decode cX8_read 2 = .ok (.invokevirtual 217, 3) := by decide +kernel
theorem dX8_read_5 : decode cX8_read 5 = .ok (.astore_n 2, 1) := by decide +kernel
theorem dX8_read_6 : decode cX8_read 6 = .ok (.aload_n 2, 1) := by decide +kernel
theorem dX8_read_7 : decode cX8_read 7 = .ok (.aload_n 0, 1) := by decide +kernel
theorem dX8_read_8 : decode cX8_read 8 = .ok (.getfield 10, 3) := by decide +kernel
theorem dX8_read_11 : decode cX8_read 11 = .ok (.aload_n 0, 1) := by decide +kernel
theorem dX8_read_12 : decode cX8_read 12 = .ok (.getfield 10, 3) := by decide +kernel
theorem dX8_read_15 : decode cX8_read 15 = .ok (.getfield 88, 3) := by decide +kernel
theorem dX8_read_18 : decode cX8_read 18 = .ok (.aload_n 0, 1) := by decide +kernel
theorem dX8_read_19 : decode cX8_read 19 = .ok (.getfield 10, 3) := by decide +kernel
theorem dX8_read_22 : decode cX8_read 22 = .ok (.getfield 91, 3) := by decide +kernel
theorem dX8_read_25 : decode cX8_read 25 = .ok (.invokevirtual 220, 3) := by decide +kernel
theorem dX8_read_28 : decode cX8_read 28 = .ok (.aload_n 2, 1) := by decide +kernel
theorem dX8_read_29 : decode cX8_read 29 = .ok (.areturn, 1) := by decide +kernel
theorem dX8_isKnownAsItself_0 : decode cX8_isKnownAsItself 0 = .ok (.iconst 0, 1) := by decide +kernel
theorem dX8_isKnownAsItself_1 : decode cX8_isKnownAsItself 1 = .ok (.aload_n 0, 1) := by decide +kernel
theorem dX8_isKnownAsItself_2 : decode cX8_isKnownAsItself 2 = .ok (.getfield 10, 3) := by decide +kernel
theorem dX8_isKnownAsItself_5 : decode cX8_isKnownAsItself 5 = .ok (.getfield 91, 3) := by decide +kernel
theorem dX8_isKnownAsItself_8 : decode cX8_isKnownAsItself 8 = .ok (.invokestatic 185, 3) := by decide +kernel
theorem dX8_isKnownAsItself_11 : decode cX8_isKnownAsItself 11 = .ok (.istore_n 2, 1) := by decide +kernel
theorem dX8_isKnownAsItself_12 : decode cX8_isKnownAsItself 12 = .ok (.iload_n 1, 1) := by decide +kernel
theorem dX8_isKnownAsItself_13 : decode cX8_isKnownAsItself 13 = .ok (.istore_n 3, 1) := by decide +kernel
theorem dX8_isKnownAsItself_14 : decode cX8_isKnownAsItself 14 = .ok (.iconst 0, 1) := by decide +kernel
theorem dX8_isKnownAsItself_15 : decode cX8_isKnownAsItself 15 = .ok (.istore 4, 2) := by decide +kernel
theorem dX8_isKnownAsItself_17 : decode cX8_isKnownAsItself 17 = .ok (.iload 4, 2) := by decide +kernel
theorem dX8_isKnownAsItself_19 : decode cX8_isKnownAsItself 19 = .ok (.iconst 4, 1) := by decide +kernel
theorem dX8_isKnownAsItself_20 : decode cX8_isKnownAsItself 20 = .ok (.if_icmp .ge 53, 3) := by decide +kernel
theorem dX8_isKnownAsItself_23 : decode cX8_isKnownAsItself 23 = .ok (.iload_n 3, 1) := by decide +kernel
theorem dX8_isKnownAsItself_24 : decode cX8_isKnownAsItself 24 = .ok (.bipush 10, 2) := by decide +kernel
theorem dX8_isKnownAsItself_26 : decode cX8_isKnownAsItself 26 = .ok (.if_icmp .lt 47, 3) := by decide +kernel
theorem dX8_isKnownAsItself_29 : decode cX8_isKnownAsItself 29 = .ok (.iload_n 3, 1) := by decide +kernel
theorem dX8_isKnownAsItself_30 : decode cX8_isKnownAsItself 30 = .ok (.bipush 10, 2) := by decide +kernel
theorem dX8_isKnownAsItself_32 : decode cX8_isKnownAsItself 32 = .ok (.irem, 1) := by decide +kernel
theorem dX8_isKnownAsItself_33 : decode cX8_isKnownAsItself 33 = .ok (.istore 5, 2) := by decide +kernel
theorem dX8_isKnownAsItself_35 : decode cX8_isKnownAsItself 35 = .ok (.aload_n 0, 1) := by decide +kernel
theorem dX8_isKnownAsItself_36 : decode cX8_isKnownAsItself 36 = .ok (.getfield 10, 3) := by decide +kernel
theorem dX8_isKnownAsItself_39 : decode cX8_isKnownAsItself 39 = .ok (.getfield 56, 3) := by decide +kernel
theorem dX8_isKnownAsItself_42 : decode cX8_isKnownAsItself 42 = .ok (.iload 5, 2) := by decide +kernel
theorem dX8_isKnownAsItself_44 : decode cX8_isKnownAsItself 44 = .ok (.iload_n 2, 1) := by decide +kernel
theorem dX8_isKnownAsItself_45 : decode cX8_isKnownAsItself 45 = .ok (.aload_n 0, 1) := by decide +kernel
theorem dX8_isKnownAsItself_46 : decode cX8_isKnownAsItself 46 = .ok (.getfield 10, 3) := by decide +kernel
theorem dX8_isKnownAsItself_49 : decode cX8_isKnownAsItself 49 = .ok (.getfield 88, 3) := by decide +kernel
theorem dX8_isKnownAsItself_52 : decode cX8_isKnownAsItself 52 = .ok (.invokevirtual 188, 3) := by decide +kernel
theorem dX8_isKnownAsItself_55 : decode cX8_isKnownAsItself 55 = .ok (.iload 5, 2) := by decide +kernel
theorem dX8_isKnownAsItself_57 : decode cX8_isKnownAsItself 57 = .ok (.if_icmp .eq 5, 3) := by decide +kernel
theorem dX8_isKnownAsItself_60 : decode cX8_isKnownAsItself 60 = .ok (.iconst 0, 1) := by decide +kernel
theorem dX8_isKnownAsItself_61 : decode cX8_isKnownAsItself 61 = .ok (.ireturn, 1) := by decide +kernel
theorem dX8_isKnownAsItself_62 : decode cX8_isKnownAsItself 62 = .ok (.iload_n 3, 1) := by decide +kernel
theorem dX8_isKnownAsItself_63 : decode cX8_isKnownAsItself 63 = .ok (.bipush 10, 2) := by decide +kernel
theorem dX8_isKnownAsItself_65 : decode cX8_isKnownAsItself 65 = .ok (.idiv, 1) := by decide +kernel
theorem dX8_isKnownAsItself_66 : decode cX8_isKnownAsItself 66 = .ok (.istore_n 3, 1) := by decide +kernel
theorem dX8_isKnownAsItself_67 : decode cX8_isKnownAsItself 67 = .ok (.iinc 4 1, 3) := by decide +kernel
theorem dX8_isKnownAsItself_70 : decode cX8_isKnownAsItself 70 = .ok (.goto (-53), 3) := by decide +kernel
theorem dX8_isKnownAsItself_73 : decode cX8_isKnownAsItself 73 = .ok (.iconst 1, 1) := by decide +kernel
theorem dX8_isKnownAsItself_74 : decode cX8_isKnownAsItself 74 = .ok (.ireturn, 1) := by decide +kernel
theorem dX8_isBelow_0 : decode cX8_isBelow 0 = .ok (.iload_n 0, 1) := by decide +kernel
theorem dX8_isBelow_1 : decode cX8_isBelow 1 = .ok (.ifCond .lt 12, 3) := by decide +kernel
theorem dX8_isBelow_4 : decode cX8_isBelow 4 = .ok (.iload_n 0, 1) := by decide +kernel
theorem dX8_isBelow_5 : decode cX8_isBelow 5 = .ok (.iload_n 1, 1) := by decide +kernel
theorem dX8_isBelow_6 : decode cX8_isBelow 6 = .ok (.if_icmp .ge 7, 3) := by decide +kernel
theorem dX8_isBelow_9 : decode cX8_isBelow 9 = .ok (.iconst 1, 1) := by decide +kernel
theorem dX8_isBelow_10 : decode cX8_isBelow 10 = .ok (.goto 4, 3) := by decide +kernel
theorem dX8_isBelow_13 : decode cX8_isBelow 13 = .ok (.iconst 0, 1) := by decide +kernel
theorem dX8_isBelow_14 : decode cX8_isBelow 14 = .ok (.ireturn, 1) := by decide +kernel
theorem dX8_isHoistFirst_0 : decode cX8_isHoistFirst 0 = .ok (.iload_n 0, 1) := by decide +kernel
theorem dX8_isHoistFirst_1 : decode cX8_isHoistFirst 1 = .ok (.iload_n 1, 1) := by decide +kernel
theorem dX8_isHoistFirst_2 : decode cX8_isHoistFirst 2 = .ok (.if_icmp .ne 7, 3) := by decide +kernel
theorem dX8_isHoistFirst_5 : decode cX8_isHoistFirst 5 = .ok (.iconst 1, 1) := by decide +kernel
theorem dX8_isHoistFirst_6 : decode cX8_isHoistFirst 6 = .ok (.goto 4, 3) := by decide +kernel
theorem dX8_isHoistFirst_9 : decode cX8_isHoistFirst 9 = .ok (.iconst 0, 1) := by decide +kernel
theorem dX8_isHoistFirst_10 : decode cX8_isHoistFirst 10 = .ok (.ireturn, 1) := by decide +kernel
theorem dX8_isSign_0 : decode cX8_isSign 0 = .ok (.iload_n 0, 1) := by decide +kernel
theorem dX8_isSign_1 : decode cX8_isSign 1 = .ok (.bipush 10, 2) := by decide +kernel
theorem dX8_isSign_3 : decode cX8_isSign 3 = .ok (.invokestatic 49, 3) := by decide +kernel
theorem dX8_isSign_6 : decode cX8_isSign 6 = .ok (.ifCond .ne 15, 3) := by decide +kernel
theorem dX8_isSign_9 : decode cX8_isSign 9 = .ok (.iload_n 0, 1) := by decide +kernel
theorem dX8_isSign_10 : decode cX8_isSign 10 = .ok (.bipush 10, 2) := by decide +kernel
theorem dX8_isSign_12 : decode cX8_isSign 12 = .ok (.if_icmp .le 13, 3) := by decide +kernel
theorem dX8_isSign_15 : decode cX8_isSign 15 = .ok (.iload_n 0, 1) := by decide +kernel
theorem dX8_isSign_16 : decode cX8_isSign 16 = .ok (.bipush 13, 2) := by decide +kernel
theorem dX8_isSign_18 : decode cX8_isSign 18 = .ok (.if_icmp .gt 7, 3) := by decide +kernel
theorem dX8_isSign_21 : decode cX8_isSign 21 = .ok (.iconst 1, 1) := by decide +kernel
theorem dX8_isSign_22 : decode cX8_isSign 22 = .ok (.goto 4, 3) := by decide +kernel
theorem dX8_isSign_25 : decode cX8_isSign 25 = .ok (.iconst 0, 1) := by decide +kernel
theorem dX8_isSign_26 : decode cX8_isSign 26 = .ok (.ireturn, 1) := by decide +kernel
theorem dX8_isFlagsNumber_0 : decode cX8_isFlagsNumber 0 = .ok (.bipush 10, 2) := by decide +kernel
theorem dX8_isFlagsNumber_2 : decode cX8_isFlagsNumber 2 = .ok (.istore_n 1, 1) := by decide +kernel
theorem dX8_isFlagsNumber_3 : decode cX8_isFlagsNumber 3 = .ok (.iconst 1, 1) := by decide +kernel
theorem dX8_isFlagsNumber_4 : decode cX8_isFlagsNumber 4 = .ok (.istore_n 2, 1) := by decide +kernel
theorem dX8_isFlagsNumber_5 : decode cX8_isFlagsNumber 5 = .ok (.iload_n 2, 1) := by decide +kernel
theorem dX8_isFlagsNumber_6 : decode cX8_isFlagsNumber 6 = .ok (.iconst 4, 1) := by decide +kernel
theorem dX8_isFlagsNumber_7 : decode cX8_isFlagsNumber 7 = .ok (.if_icmp .gt 28, 3) := by decide +kernel
theorem dX8_isFlagsNumber_10 : decode cX8_isFlagsNumber 10 = .ok (.iload_n 0, 1) := by decide +kernel
theorem dX8_isFlagsNumber_11 : decode cX8_isFlagsNumber 11 = .ok (.iload_n 1, 1) := by decide +kernel
theorem dX8_isFlagsNumber_12 : decode cX8_isFlagsNumber 12 = .ok (.if_icmp .lt 12, 3) := by decide +kernel
theorem dX8_isFlagsNumber_15 : decode cX8_isFlagsNumber 15 = .ok (.iload_n 0, 1) := by decide +kernel
theorem dX8_isFlagsNumber_16 : decode cX8_isFlagsNumber 16 = .ok (.iconst 2, 1) := by decide +kernel
theorem dX8_isFlagsNumber_17 : decode cX8_isFlagsNumber 17 = .ok (.iload_n 1, 1) := by decide +kernel
theorem dX8_isFlagsNumber_18 : decode cX8_isFlagsNumber 18 = .ok (.imul, 1) := by decide +kernel
theorem dX8_isFlagsNumber_19 : decode cX8_isFlagsNumber 19 = .ok (.if_icmp .ge 5, 3) := by decide +kernel
theorem dX8_isFlagsNumber_22 : decode cX8_isFlagsNumber 22 = .ok (.iconst 1, 1) := by decide +kernel
theorem dX8_isFlagsNumber_23 : decode cX8_isFlagsNumber 23 = .ok (.ireturn, 1) := by decide +kernel
theorem dX8_isFlagsNumber_24 : decode cX8_isFlagsNumber 24 = .ok (.iload_n 1, 1) := by decide +kernel
theorem dX8_isFlagsNumber_25 : decode cX8_isFlagsNumber 25 = .ok (.bipush 10, 2) := by decide +kernel
theorem dX8_isFlagsNumber_27 : decode cX8_isFlagsNumber 27 = .ok (.imul, 1) := by decide +kernel
theorem dX8_isFlagsNumber_28 : decode cX8_isFlagsNumber 28 = .ok (.istore_n 1, 1) := by decide +kernel
theorem dX8_isFlagsNumber_29 : decode cX8_isFlagsNumber 29 = .ok (.iinc 2 1, 3) := by decide +kernel
theorem dX8_isFlagsNumber_32 : decode cX8_isFlagsNumber 32 = .ok (.goto (-27), 3) := by decide +kernel
theorem dX8_isFlagsNumber_35 : decode cX8_isFlagsNumber 35 = .ok (.iconst 0, 1) := by decide +kernel
theorem dX8_isFlagsNumber_36 : decode cX8_isFlagsNumber 36 = .ok (.ireturn, 1) := by decide +kernel
theorem dX8_lengthOf_0 : decode cX8_lengthOf 0 = .ok (.iconst 0, 1) := by decide +kernel
theorem dX8_lengthOf_1 : decode cX8_lengthOf 1 = .ok (.istore_n 1, 1) := by decide +kernel
theorem dX8_lengthOf_2 : decode cX8_lengthOf 2 = .ok (.iload_n 0, 1) := by decide +kernel
theorem dX8_lengthOf_3 : decode cX8_lengthOf 3 = .ok (.istore_n 2, 1) := by decide +kernel
theorem dX8_lengthOf_4 : decode cX8_lengthOf 4 = .ok (.iload_n 1, 1) := by decide +kernel
theorem dX8_lengthOf_5 : decode cX8_lengthOf 5 = .ok (.iconst 4, 1) := by decide +kernel
theorem dX8_lengthOf_6 : decode cX8_lengthOf 6 = .ok (.if_icmp .ge 20, 3) := by decide +kernel
theorem dX8_lengthOf_9 : decode cX8_lengthOf 9 = .ok (.iload_n 2, 1) := by decide +kernel
theorem dX8_lengthOf_10 : decode cX8_lengthOf 10 = .ok (.bipush 10, 2) := by decide +kernel
theorem dX8_lengthOf_12 : decode cX8_lengthOf 12 = .ok (.if_icmp .lt 14, 3) := by decide +kernel
theorem dX8_lengthOf_15 : decode cX8_lengthOf 15 = .ok (.iload_n 2, 1) := by decide +kernel
theorem dX8_lengthOf_16 : decode cX8_lengthOf 16 = .ok (.bipush 10, 2) := by decide +kernel
theorem dX8_lengthOf_18 : decode cX8_lengthOf 18 = .ok (.idiv, 1) := by decide +kernel
theorem dX8_lengthOf_19 : decode cX8_lengthOf 19 = .ok (.istore_n 2, 1) := by decide +kernel
theorem dX8_lengthOf_20 : decode cX8_lengthOf 20 = .ok (.iinc 1 1, 3) := by decide +kernel
theorem dX8_lengthOf_23 : decode cX8_lengthOf 23 = .ok (.goto (-19), 3) := by decide +kernel
theorem dX8_lengthOf_26 : decode cX8_lengthOf 26 = .ok (.iload_n 1, 1) := by decide +kernel
theorem dX8_lengthOf_27 : decode cX8_lengthOf 27 = .ok (.ireturn, 1) := by decide +kernel
