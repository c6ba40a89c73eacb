theorem dX4_init_0 : decode cX4_init 0 = .ok (.aload_n 0, 1) := by decide +kernel
theorem dX4_init_1 : decode cX4_init 1 = .ok (.invokespecial 3, 3) := by decide +kernel
theorem dX4_init_4 : decode cX4_init 4 = .ok (.aload_n 0, 1) := by decide +kernel
theorem dX4_init_5 : decode cX4_init 5 = .ok (.new 9, 3) := by decide +kernel
theorem dX4_init_8 : decode cX4_init 8 = .ok (.dup, 1) := by decide +kernel
theorem dX4_init_9 : decode cX4_init 9 = .ok (.invokespecial 11, 3) := by decide +kernel
theorem dX4_init_12 : decode cX4_init 12 = .ok (.putfield 12, 3) := by decide +kernel
theorem dX4_init_15 : decode cX4_init 15 = .ok (.aload_n 0, 1) := by decide +kernel
theorem dX4_init_16 : decode cX4_init 16 = .ok (.new 9, 3) := by decide +kernel
theorem dX4_init_19 : decode cX4_init 19 = .ok (.dup, 1) := by decide +kernel
theorem dX4_init_20 : decode cX4_init 20 = .ok (.invokespecial 11, 3) := by decide +kernel
theorem dX4_init_23 : decode cX4_init 23 = .ok (.putfield 16, 3) := by decide +kernel
theorem dX4_init_26 : decode cX4_init 26 = .ok (.aload_n 0, 1) := by decide +kernel
theorem dX4_init_27 : decode cX4_init 27 = .ok (.new 19, 3) := by decide +kernel
theorem dX4_init_30 : decode cX4_init 30 = .ok (.dup, 1) := by decide +kernel
theorem dX4_init_31 : decode cX4_init 31 = .ok (.invokespecial 21, 3) := by decide +kernel
theorem dX4_init_34 : decode cX4_init 34 = .ok (.putfield 22, 3) := by decide +kernel
theorem dX4_init_37 : decode cX4_init 37 = .ok (.aload_n 0, 1) := by decide +kernel
theorem dX4_init_38 : decode cX4_init 38 = .ok (.new 26, 3) := by decide +kernel
theorem dX4_init_41 : decode cX4_init 41 = .ok (.dup, 1) := by decide +kernel
theorem dX4_init_42 : decode cX4_init 42 = .ok (.invokespecial 28, 3) := by decide +kernel
theorem dX4_init_45 : decode cX4_init 45 = .ok (.putfield 29, 3) := by decide +kernel
theorem dX4_init_48 : decode cX4_init 48 = .ok (.aload_n 0, 1) := by decide +kernel
theorem dX4_init_49 : decode cX4_init 49 = .ok (.iconst 4, 1) := by decide +kernel
theorem dX4_init_50 : decode cX4_init 50 = .ok (.anewarray 33, 3) := by decide +kernel
theorem dX4_init_53 : decode cX4_init 53 = .ok (.putfield 35, 3) := by decide +kernel
theorem dX4_init_56 : decode cX4_init 56 = .ok (.aload_n 0, 1) := by decide +kernel
theorem dX4_init_57 : decode cX4_init 57 = .ok (.bipush 7, 2) := by decide +kernel
theorem dX4_init_59 : decode cX4_init 59 = .ok (.newarray .int, 2) := by decide +kernel
theorem dX4_init_61 : decode cX4_init 61 = .ok (.putfield 39, 3) := by decide +kernel
theorem dX4_init_64 : decode cX4_init 64 = .ok (.aload_n 0, 1) := by decide +kernel
theorem dX4_init_65 : decode cX4_init 65 = .ok (.bipush 60, 2) := by decide +kernel
theorem dX4_init_67 : decode cX4_init 67 = .ok (.newarray .int, 2) := by decide +kernel
theorem dX4_init_69 : decode cX4_init 69 = .ok (.putfield 43, 3) := by decide +kernel
theorem dX4_init_72 : decode cX4_init 72 = .ok (.aload_n 0, 1) := by decide +kernel
theorem dX4_init_73 : decode cX4_init 73 = .ok (.iconst 4, 1) := by decide +kernel
theorem dX4_init_74 : decode cX4_init 74 = .ok (.newarray .int, 2) := by decide +kernel
theorem dX4_init_76 : decode cX4_init 76 = .ok (.putfield 46, 3) := by decide +kernel
theorem dX4_init_79 : decode cX4_init 79 = .ok (.iconst 0, 1) := by decide +kernel
theorem dX4_init_80 : decode cX4_init 80 = .ok (.istore_n 1, 1) := by decide +kernel
theorem dX4_init_81 : decode cX4_init 81 = .ok (.iload_n 1, 1) := by decide +kernel
theorem dX4_init_82 : decode cX4_init 82 = .ok (.iconst 4, 1) := by decide +kernel
theorem dX4_init_83 : decode cX4_init 83 = .ok (.if_icmp .ge 22, 3) := by decide +kernel
theorem dX4_init_86 : decode cX4_init 86 = .ok (.aload_n 0, 1) := by decide +kernel
theorem dX4_init_87 : decode cX4_init 87 = .ok (.getfield 35, 3) := by decide +kernel
theorem dX4_init_90 : decode cX4_init 90 = .ok (.iload_n 1, 1) := by decide +kernel
theorem dX4_init_91 : decode cX4_init 91 = .ok (.new 33, 3) := by decide +kernel
theorem dX4_init_94 : decode cX4_init 94 = .ok (.dup, 1) := by decide +kernel
theorem dX4_init_95 : decode cX4_init 95 = .ok (.invokespecial 49, 3) := by decide +kernel
theorem dX4_init_98 : decode cX4_init 98 = .ok (.aastore, 1) := by decide +kernel
theorem dX4_init_99 : decode cX4_init 99 = .ok (.iinc 1 1, 3) := by decide +kernel
theorem dX4_init_102 : decode cX4_init 102 = .ok (.goto (-21), 3) := by decide +kernel
theorem dX4_init_105 : decode cX4_init 105 = .ok (.return_, 1) := by decide +kernel
theorem dX4_cat_0 : decode cX4_cat 0 = .ok (.iload_n 1, 1) := by decide +kernel
theorem dX4_cat_1 : decode cX4_cat 1 = .ok (.invokestatic 50, 3) := by decide +kernel
theorem dX4_cat_4 : decode cX4_cat 4 = .ok (.ifCond .ne 10, 3) := by decide +kernel
theorem dX4_cat_7 : decode cX4_cat 7 = .ok (.aload_n 0, 1) := by decide +kernel
theorem dX4_cat_8 : decode cX4_cat 8 = .ok (.ldc 54, 2) := by decide +kernel
theorem dX4_cat_10 : decode cX4_cat 10 = .ok (.invokevirtual 55, 3) := by decide +kernel
theorem dX4_cat_13 : decode cX4_cat 13 = .ok (.ireturn, 1) := by decide +kernel
theorem dX4_cat_14 : decode cX4_cat 14 = .ok (.aload_n 0, 1) := by decide +kernel
theorem dX4_cat_15 : decode cX4_cat 15 = .ok (.getfield 12, 3) := by decide +kernel
theorem dX4_cat_18 : decode cX4_cat 18 = .ok (.getfield 59, 3) := by decide +kernel
theorem dX4_cat_21 : decode cX4_cat 21 = .ok (.bipush 8, 2) := by decide +kernel
theorem dX4_cat_23 : decode cX4_cat 23 = .ok (.if_icmp .lt 10, 3) := by decide +kernel
theorem dX4_cat_26 : decode cX4_cat 26 = .ok (.aload_n 0, 1) := by decide +kernel
theorem dX4_cat_27 : decode cX4_cat 27 = .ok (.ldc 63, 2) := by decide +kernel
theorem dX4_cat_29 : decode cX4_cat 29 = .ok (.invokevirtual 55, 3) := by decide +kernel
theorem dX4_cat_32 : decode cX4_cat 32 = .ok (.ireturn, 1) := by decide +kernel
theorem dX4_cat_33 : decode cX4_cat 33 = .ok (.aload_n 0, 1) := by decide +kernel
theorem dX4_cat_34 : decode cX4_cat 34 = .ok (.getfield 12, 3) := by decide +kernel
theorem dX4_cat_37 : decode cX4_cat 37 = .ok (.iload_n 1, 1) := by decide +kernel
theorem dX4_cat_38 : decode cX4_cat 38 = .ok (.iconst 0, 1) := by decide +kernel
theorem dX4_cat_39 : decode cX4_cat 39 = .ok (.iconst 0, 1) := by decide +kernel
theorem dX4_cat_40 : decode cX4_cat 40 = .ok (.invokevirtual 64, 3) := by decide +kernel
theorem dX4_cat_43 : decode cX4_cat 43 = .ok (.ireturn, 1) := by decide +kernel
theorem dX4_of_0 : decode cX4_of 0 = .ok (.aload_n 0, 1) := by decide +kernel
theorem dX4_of_1 : decode cX4_of 1 = .ok (.iload_n 1, 1) := by decide +kernel
theorem dX4_of_2 : decode cX4_of 2 = .ok (.invokevirtual 68, 3) := by decide +kernel
theorem dX4_of_5 : decode cX4_of 5 = .ok (.ifCond .ne 10, 3) := by decide +kernel
theorem dX4_of_8 : decode cX4_of 8 = .ok (.aload_n 0, 1) := by decide +kernel
theorem dX4_of_9 : decode cX4_of 9 = .ok (.ldc 54, 2) := by decide +kernel
theorem dX4_of_11 : decode cX4_of 11 = .ok (.invokevirtual 55, 3) := by decide +kernel
theorem dX4_of_14 : decode cX4_of 14 = .ok (.ireturn, 1) := by decide +kernel
theorem dX4_of_15 : decode cX4_of 15 = .ok (.iload_n 2, 1) := by decide +kernel
theorem dX4_of_16 : decode cX4_of 16 = .ok (.tableswitch 72 0 3 #[32, 42, 52, 62], 32) := by decide +kernel
theorem dX4_of_48 : decode cX4_of 48 = .ok (.aload_n 0, 1) := by decide +kernel
theorem dX4_of_49 : decode cX4_of 49 = .ok (.getfield 12, 3) := by decide +kernel
theorem dX4_of_52 : decode cX4_of 52 = .ok (.getfield 71, 3) := by decide +kernel
theorem dX4_of_55 : decode cX4_of 55 = .ok (.iload_n 1, 1) := by decide +kernel
theorem dX4_of_56 : decode cX4_of 56 = .ok (.iaload, 1) := by decide +kernel
theorem dX4_of_57 : decode cX4_of 57 = .ok (.ireturn, 1) := by decide +kernel
theorem dX4_of_58 : decode cX4_of 58 = .ok (.aload_n 0, 1) := by decide +kernel
theorem dX4_of_59 : decode cX4_of 59 = .ok (.getfield 12, 3) := by decide +kernel
theorem dX4_of_62 : decode cX4_of 62 = .ok (.getfield 74, 3) := by decide +kernel
theorem dX4_of_65 : decode cX4_of 65 = .ok (.iload_n 1, 1) := by decide +kernel
theorem dX4_of_66 : decode cX4_of 66 = .ok (.iaload, 1) := by decide +kernel
theorem dX4_of_67 : decode cX4_of 67 = .ok (.ireturn, 1) := by decide +kernel
theorem dX4_of_68 : decode cX4_of 68 = .ok (.aload_n 0, 1) := by decide +kernel
theorem dX4_of_69 : decode cX4_of 69 = .ok (.getfield 12, 3) := by decide +kernel
theorem dX4_of_72 : decode cX4_of 72 = .ok (.getfield 77, 3) := by decide +kernel
theorem dX4_of_75 : decode cX4_of 75 = .ok (.iload_n 1, 1) := by decide +kernel
theorem dX4_of_76 : decode cX4_of 76 = .ok (.iaload, 1) := by decide +kernel
theorem dX4_of_77 : decode cX4_of 77 = .ok (.ireturn, 1) := by decide +kernel
theorem dX4_of_78 : decode cX4_of 78 = .ok (.aload_n 0, 1) := by decide +kernel
theorem dX4_of_79 : decode cX4_of 79 = .ok (.getfield 12, 3) := by decide +kernel
theorem dX4_of_82 : decode cX4_of 82 = .ok (.iload_n 1, 1) := by decide +kernel
theorem dX4_of_83 : decode cX4_of 83 = .ok (.iconst 0, 1) := by decide +kernel
theorem dX4_of_84 : decode cX4_of 84 = .ok (.invokevirtual 80, 3) := by decide +kernel
theorem dX4_of_87 : decode cX4_of 87 = .ok (.ireturn, 1) := by decide +kernel
theorem dX4_of_88 : decode cX4_of 88 = .ok (.aload_n 0, 1) := by decide +kernel
theorem dX4_of_89 : decode cX4_of 89 = .ok (.ldc 54, 2) := by decide +kernel
theorem dX4_of_91 : decode cX4_of 91 = .ok (.invokevirtual 55, 3) := by decide +kernel
theorem dX4_of_94 : decode cX4_of 94 = .ok (.ireturn, 1) := by decide +kernel
theorem dX4_change_0 : decode cX4_change 0 = .ok (.aload_n 0, 1) := by decide +kernel
theorem dX4_change_1 : decode cX4_change 1 = .ok (.iload_n 1, 1) := by decide +kernel
theorem dX4_change_2 : decode cX4_change 2 = .ok (.invokevirtual 68, 3) := by decide +kernel
theorem dX4_change_5 : decode cX4_change 5 = .ok (.ifCond .ne 10, 3) := by decide +kernel
theorem dX4_change_8 : decode cX4_change 8 = .ok (.aload_n 0, 1) := by decide +kernel
theorem dX4_change_9 : decode cX4_change 9 = .ok (.ldc 54, 2) := by decide +kernel
theorem dX4_change_11 : decode cX4_change 11 = .ok (.invokevirtual 55, 3) := by decide +kernel
theorem dX4_change_14 : decode cX4_change 14 = .ok (.ireturn, 1) := by decide +kernel
theorem dX4_change_15 : decode cX4_change 15 = .ok (.iload_n 2, 1) := by decide +kernel
theorem dX4_change_16 : decode cX4_change 16 = .ok (.ifCond .ne 23, 3) := by decide +kernel
theorem dX4_change_19 : decode cX4_change 19 = .ok (.iload_n 3, 1) := by decide +kernel
theorem dX4_change_20 : decode cX4_change 20 = .ok (.invokestatic 50, 3) := by decide +kernel
theorem dX4_change_23 : decode cX4_change 23 = .ok (.ifCond .eq 16, 3) := by decide +kernel
theorem dX4_change_26 : decode cX4_change 26 = .ok (.aload_n 0, 1) := by decide +kernel
theorem dX4_change_27 : decode cX4_change 27 = .ok (.getfield 12, 3) := by decide +kernel
theorem dX4_change_30 : decode cX4_change 30 = .ok (.getfield 71, 3) := by decide +kernel
theorem dX4_change_33 : decode cX4_change 33 = .ok (.iload_n 1, 1) := by decide +kernel
theorem dX4_change_34 : decode cX4_change 34 = .ok (.iload_n 3, 1) := by decide +kernel
theorem dX4_change_35 : decode cX4_change 35 = .ok (.invokestatic 84, 3) := by decide +kernel
theorem dX4_change_38 : decode cX4_change 38 = .ok (.ireturn, 1) := by decide +kernel
theorem dX4_change_39 : decode cX4_change 39 = .ok (.iload_n 2, 1) := by decide +kernel
theorem dX4_change_40 : decode cX4_change 40 = .ok (.iconst 1, 1) := by decide +kernel
theorem dX4_change_41 : decode cX4_change 41 = .ok (.if_icmp .ne 26, 3) := by decide +kernel
theorem dX4_change_44 : decode cX4_change 44 = .ok (.iload_n 3, 1) := by decide +kernel
theorem dX4_change_45 : decode cX4_change 45 = .ok (.iconst 0, 1) := by decide +kernel
theorem dX4_change_46 : decode cX4_change 46 = .ok (.bipush 99, 2) := by decide +kernel
theorem dX4_change_48 : decode cX4_change 48 = .ok (.invokestatic 88, 3) := by decide +kernel
theorem dX4_change_51 : decode cX4_change 51 = .ok (.ifCond .eq 16, 3) := by decide +kernel
theorem dX4_change_54 : decode cX4_change 54 = .ok (.aload_n 0, 1) := by decide +kernel
theorem dX4_change_55 : decode cX4_change 55 = .ok (.getfield 12, 3) := by decide +kernel
theorem dX4_change_58 : decode cX4_change 58 = .ok (.getfield 74, 3) := by decide +kernel
theorem dX4_change_61 : decode cX4_change 61 = .ok (.iload_n 1, 1) := by decide +kernel
theorem dX4_change_62 : decode cX4_change 62 = .ok (.iload_n 3, 1) := by decide +kernel
theorem dX4_change_63 : decode cX4_change 63 = .ok (.invokestatic 84, 3) := by decide +kernel
theorem dX4_change_66 : decode cX4_change 66 = .ok (.ireturn, 1) := by decide +kernel
theorem dX4_change_67 : decode cX4_change 67 = .ok (.iload_n 2, 1) := by decide +kernel
theorem dX4_change_68 : decode cX4_change 68 = .ok (.iconst 2, 1) := by decide +kernel
theorem dX4_change_69 : decode cX4_change 69 = .ok (.if_icmp .ne 27, 3) := by decide +kernel
theorem dX4_change_72 : decode cX4_change 72 = .ok (.iload_n 3, 1) := by decide +kernel
theorem dX4_change_73 : decode cX4_change 73 = .ok (.bipush (-15), 2) := by decide +kernel
theorem dX4_change_75 : decode cX4_change 75 = .ok (.bipush 15, 2) := by decide +kernel
theorem dX4_change_77 : decode cX4_change 77 = .ok (.invokestatic 88, 3) := by decide +kernel
theorem dX4_change_80 : decode cX4_change 80 = .ok (.ifCond .eq 16, 3) := by decide +kernel
theorem dX4_change_83 : decode cX4_change 83 = .ok (.aload_n 0, 1) := by decide +kernel
theorem dX4_change_84 : decode cX4_change 84 = .ok (.getfield 12, 3) := by decide +kernel
theorem dX4_change_87 : decode cX4_change 87 = .ok (.getfield 77, 3) := by decide +kernel
theorem dX4_change_90 : decode cX4_change 90 = .ok (.iload_n 1, 1) := by decide +kernel
theorem dX4_change_91 : decode cX4_change 91 = .ok (.iload_n 3, 1) := by decide +kernel
theorem dX4_change_92 : decode cX4_change 92 = .ok (.invokestatic 84, 3) := by decide +kernel
theorem dX4_change_95 : decode cX4_change 95 = .ok (.ireturn, 1) := by decide +kernel
theorem dX4_change_96 : decode cX4_change 96 = .ok (.aload_n 0, 1) := by decide +kernel
theorem dX4_change_97 : decode cX4_change 97 = .ok (.ldc 54, 2) := by decide +kernel
theorem dX4_change_99 : decode cX4_change 99 = .ok (.invokevirtual 55, 3) := by decide +kernel
theorem dX4_change_102 : decode cX4_change 102 = .ok (.ireturn, 1) := by decide +kernel
theorem dX4_ship_0 : decode cX4_ship 0 = .ok (.iload_n 1, 1) := by decide +kernel
theorem dX4_ship_1 : decode cX4_ship 1 = .ok (.invokestatic 92, 3) := by decide +kernel
theorem dX4_ship_4 : decode cX4_ship 4 = .ok (.ifCond .ne 10, 3) := by decide +kernel
theorem dX4_ship_7 : decode cX4_ship 7 = .ok (.aload_n 0, 1) := by decide +kernel
theorem dX4_ship_8 : decode cX4_ship 8 = .ok (.ldc 54, 2) := by decide +kernel
theorem dX4_ship_10 : decode cX4_ship 10 = .ok (.invokevirtual 55, 3) := by decide +kernel
theorem dX4_ship_13 : decode cX4_ship 13 = .ok (.ireturn, 1) := by decide +kernel
theorem dX4_ship_14 : decode cX4_ship 14 = .ok (.iload_n 2, 1) := by decide +kernel
theorem dX4_ship_15 : decode cX4_ship 15 = .ok (.tableswitch 155 0 6 #[41, 51, 61, 71, 89, 119, 138], 41) := by decide +kernel
theorem dX4_ship_56 : decode cX4_ship 56 = .ok (.aload_n 0, 1) := by decide +kernel
theorem dX4_ship_57 : decode cX4_ship 57 = .ok (.getfield 12, 3) := by decide +kernel
theorem dX4_ship_60 : decode cX4_ship 60 = .ok (.getfield 95, 3) := by decide +kernel
theorem dX4_ship_63 : decode cX4_ship 63 = .ok (.iload_n 1, 1) := by decide +kernel
theorem dX4_ship_64 : decode cX4_ship 64 = .ok (.iaload, 1) := by decide +kernel
theorem dX4_ship_65 : decode cX4_ship 65 = .ok (.ireturn, 1) := by decide +kernel
theorem dX4_ship_66 : decode cX4_ship 66 = .ok (.aload_n 0, 1) := by decide +kernel
theorem dX4_ship_67 : decode cX4_ship 67 = .ok (.getfield 12, 3) := by decide +kernel
theorem dX4_ship_70 : decode cX4_ship 70 = .ok (.getfield 98, 3) := by decide +kernel
theorem dX4_ship_73 : decode cX4_ship 73 = .ok (.iload_n 1, 1) := by decide +kernel
theorem dX4_ship_74 : decode cX4_ship 74 = .ok (.iaload, 1) := by decide +kernel
theorem dX4_ship_75 : decode cX4_ship 75 = .ok (.ireturn, 1) := by decide +kernel
theorem dX4_ship_76 : decode cX4_ship 76 = .ok (.aload_n 0, 1) := by decide +kernel
theorem dX4_ship_77 : decode cX4_ship 77 = .ok (.getfield 12, 3) := by decide +kernel
theorem dX4_ship_80 : decode cX4_ship 80 = .ok (.getfield 101, 3) := by decide +kernel
theorem dX4_ship_83 : decode cX4_ship 83 = .ok (.iload_n 1, 1) := by decide +kernel
theorem dX4_ship_84 : decode cX4_ship 84 = .ok (.iaload, 1) := by decide +kernel
theorem dX4_ship_85 : decode cX4_ship 85 = .ok (.ireturn, 1) := by decide +kernel
theorem dX4_ship_86 : decode cX4_ship 86 = .ok (.aload_n 0, 1) := by decide +kernel
theorem dX4_ship_87 : decode cX4_ship 87 = .ok (.getfield 12, 3) := by decide +kernel
theorem dX4_ship_90 : decode cX4_ship 90 = .ok (.aload_n 0, 1) := by decide +kernel
theorem dX4_ship_91 : decode cX4_ship 91 = .ok (.getfield 12, 3) := by decide +kernel
theorem dX4_ship_94 : decode cX4_ship 94 = .ok (.getfield 101, 3) := by decide +kernel
theorem dX4_ship_97 : decode cX4_ship 97 = .ok (.iload_n 1, 1) := by decide +kernel
theorem dX4_ship_98 : decode cX4_ship 98 = .ok (.iaload, 1) := by decide +kernel
theorem dX4_ship_99 : decode cX4_ship 99 = .ok (.iconst 0, 1) := by decide +kernel
theorem dX4_ship_100 : decode cX4_ship 100 = .ok (.invokevirtual 104, 3) := by decide +kernel
theorem dX4_ship_103 : decode cX4_ship 103 = .ok (.ireturn, 1) := by decide +kernel
theorem dX4_ship_104 : decode cX4_ship 104 = .ok (.aload_n 0, 1) := by decide +kernel
theorem dX4_ship_105 : decode cX4_ship 105 = .ok (.getfield 12, 3) := by decide +kernel
theorem dX4_ship_108 : decode cX4_ship 108 = .ok (.getfield 98, 3) := by decide +kernel
theorem dX4_ship_111 : decode cX4_ship 111 = .ok (.iload_n 1, 1) := by decide +kernel
theorem dX4_ship_112 : decode cX4_ship 112 = .ok (.iaload, 1) := by decide +kernel
theorem dX4_ship_113 : decode cX4_ship 113 = .ok (.aload_n 0, 1) := by decide +kernel
theorem dX4_ship_114 : decode cX4_ship 114 = .ok (.getfield 12, 3) := by decide +kernel
theorem dX4_ship_117 : decode cX4_ship 117 = .ok (.aload_n 0, 1) := by decide +kernel
theorem dX4_ship_118 : decode cX4_ship 118 = .ok (.getfield 12, 3) := by decide +kernel
theorem dX4_ship_121 : decode cX4_ship 121 = .ok (.getfield 101, 3) := by decide +kernel
theorem dX4_ship_124 : decode cX4_ship 124 = .ok (.iload_n 1, 1) := by decide +kernel
theorem dX4_ship_125 : decode cX4_ship 125 = .ok (.iaload, 1) := by decide +kernel
theorem dX4_ship_126 : decode cX4_ship 126 = .ok (.iconst 0, 1) := by decide +kernel
theorem dX4_ship_127 : decode cX4_ship 127 = .ok (.invokevirtual 104, 3) := by decide +kernel
theorem dX4_ship_130 : decode cX4_ship 130 = .ok (.invokestatic 107, 3) := by decide +kernel
theorem dX4_ship_133 : decode cX4_ship 133 = .ok (.ireturn, 1) := by decide +kernel
theorem dX4_ship_134 : decode cX4_ship 134 = .ok (.aload_n 0, 1) := by decide +kernel
theorem dX4_ship_135 : decode cX4_ship 135 = .ok (.getfield 12, 3) := by decide +kernel
theorem dX4_ship_138 : decode cX4_ship 138 = .ok (.iload_n 1, 1) := by decide +kernel
theorem dX4_ship_139 : decode cX4_ship 139 = .ok (.aload_n 0, 1) := by decide +kernel
theorem dX4_ship_140 : decode cX4_ship 140 = .ok (.getfield 12, 3) := by decide +kernel
theorem dX4_ship_143 : decode cX4_ship 143 = .ok (.getfield 95, 3) := by decide +kernel
theorem dX4_ship_146 : decode cX4_ship 146 = .ok (.iload_n 1, 1) := by decide +kernel
theorem dX4_ship_147 : decode cX4_ship 147 = .ok (.iaload, 1) := by decide +kernel
theorem dX4_ship_148 : decode cX4_ship 148 = .ok (.iconst 0, 1) := by decide +kernel
theorem dX4_ship_149 : decode cX4_ship 149 = .ok (.invokevirtual 110, 3) := by decide +kernel
theorem dX4_ship_152 : decode cX4_ship 152 = .ok (.ireturn, 1) := by decide +kernel
theorem dX4_ship_153 : decode cX4_ship 153 = .ok (.aload_n 0, 1) := by decide +kernel
theorem dX4_ship_154 : decode cX4_ship 154 = .ok (.getfield 12, 3) := by decide +kernel
theorem dX4_ship_157 : decode cX4_ship 157 = .ok (.iload_n 1, 1) := by decide +kernel
theorem dX4_ship_158 : decode cX4_ship 158 = .ok (.invokevirtual 113, 3) := by decide +kernel
theorem dX4_ship_161 : decode cX4_ship 161 = .ok (.ifCond .eq 7, 3) := by decide +kernel
theorem dX4_ship_164 : decode cX4_ship 164 = .ok (.iconst 1, 1) := by decide +kernel
theorem dX4_ship_165 : decode cX4_ship 165 = .ok (.goto 4, 3) := by decide +kernel
theorem dX4_ship_168 : decode cX4_ship 168 = .ok (.iconst 0, 1) := by decide +kernel
theorem dX4_ship_169 : decode cX4_ship 169 = .ok (.ireturn, 1) := by decide +kernel
theorem dX4_ship_170 : decode cX4_ship 170 = .ok (.aload_n 0, 1) := by decide +kernel
theorem dX4_ship_171 : decode cX4_ship 171 = .ok (.ldc 54, 2) := by decide +kernel
theorem dX4_ship_173 : decode cX4_ship 173 = .ok (.invokevirtual 55, 3) := by decide +kernel
theorem dX4_ship_176 : decode cX4_ship 176 = .ok (.ireturn, 1) := by decide +kernel
theorem dX4_steer_0 : decode cX4_steer 0 = .ok (.iload_n 1, 1) := by decide +kernel
theorem dX4_steer_1 : decode cX4_steer 1 = .ok (.invokestatic 92, 3) := by decide +kernel
theorem dX4_steer_4 : decode cX4_steer 4 = .ok (.ifCond .ne 10, 3) := by decide +kernel
theorem dX4_steer_7 : decode cX4_steer 7 = .ok (.aload_n 0, 1) := by decide +kernel
theorem dX4_steer_8 : decode cX4_steer 8 = .ok (.ldc 54, 2) := by decide +kernel
theorem dX4_steer_10 : decode cX4_steer 10 = .ok (.invokevirtual 55, 3) := by decide +kernel
theorem dX4_steer_13 : decode cX4_steer 13 = .ok (.ireturn, 1) := by decide +kernel
theorem dX4_steer_14 : decode cX4_steer 14 = .ok (.iload_n 2, 1) := by decide +kernel
theorem dX4_steer_15 : decode cX4_steer 15 = .ok (.ifCond .ne 23, 3) := by decide +kernel
theorem dX4_steer_18 : decode cX4_steer 18 = .ok (.iload_n 3, 1) := by decide +kernel
theorem dX4_steer_19 : decode cX4_steer 19 = .ok (.invokestatic 116, 3) := by decide +kernel
theorem dX4_steer_22 : decode cX4_steer 22 = .ok (.ifCond .eq 16, 3) := by decide +kernel
theorem dX4_steer_25 : decode cX4_steer 25 = .ok (.aload_n 0, 1) := by decide +kernel
theorem dX4_steer_26 : decode cX4_steer 26 = .ok (.getfield 12, 3) := by decide +kernel
theorem dX4_steer_29 : decode cX4_steer 29 = .ok (.getfield 95, 3) := by decide +kernel
theorem dX4_steer_32 : decode cX4_steer 32 = .ok (.iload_n 1, 1) := by decide +kernel
theorem dX4_steer_33 : decode cX4_steer 33 = .ok (.iload_n 3, 1) := by decide +kernel
theorem dX4_steer_34 : decode cX4_steer 34 = .ok (.invokestatic 84, 3) := by decide +kernel
theorem dX4_steer_37 : decode cX4_steer 37 = .ok (.ireturn, 1) := by decide +kernel
theorem dX4_steer_38 : decode cX4_steer 38 = .ok (.iload_n 2, 1) := by decide +kernel
theorem dX4_steer_39 : decode cX4_steer 39 = .ok (.iconst 1, 1) := by decide +kernel
theorem dX4_steer_40 : decode cX4_steer 40 = .ok (.if_icmp .ne 26, 3) := by decide +kernel
theorem dX4_steer_43 : decode cX4_steer 43 = .ok (.iload_n 3, 1) := by decide +kernel
theorem dX4_steer_44 : decode cX4_steer 44 = .ok (.iconst 0, 1) := by decide +kernel
theorem dX4_steer_45 : decode cX4_steer 45 = .ok (.bipush 31, 2) := by decide +kernel
theorem dX4_steer_47 : decode cX4_steer 47 = .ok (.invokestatic 88, 3) := by decide +kernel
theorem dX4_steer_50 : decode cX4_steer 50 = .ok (.ifCond .eq 16, 3) := by decide +kernel
theorem dX4_steer_53 : decode cX4_steer 53 = .ok (.aload_n 0, 1) := by decide +kernel
theorem dX4_steer_54 : decode cX4_steer 54 = .ok (.getfield 12, 3) := by decide +kernel
theorem dX4_steer_57 : decode cX4_steer 57 = .ok (.getfield 98, 3) := by decide +kernel
theorem dX4_steer_60 : decode cX4_steer 60 = .ok (.iload_n 1, 1) := by decide +kernel
theorem dX4_steer_61 : decode cX4_steer 61 = .ok (.iload_n 3, 1) := by decide +kernel
theorem dX4_steer_62 : decode cX4_steer 62 = .ok (.invokestatic 84, 3) := by decide +kernel
theorem dX4_steer_65 : decode cX4_steer 65 = .ok (.ireturn, 1) := by decide +kernel
theorem dX4_steer_66 : decode cX4_steer 66 = .ok (.iload_n 2, 1) := by decide +kernel
theorem dX4_steer_67 : decode cX4_steer 67 = .ok (.iconst 2, 1) := by decide +kernel
theorem dX4_steer_68 : decode cX4_steer 68 = .ok (.if_icmp .ne 24, 3) := by decide +kernel
theorem dX4_steer_71 : decode cX4_steer 71 = .ok (.aload_n 0, 1) := by decide +kernel
theorem dX4_steer_72 : decode cX4_steer 72 = .ok (.iload_n 3, 1) := by decide +kernel
theorem dX4_steer_73 : decode cX4_steer 73 = .ok (.invokevirtual 119, 3) := by decide +kernel
theorem dX4_steer_76 : decode cX4_steer 76 = .ok (.ifCond .eq 16, 3) := by decide +kernel
theorem dX4_steer_79 : decode cX4_steer 79 = .ok (.aload_n 0, 1) := by decide +kernel
theorem dX4_steer_80 : decode cX4_steer 80 = .ok (.getfield 12, 3) := by decide +kernel
theorem dX4_steer_83 : decode cX4_steer 83 = .ok (.getfield 101, 3) := by decide +kernel
theorem dX4_steer_86 : decode cX4_steer 86 = .ok (.iload_n 1, 1) := by decide +kernel
theorem dX4_steer_87 : decode cX4_steer 87 = .ok (.iload_n 3, 1) := by decide +kernel
theorem dX4_steer_88 : decode cX4_steer 88 = .ok (.invokestatic 84, 3) := by decide +kernel
theorem dX4_steer_91 : decode cX4_steer 91 = .ok (.ireturn, 1) := by decide +kernel
theorem dX4_steer_92 : decode cX4_steer 92 = .ok (.aload_n 0, 1) := by decide +kernel
theorem dX4_steer_93 : decode cX4_steer 93 = .ok (.ldc 54, 2) := by decide +kernel
theorem dX4_steer_95 : decode cX4_steer 95 = .ok (.invokevirtual 55, 3) := by decide +kernel
theorem dX4_steer_98 : decode cX4_steer 98 = .ok (.ireturn, 1) := by decide +kernel
theorem dX4_island_0 : decode cX4_island 0 = .ok (.iload_n 1, 1) := by decide +kernel
theorem dX4_island_1 : decode cX4_island 1 = .ok (.invokestatic 116, 3) := by decide +kernel
theorem dX4_island_4 : decode cX4_island 4 = .ok (.ifCond .eq 12, 3) := by decide +kernel
theorem dX4_island_7 : decode cX4_island 7 = .ok (.iload_n 2, 1) := by decide +kernel
theorem dX4_island_8 : decode cX4_island 8 = .ok (.iconst 0, 1) := by decide +kernel
theorem dX4_island_9 : decode cX4_island 9 = .ok (.iconst 1, 1) := by decide +kernel
theorem dX4_island_10 : decode cX4_island 10 = .ok (.invokestatic 88, 3) := by decide +kernel
theorem dX4_island_13 : decode cX4_island 13 = .ok (.ifCond .ne 10, 3) := by decide +kernel
theorem dX4_island_16 : decode cX4_island 16 = .ok (.aload_n 0, 1) := by decide +kernel
theorem dX4_island_17 : decode cX4_island 17 = .ok (.ldc 54, 2) := by decide +kernel
theorem dX4_island_19 : decode cX4_island 19 = .ok (.invokevirtual 55, 3) := by decide +kernel
theorem dX4_island_22 : decode cX4_island 22 = .ok (.ireturn, 1) := by decide +kernel
theorem dX4_island_23 : decode cX4_island 23 = .ok (.aload_n 0, 1) := by decide +kernel
theorem dX4_island_24 : decode cX4_island 24 = .ok (.getfield 12, 3) := by decide +kernel
theorem dX4_island_27 : decode cX4_island 27 = .ok (.getfield 122, 3) := by decide +kernel
theorem dX4_island_30 : decode cX4_island 30 = .ok (.iload_n 1, 1) := by decide +kernel
theorem dX4_island_31 : decode cX4_island 31 = .ok (.baload, 1) := by decide +kernel
theorem dX4_island_32 : decode cX4_island 32 = .ok (.istore_n 3, 1) := by decide +kernel
theorem dX4_island_33 : decode cX4_island 33 = .ok (.aload_n 0, 1) := by decide +kernel
theorem dX4_island_34 : decode cX4_island 34 = .ok (.getfield 12, 3) := by decide +kernel
theorem dX4_island_37 : decode cX4_island 37 = .ok (.getfield 122, 3) := by decide +kernel
theorem dX4_island_40 : decode cX4_island 40 = .ok (.iload_n 1, 1) := by decide +kernel
theorem dX4_island_41 : decode cX4_island 41 = .ok (.iload_n 2, 1) := by decide +kernel
theorem dX4_island_42 : decode cX4_island 42 = .ok (.iconst 1, 1) := by decide +kernel
theorem dX4_island_43 : decode cX4_island 43 = .ok (.if_icmp .ne 7, 3) := by decide +kernel
theorem dX4_island_46 : decode cX4_island 46 = .ok (.iconst 1, 1) := by decide +kernel
theorem dX4_island_47 : decode cX4_island 47 = .ok (.goto 4, 3) := by decide +kernel
theorem dX4_island_50 : decode cX4_island 50 = .ok (.iconst 0, 1) := by decide +kernel
theorem dX4_island_51 : decode cX4_island 51 = .ok (.bastore, 1) := by decide +kernel
theorem dX4_island_52 : decode cX4_island 52 = .ok (.iload_n 3, 1) := by decide +kernel
theorem dX4_island_53 : decode cX4_island 53 = .ok (.iload_n 2, 1) := by decide +kernel
theorem dX4_island_54 : decode cX4_island 54 = .ok (.iconst 1, 1) := by decide +kernel
theorem dX4_island_55 : decode cX4_island 55 = .ok (.if_icmp .ne 7, 3) := by decide +kernel
theorem dX4_island_58 : decode cX4_island 58 = .ok (.iconst 1, 1) := by decide +kernel
theorem dX4_island_59 : decode cX4_island 59 = .ok (.goto 4, 3) := by decide +kernel
theorem dX4_island_62 : decode cX4_island 62 = .ok (.iconst 0, 1) := by decide +kernel
theorem dX4_island_63 : decode cX4_island 63 = .ok (.if_icmp .ne 7, 3) := by decide +kernel
theorem dX4_island_66 : decode cX4_island 66 = .ok (.iconst 0, 1) := by decide +kernel
theorem dX4_island_67 : decode cX4_island 67 = .ok (.goto 4, 3) := by decide +kernel
theorem dX4_island_70 : decode cX4_island 70 = .ok (.iconst 1, 1) := by decide +kernel
theorem dX4_island_71 : decode cX4_island 71 = .ok (.ireturn, 1) := by decide +kernel
theorem dX4_wind_0 : decode cX4_wind 0 = .ok (.iload_n 1, 1) := by decide +kernel
theorem dX4_wind_1 : decode cX4_wind 1 = .ok (.iconst 0, 1) := by decide +kernel
theorem dX4_wind_2 : decode cX4_wind 2 = .ok (.bipush 7, 2) := by decide +kernel
theorem dX4_wind_4 : decode cX4_wind 4 = .ok (.invokestatic 88, 3) := by decide +kernel
theorem dX4_wind_7 : decode cX4_wind 7 = .ok (.ifCond .ne 10, 3) := by decide +kernel
theorem dX4_wind_10 : decode cX4_wind 10 = .ok (.aload_n 0, 1) := by decide +kernel
theorem dX4_wind_11 : decode cX4_wind 11 = .ok (.ldc 54, 2) := by decide +kernel
theorem dX4_wind_13 : decode cX4_wind 13 = .ok (.invokevirtual 55, 3) := by decide +kernel
theorem dX4_wind_16 : decode cX4_wind 16 = .ok (.ireturn, 1) := by decide +kernel
theorem dX4_wind_17 : decode cX4_wind 17 = .ok (.aload_n 0, 1) := by decide +kernel
theorem dX4_wind_18 : decode cX4_wind 18 = .ok (.getfield 12, 3) := by decide +kernel
theorem dX4_wind_21 : decode cX4_wind 21 = .ok (.getfield 126, 3) := by decide +kernel
theorem dX4_wind_24 : decode cX4_wind 24 = .ok (.istore_n 2, 1) := by decide +kernel
theorem dX4_wind_25 : decode cX4_wind 25 = .ok (.aload_n 0, 1) := by decide +kernel
theorem dX4_wind_26 : decode cX4_wind 26 = .ok (.getfield 12, 3) := by decide +kernel
theorem dX4_wind_29 : decode cX4_wind 29 = .ok (.iload_n 1, 1) := by decide +kernel
theorem dX4_wind_30 : decode cX4_wind 30 = .ok (.putfield 126, 3) := by decide +kernel
theorem dX4_wind_33 : decode cX4_wind 33 = .ok (.iload_n 2, 1) := by decide +kernel
theorem dX4_wind_34 : decode cX4_wind 34 = .ok (.ireturn, 1) := by decide +kernel
theorem dX4_fish_0 : decode cX4_fish 0 = .ok (.iload_n 1, 1) := by decide +kernel
theorem dX4_fish_1 : decode cX4_fish 1 = .ok (.iconst 0, 1) := by decide +kernel
theorem dX4_fish_2 : decode cX4_fish 2 = .ok (.ldc 129, 2) := by decide +kernel
theorem dX4_fish_4 : decode cX4_fish 4 = .ok (.invokestatic 88, 3) := by decide +kernel
theorem dX4_fish_7 : decode cX4_fish 7 = .ok (.ifCond .ne 10, 3) := by decide +kernel
theorem dX4_fish_10 : decode cX4_fish 10 = .ok (.aload_n 0, 1) := by decide +kernel
theorem dX4_fish_11 : decode cX4_fish 11 = .ok (.ldc 54, 2) := by decide +kernel
theorem dX4_fish_13 : decode cX4_fish 13 = .ok (.invokevirtual 55, 3) := by decide +kernel
theorem dX4_fish_16 : decode cX4_fish 16 = .ok (.ireturn, 1) := by decide +kernel
theorem dX4_fish_17 : decode cX4_fish 17 = .ok (.aload_n 0, 1) := by decide +kernel
theorem dX4_fish_18 : decode cX4_fish 18 = .ok (.getfield 12, 3) := by decide +kernel
theorem dX4_fish_21 : decode cX4_fish 21 = .ok (.getfield 130, 3) := by decide +kernel
theorem dX4_fish_24 : decode cX4_fish 24 = .ok (.istore_n 2, 1) := by decide +kernel
theorem dX4_fish_25 : decode cX4_fish 25 = .ok (.aload_n 0, 1) := by decide +kernel
theorem dX4_fish_26 : decode cX4_fish 26 = .ok (.getfield 12, 3) := by decide +kernel
theorem dX4_fish_29 : decode cX4_fish 29 = .ok (.iload_n 1, 1) := by decide +kernel
theorem dX4_fish_30 : decode cX4_fish 30 = .ok (.putfield 130, 3) := by decide +kernel
theorem dX4_fish_33 : decode cX4_fish 33 = .ok (.iload_n 2, 1) := by decide +kernel
theorem dX4_fish_34 : decode cX4_fish 34 = .ok (.ireturn, 1) := by decide +kernel
theorem dX4_store_0 : decode cX4_store 0 = .ok (.iload_n 1, 1) := by decide +kernel
theorem dX4_store_1 : decode cX4_store 1 = .ok (.iconst 0, 1) := by decide +kernel
theorem dX4_store_2 : decode cX4_store 2 = .ok (.sipush 9999, 3) := by decide +kernel
theorem dX4_store_5 : decode cX4_store 5 = .ok (.invokestatic 88, 3) := by decide +kernel
theorem dX4_store_8 : decode cX4_store 8 = .ok (.ifCond .ne 10, 3) := by decide +kernel
theorem dX4_store_11 : decode cX4_store 11 = .ok (.aload_n 0, 1) := by decide +kernel
theorem dX4_store_12 : decode cX4_store 12 = .ok (.ldc 54, 2) := by decide +kernel
theorem dX4_store_14 : decode cX4_store 14 = .ok (.invokevirtual 55, 3) := by decide +kernel
theorem dX4_store_17 : decode cX4_store 17 = .ok (.ireturn, 1) := by decide +kernel
theorem dX4_store_18 : decode cX4_store 18 = .ok (.aload_n 0, 1) := by decide +kernel
theorem dX4_store_19 : decode cX4_store 19 = .ok (.getfield 12, 3) := by decide +kernel
theorem dX4_store_22 : decode cX4_store 22 = .ok (.getfield 133, 3) := by decide +kernel
theorem dX4_store_25 : decode cX4_store 25 = .ok (.istore_n 2, 1) := by decide +kernel
theorem dX4_store_26 : decode cX4_store 26 = .ok (.aload_n 0, 1) := by decide +kernel
theorem dX4_store_27 : decode cX4_store 27 = .ok (.getfield 12, 3) := by decide +kernel
theorem dX4_store_30 : decode cX4_store 30 = .ok (.iload_n 1, 1) := by decide +kernel
theorem dX4_store_31 : decode cX4_store 31 = .ok (.putfield 133, 3) := by decide +kernel
theorem dX4_store_34 : decode cX4_store 34 = .ok (.iload_n 2, 1) := by decide +kernel
theorem dX4_store_35 : decode cX4_store 35 = .ok (.ireturn, 1) := by decide +kernel
theorem dX4_go_0 : decode cX4_go 0 = .ok (.iload_n 1, 1) := by decide +kernel
theorem dX4_go_1 : decode cX4_go 1 = .ok (.iconst 1, 1) := by decide +kernel
theorem dX4_go_2 : decode cX4_go 2 = .ok (.bipush 60, 2) := by decide +kernel
theorem dX4_go_4 : decode cX4_go 4 = .ok (.invokestatic 88, 3) := by decide +kernel
theorem dX4_go_7 : decode cX4_go 7 = .ok (.ifCond .ne 10, 3) := by decide +kernel
theorem dX4_go_10 : decode cX4_go 10 = .ok (.aload_n 0, 1) := by decide +kernel
theorem dX4_go_11 : decode cX4_go 11 = .ok (.ldc 54, 2) := by decide +kernel
theorem dX4_go_13 : decode cX4_go 13 = .ok (.invokevirtual 55, 3) := by decide +kernel
theorem dX4_go_16 : decode cX4_go 16 = .ok (.ireturn, 1) := by decide +kernel
theorem dX4_go_17 : decode cX4_go 17 = .ok (.aload_n 0, 1) := by decide +kernel
theorem dX4_go_18 : decode cX4_go 18 = .ok (.getfield 12, 3) := by decide +kernel
theorem dX4_go_21 : decode cX4_go 21 = .ok (.getfield 136, 3) := by decide +kernel
theorem dX4_go_24 : decode cX4_go 24 = .ok (.ldc 139, 2) := by decide +kernel
theorem dX4_go_26 : decode cX4_go 26 = .ok (.iload_n 1, 1) := by decide +kernel
theorem dX4_go_27 : decode cX4_go 27 = .ok (.isub, 1) := by decide +kernel
theorem dX4_go_28 : decode cX4_go 28 = .ok (.if_icmp .le 10, 3) := by decide +kernel
theorem dX4_go_31 : decode cX4_go 31 = .ok (.aload_n 0, 1) := by decide +kernel
theorem dX4_go_32 : decode cX4_go 32 = .ok (.ldc 140, 2) := by decide +kernel
theorem dX4_go_34 : decode cX4_go 34 = .ok (.invokevirtual 55, 3) := by decide +kernel
theorem dX4_go_37 : decode cX4_go 37 = .ok (.ireturn, 1) := by decide +kernel
theorem dX4_go_38 : decode cX4_go 38 = .ok (.iconst 0, 1) := by decide +kernel
theorem dX4_go_39 : decode cX4_go 39 = .ok (.istore_n 2, 1) := by decide +kernel
theorem dX4_go_40 : decode cX4_go 40 = .ok (.iload_n 2, 1) := by decide +kernel
theorem dX4_go_41 : decode cX4_go 41 = .ok (.iload_n 1, 1) := by decide +kernel
theorem dX4_go_42 : decode cX4_go 42 = .ok (.if_icmp .ge 16, 3) := by decide +kernel
theorem dX4_go_45 : decode cX4_go 45 = .ok (.aload_n 0, 1) := by decide +kernel
theorem dX4_go_46 : decode cX4_go 46 = .ok (.getfield 12, 3) := by decide +kernel
theorem dX4_go_49 : decode cX4_go 49 = .ok (.invokevirtual 141, 3) := by decide +kernel
theorem dX4_go_52 : decode cX4_go 52 = .ok (.iinc 2 1, 3) := by decide +kernel
theorem dX4_go_55 : decode cX4_go 55 = .ok (.goto (-15), 3) := by decide +kernel
theorem dX4_go_58 : decode cX4_go 58 = .ok (.aload_n 0, 1) := by decide +kernel
theorem dX4_go_59 : decode cX4_go 59 = .ok (.getfield 12, 3) := by decide +kernel
theorem dX4_go_62 : decode cX4_go 62 = .ok (.invokevirtual 144, 3) := by decide +kernel
theorem dX4_go_65 : decode cX4_go 65 = .ok (.invokestatic 148, 3) := by decide +kernel
theorem dX4_go_68 : decode cX4_go 68 = .ok (.ireturn, 1) := by decide +kernel
theorem dX4_feeds_0 : decode cX4_feeds 0 = .ok (.aload_n 0, 1) := by decide +kernel
theorem dX4_feeds_1 : decode cX4_feeds 1 = .ok (.iload_n 1, 1) := by decide +kernel
theorem dX4_feeds_2 : decode cX4_feeds 2 = .ok (.invokevirtual 119, 3) := by decide +kernel
theorem dX4_feeds_5 : decode cX4_feeds 5 = .ok (.ifCond .ne 10, 3) := by decide +kernel
theorem dX4_feeds_8 : decode cX4_feeds 8 = .ok (.aload_n 0, 1) := by decide +kernel
theorem dX4_feeds_9 : decode cX4_feeds 9 = .ok (.ldc 54, 2) := by decide +kernel
theorem dX4_feeds_11 : decode cX4_feeds 11 = .ok (.invokevirtual 55, 3) := by decide +kernel
theorem dX4_feeds_14 : decode cX4_feeds 14 = .ok (.ireturn, 1) := by decide +kernel
theorem dX4_feeds_15 : decode cX4_feeds 15 = .ok (.iload_n 1, 1) := by decide +kernel
theorem dX4_feeds_16 : decode cX4_feeds 16 = .ok (.invokestatic 148, 3) := by decide +kernel
theorem dX4_feeds_19 : decode cX4_feeds 19 = .ok (.istore_n 2, 1) := by decide +kernel
theorem dX4_feeds_20 : decode cX4_feeds 20 = .ok (.aload_n 0, 1) := by decide +kernel
theorem dX4_feeds_21 : decode cX4_feeds 21 = .ok (.getfield 12, 3) := by decide +kernel
theorem dX4_feeds_24 : decode cX4_feeds 24 = .ok (.getfield 133, 3) := by decide +kernel
theorem dX4_feeds_27 : decode cX4_feeds 27 = .ok (.iload_n 2, 1) := by decide +kernel
theorem dX4_feeds_28 : decode cX4_feeds 28 = .ok (.if_icmp .ge 10, 3) := by decide +kernel
theorem dX4_feeds_31 : decode cX4_feeds 31 = .ok (.aload_n 0, 1) := by decide +kernel
theorem dX4_feeds_32 : decode cX4_feeds 32 = .ok (.ldc 140, 2) := by decide +kernel
theorem dX4_feeds_34 : decode cX4_feeds 34 = .ok (.invokevirtual 55, 3) := by decide +kernel
theorem dX4_feeds_37 : decode cX4_feeds 37 = .ok (.ireturn, 1) := by decide +kernel
theorem dX4_feeds_38 : decode cX4_feeds 38 = .ok (.iconst 0, 1) := by decide +kernel
theorem dX4_feeds_39 : decode cX4_feeds 39 = .ok (.istore_n 3, 1) := by decide +kernel
theorem dX4_feeds_40 : decode cX4_feeds 40 = .ok (.iload_n 3, 1) := by decide +kernel
theorem dX4_feeds_41 : decode cX4_feeds 41 = .ok (.aload_n 0, 1) := by decide +kernel
theorem dX4_feeds_42 : decode cX4_feeds 42 = .ok (.getfield 12, 3) := by decide +kernel
theorem dX4_feeds_45 : decode cX4_feeds 45 = .ok (.getfield 59, 3) := by decide +kernel
theorem dX4_feeds_48 : decode cX4_feeds 48 = .ok (.if_icmp .ge 27, 3) := by decide +kernel
theorem dX4_feeds_51 : decode cX4_feeds 51 = .ok (.iload_n 1, 1) := by decide +kernel
theorem dX4_feeds_52 : decode cX4_feeds 52 = .ok (.iload_n 3, 1) := by decide +kernel
theorem dX4_feeds_53 : decode cX4_feeds 53 = .ok (.invokestatic 153, 3) := by decide +kernel
theorem dX4_feeds_56 : decode cX4_feeds 56 = .ok (.ifCond .eq 13, 3) := by decide +kernel
theorem dX4_feeds_59 : decode cX4_feeds 59 = .ok (.aload_n 0, 1) := by decide +kernel
theorem dX4_feeds_60 : decode cX4_feeds 60 = .ok (.getfield 12, 3) := by decide +kernel
theorem dX4_feeds_63 : decode cX4_feeds 63 = .ok (.getfield 74, 3) := by decide +kernel
theorem dX4_feeds_66 : decode cX4_feeds 66 = .ok (.iload_n 3, 1) := by decide +kernel
theorem dX4_feeds_67 : decode cX4_feeds 67 = .ok (.iconst 0, 1) := by decide +kernel
theorem dX4_feeds_68 : decode cX4_feeds 68 = .ok (.iastore, 1) := by decide +kernel
theorem dX4_feeds_69 : decode cX4_feeds 69 = .ok (.iinc 3 1, 3) := by decide +kernel
theorem dX4_feeds_72 : decode cX4_feeds 72 = .ok (.goto (-32), 3) := by decide +kernel
theorem dX4_feeds_75 : decode cX4_feeds 75 = .ok (.aload_n 0, 1) := by decide +kernel
theorem dX4_feeds_76 : decode cX4_feeds 76 = .ok (.getfield 12, 3) := by decide +kernel
theorem dX4_feeds_79 : decode cX4_feeds 79 = .ok (.dup, 1) := by decide +kernel
theorem dX4_feeds_80 : decode cX4_feeds 80 = .ok (.getfield 133, 3) := by decide +kernel
theorem dX4_feeds_83 : decode cX4_feeds 83 = .ok (.iload_n 2, 1) := by decide +kernel
theorem dX4_feeds_84 : decode cX4_feeds 84 = .ok (.isub, 1) := by decide +kernel
theorem dX4_feeds_85 : decode cX4_feeds 85 = .ok (.putfield 133, 3) := by decide +kernel
theorem dX4_feeds_88 : decode cX4_feeds 88 = .ok (.aload_n 0, 1) := by decide +kernel
theorem dX4_feeds_89 : decode cX4_feeds 89 = .ok (.getfield 12, 3) := by decide +kernel
theorem dX4_feeds_92 : decode cX4_feeds 92 = .ok (.getfield 133, 3) := by decide +kernel
theorem dX4_feeds_95 : decode cX4_feeds 95 = .ok (.ireturn, 1) := by decide +kernel
theorem dX4_now_0 : decode cX4_now 0 = .ok (.iload_n 1, 1) := by decide +kernel
theorem dX4_now_1 : decode cX4_now 1 = .ok (.tableswitch 87 0 5 #[39, 47, 55, 63, 71, 79], 39) := by decide +kernel
theorem dX4_now_40 : decode cX4_now 40 = .ok (.aload_n 0, 1) := by decide +kernel
theorem dX4_now_41 : decode cX4_now 41 = .ok (.getfield 12, 3) := by decide +kernel
theorem dX4_now_44 : decode cX4_now 44 = .ok (.getfield 136, 3) := by decide +kernel
theorem dX4_now_47 : decode cX4_now 47 = .ok (.ireturn, 1) := by decide +kernel
theorem dX4_now_48 : decode cX4_now 48 = .ok (.aload_n 0, 1) := by decide +kernel
theorem dX4_now_49 : decode cX4_now 49 = .ok (.getfield 12, 3) := by decide +kernel
theorem dX4_now_52 : decode cX4_now 52 = .ok (.getfield 133, 3) := by decide +kernel
theorem dX4_now_55 : decode cX4_now 55 = .ok (.ireturn, 1) := by decide +kernel
theorem dX4_now_56 : decode cX4_now 56 = .ok (.aload_n 0, 1) := by decide +kernel
theorem dX4_now_57 : decode cX4_now 57 = .ok (.getfield 12, 3) := by decide +kernel
theorem dX4_now_60 : decode cX4_now 60 = .ok (.getfield 126, 3) := by decide +kernel
theorem dX4_now_63 : decode cX4_now 63 = .ok (.ireturn, 1) := by decide +kernel
theorem dX4_now_64 : decode cX4_now 64 = .ok (.aload_n 0, 1) := by decide +kernel
theorem dX4_now_65 : decode cX4_now 65 = .ok (.getfield 12, 3) := by decide +kernel
theorem dX4_now_68 : decode cX4_now 68 = .ok (.invokevirtual 144, 3) := by decide +kernel
theorem dX4_now_71 : decode cX4_now 71 = .ok (.ireturn, 1) := by decide +kernel
theorem dX4_now_72 : decode cX4_now 72 = .ok (.aload_n 0, 1) := by decide +kernel
theorem dX4_now_73 : decode cX4_now 73 = .ok (.getfield 12, 3) := by decide +kernel
theorem dX4_now_76 : decode cX4_now 76 = .ok (.invokevirtual 157, 3) := by decide +kernel
theorem dX4_now_79 : decode cX4_now 79 = .ok (.ireturn, 1) := by decide +kernel
theorem dX4_now_80 : decode cX4_now 80 = .ok (.aload_n 0, 1) := by decide +kernel
theorem dX4_now_81 : decode cX4_now 81 = .ok (.getfield 12, 3) := by decide +kernel
theorem dX4_now_84 : decode cX4_now 84 = .ok (.invokevirtual 160, 3) := by decide +kernel
theorem dX4_now_87 : decode cX4_now 87 = .ok (.ireturn, 1) := by decide +kernel
theorem dX4_now_88 : decode cX4_now 88 = .ok (.aload_n 0, 1) := by decide +kernel
theorem dX4_now_89 : decode cX4_now 89 = .ok (.ldc 54, 2) := by decide +kernel
theorem dX4_now_91 : decode cX4_now 91 = .ok (.invokevirtual 55, 3) := by decide +kernel
theorem dX4_now_94 : decode cX4_now 94 = .ok (.ireturn, 1) := by decide +kernel
theorem dX4_ahead_0 : decode cX4_ahead 0 = .ok (.iload_n 1, 1) := by decide +kernel
theorem dX4_ahead_1 : decode cX4_ahead 1 = .ok (.invokestatic 92, 3) := by decide +kernel
theorem dX4_ahead_4 : decode cX4_ahead 4 = .ok (.ifCond .eq 14, 3) := by decide +kernel
theorem dX4_ahead_7 : decode cX4_ahead 7 = .ok (.iload_n 2, 1) := by decide +kernel
theorem dX4_ahead_8 : decode cX4_ahead 8 = .ok (.iconst 0, 1) := by decide +kernel
theorem dX4_ahead_9 : decode cX4_ahead 9 = .ok (.sipush 200, 3) := by decide +kernel
theorem dX4_ahead_12 : decode cX4_ahead 12 = .ok (.invokestatic 88, 3) := by decide +kernel
theorem dX4_ahead_15 : decode cX4_ahead 15 = .ok (.ifCond .ne 10, 3) := by decide +kernel
theorem dX4_ahead_18 : decode cX4_ahead 18 = .ok (.aload_n 0, 1) := by decide +kernel
theorem dX4_ahead_19 : decode cX4_ahead 19 = .ok (.ldc 54, 2) := by decide +kernel
theorem dX4_ahead_21 : decode cX4_ahead 21 = .ok (.invokevirtual 55, 3) := by decide +kernel
theorem dX4_ahead_24 : decode cX4_ahead 24 = .ok (.ireturn, 1) := by decide +kernel
theorem dX4_ahead_25 : decode cX4_ahead 25 = .ok (.aload_n 0, 1) := by decide +kernel
theorem dX4_ahead_26 : decode cX4_ahead 26 = .ok (.getfield 12, 3) := by decide +kernel
theorem dX4_ahead_29 : decode cX4_ahead 29 = .ok (.iload_n 1, 1) := by decide +kernel
theorem dX4_ahead_30 : decode cX4_ahead 30 = .ok (.iload_n 2, 1) := by decide +kernel
theorem dX4_ahead_31 : decode cX4_ahead 31 = .ok (.invokevirtual 163, 3) := by decide +kernel
theorem dX4_ahead_34 : decode cX4_ahead 34 = .ok (.ireturn, 1) := by decide +kernel
theorem dX4_lands_0 : decode cX4_lands 0 = .ok (.iload_n 1, 1) := by decide +kernel
theorem dX4_lands_1 : decode cX4_lands 1 = .ok (.invokestatic 92, 3) := by decide +kernel
theorem dX4_lands_4 : decode cX4_lands 4 = .ok (.ifCond .ne 10, 3) := by decide +kernel
theorem dX4_lands_7 : decode cX4_lands 7 = .ok (.aload_n 0, 1) := by decide +kernel
theorem dX4_lands_8 : decode cX4_lands 8 = .ok (.ldc 54, 2) := by decide +kernel
theorem dX4_lands_10 : decode cX4_lands 10 = .ok (.invokevirtual 55, 3) := by decide +kernel
theorem dX4_lands_13 : decode cX4_lands 13 = .ok (.ireturn, 1) := by decide +kernel
theorem dX4_lands_14 : decode cX4_lands 14 = .ok (.aload_n 0, 1) := by decide +kernel
theorem dX4_lands_15 : decode cX4_lands 15 = .ok (.getfield 12, 3) := by decide +kernel
theorem dX4_lands_18 : decode cX4_lands 18 = .ok (.getfield 95, 3) := by decide +kernel
theorem dX4_lands_21 : decode cX4_lands 21 = .ok (.iload_n 1, 1) := by decide +kernel
theorem dX4_lands_22 : decode cX4_lands 22 = .ok (.iaload, 1) := by decide +kernel
theorem dX4_lands_23 : decode cX4_lands 23 = .ok (.istore_n 2, 1) := by decide +kernel
theorem dX4_lands_24 : decode cX4_lands 24 = .ok (.iconst 0, 1) := by decide +kernel
theorem dX4_lands_25 : decode cX4_lands 25 = .ok (.istore_n 3, 1) := by decide +kernel
theorem dX4_lands_26 : decode cX4_lands 26 = .ok (.iload_n 3, 1) := by decide +kernel
theorem dX4_lands_27 : decode cX4_lands 27 = .ok (.sipush 200, 3) := by decide +kernel
theorem dX4_lands_30 : decode cX4_lands 30 = .ok (.if_icmp .gt 34, 3) := by decide +kernel
theorem dX4_lands_33 : decode cX4_lands 33 = .ok (.aload_n 0, 1) := by decide +kernel
theorem dX4_lands_34 : decode cX4_lands 34 = .ok (.getfield 12, 3) := by decide +kernel
theorem dX4_lands_37 : decode cX4_lands 37 = .ok (.getfield 122, 3) := by decide +kernel
theorem dX4_lands_40 : decode cX4_lands 40 = .ok (.iload_n 2, 1) := by decide +kernel
theorem dX4_lands_41 : decode cX4_lands 41 = .ok (.baload, 1) := by decide +kernel
theorem dX4_lands_42 : decode cX4_lands 42 = .ok (.ifCond .eq 5, 3) := by decide +kernel
theorem dX4_lands_45 : decode cX4_lands 45 = .ok (.iload_n 3, 1) := by decide +kernel
theorem dX4_lands_46 : decode cX4_lands 46 = .ok (.ireturn, 1) := by decide +kernel
theorem dX4_lands_47 : decode cX4_lands 47 = .ok (.aload_n 0, 1) := by decide +kernel
theorem dX4_lands_48 : decode cX4_lands 48 = .ok (.getfield 12, 3) := by decide +kernel
theorem dX4_lands_51 : decode cX4_lands 51 = .ok (.iload_n 1, 1) := by decide +kernel
theorem dX4_lands_52 : decode cX4_lands 52 = .ok (.iload_n 2, 1) := by decide +kernel
theorem dX4_lands_53 : decode cX4_lands 53 = .ok (.iload_n 3, 1) := by decide +kernel
theorem dX4_lands_54 : decode cX4_lands 54 = .ok (.invokevirtual 110, 3) := by decide +kernel
theorem dX4_lands_57 : decode cX4_lands 57 = .ok (.istore_n 2, 1) := by decide +kernel
theorem dX4_lands_58 : decode cX4_lands 58 = .ok (.iinc 3 1, 3) := by decide +kernel
theorem dX4_lands_61 : decode cX4_lands 61 = .ok (.goto (-35), 3) := by decide +kernel
theorem dX4_lands_64 : decode cX4_lands 64 = .ok (.aload_n 0, 1) := by decide +kernel
theorem dX4_lands_65 : decode cX4_lands 65 = .ok (.ldc 166, 2) := by decide +kernel
theorem dX4_lands_67 : decode cX4_lands 67 = .ok (.invokevirtual 55, 3) := by decide +kernel
theorem dX4_lands_70 : decode cX4_lands 70 = .ok (.ireturn, 1) := by decide +kernel
theorem dX4_meets_0 : decode cX4_meets 0 = .ok (.iload_n 1, 1) := by decide +kernel
theorem dX4_meets_1 : decode cX4_meets 1 = .ok (.invokestatic 92, 3) := by decide +kernel
theorem dX4_meets_4 : decode cX4_meets 4 = .ok (.ifCond .eq 15, 3) := by decide +kernel
theorem dX4_meets_7 : decode cX4_meets 7 = .ok (.iload_n 2, 1) := by decide +kernel
theorem dX4_meets_8 : decode cX4_meets 8 = .ok (.invokestatic 92, 3) := by decide +kernel
theorem dX4_meets_11 : decode cX4_meets 11 = .ok (.ifCond .eq 8, 3) := by decide +kernel
theorem dX4_meets_14 : decode cX4_meets 14 = .ok (.iload_n 1, 1) := by decide +kernel
theorem dX4_meets_15 : decode cX4_meets 15 = .ok (.iload_n 2, 1) := by decide +kernel
theorem dX4_meets_16 : decode cX4_meets 16 = .ok (.if_icmp .ne 10, 3) := by decide +kernel
theorem dX4_meets_19 : decode cX4_meets 19 = .ok (.aload_n 0, 1) := by decide +kernel
theorem dX4_meets_20 : decode cX4_meets 20 = .ok (.ldc 54, 2) := by decide +kernel
theorem dX4_meets_22 : decode cX4_meets 22 = .ok (.invokevirtual 55, 3) := by decide +kernel
theorem dX4_meets_25 : decode cX4_meets 25 = .ok (.ireturn, 1) := by decide +kernel
theorem dX4_meets_26 : decode cX4_meets 26 = .ok (.aload_n 0, 1) := by decide +kernel
theorem dX4_meets_27 : decode cX4_meets 27 = .ok (.getfield 12, 3) := by decide +kernel
theorem dX4_meets_30 : decode cX4_meets 30 = .ok (.getfield 95, 3) := by decide +kernel
theorem dX4_meets_33 : decode cX4_meets 33 = .ok (.iload_n 1, 1) := by decide +kernel
theorem dX4_meets_34 : decode cX4_meets 34 = .ok (.iaload, 1) := by decide +kernel
theorem dX4_meets_35 : decode cX4_meets 35 = .ok (.istore_n 3, 1) := by decide +kernel
theorem dX4_meets_36 : decode cX4_meets 36 = .ok (.aload_n 0, 1) := by decide +kernel
theorem dX4_meets_37 : decode cX4_meets 37 = .ok (.getfield 12, 3) := by decide +kernel
theorem dX4_meets_40 : decode cX4_meets 40 = .ok (.getfield 95, 3) := by decide +kernel
theorem dX4_meets_43 : decode cX4_meets 43 = .ok (.iload_n 2, 1) := by decide +kernel
theorem dX4_meets_44 : decode cX4_meets 44 = .ok (.iaload, 1) := by decide +kernel
theorem dX4_meets_45 : decode cX4_meets 45 = .ok (.istore 4, 2) := by decide +kernel
theorem dX4_meets_47 : decode cX4_meets 47 = .ok (.iconst 0, 1) := by decide +kernel
theorem dX4_meets_48 : decode cX4_meets 48 = .ok (.istore 5, 2) := by decide +kernel
theorem dX4_meets_50 : decode cX4_meets 50 = .ok (.iload 5, 2) := by decide +kernel
theorem dX4_meets_52 : decode cX4_meets 52 = .ok (.sipush 200, 3) := by decide +kernel
theorem dX4_meets_55 : decode cX4_meets 55 = .ok (.if_icmp .gt 44, 3) := by decide +kernel
theorem dX4_meets_58 : decode cX4_meets 58 = .ok (.iload_n 3, 1) := by decide +kernel
theorem dX4_meets_59 : decode cX4_meets 59 = .ok (.iload 4, 2) := by decide +kernel
theorem dX4_meets_61 : decode cX4_meets 61 = .ok (.if_icmp .ne 6, 3) := by decide +kernel
theorem dX4_meets_64 : decode cX4_meets 64 = .ok (.iload 5, 2) := by decide +kernel
theorem dX4_meets_66 : decode cX4_meets 66 = .ok (.ireturn, 1) := by decide +kernel
theorem dX4_meets_67 : decode cX4_meets 67 = .ok (.aload_n 0, 1) := by decide +kernel
theorem dX4_meets_68 : decode cX4_meets 68 = .ok (.getfield 12, 3) := by decide +kernel
theorem dX4_meets_71 : decode cX4_meets 71 = .ok (.iload_n 1, 1) := by decide +kernel
theorem dX4_meets_72 : decode cX4_meets 72 = .ok (.iload_n 3, 1) := by decide +kernel
theorem dX4_meets_73 : decode cX4_meets 73 = .ok (.iload 5, 2) := by decide +kernel
theorem dX4_meets_75 : decode cX4_meets 75 = .ok (.invokevirtual 110, 3) := by decide +kernel
theorem dX4_meets_78 : decode cX4_meets 78 = .ok (.istore_n 3, 1) := by decide +kernel
theorem dX4_meets_79 : decode cX4_meets 79 = .ok (.aload_n 0, 1) := by decide +kernel
theorem dX4_meets_80 : decode cX4_meets 80 = .ok (.getfield 12, 3) := by decide +kernel
theorem dX4_meets_83 : decode cX4_meets 83 = .ok (.iload_n 2, 1) := by decide +kernel
theorem dX4_meets_84 : decode cX4_meets 84 = .ok (.iload 4, 2) := by decide +kernel
theorem dX4_meets_86 : decode cX4_meets 86 = .ok (.iload 5, 2) := by decide +kernel
theorem dX4_meets_88 : decode cX4_meets 88 = .ok (.invokevirtual 110, 3) := by decide +kernel
theorem dX4_meets_91 : decode cX4_meets 91 = .ok (.istore 4, 2) := by decide +kernel
theorem dX4_meets_93 : decode cX4_meets 93 = .ok (.iinc 5 1, 3) := by decide +kernel
theorem dX4_meets_96 : decode cX4_meets 96 = .ok (.goto (-46), 3) := by decide +kernel
theorem dX4_meets_99 : decode cX4_meets 99 = .ok (.aload_n 0, 1) := by decide +kernel
theorem dX4_meets_100 : decode cX4_meets 100 = .ok (.ldc 166, 2) := by decide +kernel
theorem dX4_meets_102 : decode cX4_meets 102 = .ok (.invokevirtual 55, 3) := by decide +kernel
theorem dX4_meets_105 : decode cX4_meets 105 = .ok (.ireturn, 1) := by decide +kernel
theorem dX4_still_0 : decode cX4_still 0 = .ok (.aload_n 0, 1) := by decide +kernel
theorem dX4_still_1 : decode cX4_still 1 = .ok (.getfield 12, 3) := by decide +kernel
theorem dX4_still_4 : decode cX4_still 4 = .ok (.getfield 95, 3) := by decide +kernel
theorem dX4_still_7 : decode cX4_still 7 = .ok (.iconst 0, 1) := by decide +kernel
theorem dX4_still_8 : decode cX4_still 8 = .ok (.aload_n 0, 1) := by decide +kernel
theorem dX4_still_9 : decode cX4_still 9 = .ok (.getfield 46, 3) := by decide +kernel
theorem dX4_still_12 : decode cX4_still 12 = .ok (.iconst 0, 1) := by decide +kernel
theorem dX4_still_13 : decode cX4_still 13 = .ok (.iconst 4, 1) := by decide +kernel
theorem dX4_still_14 : decode cX4_still 14 = .ok (.invokestatic 167, 3) := by decide +kernel
theorem dX4_still_17 : decode cX4_still 17 = .ok (.iconst 0, 1) := by decide +kernel
theorem dX4_still_18 : decode cX4_still 18 = .ok (.istore_n 1, 1) := by decide +kernel
theorem dX4_still_19 : decode cX4_still 19 = .ok (.iload_n 1, 1) := by decide +kernel
theorem dX4_still_20 : decode cX4_still 20 = .ok (.bipush 60, 2) := by decide +kernel
theorem dX4_still_22 : decode cX4_still 22 = .ok (.if_icmp .gt 19, 3) := by decide +kernel
theorem dX4_still_25 : decode cX4_still 25 = .ok (.aload_n 0, 1) := by decide +kernel
theorem dX4_still_26 : decode cX4_still 26 = .ok (.iload_n 1, 1) := by decide +kernel
theorem dX4_still_27 : decode cX4_still 27 = .ok (.invokevirtual 173, 3) := by decide +kernel
theorem dX4_still_30 : decode cX4_still 30 = .ok (.ifCond .ne 5, 3) := by decide +kernel
theorem dX4_still_33 : decode cX4_still 33 = .ok (.iload_n 1, 1) := by decide +kernel
theorem dX4_still_34 : decode cX4_still 34 = .ok (.ireturn, 1) := by decide +kernel
theorem dX4_still_35 : decode cX4_still 35 = .ok (.iinc 1 1, 3) := by decide +kernel
theorem dX4_still_38 : decode cX4_still 38 = .ok (.goto (-19), 3) := by decide +kernel
theorem dX4_still_41 : decode cX4_still 41 = .ok (.aload_n 0, 1) := by decide +kernel
theorem dX4_still_42 : decode cX4_still 42 = .ok (.ldc 166, 2) := by decide +kernel
theorem dX4_still_44 : decode cX4_still 44 = .ok (.invokevirtual 55, 3) := by decide +kernel
theorem dX4_still_47 : decode cX4_still 47 = .ok (.ireturn, 1) := by decide +kernel
theorem dX4_movesPlaces_0 : decode cX4_movesPlaces 0 = .ok (.iconst 0, 1) := by decide +kernel
theorem dX4_movesPlaces_1 : decode cX4_movesPlaces 1 = .ok (.istore_n 2, 1) := by decide +kernel
theorem dX4_movesPlaces_2 : decode cX4_movesPlaces 2 = .ok (.iconst 0, 1) := by decide +kernel
theorem dX4_movesPlaces_3 : decode cX4_movesPlaces 3 = .ok (.istore_n 3, 1) := by decide +kernel
theorem dX4_movesPlaces_4 : decode cX4_movesPlaces 4 = .ok (.iload_n 3, 1) := by decide +kernel
theorem dX4_movesPlaces_5 : decode cX4_movesPlaces 5 = .ok (.iconst 4, 1) := by decide +kernel
theorem dX4_movesPlaces_6 : decode cX4_movesPlaces 6 = .ok (.if_icmp .ge 47, 3) := by decide +kernel
theorem dX4_movesPlaces_9 : decode cX4_movesPlaces 9 = .ok (.aload_n 0, 1) := by decide +kernel
theorem dX4_movesPlaces_10 : decode cX4_movesPlaces 10 = .ok (.getfield 12, 3) := by decide +kernel
theorem dX4_movesPlaces_13 : decode cX4_movesPlaces 13 = .ok (.iload_n 3, 1) := by decide +kernel
theorem dX4_movesPlaces_14 : decode cX4_movesPlaces 14 = .ok (.aload_n 0, 1) := by decide +kernel
theorem dX4_movesPlaces_15 : decode cX4_movesPlaces 15 = .ok (.getfield 46, 3) := by decide +kernel
theorem dX4_movesPlaces_18 : decode cX4_movesPlaces 18 = .ok (.iload_n 3, 1) := by decide +kernel
theorem dX4_movesPlaces_19 : decode cX4_movesPlaces 19 = .ok (.iaload, 1) := by decide +kernel
theorem dX4_movesPlaces_20 : decode cX4_movesPlaces 20 = .ok (.iload_n 1, 1) := by decide +kernel
theorem dX4_movesPlaces_21 : decode cX4_movesPlaces 21 = .ok (.invokevirtual 110, 3) := by decide +kernel
theorem dX4_movesPlaces_24 : decode cX4_movesPlaces 24 = .ok (.istore 4, 2) := by decide +kernel
theorem dX4_movesPlaces_26 : decode cX4_movesPlaces 26 = .ok (.iload 4, 2) := by decide +kernel
theorem dX4_movesPlaces_28 : decode cX4_movesPlaces 28 = .ok (.aload_n 0, 1) := by decide +kernel
theorem dX4_movesPlaces_29 : decode cX4_movesPlaces 29 = .ok (.getfield 46, 3) := by decide +kernel
theorem dX4_movesPlaces_32 : decode cX4_movesPlaces 32 = .ok (.iload_n 3, 1) := by decide +kernel
theorem dX4_movesPlaces_33 : decode cX4_movesPlaces 33 = .ok (.iaload, 1) := by decide +kernel
theorem dX4_movesPlaces_34 : decode cX4_movesPlaces 34 = .ok (.if_icmp .eq 5, 3) := by decide +kernel
theorem dX4_movesPlaces_37 : decode cX4_movesPlaces 37 = .ok (.iconst 1, 1) := by decide +kernel
theorem dX4_movesPlaces_38 : decode cX4_movesPlaces 38 = .ok (.istore_n 2, 1) := by decide +kernel
theorem dX4_movesPlaces_39 : decode cX4_movesPlaces 39 = .ok (.aload_n 0, 1) := by decide +kernel
theorem dX4_movesPlaces_40 : decode cX4_movesPlaces 40 = .ok (.getfield 46, 3) := by decide +kernel
theorem dX4_movesPlaces_43 : decode cX4_movesPlaces 43 = .ok (.iload_n 3, 1) := by decide +kernel
theorem dX4_movesPlaces_44 : decode cX4_movesPlaces 44 = .ok (.iload 4, 2) := by decide +kernel
theorem dX4_movesPlaces_46 : decode cX4_movesPlaces 46 = .ok (.iastore, 1) := by decide +kernel
theorem dX4_movesPlaces_47 : decode cX4_movesPlaces 47 = .ok (.iinc 3 1, 3) := by decide +kernel
theorem dX4_movesPlaces_50 : decode cX4_movesPlaces 50 = .ok (.goto (-46), 3) := by decide +kernel
theorem dX4_movesPlaces_53 : decode cX4_movesPlaces 53 = .ok (.iload_n 2, 1) := by decide +kernel
theorem dX4_movesPlaces_54 : decode cX4_movesPlaces 54 = .ok (.ireturn, 1) := by decide +kernel
theorem dX4_sits_0 : decode cX4_sits 0 = .ok (.aload_n 0, 1) := by decide +kernel
theorem dX4_sits_1 : decode cX4_sits 1 = .ok (.iload_n 1, 1) := by decide +kernel
theorem dX4_sits_2 : decode cX4_sits 2 = .ok (.invokevirtual 68, 3) := by decide +kernel
theorem dX4_sits_5 : decode cX4_sits 5 = .ok (.ifCond .eq 14, 3) := by decide +kernel
theorem dX4_sits_8 : decode cX4_sits 8 = .ok (.iload_n 2, 1) := by decide +kernel
theorem dX4_sits_9 : decode cX4_sits 9 = .ok (.iconst 0, 1) := by decide +kernel
theorem dX4_sits_10 : decode cX4_sits 10 = .ok (.sipush 200, 3) := by decide +kernel
theorem dX4_sits_13 : decode cX4_sits 13 = .ok (.invokestatic 88, 3) := by decide +kernel
theorem dX4_sits_16 : decode cX4_sits 16 = .ok (.ifCond .ne 10, 3) := by decide +kernel
theorem dX4_sits_19 : decode cX4_sits 19 = .ok (.aload_n 0, 1) := by decide +kernel
theorem dX4_sits_20 : decode cX4_sits 20 = .ok (.ldc 54, 2) := by decide +kernel
theorem dX4_sits_22 : decode cX4_sits 22 = .ok (.invokevirtual 55, 3) := by decide +kernel
theorem dX4_sits_25 : decode cX4_sits 25 = .ok (.ireturn, 1) := by decide +kernel
theorem dX4_sits_26 : decode cX4_sits 26 = .ok (.aload_n 0, 1) := by decide +kernel
theorem dX4_sits_27 : decode cX4_sits 27 = .ok (.getfield 12, 3) := by decide +kernel
theorem dX4_sits_30 : decode cX4_sits 30 = .ok (.iload_n 1, 1) := by decide +kernel
theorem dX4_sits_31 : decode cX4_sits 31 = .ok (.iload_n 2, 1) := by decide +kernel
theorem dX4_sits_32 : decode cX4_sits 32 = .ok (.invokevirtual 80, 3) := by decide +kernel
theorem dX4_sits_35 : decode cX4_sits 35 = .ok (.ireturn, 1) := by decide +kernel
theorem dX4_order_0 : decode cX4_order 0 = .ok (.iload_n 1, 1) := by decide +kernel
theorem dX4_order_1 : decode cX4_order 1 = .ok (.invokestatic 92, 3) := by decide +kernel
theorem dX4_order_4 : decode cX4_order 4 = .ok (.ifCond .ne 10, 3) := by decide +kernel
theorem dX4_order_7 : decode cX4_order 7 = .ok (.aload_n 0, 1) := by decide +kernel
theorem dX4_order_8 : decode cX4_order 8 = .ok (.ldc 54, 2) := by decide +kernel
theorem dX4_order_10 : decode cX4_order 10 = .ok (.invokevirtual 55, 3) := by decide +kernel
theorem dX4_order_13 : decode cX4_order 13 = .ok (.ireturn, 1) := by decide +kernel
theorem dX4_order_14 : decode cX4_order 14 = .ok (.aload_n 0, 1) := by decide +kernel
theorem dX4_order_15 : decode cX4_order 15 = .ok (.iload_n 1, 1) := by decide +kernel
theorem dX4_order_16 : decode cX4_order 16 = .ok (.invokevirtual 176, 3) := by decide +kernel
theorem dX4_order_19 : decode cX4_order 19 = .ok (.istore_n 2, 1) := by decide +kernel
theorem dX4_order_20 : decode cX4_order 20 = .ok (.iload_n 2, 1) := by decide +kernel
theorem dX4_order_21 : decode cX4_order 21 = .ok (.ifCond .ge 12, 3) := by decide +kernel
theorem dX4_order_24 : decode cX4_order 24 = .ok (.aload_n 0, 1) := by decide +kernel
theorem dX4_order_25 : decode cX4_order 25 = .ok (.ldc 166, 2) := by decide +kernel
theorem dX4_order_27 : decode cX4_order 27 = .ok (.invokevirtual 55, 3) := by decide +kernel
theorem dX4_order_30 : decode cX4_order 30 = .ok (.goto 4, 3) := by decide +kernel
theorem dX4_order_33 : decode cX4_order 33 = .ok (.iload_n 2, 1) := by decide +kernel
theorem dX4_order_34 : decode cX4_order 34 = .ok (.ireturn, 1) := by decide +kernel
theorem dX4_soonest_0 : decode cX4_soonest 0 = .ok (.iload_n 1, 1) := by decide +kernel
theorem dX4_soonest_1 : decode cX4_soonest 1 = .ok (.invokestatic 92, 3) := by decide +kernel
theorem dX4_soonest_4 : decode cX4_soonest 4 = .ok (.ifCond .ne 10, 3) := by decide +kernel
theorem dX4_soonest_7 : decode cX4_soonest 7 = .ok (.aload_n 0, 1) := by decide +kernel
theorem dX4_soonest_8 : decode cX4_soonest 8 = .ok (.ldc 54, 2) := by decide +kernel
theorem dX4_soonest_10 : decode cX4_soonest 10 = .ok (.invokevirtual 55, 3) := by decide +kernel
theorem dX4_soonest_13 : decode cX4_soonest 13 = .ok (.ireturn, 1) := by decide +kernel
theorem dX4_soonest_14 : decode cX4_soonest 14 = .ok (.aload_n 0, 1) := by decide +kernel
theorem dX4_soonest_15 : decode cX4_soonest 15 = .ok (.iload_n 1, 1) := by decide +kernel
theorem dX4_soonest_16 : decode cX4_soonest 16 = .ok (.invokevirtual 176, 3) := by decide +kernel
theorem dX4_soonest_19 : decode cX4_soonest 19 = .ok (.istore_n 2, 1) := by decide +kernel
theorem dX4_soonest_20 : decode cX4_soonest 20 = .ok (.iload_n 2, 1) := by decide +kernel
theorem dX4_soonest_21 : decode cX4_soonest 21 = .ok (.ifCond .ge 12, 3) := by decide +kernel
theorem dX4_soonest_24 : decode cX4_soonest 24 = .ok (.aload_n 0, 1) := by decide +kernel
theorem dX4_soonest_25 : decode cX4_soonest 25 = .ok (.ldc 166, 2) := by decide +kernel
theorem dX4_soonest_27 : decode cX4_soonest 27 = .ok (.invokevirtual 55, 3) := by decide +kernel
theorem dX4_soonest_30 : decode cX4_soonest 30 = .ok (.goto 16, 3) := by decide +kernel
theorem dX4_soonest_33 : decode cX4_soonest 33 = .ok (.aload_n 0, 1) := by decide +kernel
theorem dX4_soonest_34 : decode cX4_soonest 34 = .ok (.iload_n 1, 1) := by decide +kernel
theorem dX4_soonest_35 : decode cX4_soonest 35 = .ok (.iload_n 2, 1) := by decide +kernel
theorem dX4_soonest_36 : decode cX4_soonest 36 = .ok (.aload_n 0, 1) := by decide +kernel
theorem dX4_soonest_37 : decode cX4_soonest 37 = .ok (.getfield 12, 3) := by decide +kernel
theorem dX4_soonest_40 : decode cX4_soonest 40 = .ok (.getfield 126, 3) := by decide +kernel
theorem dX4_soonest_43 : decode cX4_soonest 43 = .ok (.invokevirtual 179, 3) := by decide +kernel
theorem dX4_soonest_46 : decode cX4_soonest 46 = .ok (.ireturn, 1) := by decide +kernel
theorem dX4_orders_0 : decode cX4_orders 0 = .ok (.iload_n 1, 1) := by decide +kernel
theorem dX4_orders_1 : decode cX4_orders 1 = .ok (.invokestatic 92, 3) := by decide +kernel
theorem dX4_orders_4 : decode cX4_orders 4 = .ok (.ifCond .eq 10, 3) := by decide +kernel
theorem dX4_orders_7 : decode cX4_orders 7 = .ok (.iload_n 2, 1) := by decide +kernel
theorem dX4_orders_8 : decode cX4_orders 8 = .ok (.invokestatic 116, 3) := by decide +kernel
theorem dX4_orders_11 : decode cX4_orders 11 = .ok (.ifCond .ne 11, 3) := by decide +kernel
theorem dX4_orders_14 : decode cX4_orders 14 = .ok (.aload_n 0, 1) := by decide +kernel
theorem dX4_orders_15 : decode cX4_orders 15 = .ok (.ldc 54, 2) := by decide +kernel
theorem dX4_orders_17 : decode cX4_orders 17 = .ok (.invokevirtual 55, 3) := by decide +kernel
theorem dX4_orders_20 : decode cX4_orders 20 = .ok (.i2l, 1) := by decide +kernel
theorem dX4_orders_21 : decode cX4_orders 21 = .ok (.lreturn, 1) := by decide +kernel
theorem dX4_orders_22 : decode cX4_orders 22 = .ok (.aload_n 0, 1) := by decide +kernel
theorem dX4_orders_23 : decode cX4_orders 23 = .ok (.getfield 12, 3) := by decide +kernel
theorem dX4_orders_26 : decode cX4_orders 26 = .ok (.getfield 122, 3) := by decide +kernel
theorem dX4_orders_29 : decode cX4_orders 29 = .ok (.iload_n 2, 1) := by decide +kernel
theorem dX4_orders_30 : decode cX4_orders 30 = .ok (.baload, 1) := by decide +kernel
theorem dX4_orders_31 : decode cX4_orders 31 = .ok (.ifCond .ne 11, 3) := by decide +kernel
theorem dX4_orders_34 : decode cX4_orders 34 = .ok (.aload_n 0, 1) := by decide +kernel
theorem dX4_orders_35 : decode cX4_orders 35 = .ok (.ldc 140, 2) := by decide +kernel
theorem dX4_orders_37 : decode cX4_orders 37 = .ok (.invokevirtual 55, 3) := by decide +kernel
theorem dX4_orders_40 : decode cX4_orders 40 = .ok (.i2l, 1) := by decide +kernel
theorem dX4_orders_41 : decode cX4_orders 41 = .ok (.lreturn, 1) := by decide +kernel
theorem dX4_orders_42 : decode cX4_orders 42 = .ok (.aload_n 0, 1) := by decide +kernel
theorem dX4_orders_43 : decode cX4_orders 43 = .ok (.iload_n 1, 1) := by decide +kernel
theorem dX4_orders_44 : decode cX4_orders 44 = .ok (.bipush 60, 2) := by decide +kernel
theorem dX4_orders_46 : decode cX4_orders 46 = .ok (.invokevirtual 182, 3) := by decide +kernel
theorem dX4_orders_49 : decode cX4_orders 49 = .ok (.lconst 0, 1) := by decide +kernel
theorem dX4_orders_50 : decode cX4_orders 50 = .ok (.lstore_n 3, 1) := by decide +kernel
theorem dX4_orders_51 : decode cX4_orders 51 = .ok (.iconst 0, 1) := by decide +kernel
theorem dX4_orders_52 : decode cX4_orders 52 = .ok (.istore 5, 2) := by decide +kernel
theorem dX4_orders_54 : decode cX4_orders 54 = .ok (.iload 5, 2) := by decide +kernel
theorem dX4_orders_56 : decode cX4_orders 56 = .ok (.bipush 32, 2) := by decide +kernel
theorem dX4_orders_58 : decode cX4_orders 58 = .ok (.if_icmp .ge 27, 3) := by decide +kernel
theorem dX4_orders_61 : decode cX4_orders 61 = .ok (.aload_n 0, 1) := by decide +kernel
theorem dX4_orders_62 : decode cX4_orders 62 = .ok (.iload_n 1, 1) := by decide +kernel
theorem dX4_orders_63 : decode cX4_orders 63 = .ok (.iload 5, 2) := by decide +kernel
theorem dX4_orders_65 : decode cX4_orders 65 = .ok (.invokevirtual 186, 3) := by decide +kernel
theorem dX4_orders_68 : decode cX4_orders 68 = .ok (.iload_n 2, 1) := by decide +kernel
theorem dX4_orders_69 : decode cX4_orders 69 = .ok (.if_icmp .ne 10, 3) := by decide +kernel
theorem dX4_orders_72 : decode cX4_orders 72 = .ok (.lload_n 3, 1) := by decide +kernel
theorem dX4_orders_73 : decode cX4_orders 73 = .ok (.lconst 1, 1) := by decide +kernel
theorem dX4_orders_74 : decode cX4_orders 74 = .ok (.iload 5, 2) := by decide +kernel
theorem dX4_orders_76 : decode cX4_orders 76 = .ok (.lshl, 1) := by decide +kernel
theorem dX4_orders_77 : decode cX4_orders 77 = .ok (.lor, 1) := by decide +kernel
theorem dX4_orders_78 : decode cX4_orders 78 = .ok (.lstore_n 3, 1) := by decide +kernel
theorem dX4_orders_79 : decode cX4_orders 79 = .ok (.iinc 5 1, 3) := by decide +kernel
theorem dX4_orders_82 : decode cX4_orders 82 = .ok (.goto (-28), 3) := by decide +kernel
theorem dX4_orders_85 : decode cX4_orders 85 = .ok (.lload_n 3, 1) := by decide +kernel
theorem dX4_orders_86 : decode cX4_orders 86 = .ok (.lreturn, 1) := by decide +kernel
theorem dX4_surest_0 : decode cX4_surest 0 = .ok (.iload_n 1, 1) := by decide +kernel
theorem dX4_surest_1 : decode cX4_surest 1 = .ok (.invokestatic 92, 3) := by decide +kernel
theorem dX4_surest_4 : decode cX4_surest 4 = .ok (.ifCond .ne 10, 3) := by decide +kernel
theorem dX4_surest_7 : decode cX4_surest 7 = .ok (.aload_n 0, 1) := by decide +kernel
theorem dX4_surest_8 : decode cX4_surest 8 = .ok (.ldc 54, 2) := by decide +kernel
theorem dX4_surest_10 : decode cX4_surest 10 = .ok (.invokevirtual 55, 3) := by decide +kernel
theorem dX4_surest_13 : decode cX4_surest 13 = .ok (.ireturn, 1) := by decide +kernel
theorem dX4_surest_14 : decode cX4_surest 14 = .ok (.aload_n 0, 1) := by decide +kernel
theorem dX4_surest_15 : decode cX4_surest 15 = .ok (.iload_n 1, 1) := by decide +kernel
theorem dX4_surest_16 : decode cX4_surest 16 = .ok (.invokevirtual 189, 3) := by decide +kernel
theorem dX4_surest_19 : decode cX4_surest 19 = .ok (.ireturn, 1) := by decide +kernel
theorem dX4_winds_0 : decode cX4_winds 0 = .ok (.iload_n 1, 1) := by decide +kernel
theorem dX4_winds_1 : decode cX4_winds 1 = .ok (.invokestatic 92, 3) := by decide +kernel
theorem dX4_winds_4 : decode cX4_winds 4 = .ok (.ifCond .ne 10, 3) := by decide +kernel
theorem dX4_winds_7 : decode cX4_winds 7 = .ok (.aload_n 0, 1) := by decide +kernel
theorem dX4_winds_8 : decode cX4_winds 8 = .ok (.ldc 54, 2) := by decide +kernel
theorem dX4_winds_10 : decode cX4_winds 10 = .ok (.invokevirtual 55, 3) := by decide +kernel
theorem dX4_winds_13 : decode cX4_winds 13 = .ok (.ireturn, 1) := by decide +kernel
theorem dX4_winds_14 : decode cX4_winds 14 = .ok (.aload_n 0, 1) := by decide +kernel
theorem dX4_winds_15 : decode cX4_winds 15 = .ok (.iload_n 1, 1) := by decide +kernel
theorem dX4_winds_16 : decode cX4_winds 16 = .ok (.aload_n 0, 1) := by decide +kernel
theorem dX4_winds_17 : decode cX4_winds 17 = .ok (.iload_n 1, 1) := by decide +kernel
theorem dX4_winds_18 : decode cX4_winds 18 = .ok (.invokevirtual 189, 3) := by decide +kernel
theorem dX4_winds_21 : decode cX4_winds 21 = .ok (.invokevirtual 192, 3) := by decide +kernel
theorem dX4_winds_24 : decode cX4_winds 24 = .ok (.ireturn, 1) := by decide +kernel
theorem dX4_windFor_0 : decode cX4_windFor 0 = .ok (.iload_n 1, 1) := by decide +kernel
theorem dX4_windFor_1 : decode cX4_windFor 1 = .ok (.invokestatic 92, 3) := by decide +kernel
theorem dX4_windFor_4 : decode cX4_windFor 4 = .ok (.ifCond .ne 10, 3) := by decide +kernel
theorem dX4_windFor_7 : decode cX4_windFor 7 = .ok (.aload_n 0, 1) := by decide +kernel
theorem dX4_windFor_8 : decode cX4_windFor 8 = .ok (.ldc 54, 2) := by decide +kernel
theorem dX4_windFor_10 : decode cX4_windFor 10 = .ok (.invokevirtual 55, 3) := by decide +kernel
theorem dX4_windFor_13 : decode cX4_windFor 13 = .ok (.ireturn, 1) := by decide +kernel
theorem dX4_windFor_14 : decode cX4_windFor 14 = .ok (.aload_n 0, 1) := by decide +kernel
theorem dX4_windFor_15 : decode cX4_windFor 15 = .ok (.iload_n 1, 1) := by decide +kernel
theorem dX4_windFor_16 : decode cX4_windFor 16 = .ok (.bipush 60, 2) := by decide +kernel
theorem dX4_windFor_18 : decode cX4_windFor 18 = .ok (.invokevirtual 182, 3) := by decide +kernel
theorem dX4_windFor_21 : decode cX4_windFor 21 = .ok (.iconst (-1), 1) := by decide +kernel
theorem dX4_windFor_22 : decode cX4_windFor 22 = .ok (.istore_n 2, 1) := by decide +kernel
theorem dX4_windFor_23 : decode cX4_windFor 23 = .ok (.bipush 61, 2) := by decide +kernel
theorem dX4_windFor_25 : decode cX4_windFor 25 = .ok (.istore_n 3, 1) := by decide +kernel
theorem dX4_windFor_26 : decode cX4_windFor 26 = .ok (.iconst 0, 1) := by decide +kernel
theorem dX4_windFor_27 : decode cX4_windFor 27 = .ok (.istore 4, 2) := by decide +kernel
theorem dX4_windFor_29 : decode cX4_windFor 29 = .ok (.iload 4, 2) := by decide +kernel
theorem dX4_windFor_31 : decode cX4_windFor 31 = .ok (.bipush 8, 2) := by decide +kernel
theorem dX4_windFor_33 : decode cX4_windFor 33 = .ok (.if_icmp .ge 44, 3) := by decide +kernel
theorem dX4_windFor_36 : decode cX4_windFor 36 = .ok (.aload_n 0, 1) := by decide +kernel
theorem dX4_windFor_37 : decode cX4_windFor 37 = .ok (.iload_n 1, 1) := by decide +kernel
theorem dX4_windFor_38 : decode cX4_windFor 38 = .ok (.aload_n 0, 1) := by decide +kernel
theorem dX4_windFor_39 : decode cX4_windFor 39 = .ok (.getfield 12, 3) := by decide +kernel
theorem dX4_windFor_42 : decode cX4_windFor 42 = .ok (.getfield 98, 3) := by decide +kernel
theorem dX4_windFor_45 : decode cX4_windFor 45 = .ok (.iload_n 1, 1) := by decide +kernel
theorem dX4_windFor_46 : decode cX4_windFor 46 = .ok (.iaload, 1) := by decide +kernel
theorem dX4_windFor_47 : decode cX4_windFor 47 = .ok (.iload 4, 2) := by decide +kernel
theorem dX4_windFor_49 : decode cX4_windFor 49 = .ok (.invokevirtual 179, 3) := by decide +kernel
theorem dX4_windFor_52 : decode cX4_windFor 52 = .ok (.istore 5, 2) := by decide +kernel
theorem dX4_windFor_54 : decode cX4_windFor 54 = .ok (.iload 5, 2) := by decide +kernel
theorem dX4_windFor_56 : decode cX4_windFor 56 = .ok (.ifCond .lt 15, 3) := by decide +kernel
theorem dX4_windFor_59 : decode cX4_windFor 59 = .ok (.iload 5, 2) := by decide +kernel
theorem dX4_windFor_61 : decode cX4_windFor 61 = .ok (.iload_n 3, 1) := by decide +kernel
theorem dX4_windFor_62 : decode cX4_windFor 62 = .ok (.if_icmp .ge 9, 3) := by decide +kernel
theorem dX4_windFor_65 : decode cX4_windFor 65 = .ok (.iload 5, 2) := by decide +kernel
theorem dX4_windFor_67 : decode cX4_windFor 67 = .ok (.istore_n 3, 1) := by decide +kernel
theorem dX4_windFor_68 : decode cX4_windFor 68 = .ok (.iload 4, 2) := by decide +kernel
theorem dX4_windFor_70 : decode cX4_windFor 70 = .ok (.istore_n 2, 1) := by decide +kernel
theorem dX4_windFor_71 : decode cX4_windFor 71 = .ok (.iinc 4 1, 3) := by decide +kernel
theorem dX4_windFor_74 : decode cX4_windFor 74 = .ok (.goto (-45), 3) := by decide +kernel
theorem dX4_windFor_77 : decode cX4_windFor 77 = .ok (.iload_n 2, 1) := by decide +kernel
theorem dX4_windFor_78 : decode cX4_windFor 78 = .ok (.ifCond .ge 12, 3) := by decide +kernel
theorem dX4_windFor_81 : decode cX4_windFor 81 = .ok (.aload_n 0, 1) := by decide +kernel
theorem dX4_windFor_82 : decode cX4_windFor 82 = .ok (.ldc 166, 2) := by decide +kernel
theorem dX4_windFor_84 : decode cX4_windFor 84 = .ok (.invokevirtual 55, 3) := by decide +kernel
theorem dX4_windFor_87 : decode cX4_windFor 87 = .ok (.goto 4, 3) := by decide +kernel
theorem dX4_windFor_90 : decode cX4_windFor 90 = .ok (.iload_n 2, 1) := by decide +kernel
theorem dX4_windFor_91 : decode cX4_windFor 91 = .ok (.ireturn, 1) := by decide +kernel
theorem dX4_quickestOrder_0 : decode cX4_quickestOrder 0 = .ok (.aload_n 0, 1) := by decide +kernel
theorem dX4_quickestOrder_1 : decode cX4_quickestOrder 1 = .ok (.iload_n 1, 1) := by decide +kernel
theorem dX4_quickestOrder_2 : decode cX4_quickestOrder 2 = .ok (.bipush 60, 2) := by decide +kernel
theorem dX4_quickestOrder_4 : decode cX4_quickestOrder 4 = .ok (.invokevirtual 182, 3) := by decide +kernel
theorem dX4_quickestOrder_7 : decode cX4_quickestOrder 7 = .ok (.iconst (-1), 1) := by decide +kernel
theorem dX4_quickestOrder_8 : decode cX4_quickestOrder 8 = .ok (.istore_n 2, 1) := by decide +kernel
theorem dX4_quickestOrder_9 : decode cX4_quickestOrder 9 = .ok (.bipush 61, 2) := by decide +kernel
theorem dX4_quickestOrder_11 : decode cX4_quickestOrder 11 = .ok (.istore_n 3, 1) := by decide +kernel
theorem dX4_quickestOrder_12 : decode cX4_quickestOrder 12 = .ok (.iconst 0, 1) := by decide +kernel
theorem dX4_quickestOrder_13 : decode cX4_quickestOrder 13 = .ok (.istore 4, 2) := by decide +kernel
theorem dX4_quickestOrder_15 : decode cX4_quickestOrder 15 = .ok (.iload 4, 2) := by decide +kernel
theorem dX4_quickestOrder_17 : decode cX4_quickestOrder 17 = .ok (.bipush 32, 2) := by decide +kernel
theorem dX4_quickestOrder_19 : decode cX4_quickestOrder 19 = .ok (.if_icmp .ge 42, 3) := by decide +kernel
theorem dX4_quickestOrder_22 : decode cX4_quickestOrder 22 = .ok (.aload_n 0, 1) := by decide +kernel
theorem dX4_quickestOrder_23 : decode cX4_quickestOrder 23 = .ok (.iload_n 1, 1) := by decide +kernel
theorem dX4_quickestOrder_24 : decode cX4_quickestOrder 24 = .ok (.iload 4, 2) := by decide +kernel
theorem dX4_quickestOrder_26 : decode cX4_quickestOrder 26 = .ok (.aload_n 0, 1) := by decide +kernel
theorem dX4_quickestOrder_27 : decode cX4_quickestOrder 27 = .ok (.getfield 12, 3) := by decide +kernel
theorem dX4_quickestOrder_30 : decode cX4_quickestOrder 30 = .ok (.getfield 126, 3) := by decide +kernel
theorem dX4_quickestOrder_33 : decode cX4_quickestOrder 33 = .ok (.invokevirtual 179, 3) := by decide +kernel
theorem dX4_quickestOrder_36 : decode cX4_quickestOrder 36 = .ok (.istore 5, 2) := by decide +kernel
theorem dX4_quickestOrder_38 : decode cX4_quickestOrder 38 = .ok (.iload 5, 2) := by decide +kernel
theorem dX4_quickestOrder_40 : decode cX4_quickestOrder 40 = .ok (.ifCond .lt 15, 3) := by decide +kernel
theorem dX4_quickestOrder_43 : decode cX4_quickestOrder 43 = .ok (.iload 5, 2) := by decide +kernel
theorem dX4_quickestOrder_45 : decode cX4_quickestOrder 45 = .ok (.iload_n 3, 1) := by decide +kernel
theorem dX4_quickestOrder_46 : decode cX4_quickestOrder 46 = .ok (.if_icmp .ge 9, 3) := by decide +kernel
theorem dX4_quickestOrder_49 : decode cX4_quickestOrder 49 = .ok (.iload 5, 2) := by decide +kernel
theorem dX4_quickestOrder_51 : decode cX4_quickestOrder 51 = .ok (.istore_n 3, 1) := by decide +kernel
theorem dX4_quickestOrder_52 : decode cX4_quickestOrder 52 = .ok (.iload 4, 2) := by decide +kernel
theorem dX4_quickestOrder_54 : decode cX4_quickestOrder 54 = .ok (.istore_n 2, 1) := by decide +kernel
theorem dX4_quickestOrder_55 : decode cX4_quickestOrder 55 = .ok (.iinc 4 1, 3) := by decide +kernel
theorem dX4_quickestOrder_58 : decode cX4_quickestOrder 58 = .ok (.goto (-43), 3) := by decide +kernel
theorem dX4_quickestOrder_61 : decode cX4_quickestOrder 61 = .ok (.iload_n 2, 1) := by decide +kernel
theorem dX4_quickestOrder_62 : decode cX4_quickestOrder 62 = .ok (.ireturn, 1) := by decide +kernel
theorem dX4_surestOrder_0 : decode cX4_surestOrder 0 = .ok (.aload_n 0, 1) := by decide +kernel
theorem dX4_surestOrder_1 : decode cX4_surestOrder 1 = .ok (.iload_n 1, 1) := by decide +kernel
theorem dX4_surestOrder_2 : decode cX4_surestOrder 2 = .ok (.bipush 60, 2) := by decide +kernel
theorem dX4_surestOrder_4 : decode cX4_surestOrder 4 = .ok (.invokevirtual 182, 3) := by decide +kernel
theorem dX4_surestOrder_7 : decode cX4_surestOrder 7 = .ok (.iconst 0, 1) := by decide +kernel
theorem dX4_surestOrder_8 : decode cX4_surestOrder 8 = .ok (.istore_n 2, 1) := by decide +kernel
theorem dX4_surestOrder_9 : decode cX4_surestOrder 9 = .ok (.iconst (-1), 1) := by decide +kernel
theorem dX4_surestOrder_10 : decode cX4_surestOrder 10 = .ok (.istore_n 3, 1) := by decide +kernel
theorem dX4_surestOrder_11 : decode cX4_surestOrder 11 = .ok (.iconst 0, 1) := by decide +kernel
theorem dX4_surestOrder_12 : decode cX4_surestOrder 12 = .ok (.istore 4, 2) := by decide +kernel
theorem dX4_surestOrder_14 : decode cX4_surestOrder 14 = .ok (.iload 4, 2) := by decide +kernel
theorem dX4_surestOrder_16 : decode cX4_surestOrder 16 = .ok (.bipush 32, 2) := by decide +kernel
theorem dX4_surestOrder_18 : decode cX4_surestOrder 18 = .ok (.if_icmp .ge 30, 3) := by decide +kernel
theorem dX4_surestOrder_21 : decode cX4_surestOrder 21 = .ok (.aload_n 0, 1) := by decide +kernel
theorem dX4_surestOrder_22 : decode cX4_surestOrder 22 = .ok (.iload_n 1, 1) := by decide +kernel
theorem dX4_surestOrder_23 : decode cX4_surestOrder 23 = .ok (.iload 4, 2) := by decide +kernel
theorem dX4_surestOrder_25 : decode cX4_surestOrder 25 = .ok (.invokevirtual 192, 3) := by decide +kernel
theorem dX4_surestOrder_28 : decode cX4_surestOrder 28 = .ok (.istore 5, 2) := by decide +kernel
theorem dX4_surestOrder_30 : decode cX4_surestOrder 30 = .ok (.iload 5, 2) := by decide +kernel
theorem dX4_surestOrder_32 : decode cX4_surestOrder 32 = .ok (.iload_n 3, 1) := by decide +kernel
theorem dX4_surestOrder_33 : decode cX4_surestOrder 33 = .ok (.if_icmp .le 9, 3) := by decide +kernel
theorem dX4_surestOrder_36 : decode cX4_surestOrder 36 = .ok (.iload 5, 2) := by decide +kernel
theorem dX4_surestOrder_38 : decode cX4_surestOrder 38 = .ok (.istore_n 3, 1) := by decide +kernel
theorem dX4_surestOrder_39 : decode cX4_surestOrder 39 = .ok (.iload 4, 2) := by decide +kernel
theorem dX4_surestOrder_41 : decode cX4_surestOrder 41 = .ok (.istore_n 2, 1) := by decide +kernel
theorem dX4_surestOrder_42 : decode cX4_surestOrder 42 = .ok (.iinc 4 1, 3) := by decide +kernel
theorem dX4_surestOrder_45 : decode cX4_surestOrder 45 = .ok (.goto (-31), 3) := by decide +kernel
theorem dX4_surestOrder_48 : decode cX4_surestOrder 48 = .ok (.iload_n 2, 1) := by decide +kernel
theorem dX4_surestOrder_49 : decode cX4_surestOrder 49 = .ok (.ireturn, 1) := by decide +kernel
theorem dX4_windsThatLand_0 : decode cX4_windsThatLand 0 = .ok (.iconst 0, 1) := by decide +kernel
theorem dX4_windsThatLand_1 : decode cX4_windsThatLand 1 = .ok (.istore_n 3, 1) := by decide +kernel
theorem dX4_windsThatLand_2 : decode cX4_windsThatLand 2 = .ok (.iconst 0, 1) := by decide +kernel
theorem dX4_windsThatLand_3 : decode cX4_windsThatLand 3 = .ok (.istore 4, 2) := by decide +kernel
theorem dX4_windsThatLand_5 : decode cX4_windsThatLand 5 = .ok (.iload 4, 2) := by decide +kernel
theorem dX4_windsThatLand_7 : decode cX4_windsThatLand 7 = .ok (.bipush 8, 2) := by decide +kernel
theorem dX4_windsThatLand_9 : decode cX4_windsThatLand 9 = .ok (.if_icmp .ge 23, 3) := by decide +kernel
theorem dX4_windsThatLand_12 : decode cX4_windsThatLand 12 = .ok (.aload_n 0, 1) := by decide +kernel
theorem dX4_windsThatLand_13 : decode cX4_windsThatLand 13 = .ok (.iload_n 1, 1) := by decide +kernel
theorem dX4_windsThatLand_14 : decode cX4_windsThatLand 14 = .ok (.iload_n 2, 1) := by decide +kernel
theorem dX4_windsThatLand_15 : decode cX4_windsThatLand 15 = .ok (.iload 4, 2) := by decide +kernel
theorem dX4_windsThatLand_17 : decode cX4_windsThatLand 17 = .ok (.invokevirtual 179, 3) := by decide +kernel
theorem dX4_windsThatLand_20 : decode cX4_windsThatLand 20 = .ok (.ifCond .lt 6, 3) := by decide +kernel
theorem dX4_windsThatLand_23 : decode cX4_windsThatLand 23 = .ok (.iinc 3 1, 3) := by decide +kernel
theorem dX4_windsThatLand_26 : decode cX4_windsThatLand 26 = .ok (.iinc 4 1, 3) := by decide +kernel
theorem dX4_windsThatLand_29 : decode cX4_windsThatLand 29 = .ok (.goto (-24), 3) := by decide +kernel
theorem dX4_windsThatLand_32 : decode cX4_windsThatLand 32 = .ok (.iload_n 3, 1) := by decide +kernel
theorem dX4_windsThatLand_33 : decode cX4_windsThatLand 33 = .ok (.ireturn, 1) := by decide +kernel
theorem dX4_readAhead_0 : decode cX4_readAhead 0 = .ok (.iconst 0, 1) := by decide +kernel
theorem dX4_readAhead_1 : decode cX4_readAhead 1 = .ok (.istore_n 3, 1) := by decide +kernel
theorem dX4_readAhead_2 : decode cX4_readAhead 2 = .ok (.iload_n 3, 1) := by decide +kernel
theorem dX4_readAhead_3 : decode cX4_readAhead 3 = .ok (.iload_n 2, 1) := by decide +kernel
theorem dX4_readAhead_4 : decode cX4_readAhead 4 = .ok (.if_icmp .ge 41, 3) := by decide +kernel
theorem dX4_readAhead_7 : decode cX4_readAhead 7 = .ok (.iload_n 3, 1) := by decide +kernel
theorem dX4_readAhead_8 : decode cX4_readAhead 8 = .ok (.aload_n 0, 1) := by decide +kernel
theorem dX4_readAhead_9 : decode cX4_readAhead 9 = .ok (.getfield 43, 3) := by decide +kernel
theorem dX4_readAhead_12 : decode cX4_readAhead 12 = .ok (.arraylength, 1) := by decide +kernel
theorem dX4_readAhead_13 : decode cX4_readAhead 13 = .ok (.if_icmp .ge 32, 3) := by decide +kernel
theorem dX4_readAhead_16 : decode cX4_readAhead 16 = .ok (.aload_n 0, 1) := by decide +kernel
theorem dX4_readAhead_17 : decode cX4_readAhead 17 = .ok (.getfield 43, 3) := by decide +kernel
theorem dX4_readAhead_20 : decode cX4_readAhead 20 = .ok (.iload_n 3, 1) := by decide +kernel
theorem dX4_readAhead_21 : decode cX4_readAhead 21 = .ok (.aload_n 0, 1) := by decide +kernel
theorem dX4_readAhead_22 : decode cX4_readAhead 22 = .ok (.getfield 12, 3) := by decide +kernel
theorem dX4_readAhead_25 : decode cX4_readAhead 25 = .ok (.aload_n 0, 1) := by decide +kernel
theorem dX4_readAhead_26 : decode cX4_readAhead 26 = .ok (.getfield 12, 3) := by decide +kernel
theorem dX4_readAhead_29 : decode cX4_readAhead 29 = .ok (.getfield 101, 3) := by decide +kernel
theorem dX4_readAhead_32 : decode cX4_readAhead 32 = .ok (.iload_n 1, 1) := by decide +kernel
theorem dX4_readAhead_33 : decode cX4_readAhead 33 = .ok (.iaload, 1) := by decide +kernel
theorem dX4_readAhead_34 : decode cX4_readAhead 34 = .ok (.iload_n 3, 1) := by decide +kernel
theorem dX4_readAhead_35 : decode cX4_readAhead 35 = .ok (.invokevirtual 104, 3) := by decide +kernel
theorem dX4_readAhead_38 : decode cX4_readAhead 38 = .ok (.iastore, 1) := by decide +kernel
theorem dX4_readAhead_39 : decode cX4_readAhead 39 = .ok (.iinc 3 1, 3) := by decide +kernel
theorem dX4_readAhead_42 : decode cX4_readAhead 42 = .ok (.goto (-40), 3) := by decide +kernel
theorem dX4_readAhead_45 : decode cX4_readAhead 45 = .ok (.return_, 1) := by decide +kernel
theorem dX4_landsBehind_0 : decode cX4_landsBehind 0 = .ok (.aload_n 0, 1) := by decide +kernel
theorem dX4_landsBehind_1 : decode cX4_landsBehind 1 = .ok (.getfield 12, 3) := by decide +kernel
theorem dX4_landsBehind_4 : decode cX4_landsBehind 4 = .ok (.getfield 95, 3) := by decide +kernel
theorem dX4_landsBehind_7 : decode cX4_landsBehind 7 = .ok (.iload_n 1, 1) := by decide +kernel
theorem dX4_landsBehind_8 : decode cX4_landsBehind 8 = .ok (.iaload, 1) := by decide +kernel
theorem dX4_landsBehind_9 : decode cX4_landsBehind 9 = .ok (.istore 4, 2) := by decide +kernel
theorem dX4_landsBehind_11 : decode cX4_landsBehind 11 = .ok (.iconst 0, 1) := by decide +kernel
theorem dX4_landsBehind_12 : decode cX4_landsBehind 12 = .ok (.istore 5, 2) := by decide +kernel
theorem dX4_landsBehind_14 : decode cX4_landsBehind 14 = .ok (.iload 5, 2) := by decide +kernel
theorem dX4_landsBehind_16 : decode cX4_landsBehind 16 = .ok (.bipush 60, 2) := by decide +kernel
theorem dX4_landsBehind_18 : decode cX4_landsBehind 18 = .ok (.if_icmp .ge 48, 3) := by decide +kernel
theorem dX4_landsBehind_21 : decode cX4_landsBehind 21 = .ok (.aload_n 0, 1) := by decide +kernel
theorem dX4_landsBehind_22 : decode cX4_landsBehind 22 = .ok (.getfield 12, 3) := by decide +kernel
theorem dX4_landsBehind_25 : decode cX4_landsBehind 25 = .ok (.getfield 122, 3) := by decide +kernel
theorem dX4_landsBehind_28 : decode cX4_landsBehind 28 = .ok (.iload 4, 2) := by decide +kernel
theorem dX4_landsBehind_30 : decode cX4_landsBehind 30 = .ok (.baload, 1) := by decide +kernel
theorem dX4_landsBehind_31 : decode cX4_landsBehind 31 = .ok (.ifCond .eq 6, 3) := by decide +kernel
theorem dX4_landsBehind_34 : decode cX4_landsBehind 34 = .ok (.iload 5, 2) := by decide +kernel
theorem dX4_landsBehind_36 : decode cX4_landsBehind 36 = .ok (.ireturn, 1) := by decide +kernel
theorem dX4_landsBehind_37 : decode cX4_landsBehind 37 = .ok (.aload_n 0, 1) := by decide +kernel
theorem dX4_landsBehind_38 : decode cX4_landsBehind 38 = .ok (.getfield 12, 3) := by decide +kernel
theorem dX4_landsBehind_41 : decode cX4_landsBehind 41 = .ok (.iload 4, 2) := by decide +kernel
theorem dX4_landsBehind_43 : decode cX4_landsBehind 43 = .ok (.iload_n 2, 1) := by decide +kernel
theorem dX4_landsBehind_44 : decode cX4_landsBehind 44 = .ok (.aload_n 0, 1) := by decide +kernel
theorem dX4_landsBehind_45 : decode cX4_landsBehind 45 = .ok (.getfield 43, 3) := by decide +kernel
theorem dX4_landsBehind_48 : decode cX4_landsBehind 48 = .ok (.iload 5, 2) := by decide +kernel
theorem dX4_landsBehind_50 : decode cX4_landsBehind 50 = .ok (.iaload, 1) := by decide +kernel
theorem dX4_landsBehind_51 : decode cX4_landsBehind 51 = .ok (.invokestatic 107, 3) := by decide +kernel
theorem dX4_landsBehind_54 : decode cX4_landsBehind 54 = .ok (.iload_n 3, 1) := by decide +kernel
theorem dX4_landsBehind_55 : decode cX4_landsBehind 55 = .ok (.invokevirtual 195, 3) := by decide +kernel
theorem dX4_landsBehind_58 : decode cX4_landsBehind 58 = .ok (.istore 4, 2) := by decide +kernel
theorem dX4_landsBehind_60 : decode cX4_landsBehind 60 = .ok (.iinc 5 1, 3) := by decide +kernel
theorem dX4_landsBehind_63 : decode cX4_landsBehind 63 = .ok (.goto (-49), 3) := by decide +kernel
theorem dX4_landsBehind_66 : decode cX4_landsBehind 66 = .ok (.aload_n 0, 1) := by decide +kernel
theorem dX4_landsBehind_67 : decode cX4_landsBehind 67 = .ok (.getfield 12, 3) := by decide +kernel
theorem dX4_landsBehind_70 : decode cX4_landsBehind 70 = .ok (.getfield 122, 3) := by decide +kernel
theorem dX4_landsBehind_73 : decode cX4_landsBehind 73 = .ok (.iload 4, 2) := by decide +kernel
theorem dX4_landsBehind_75 : decode cX4_landsBehind 75 = .ok (.baload, 1) := by decide +kernel
theorem dX4_landsBehind_76 : decode cX4_landsBehind 76 = .ok (.ifCond .eq 8, 3) := by decide +kernel
theorem dX4_landsBehind_79 : decode cX4_landsBehind 79 = .ok (.bipush 60, 2) := by decide +kernel
theorem dX4_landsBehind_81 : decode cX4_landsBehind 81 = .ok (.goto 4, 3) := by decide +kernel
theorem dX4_landsBehind_84 : decode cX4_landsBehind 84 = .ok (.iconst (-1), 1) := by decide +kernel
theorem dX4_landsBehind_85 : decode cX4_landsBehind 85 = .ok (.ireturn, 1) := by decide +kernel
theorem dX4_endsAt_0 : decode cX4_endsAt 0 = .ok (.aload_n 0, 1) := by decide +kernel
theorem dX4_endsAt_1 : decode cX4_endsAt 1 = .ok (.getfield 12, 3) := by decide +kernel
theorem dX4_endsAt_4 : decode cX4_endsAt 4 = .ok (.getfield 95, 3) := by decide +kernel
theorem dX4_endsAt_7 : decode cX4_endsAt 7 = .ok (.iload_n 1, 1) := by decide +kernel
theorem dX4_endsAt_8 : decode cX4_endsAt 8 = .ok (.iaload, 1) := by decide +kernel
theorem dX4_endsAt_9 : decode cX4_endsAt 9 = .ok (.istore_n 3, 1) := by decide +kernel
theorem dX4_endsAt_10 : decode cX4_endsAt 10 = .ok (.iconst 0, 1) := by decide +kernel
theorem dX4_endsAt_11 : decode cX4_endsAt 11 = .ok (.istore 4, 2) := by decide +kernel
theorem dX4_endsAt_13 : decode cX4_endsAt 13 = .ok (.iload 4, 2) := by decide +kernel
theorem dX4_endsAt_15 : decode cX4_endsAt 15 = .ok (.bipush 60, 2) := by decide +kernel
theorem dX4_endsAt_17 : decode cX4_endsAt 17 = .ok (.if_icmp .ge 36, 3) := by decide +kernel
theorem dX4_endsAt_20 : decode cX4_endsAt 20 = .ok (.aload_n 0, 1) := by decide +kernel
theorem dX4_endsAt_21 : decode cX4_endsAt 21 = .ok (.getfield 12, 3) := by decide +kernel
theorem dX4_endsAt_24 : decode cX4_endsAt 24 = .ok (.iload_n 3, 1) := by decide +kernel
theorem dX4_endsAt_25 : decode cX4_endsAt 25 = .ok (.iload_n 2, 1) := by decide +kernel
theorem dX4_endsAt_26 : decode cX4_endsAt 26 = .ok (.aload_n 0, 1) := by decide +kernel
theorem dX4_endsAt_27 : decode cX4_endsAt 27 = .ok (.getfield 43, 3) := by decide +kernel
theorem dX4_endsAt_30 : decode cX4_endsAt 30 = .ok (.iload 4, 2) := by decide +kernel
theorem dX4_endsAt_32 : decode cX4_endsAt 32 = .ok (.iaload, 1) := by decide +kernel
theorem dX4_endsAt_33 : decode cX4_endsAt 33 = .ok (.invokestatic 107, 3) := by decide +kernel
theorem dX4_endsAt_36 : decode cX4_endsAt 36 = .ok (.aload_n 0, 1) := by decide +kernel
theorem dX4_endsAt_37 : decode cX4_endsAt 37 = .ok (.getfield 12, 3) := by decide +kernel
theorem dX4_endsAt_40 : decode cX4_endsAt 40 = .ok (.getfield 126, 3) := by decide +kernel
theorem dX4_endsAt_43 : decode cX4_endsAt 43 = .ok (.invokevirtual 195, 3) := by decide +kernel
theorem dX4_endsAt_46 : decode cX4_endsAt 46 = .ok (.istore_n 3, 1) := by decide +kernel
theorem dX4_endsAt_47 : decode cX4_endsAt 47 = .ok (.iinc 4 1, 3) := by decide +kernel
theorem dX4_endsAt_50 : decode cX4_endsAt 50 = .ok (.goto (-37), 3) := by decide +kernel
theorem dX4_endsAt_53 : decode cX4_endsAt 53 = .ok (.iload_n 3, 1) := by decide +kernel
theorem dX4_endsAt_54 : decode cX4_endsAt 54 = .ok (.ireturn, 1) := by decide +kernel
theorem dX4_crew_0 : decode cX4_crew 0 = .ok (.iload_n 1, 1) := by decide +kernel
theorem dX4_crew_1 : decode cX4_crew 1 = .ok (.iconst 1, 1) := by decide +kernel
theorem dX4_crew_2 : decode cX4_crew 2 = .ok (.bipush 8, 2) := by decide +kernel
theorem dX4_crew_4 : decode cX4_crew 4 = .ok (.invokestatic 88, 3) := by decide +kernel
theorem dX4_crew_7 : decode cX4_crew 7 = .ok (.ifCond .ne 10, 3) := by decide +kernel
theorem dX4_crew_10 : decode cX4_crew 10 = .ok (.aload_n 0, 1) := by decide +kernel
theorem dX4_crew_11 : decode cX4_crew 11 = .ok (.ldc 54, 2) := by decide +kernel
theorem dX4_crew_13 : decode cX4_crew 13 = .ok (.invokevirtual 55, 3) := by decide +kernel
theorem dX4_crew_16 : decode cX4_crew 16 = .ok (.ireturn, 1) := by decide +kernel
theorem dX4_crew_17 : decode cX4_crew 17 = .ok (.aload_n 0, 1) := by decide +kernel
theorem dX4_crew_18 : decode cX4_crew 18 = .ok (.getfield 12, 3) := by decide +kernel
theorem dX4_crew_21 : decode cX4_crew 21 = .ok (.getfield 59, 3) := by decide +kernel
theorem dX4_crew_24 : decode cX4_crew 24 = .ok (.iload_n 1, 1) := by decide +kernel
theorem dX4_crew_25 : decode cX4_crew 25 = .ok (.if_icmp .ge 10, 3) := by decide +kernel
theorem dX4_crew_28 : decode cX4_crew 28 = .ok (.aload_n 0, 1) := by decide +kernel
theorem dX4_crew_29 : decode cX4_crew 29 = .ok (.ldc 166, 2) := by decide +kernel
theorem dX4_crew_31 : decode cX4_crew 31 = .ok (.invokevirtual 55, 3) := by decide +kernel
theorem dX4_crew_34 : decode cX4_crew 34 = .ok (.ireturn, 1) := by decide +kernel
theorem dX4_crew_35 : decode cX4_crew 35 = .ok (.aload_n 0, 1) := by decide +kernel
theorem dX4_crew_36 : decode cX4_crew 36 = .ok (.iload_n 1, 1) := by decide +kernel
theorem dX4_crew_37 : decode cX4_crew 37 = .ok (.invokevirtual 198, 3) := by decide +kernel
theorem dX4_crew_40 : decode cX4_crew 40 = .ok (.ireturn, 1) := by decide +kernel
theorem dX4_mean_0 : decode cX4_mean 0 = .ok (.iload_n 1, 1) := by decide +kernel
theorem dX4_mean_1 : decode cX4_mean 1 = .ok (.iconst 1, 1) := by decide +kernel
theorem dX4_mean_2 : decode cX4_mean 2 = .ok (.bipush 8, 2) := by decide +kernel
theorem dX4_mean_4 : decode cX4_mean 4 = .ok (.invokestatic 88, 3) := by decide +kernel
theorem dX4_mean_7 : decode cX4_mean 7 = .ok (.ifCond .ne 10, 3) := by decide +kernel
theorem dX4_mean_10 : decode cX4_mean 10 = .ok (.aload_n 0, 1) := by decide +kernel
theorem dX4_mean_11 : decode cX4_mean 11 = .ok (.ldc 54, 2) := by decide +kernel
theorem dX4_mean_13 : decode cX4_mean 13 = .ok (.invokevirtual 55, 3) := by decide +kernel
theorem dX4_mean_16 : decode cX4_mean 16 = .ok (.ireturn, 1) := by decide +kernel
theorem dX4_mean_17 : decode cX4_mean 17 = .ok (.aload_n 0, 1) := by decide +kernel
theorem dX4_mean_18 : decode cX4_mean 18 = .ok (.getfield 12, 3) := by decide +kernel
theorem dX4_mean_21 : decode cX4_mean 21 = .ok (.getfield 59, 3) := by decide +kernel
theorem dX4_mean_24 : decode cX4_mean 24 = .ok (.iload_n 1, 1) := by decide +kernel
theorem dX4_mean_25 : decode cX4_mean 25 = .ok (.if_icmp .ge 10, 3) := by decide +kernel
theorem dX4_mean_28 : decode cX4_mean 28 = .ok (.aload_n 0, 1) := by decide +kernel
theorem dX4_mean_29 : decode cX4_mean 29 = .ok (.ldc 166, 2) := by decide +kernel
theorem dX4_mean_31 : decode cX4_mean 31 = .ok (.invokevirtual 55, 3) := by decide +kernel
theorem dX4_mean_34 : decode cX4_mean 34 = .ok (.ireturn, 1) := by decide +kernel
theorem dX4_mean_35 : decode cX4_mean 35 = .ok (.aload_n 0, 1) := by decide +kernel
theorem dX4_mean_36 : decode cX4_mean 36 = .ok (.getfield 12, 3) := by decide +kernel
theorem dX4_mean_39 : decode cX4_mean 39 = .ok (.aload_n 0, 1) := by decide +kernel
theorem dX4_mean_40 : decode cX4_mean 40 = .ok (.iload_n 1, 1) := by decide +kernel
theorem dX4_mean_41 : decode cX4_mean 41 = .ok (.invokevirtual 198, 3) := by decide +kernel
theorem dX4_mean_44 : decode cX4_mean 44 = .ok (.iconst 0, 1) := by decide +kernel
theorem dX4_mean_45 : decode cX4_mean 45 = .ok (.invokevirtual 104, 3) := by decide +kernel
theorem dX4_mean_48 : decode cX4_mean 48 = .ok (.ireturn, 1) := by decide +kernel
theorem dX4_bestCrew_0 : decode cX4_bestCrew 0 = .ok (.iconst 0, 1) := by decide +kernel
theorem dX4_bestCrew_1 : decode cX4_bestCrew 1 = .ok (.istore_n 2, 1) := by decide +kernel
theorem dX4_bestCrew_2 : decode cX4_bestCrew 2 = .ok (.iconst (-1), 1) := by decide +kernel
theorem dX4_bestCrew_3 : decode cX4_bestCrew 3 = .ok (.istore_n 3, 1) := by decide +kernel
theorem dX4_bestCrew_4 : decode cX4_bestCrew 4 = .ok (.iconst 1, 1) := by decide +kernel
theorem dX4_bestCrew_5 : decode cX4_bestCrew 5 = .ok (.istore 4, 2) := by decide +kernel
theorem dX4_bestCrew_7 : decode cX4_bestCrew 7 = .ok (.iload 4, 2) := by decide +kernel
theorem dX4_bestCrew_9 : decode cX4_bestCrew 9 = .ok (.iconst 1, 1) := by decide +kernel
theorem dX4_bestCrew_10 : decode cX4_bestCrew 10 = .ok (.aload_n 0, 1) := by decide +kernel
theorem dX4_bestCrew_11 : decode cX4_bestCrew 11 = .ok (.getfield 12, 3) := by decide +kernel
theorem dX4_bestCrew_14 : decode cX4_bestCrew 14 = .ok (.getfield 59, 3) := by decide +kernel
theorem dX4_bestCrew_17 : decode cX4_bestCrew 17 = .ok (.ishl, 1) := by decide +kernel
theorem dX4_bestCrew_18 : decode cX4_bestCrew 18 = .ok (.if_icmp .ge 49, 3) := by decide +kernel
theorem dX4_bestCrew_21 : decode cX4_bestCrew 21 = .ok (.iload 4, 2) := by decide +kernel
theorem dX4_bestCrew_23 : decode cX4_bestCrew 23 = .ok (.invokestatic 148, 3) := by decide +kernel
theorem dX4_bestCrew_26 : decode cX4_bestCrew 26 = .ok (.iload_n 1, 1) := by decide +kernel
theorem dX4_bestCrew_27 : decode cX4_bestCrew 27 = .ok (.if_icmp .ne 34, 3) := by decide +kernel
theorem dX4_bestCrew_30 : decode cX4_bestCrew 30 = .ok (.aload_n 0, 1) := by decide +kernel
theorem dX4_bestCrew_31 : decode cX4_bestCrew 31 = .ok (.getfield 12, 3) := by decide +kernel
theorem dX4_bestCrew_34 : decode cX4_bestCrew 34 = .ok (.iload 4, 2) := by decide +kernel
theorem dX4_bestCrew_36 : decode cX4_bestCrew 36 = .ok (.iconst 0, 1) := by decide +kernel
theorem dX4_bestCrew_37 : decode cX4_bestCrew 37 = .ok (.invokevirtual 104, 3) := by decide +kernel
theorem dX4_bestCrew_40 : decode cX4_bestCrew 40 = .ok (.invokestatic 201, 3) := by decide +kernel
theorem dX4_bestCrew_43 : decode cX4_bestCrew 43 = .ok (.istore 5, 2) := by decide +kernel
theorem dX4_bestCrew_45 : decode cX4_bestCrew 45 = .ok (.iload_n 3, 1) := by decide +kernel
theorem dX4_bestCrew_46 : decode cX4_bestCrew 46 = .ok (.ifCond .lt 9, 3) := by decide +kernel
theorem dX4_bestCrew_49 : decode cX4_bestCrew 49 = .ok (.iload 5, 2) := by decide +kernel
theorem dX4_bestCrew_51 : decode cX4_bestCrew 51 = .ok (.iload_n 3, 1) := by decide +kernel
theorem dX4_bestCrew_52 : decode cX4_bestCrew 52 = .ok (.if_icmp .ge 9, 3) := by decide +kernel
theorem dX4_bestCrew_55 : decode cX4_bestCrew 55 = .ok (.iload 5, 2) := by decide +kernel
theorem dX4_bestCrew_57 : decode cX4_bestCrew 57 = .ok (.istore_n 3, 1) := by decide +kernel
theorem dX4_bestCrew_58 : decode cX4_bestCrew 58 = .ok (.iload 4, 2) := by decide +kernel
theorem dX4_bestCrew_60 : decode cX4_bestCrew 60 = .ok (.istore_n 2, 1) := by decide +kernel
theorem dX4_bestCrew_61 : decode cX4_bestCrew 61 = .ok (.iinc 4 1, 3) := by decide +kernel
theorem dX4_bestCrew_64 : decode cX4_bestCrew 64 = .ok (.goto (-57), 3) := by decide +kernel
theorem dX4_bestCrew_67 : decode cX4_bestCrew 67 = .ok (.iload_n 2, 1) := by decide +kernel
theorem dX4_bestCrew_68 : decode cX4_bestCrew 68 = .ok (.ireturn, 1) := by decide +kernel
theorem dX4_better_0 : decode cX4_better 0 = .ok (.iload_n 1, 1) := by decide +kernel
theorem dX4_better_1 : decode cX4_better 1 = .ok (.invokestatic 92, 3) := by decide +kernel
theorem dX4_better_4 : decode cX4_better 4 = .ok (.ifCond .ne 10, 3) := by decide +kernel
theorem dX4_better_7 : decode cX4_better 7 = .ok (.aload_n 0, 1) := by decide +kernel
theorem dX4_better_8 : decode cX4_better 8 = .ok (.ldc 54, 2) := by decide +kernel
theorem dX4_better_10 : decode cX4_better 10 = .ok (.invokevirtual 55, 3) := by decide +kernel
theorem dX4_better_13 : decode cX4_better 13 = .ok (.ireturn, 1) := by decide +kernel
theorem dX4_better_14 : decode cX4_better 14 = .ok (.aload_n 0, 1) := by decide +kernel
theorem dX4_better_15 : decode cX4_better 15 = .ok (.getfield 12, 3) := by decide +kernel
theorem dX4_better_18 : decode cX4_better 18 = .ok (.getfield 59, 3) := by decide +kernel
theorem dX4_better_21 : decode cX4_better 21 = .ok (.ifCond .ne 10, 3) := by decide +kernel
theorem dX4_better_24 : decode cX4_better 24 = .ok (.aload_n 0, 1) := by decide +kernel
theorem dX4_better_25 : decode cX4_better 25 = .ok (.ldc 166, 2) := by decide +kernel
theorem dX4_better_27 : decode cX4_better 27 = .ok (.invokevirtual 55, 3) := by decide +kernel
theorem dX4_better_30 : decode cX4_better 30 = .ok (.ireturn, 1) := by decide +kernel
theorem dX4_better_31 : decode cX4_better 31 = .ok (.iconst 0, 1) := by decide +kernel
theorem dX4_better_32 : decode cX4_better 32 = .ok (.istore_n 2, 1) := by decide +kernel
theorem dX4_better_33 : decode cX4_better 33 = .ok (.iconst (-1), 1) := by decide +kernel
theorem dX4_better_34 : decode cX4_better 34 = .ok (.istore_n 3, 1) := by decide +kernel
theorem dX4_better_35 : decode cX4_better 35 = .ok (.iconst 0, 1) := by decide +kernel
theorem dX4_better_36 : decode cX4_better 36 = .ok (.istore 4, 2) := by decide +kernel
theorem dX4_better_38 : decode cX4_better 38 = .ok (.iload 4, 2) := by decide +kernel
theorem dX4_better_40 : decode cX4_better 40 = .ok (.aload_n 0, 1) := by decide +kernel
theorem dX4_better_41 : decode cX4_better 41 = .ok (.getfield 12, 3) := by decide +kernel
theorem dX4_better_44 : decode cX4_better 44 = .ok (.getfield 59, 3) := by decide +kernel
theorem dX4_better_47 : decode cX4_better 47 = .ok (.if_icmp .ge 52, 3) := by decide +kernel
theorem dX4_better_50 : decode cX4_better 50 = .ok (.aload_n 0, 1) := by decide +kernel
theorem dX4_better_51 : decode cX4_better 51 = .ok (.getfield 12, 3) := by decide +kernel
theorem dX4_better_54 : decode cX4_better 54 = .ok (.aload_n 0, 1) := by decide +kernel
theorem dX4_better_55 : decode cX4_better 55 = .ok (.getfield 12, 3) := by decide +kernel
theorem dX4_better_58 : decode cX4_better 58 = .ok (.getfield 101, 3) := by decide +kernel
theorem dX4_better_61 : decode cX4_better 61 = .ok (.iload_n 1, 1) := by decide +kernel
theorem dX4_better_62 : decode cX4_better 62 = .ok (.iaload, 1) := by decide +kernel
theorem dX4_better_63 : decode cX4_better 63 = .ok (.iconst 1, 1) := by decide +kernel
theorem dX4_better_64 : decode cX4_better 64 = .ok (.iload 4, 2) := by decide +kernel
theorem dX4_better_66 : decode cX4_better 66 = .ok (.ishl, 1) := by decide +kernel
theorem dX4_better_67 : decode cX4_better 67 = .ok (.ixor, 1) := by decide +kernel
theorem dX4_better_68 : decode cX4_better 68 = .ok (.iconst 0, 1) := by decide +kernel
theorem dX4_better_69 : decode cX4_better 69 = .ok (.invokevirtual 104, 3) := by decide +kernel
theorem dX4_better_72 : decode cX4_better 72 = .ok (.invokestatic 201, 3) := by decide +kernel
theorem dX4_better_75 : decode cX4_better 75 = .ok (.istore 5, 2) := by decide +kernel
theorem dX4_better_77 : decode cX4_better 77 = .ok (.iload_n 3, 1) := by decide +kernel
theorem dX4_better_78 : decode cX4_better 78 = .ok (.ifCond .lt 9, 3) := by decide +kernel
theorem dX4_better_81 : decode cX4_better 81 = .ok (.iload 5, 2) := by decide +kernel
theorem dX4_better_83 : decode cX4_better 83 = .ok (.iload_n 3, 1) := by decide +kernel
theorem dX4_better_84 : decode cX4_better 84 = .ok (.if_icmp .ge 9, 3) := by decide +kernel
theorem dX4_better_87 : decode cX4_better 87 = .ok (.iload 5, 2) := by decide +kernel
theorem dX4_better_89 : decode cX4_better 89 = .ok (.istore_n 3, 1) := by decide +kernel
theorem dX4_better_90 : decode cX4_better 90 = .ok (.iload 4, 2) := by decide +kernel
theorem dX4_better_92 : decode cX4_better 92 = .ok (.istore_n 2, 1) := by decide +kernel
theorem dX4_better_93 : decode cX4_better 93 = .ok (.iinc 4 1, 3) := by decide +kernel
theorem dX4_better_96 : decode cX4_better 96 = .ok (.goto (-58), 3) := by decide +kernel
theorem dX4_better_99 : decode cX4_better 99 = .ok (.iload_n 2, 1) := by decide +kernel
theorem dX4_better_100 : decode cX4_better 100 = .ok (.ireturn, 1) := by decide +kernel
theorem dX4_spy_0 : decode cX4_spy 0 = .ok (.iload_n 1, 1) := by decide +kernel
theorem dX4_spy_1 : decode cX4_spy 1 = .ok (.invokestatic 92, 3) := by decide +kernel
theorem dX4_spy_4 : decode cX4_spy 4 = .ok (.ifCond .eq 21, 3) := by decide +kernel
theorem dX4_spy_7 : decode cX4_spy 7 = .ok (.aload_n 0, 1) := by decide +kernel
theorem dX4_spy_8 : decode cX4_spy 8 = .ok (.iload_n 2, 1) := by decide +kernel
theorem dX4_spy_9 : decode cX4_spy 9 = .ok (.invokevirtual 68, 3) := by decide +kernel
theorem dX4_spy_12 : decode cX4_spy 12 = .ok (.ifCond .eq 13, 3) := by decide +kernel
theorem dX4_spy_15 : decode cX4_spy 15 = .ok (.iload_n 3, 1) := by decide +kernel
theorem dX4_spy_16 : decode cX4_spy 16 = .ok (.iconst 0, 1) := by decide +kernel
theorem dX4_spy_17 : decode cX4_spy 17 = .ok (.bipush 40, 2) := by decide +kernel
theorem dX4_spy_19 : decode cX4_spy 19 = .ok (.invokestatic 88, 3) := by decide +kernel
theorem dX4_spy_22 : decode cX4_spy 22 = .ok (.ifCond .ne 10, 3) := by decide +kernel
theorem dX4_spy_25 : decode cX4_spy 25 = .ok (.aload_n 0, 1) := by decide +kernel
theorem dX4_spy_26 : decode cX4_spy 26 = .ok (.ldc 54, 2) := by decide +kernel
theorem dX4_spy_28 : decode cX4_spy 28 = .ok (.invokevirtual 55, 3) := by decide +kernel
theorem dX4_spy_31 : decode cX4_spy 31 = .ok (.ireturn, 1) := by decide +kernel
theorem dX4_spy_32 : decode cX4_spy 32 = .ok (.aload_n 0, 1) := by decide +kernel
theorem dX4_spy_33 : decode cX4_spy 33 = .ok (.getfield 12, 3) := by decide +kernel
theorem dX4_spy_36 : decode cX4_spy 36 = .ok (.getfield 101, 3) := by decide +kernel
theorem dX4_spy_39 : decode cX4_spy 39 = .ok (.iload_n 1, 1) := by decide +kernel
theorem dX4_spy_40 : decode cX4_spy 40 = .ok (.iaload, 1) := by decide +kernel
theorem dX4_spy_41 : decode cX4_spy 41 = .ok (.iload_n 2, 1) := by decide +kernel
theorem dX4_spy_42 : decode cX4_spy 42 = .ok (.invokestatic 153, 3) := by decide +kernel
theorem dX4_spy_45 : decode cX4_spy 45 = .ok (.ifCond .ne 10, 3) := by decide +kernel
theorem dX4_spy_48 : decode cX4_spy 48 = .ok (.aload_n 0, 1) := by decide +kernel
theorem dX4_spy_49 : decode cX4_spy 49 = .ok (.ldc 140, 2) := by decide +kernel
theorem dX4_spy_51 : decode cX4_spy 51 = .ok (.invokevirtual 55, 3) := by decide +kernel
theorem dX4_spy_54 : decode cX4_spy 54 = .ok (.ireturn, 1) := by decide +kernel
theorem dX4_spy_55 : decode cX4_spy 55 = .ok (.aload_n 0, 1) := by decide +kernel
theorem dX4_spy_56 : decode cX4_spy 56 = .ok (.getfield 12, 3) := by decide +kernel
theorem dX4_spy_59 : decode cX4_spy 59 = .ok (.getfield 71, 3) := by decide +kernel
theorem dX4_spy_62 : decode cX4_spy 62 = .ok (.iload_n 2, 1) := by decide +kernel
theorem dX4_spy_63 : decode cX4_spy 63 = .ok (.iaload, 1) := by decide +kernel
theorem dX4_spy_64 : decode cX4_spy 64 = .ok (.istore 4, 2) := by decide +kernel
theorem dX4_spy_66 : decode cX4_spy 66 = .ok (.aload_n 0, 1) := by decide +kernel
theorem dX4_spy_67 : decode cX4_spy 67 = .ok (.getfield 12, 3) := by decide +kernel
theorem dX4_spy_70 : decode cX4_spy 70 = .ok (.iload_n 1, 1) := by decide +kernel
theorem dX4_spy_71 : decode cX4_spy 71 = .ok (.iload_n 3, 1) := by decide +kernel
theorem dX4_spy_72 : decode cX4_spy 72 = .ok (.invokevirtual 163, 3) := by decide +kernel
theorem dX4_spy_75 : decode cX4_spy 75 = .ok (.istore 5, 2) := by decide +kernel
theorem dX4_spy_77 : decode cX4_spy 77 = .ok (.iconst 0, 1) := by decide +kernel
theorem dX4_spy_78 : decode cX4_spy 78 = .ok (.istore 6, 2) := by decide +kernel
theorem dX4_spy_80 : decode cX4_spy 80 = .ok (.iconst (-1), 1) := by decide +kernel
theorem dX4_spy_81 : decode cX4_spy 81 = .ok (.istore 7, 2) := by decide +kernel
theorem dX4_spy_83 : decode cX4_spy 83 = .ok (.iconst 0, 1) := by decide +kernel
theorem dX4_spy_84 : decode cX4_spy 84 = .ok (.istore 8, 2) := by decide +kernel
theorem dX4_spy_86 : decode cX4_spy 86 = .ok (.iload 8, 2) := by decide +kernel
theorem dX4_spy_88 : decode cX4_spy 88 = .ok (.bipush 7, 2) := by decide +kernel
theorem dX4_spy_90 : decode cX4_spy 90 = .ok (.if_icmp .ge 51, 3) := by decide +kernel
theorem dX4_spy_93 : decode cX4_spy 93 = .ok (.aload_n 0, 1) := by decide +kernel
theorem dX4_spy_94 : decode cX4_spy 94 = .ok (.getfield 12, 3) := by decide +kernel
theorem dX4_spy_97 : decode cX4_spy 97 = .ok (.getfield 71, 3) := by decide +kernel
theorem dX4_spy_100 : decode cX4_spy 100 = .ok (.iload_n 2, 1) := by decide +kernel
theorem dX4_spy_101 : decode cX4_spy 101 = .ok (.iload 8, 2) := by decide +kernel
theorem dX4_spy_103 : decode cX4_spy 103 = .ok (.iastore, 1) := by decide +kernel
theorem dX4_spy_104 : decode cX4_spy 104 = .ok (.iload 5, 2) := by decide +kernel
theorem dX4_spy_106 : decode cX4_spy 106 = .ok (.aload_n 0, 1) := by decide +kernel
theorem dX4_spy_107 : decode cX4_spy 107 = .ok (.getfield 12, 3) := by decide +kernel
theorem dX4_spy_110 : decode cX4_spy 110 = .ok (.iload_n 1, 1) := by decide +kernel
theorem dX4_spy_111 : decode cX4_spy 111 = .ok (.iload_n 3, 1) := by decide +kernel
theorem dX4_spy_112 : decode cX4_spy 112 = .ok (.invokevirtual 163, 3) := by decide +kernel
theorem dX4_spy_115 : decode cX4_spy 115 = .ok (.invokestatic 206, 3) := by decide +kernel
theorem dX4_spy_118 : decode cX4_spy 118 = .ok (.istore 9, 2) := by decide +kernel
theorem dX4_spy_120 : decode cX4_spy 120 = .ok (.iload 9, 2) := by decide +kernel
theorem dX4_spy_122 : decode cX4_spy 122 = .ok (.iload 7, 2) := by decide +kernel
theorem dX4_spy_124 : decode cX4_spy 124 = .ok (.if_icmp .le 11, 3) := by decide +kernel
theorem dX4_spy_127 : decode cX4_spy 127 = .ok (.iload 9, 2) := by decide +kernel
theorem dX4_spy_129 : decode cX4_spy 129 = .ok (.istore 7, 2) := by decide +kernel
theorem dX4_spy_131 : decode cX4_spy 131 = .ok (.iload 8, 2) := by decide +kernel
theorem dX4_spy_133 : decode cX4_spy 133 = .ok (.istore 6, 2) := by decide +kernel
theorem dX4_spy_135 : decode cX4_spy 135 = .ok (.iinc 8 1, 3) := by decide +kernel
theorem dX4_spy_138 : decode cX4_spy 138 = .ok (.goto (-52), 3) := by decide +kernel
theorem dX4_spy_141 : decode cX4_spy 141 = .ok (.aload_n 0, 1) := by decide +kernel
theorem dX4_spy_142 : decode cX4_spy 142 = .ok (.getfield 12, 3) := by decide +kernel
theorem dX4_spy_145 : decode cX4_spy 145 = .ok (.getfield 71, 3) := by decide +kernel
theorem dX4_spy_148 : decode cX4_spy 148 = .ok (.iload_n 2, 1) := by decide +kernel
theorem dX4_spy_149 : decode cX4_spy 149 = .ok (.iload 4, 2) := by decide +kernel
theorem dX4_spy_151 : decode cX4_spy 151 = .ok (.iastore, 1) := by decide +kernel
theorem dX4_spy_152 : decode cX4_spy 152 = .ok (.iload 6, 2) := by decide +kernel
theorem dX4_spy_154 : decode cX4_spy 154 = .ok (.ireturn, 1) := by decide +kernel
theorem dX4_uses_0 : decode cX4_uses 0 = .ok (.iload_n 1, 1) := by decide +kernel
theorem dX4_uses_1 : decode cX4_uses 1 = .ok (.iconst 0, 1) := by decide +kernel
theorem dX4_uses_2 : decode cX4_uses 2 = .ok (.sipush 200, 3) := by decide +kernel
theorem dX4_uses_5 : decode cX4_uses 5 = .ok (.invokestatic 88, 3) := by decide +kernel
theorem dX4_uses_8 : decode cX4_uses 8 = .ok (.ifCond .eq 13, 3) := by decide +kernel
theorem dX4_uses_11 : decode cX4_uses 11 = .ok (.iload_n 2, 1) := by decide +kernel
theorem dX4_uses_12 : decode cX4_uses 12 = .ok (.iconst 1, 1) := by decide +kernel
theorem dX4_uses_13 : decode cX4_uses 13 = .ok (.bipush 99, 2) := by decide +kernel
theorem dX4_uses_15 : decode cX4_uses 15 = .ok (.invokestatic 88, 3) := by decide +kernel
theorem dX4_uses_18 : decode cX4_uses 18 = .ok (.ifCond .ne 10, 3) := by decide +kernel
theorem dX4_uses_21 : decode cX4_uses 21 = .ok (.aload_n 0, 1) := by decide +kernel
theorem dX4_uses_22 : decode cX4_uses 22 = .ok (.ldc 54, 2) := by decide +kernel
theorem dX4_uses_24 : decode cX4_uses 24 = .ok (.invokevirtual 55, 3) := by decide +kernel
theorem dX4_uses_27 : decode cX4_uses 27 = .ok (.ireturn, 1) := by decide +kernel
theorem dX4_uses_28 : decode cX4_uses 28 = .ok (.aload_n 0, 1) := by decide +kernel
theorem dX4_uses_29 : decode cX4_uses 29 = .ok (.getfield 12, 3) := by decide +kernel
theorem dX4_uses_32 : decode cX4_uses 32 = .ok (.iload_n 1, 1) := by decide +kernel
theorem dX4_uses_33 : decode cX4_uses 33 = .ok (.iload_n 2, 1) := by decide +kernel
theorem dX4_uses_34 : decode cX4_uses 34 = .ok (.invokevirtual 209, 3) := by decide +kernel
theorem dX4_uses_37 : decode cX4_uses 37 = .ok (.ireturn, 1) := by decide +kernel
theorem dX4_hunger_0 : decode cX4_hunger 0 = .ok (.iload_n 1, 1) := by decide +kernel
theorem dX4_hunger_1 : decode cX4_hunger 1 = .ok (.iconst 0, 1) := by decide +kernel
theorem dX4_hunger_2 : decode cX4_hunger 2 = .ok (.sipush 200, 3) := by decide +kernel
theorem dX4_hunger_5 : decode cX4_hunger 5 = .ok (.invokestatic 88, 3) := by decide +kernel
theorem dX4_hunger_8 : decode cX4_hunger 8 = .ok (.ifCond .ne 10, 3) := by decide +kernel
theorem dX4_hunger_11 : decode cX4_hunger 11 = .ok (.aload_n 0, 1) := by decide +kernel
theorem dX4_hunger_12 : decode cX4_hunger 12 = .ok (.ldc 54, 2) := by decide +kernel
theorem dX4_hunger_14 : decode cX4_hunger 14 = .ok (.invokevirtual 55, 3) := by decide +kernel
theorem dX4_hunger_17 : decode cX4_hunger 17 = .ok (.ireturn, 1) := by decide +kernel
theorem dX4_hunger_18 : decode cX4_hunger 18 = .ok (.iconst 1, 1) := by decide +kernel
theorem dX4_hunger_19 : decode cX4_hunger 19 = .ok (.istore_n 2, 1) := by decide +kernel
theorem dX4_hunger_20 : decode cX4_hunger 20 = .ok (.iload_n 2, 1) := by decide +kernel
theorem dX4_hunger_21 : decode cX4_hunger 21 = .ok (.bipush 99, 2) := by decide +kernel
theorem dX4_hunger_23 : decode cX4_hunger 23 = .ok (.if_icmp .gt 30, 3) := by decide +kernel
theorem dX4_hunger_26 : decode cX4_hunger 26 = .ok (.aload_n 0, 1) := by decide +kernel
theorem dX4_hunger_27 : decode cX4_hunger 27 = .ok (.getfield 12, 3) := by decide +kernel
theorem dX4_hunger_30 : decode cX4_hunger 30 = .ok (.iload_n 1, 1) := by decide +kernel
theorem dX4_hunger_31 : decode cX4_hunger 31 = .ok (.iload_n 2, 1) := by decide +kernel
theorem dX4_hunger_32 : decode cX4_hunger 32 = .ok (.invokevirtual 209, 3) := by decide +kernel
theorem dX4_hunger_35 : decode cX4_hunger 35 = .ok (.aload_n 0, 1) := by decide +kernel
theorem dX4_hunger_36 : decode cX4_hunger 36 = .ok (.getfield 12, 3) := by decide +kernel
theorem dX4_hunger_39 : decode cX4_hunger 39 = .ok (.getfield 133, 3) := by decide +kernel
theorem dX4_hunger_42 : decode cX4_hunger 42 = .ok (.if_icmp .gt 5, 3) := by decide +kernel
theorem dX4_hunger_45 : decode cX4_hunger 45 = .ok (.iload_n 2, 1) := by decide +kernel
theorem dX4_hunger_46 : decode cX4_hunger 46 = .ok (.ireturn, 1) := by decide +kernel
theorem dX4_hunger_47 : decode cX4_hunger 47 = .ok (.iinc 2 1, 3) := by decide +kernel
theorem dX4_hunger_50 : decode cX4_hunger 50 = .ok (.goto (-30), 3) := by decide +kernel
theorem dX4_hunger_53 : decode cX4_hunger 53 = .ok (.aload_n 0, 1) := by decide +kernel
theorem dX4_hunger_54 : decode cX4_hunger 54 = .ok (.ldc 166, 2) := by decide +kernel
theorem dX4_hunger_56 : decode cX4_hunger 56 = .ok (.invokevirtual 55, 3) := by decide +kernel
theorem dX4_hunger_59 : decode cX4_hunger 59 = .ok (.ireturn, 1) := by decide +kernel
theorem dX4_kinds_0 : decode cX4_kinds 0 = .ok (.aload_n 0, 1) := by decide +kernel
theorem dX4_kinds_1 : decode cX4_kinds 1 = .ok (.iload_n 1, 1) := by decide +kernel
theorem dX4_kinds_2 : decode cX4_kinds 2 = .ok (.aload_n 0, 1) := by decide +kernel
theorem dX4_kinds_3 : decode cX4_kinds 3 = .ok (.iload_n 2, 1) := by decide +kernel
theorem dX4_kinds_4 : decode cX4_kinds 4 = .ok (.invokevirtual 68, 3) := by decide +kernel
theorem dX4_kinds_7 : decode cX4_kinds 7 = .ok (.invokevirtual 212, 3) := by decide +kernel
theorem dX4_kinds_10 : decode cX4_kinds 10 = .ok (.istore_n 3, 1) := by decide +kernel
theorem dX4_kinds_11 : decode cX4_kinds 11 = .ok (.iload_n 3, 1) := by decide +kernel
theorem dX4_kinds_12 : decode cX4_kinds 12 = .ok (.ifCond .eq 5, 3) := by decide +kernel
theorem dX4_kinds_15 : decode cX4_kinds 15 = .ok (.iload_n 3, 1) := by decide +kernel
theorem dX4_kinds_16 : decode cX4_kinds 16 = .ok (.ireturn, 1) := by decide +kernel
theorem dX4_kinds_17 : decode cX4_kinds 17 = .ok (.iconst 0, 1) := by decide +kernel
theorem dX4_kinds_18 : decode cX4_kinds 18 = .ok (.istore 4, 2) := by decide +kernel
theorem dX4_kinds_20 : decode cX4_kinds 20 = .ok (.iconst 0, 1) := by decide +kernel
theorem dX4_kinds_21 : decode cX4_kinds 21 = .ok (.istore 5, 2) := by decide +kernel
theorem dX4_kinds_23 : decode cX4_kinds 23 = .ok (.iload 5, 2) := by decide +kernel
theorem dX4_kinds_25 : decode cX4_kinds 25 = .ok (.bipush 7, 2) := by decide +kernel
theorem dX4_kinds_27 : decode cX4_kinds 27 = .ok (.if_icmp .ge 43, 3) := by decide +kernel
theorem dX4_kinds_30 : decode cX4_kinds 30 = .ok (.aload_n 0, 1) := by decide +kernel
theorem dX4_kinds_31 : decode cX4_kinds 31 = .ok (.aload_n 0, 1) := by decide +kernel
theorem dX4_kinds_32 : decode cX4_kinds 32 = .ok (.getfield 35, 3) := by decide +kernel
theorem dX4_kinds_35 : decode cX4_kinds 35 = .ok (.iload_n 1, 1) := by decide +kernel
theorem dX4_kinds_36 : decode cX4_kinds 36 = .ok (.aaload, 1) := by decide +kernel
theorem dX4_kinds_37 : decode cX4_kinds 37 = .ok (.iload_n 2, 1) := by decide +kernel
theorem dX4_kinds_38 : decode cX4_kinds 38 = .ok (.iload 5, 2) := by decide +kernel
theorem dX4_kinds_40 : decode cX4_kinds 40 = .ok (.aload_n 0, 1) := by decide +kernel
theorem dX4_kinds_41 : decode cX4_kinds 41 = .ok (.getfield 12, 3) := by decide +kernel
theorem dX4_kinds_44 : decode cX4_kinds 44 = .ok (.getfield 77, 3) := by decide +kernel
theorem dX4_kinds_47 : decode cX4_kinds 47 = .ok (.iload_n 2, 1) := by decide +kernel
theorem dX4_kinds_48 : decode cX4_kinds 48 = .ok (.iaload, 1) := by decide +kernel
theorem dX4_kinds_49 : decode cX4_kinds 49 = .ok (.invokevirtual 216, 3) := by decide +kernel
theorem dX4_kinds_52 : decode cX4_kinds 52 = .ok (.ifCond .eq 12, 3) := by decide +kernel
theorem dX4_kinds_55 : decode cX4_kinds 55 = .ok (.iload 4, 2) := by decide +kernel
theorem dX4_kinds_57 : decode cX4_kinds 57 = .ok (.iconst 1, 1) := by decide +kernel
theorem dX4_kinds_58 : decode cX4_kinds 58 = .ok (.iload 5, 2) := by decide +kernel
theorem dX4_kinds_60 : decode cX4_kinds 60 = .ok (.ishl, 1) := by decide +kernel
theorem dX4_kinds_61 : decode cX4_kinds 61 = .ok (.ior, 1) := by decide +kernel
theorem dX4_kinds_62 : decode cX4_kinds 62 = .ok (.istore 4, 2) := by decide +kernel
theorem dX4_kinds_64 : decode cX4_kinds 64 = .ok (.iinc 5 1, 3) := by decide +kernel
theorem dX4_kinds_67 : decode cX4_kinds 67 = .ok (.goto (-44), 3) := by decide +kernel
theorem dX4_kinds_70 : decode cX4_kinds 70 = .ok (.iload 4, 2) := by decide +kernel
theorem dX4_kinds_72 : decode cX4_kinds 72 = .ok (.ireturn, 1) := by decide +kernel
theorem dX4_habits_0 : decode cX4_habits 0 = .ok (.aload_n 0, 1) := by decide +kernel
theorem dX4_habits_1 : decode cX4_habits 1 = .ok (.iload_n 1, 1) := by decide +kernel
theorem dX4_habits_2 : decode cX4_habits 2 = .ok (.aload_n 0, 1) := by decide +kernel
theorem dX4_habits_3 : decode cX4_habits 3 = .ok (.iload_n 2, 1) := by decide +kernel
theorem dX4_habits_4 : decode cX4_habits 4 = .ok (.invokevirtual 68, 3) := by decide +kernel
theorem dX4_habits_7 : decode cX4_habits 7 = .ok (.invokevirtual 212, 3) := by decide +kernel
theorem dX4_habits_10 : decode cX4_habits 10 = .ok (.istore_n 3, 1) := by decide +kernel
theorem dX4_habits_11 : decode cX4_habits 11 = .ok (.iload_n 3, 1) := by decide +kernel
theorem dX4_habits_12 : decode cX4_habits 12 = .ok (.ifCond .eq 5, 3) := by decide +kernel
theorem dX4_habits_15 : decode cX4_habits 15 = .ok (.iload_n 3, 1) := by decide +kernel
theorem dX4_habits_16 : decode cX4_habits 16 = .ok (.ireturn, 1) := by decide +kernel
theorem dX4_habits_17 : decode cX4_habits 17 = .ok (.iconst 0, 1) := by decide +kernel
theorem dX4_habits_18 : decode cX4_habits 18 = .ok (.istore 4, 2) := by decide +kernel
theorem dX4_habits_20 : decode cX4_habits 20 = .ok (.bipush (-15), 2) := by decide +kernel
theorem dX4_habits_22 : decode cX4_habits 22 = .ok (.istore 5, 2) := by decide +kernel
theorem dX4_habits_24 : decode cX4_habits 24 = .ok (.iload 5, 2) := by decide +kernel
theorem dX4_habits_26 : decode cX4_habits 26 = .ok (.bipush 15, 2) := by decide +kernel
theorem dX4_habits_28 : decode cX4_habits 28 = .ok (.if_icmp .gt 37, 3) := by decide +kernel
theorem dX4_habits_31 : decode cX4_habits 31 = .ok (.aload_n 0, 1) := by decide +kernel
theorem dX4_habits_32 : decode cX4_habits 32 = .ok (.aload_n 0, 1) := by decide +kernel
theorem dX4_habits_33 : decode cX4_habits 33 = .ok (.getfield 35, 3) := by decide +kernel
theorem dX4_habits_36 : decode cX4_habits 36 = .ok (.iload_n 1, 1) := by decide +kernel
theorem dX4_habits_37 : decode cX4_habits 37 = .ok (.aaload, 1) := by decide +kernel
theorem dX4_habits_38 : decode cX4_habits 38 = .ok (.iload_n 2, 1) := by decide +kernel
theorem dX4_habits_39 : decode cX4_habits 39 = .ok (.aload_n 0, 1) := by decide +kernel
theorem dX4_habits_40 : decode cX4_habits 40 = .ok (.getfield 12, 3) := by decide +kernel
theorem dX4_habits_43 : decode cX4_habits 43 = .ok (.getfield 71, 3) := by decide +kernel
theorem dX4_habits_46 : decode cX4_habits 46 = .ok (.iload_n 2, 1) := by decide +kernel
theorem dX4_habits_47 : decode cX4_habits 47 = .ok (.iaload, 1) := by decide +kernel
theorem dX4_habits_48 : decode cX4_habits 48 = .ok (.iload 5, 2) := by decide +kernel
theorem dX4_habits_50 : decode cX4_habits 50 = .ok (.invokevirtual 216, 3) := by decide +kernel
theorem dX4_habits_53 : decode cX4_habits 53 = .ok (.ifCond .eq 6, 3) := by decide +kernel
theorem dX4_habits_56 : decode cX4_habits 56 = .ok (.iinc 4 1, 3) := by decide +kernel
theorem dX4_habits_59 : decode cX4_habits 59 = .ok (.iinc 5 1, 3) := by decide +kernel
theorem dX4_habits_62 : decode cX4_habits 62 = .ok (.goto (-38), 3) := by decide +kernel
theorem dX4_habits_65 : decode cX4_habits 65 = .ok (.iload 4, 2) := by decide +kernel
theorem dX4_habits_67 : decode cX4_habits 67 = .ok (.ireturn, 1) := by decide +kernel
theorem dX4_begun_0 : decode cX4_begun 0 = .ok (.aload_n 0, 1) := by decide +kernel
theorem dX4_begun_1 : decode cX4_begun 1 = .ok (.iload_n 1, 1) := by decide +kernel
theorem dX4_begun_2 : decode cX4_begun 2 = .ok (.iload_n 2, 1) := by decide +kernel
theorem dX4_begun_3 : decode cX4_begun 3 = .ok (.invokestatic 92, 3) := by decide +kernel
theorem dX4_begun_6 : decode cX4_begun 6 = .ok (.invokevirtual 212, 3) := by decide +kernel
theorem dX4_begun_9 : decode cX4_begun 9 = .ok (.istore_n 3, 1) := by decide +kernel
theorem dX4_begun_10 : decode cX4_begun 10 = .ok (.iload_n 3, 1) := by decide +kernel
theorem dX4_begun_11 : decode cX4_begun 11 = .ok (.ifCond .eq 5, 3) := by decide +kernel
theorem dX4_begun_14 : decode cX4_begun 14 = .ok (.iload_n 3, 1) := by decide +kernel
theorem dX4_begun_15 : decode cX4_begun 15 = .ok (.ireturn, 1) := by decide +kernel
theorem dX4_begun_16 : decode cX4_begun 16 = .ok (.aload_n 0, 1) := by decide +kernel
theorem dX4_begun_17 : decode cX4_begun 17 = .ok (.iload_n 2, 1) := by decide +kernel
theorem dX4_begun_18 : decode cX4_begun 18 = .ok (.aload_n 0, 1) := by decide +kernel
theorem dX4_begun_19 : decode cX4_begun 19 = .ok (.getfield 35, 3) := by decide +kernel
theorem dX4_begun_22 : decode cX4_begun 22 = .ok (.iload_n 1, 1) := by decide +kernel
theorem dX4_begun_23 : decode cX4_begun 23 = .ok (.aaload, 1) := by decide +kernel
theorem dX4_begun_24 : decode cX4_begun 24 = .ok (.getfield 220, 3) := by decide +kernel
theorem dX4_begun_27 : decode cX4_begun 27 = .ok (.invokevirtual 182, 3) := by decide +kernel
theorem dX4_begun_30 : decode cX4_begun 30 = .ok (.iconst 0, 1) := by decide +kernel
theorem dX4_begun_31 : decode cX4_begun 31 = .ok (.istore 4, 2) := by decide +kernel
theorem dX4_begun_33 : decode cX4_begun 33 = .ok (.iconst 0, 1) := by decide +kernel
theorem dX4_begun_34 : decode cX4_begun 34 = .ok (.istore 5, 2) := by decide +kernel
theorem dX4_begun_36 : decode cX4_begun 36 = .ok (.iload 5, 2) := by decide +kernel
theorem dX4_begun_38 : decode cX4_begun 38 = .ok (.bipush 100, 2) := by decide +kernel
theorem dX4_begun_40 : decode cX4_begun 40 = .ok (.if_icmp .ge 28, 3) := by decide +kernel
theorem dX4_begun_43 : decode cX4_begun 43 = .ok (.aload_n 0, 1) := by decide +kernel
theorem dX4_begun_44 : decode cX4_begun 44 = .ok (.aload_n 0, 1) := by decide +kernel
theorem dX4_begun_45 : decode cX4_begun 45 = .ok (.getfield 35, 3) := by decide +kernel
theorem dX4_begun_48 : decode cX4_begun 48 = .ok (.iload_n 1, 1) := by decide +kernel
theorem dX4_begun_49 : decode cX4_begun 49 = .ok (.aaload, 1) := by decide +kernel
theorem dX4_begun_50 : decode cX4_begun 50 = .ok (.iload_n 2, 1) := by decide +kernel
theorem dX4_begun_51 : decode cX4_begun 51 = .ok (.iload 5, 2) := by decide +kernel
theorem dX4_begun_53 : decode cX4_begun 53 = .ok (.invokevirtual 223, 3) := by decide +kernel
theorem dX4_begun_56 : decode cX4_begun 56 = .ok (.ifCond .eq 6, 3) := by decide +kernel
theorem dX4_begun_59 : decode cX4_begun 59 = .ok (.iinc 4 1, 3) := by decide +kernel
theorem dX4_begun_62 : decode cX4_begun 62 = .ok (.iinc 5 1, 3) := by decide +kernel
theorem dX4_begun_65 : decode cX4_begun 65 = .ok (.goto (-29), 3) := by decide +kernel
theorem dX4_begun_68 : decode cX4_begun 68 = .ok (.iload 4, 2) := by decide +kernel
theorem dX4_begun_70 : decode cX4_begun 70 = .ok (.ireturn, 1) := by decide +kernel
theorem dX4_from_0 : decode cX4_from 0 = .ok (.aload_n 0, 1) := by decide +kernel
theorem dX4_from_1 : decode cX4_from 1 = .ok (.iload_n 1, 1) := by decide +kernel
theorem dX4_from_2 : decode cX4_from 2 = .ok (.iload_n 2, 1) := by decide +kernel
theorem dX4_from_3 : decode cX4_from 3 = .ok (.invokestatic 92, 3) := by decide +kernel
theorem dX4_from_6 : decode cX4_from 6 = .ok (.invokevirtual 212, 3) := by decide +kernel
theorem dX4_from_9 : decode cX4_from 9 = .ok (.istore_n 3, 1) := by decide +kernel
theorem dX4_from_10 : decode cX4_from 10 = .ok (.iload_n 3, 1) := by decide +kernel
theorem dX4_from_11 : decode cX4_from 11 = .ok (.ifCond .eq 5, 3) := by decide +kernel
theorem dX4_from_14 : decode cX4_from 14 = .ok (.iload_n 3, 1) := by decide +kernel
theorem dX4_from_15 : decode cX4_from 15 = .ok (.ireturn, 1) := by decide +kernel
theorem dX4_from_16 : decode cX4_from 16 = .ok (.aload_n 0, 1) := by decide +kernel
theorem dX4_from_17 : decode cX4_from 17 = .ok (.iload_n 2, 1) := by decide +kernel
theorem dX4_from_18 : decode cX4_from 18 = .ok (.aload_n 0, 1) := by decide +kernel
theorem dX4_from_19 : decode cX4_from 19 = .ok (.getfield 35, 3) := by decide +kernel
theorem dX4_from_22 : decode cX4_from 22 = .ok (.iload_n 1, 1) := by decide +kernel
theorem dX4_from_23 : decode cX4_from 23 = .ok (.aaload, 1) := by decide +kernel
theorem dX4_from_24 : decode cX4_from 24 = .ok (.getfield 220, 3) := by decide +kernel
theorem dX4_from_27 : decode cX4_from 27 = .ok (.invokevirtual 182, 3) := by decide +kernel
theorem dX4_from_30 : decode cX4_from 30 = .ok (.iconst 0, 1) := by decide +kernel
theorem dX4_from_31 : decode cX4_from 31 = .ok (.istore 4, 2) := by decide +kernel
theorem dX4_from_33 : decode cX4_from 33 = .ok (.iload 4, 2) := by decide +kernel
theorem dX4_from_35 : decode cX4_from 35 = .ok (.bipush 100, 2) := by decide +kernel
theorem dX4_from_37 : decode cX4_from 37 = .ok (.if_icmp .ge 28, 3) := by decide +kernel
theorem dX4_from_40 : decode cX4_from 40 = .ok (.aload_n 0, 1) := by decide +kernel
theorem dX4_from_41 : decode cX4_from 41 = .ok (.aload_n 0, 1) := by decide +kernel
theorem dX4_from_42 : decode cX4_from 42 = .ok (.getfield 35, 3) := by decide +kernel
theorem dX4_from_45 : decode cX4_from 45 = .ok (.iload_n 1, 1) := by decide +kernel
theorem dX4_from_46 : decode cX4_from 46 = .ok (.aaload, 1) := by decide +kernel
theorem dX4_from_47 : decode cX4_from 47 = .ok (.iload_n 2, 1) := by decide +kernel
theorem dX4_from_48 : decode cX4_from 48 = .ok (.iload 4, 2) := by decide +kernel
theorem dX4_from_50 : decode cX4_from 50 = .ok (.invokevirtual 223, 3) := by decide +kernel
theorem dX4_from_53 : decode cX4_from 53 = .ok (.ifCond .eq 6, 3) := by decide +kernel
theorem dX4_from_56 : decode cX4_from 56 = .ok (.iload 4, 2) := by decide +kernel
theorem dX4_from_58 : decode cX4_from 58 = .ok (.ireturn, 1) := by decide +kernel
theorem dX4_from_59 : decode cX4_from 59 = .ok (.iinc 4 1, 3) := by decide +kernel
theorem dX4_from_62 : decode cX4_from 62 = .ok (.goto (-29), 3) := by decide +kernel
theorem dX4_from_65 : decode cX4_from 65 = .ok (.aload_n 0, 1) := by decide +kernel
theorem dX4_from_66 : decode cX4_from 66 = .ok (.ldc 166, 2) := by decide +kernel
theorem dX4_from_68 : decode cX4_from 68 = .ok (.invokevirtual 55, 3) := by decide +kernel
theorem dX4_from_71 : decode cX4_from 71 = .ok (.ireturn, 1) := by decide +kernel
theorem dX4_wrongLog_0 : decode cX4_wrongLog 0 = .ok (.aload_n 0, 1) := by decide +kernel
theorem dX4_wrongLog_1 : decode cX4_wrongLog 1 = .ok (.iload_n 1, 1) := by decide +kernel
theorem dX4_wrongLog_2 : decode cX4_wrongLog 2 = .ok (.invokevirtual 227, 3) := by decide +kernel
theorem dX4_wrongLog_5 : decode cX4_wrongLog 5 = .ok (.istore_n 3, 1) := by decide +kernel
theorem dX4_wrongLog_6 : decode cX4_wrongLog 6 = .ok (.iload_n 3, 1) := by decide +kernel
theorem dX4_wrongLog_7 : decode cX4_wrongLog 7 = .ok (.ifCond .eq 5, 3) := by decide +kernel
theorem dX4_wrongLog_10 : decode cX4_wrongLog 10 = .ok (.iload_n 3, 1) := by decide +kernel
theorem dX4_wrongLog_11 : decode cX4_wrongLog 11 = .ok (.ireturn, 1) := by decide +kernel
theorem dX4_wrongLog_12 : decode cX4_wrongLog 12 = .ok (.iload_n 2, 1) := by decide +kernel
theorem dX4_wrongLog_13 : decode cX4_wrongLog 13 = .ok (.ifCond .eq 7, 3) := by decide +kernel
theorem dX4_wrongLog_16 : decode cX4_wrongLog 16 = .ok (.iconst 0, 1) := by decide +kernel
theorem dX4_wrongLog_17 : decode cX4_wrongLog 17 = .ok (.goto 9, 3) := by decide +kernel
theorem dX4_wrongLog_20 : decode cX4_wrongLog 20 = .ok (.aload_n 0, 1) := by decide +kernel
theorem dX4_wrongLog_21 : decode cX4_wrongLog 21 = .ok (.ldc 54, 2) := by decide +kernel
theorem dX4_wrongLog_23 : decode cX4_wrongLog 23 = .ok (.invokevirtual 55, 3) := by decide +kernel
theorem dX4_wrongLog_26 : decode cX4_wrongLog 26 = .ok (.ireturn, 1) := by decide +kernel
theorem dX4_sitsAsTold_0 : decode cX4_sitsAsTold 0 = .ok (.iconst 0, 1) := by decide +kernel
theorem dX4_sitsAsTold_1 : decode cX4_sitsAsTold 1 = .ok (.istore 5, 2) := by decide +kernel
theorem dX4_sitsAsTold_3 : decode cX4_sitsAsTold 3 = .ok (.iload 5, 2) := by decide +kernel
theorem dX4_sitsAsTold_5 : decode cX4_sitsAsTold 5 = .ok (.aload_n 1, 1) := by decide +kernel
theorem dX4_sitsAsTold_6 : decode cX4_sitsAsTold 6 = .ok (.getfield 220, 3) := by decide +kernel
theorem dX4_sitsAsTold_9 : decode cX4_sitsAsTold 9 = .ok (.if_icmp .ge 34, 3) := by decide +kernel
theorem dX4_sitsAsTold_12 : decode cX4_sitsAsTold 12 = .ok (.aload_n 1, 1) := by decide +kernel
theorem dX4_sitsAsTold_13 : decode cX4_sitsAsTold 13 = .ok (.getfield 230, 3) := by decide +kernel
theorem dX4_sitsAsTold_16 : decode cX4_sitsAsTold 16 = .ok (.iload 5, 2) := by decide +kernel
theorem dX4_sitsAsTold_18 : decode cX4_sitsAsTold 18 = .ok (.iaload, 1) := by decide +kernel
theorem dX4_sitsAsTold_19 : decode cX4_sitsAsTold 19 = .ok (.aload_n 0, 1) := by decide +kernel
theorem dX4_sitsAsTold_20 : decode cX4_sitsAsTold 20 = .ok (.getfield 12, 3) := by decide +kernel
theorem dX4_sitsAsTold_23 : decode cX4_sitsAsTold 23 = .ok (.iload_n 2, 1) := by decide +kernel
theorem dX4_sitsAsTold_24 : decode cX4_sitsAsTold 24 = .ok (.iload_n 3, 1) := by decide +kernel
theorem dX4_sitsAsTold_25 : decode cX4_sitsAsTold 25 = .ok (.iload 4, 2) := by decide +kernel
theorem dX4_sitsAsTold_27 : decode cX4_sitsAsTold 27 = .ok (.iload 5, 2) := by decide +kernel
theorem dX4_sitsAsTold_29 : decode cX4_sitsAsTold 29 = .ok (.invokevirtual 233, 3) := by decide +kernel
theorem dX4_sitsAsTold_32 : decode cX4_sitsAsTold 32 = .ok (.if_icmp .eq 5, 3) := by decide +kernel
theorem dX4_sitsAsTold_35 : decode cX4_sitsAsTold 35 = .ok (.iconst 0, 1) := by decide +kernel
theorem dX4_sitsAsTold_36 : decode cX4_sitsAsTold 36 = .ok (.ireturn, 1) := by decide +kernel
theorem dX4_sitsAsTold_37 : decode cX4_sitsAsTold 37 = .ok (.iinc 5 1, 3) := by decide +kernel
theorem dX4_sitsAsTold_40 : decode cX4_sitsAsTold 40 = .ok (.goto (-37), 3) := by decide +kernel
theorem dX4_sitsAsTold_43 : decode cX4_sitsAsTold 43 = .ok (.iconst 1, 1) := by decide +kernel
theorem dX4_sitsAsTold_44 : decode cX4_sitsAsTold 44 = .ok (.ireturn, 1) := by decide +kernel
theorem dX4_goesAsTold_0 : decode cX4_goesAsTold 0 = .ok (.iload_n 3, 1) := by decide +kernel
theorem dX4_goesAsTold_1 : decode cX4_goesAsTold 1 = .ok (.istore 4, 2) := by decide +kernel
theorem dX4_goesAsTold_3 : decode cX4_goesAsTold 3 = .ok (.iconst 0, 1) := by decide +kernel
theorem dX4_goesAsTold_4 : decode cX4_goesAsTold 4 = .ok (.istore 5, 2) := by decide +kernel
theorem dX4_goesAsTold_6 : decode cX4_goesAsTold 6 = .ok (.iload 5, 2) := by decide +kernel
theorem dX4_goesAsTold_8 : decode cX4_goesAsTold 8 = .ok (.aload_n 1, 1) := by decide +kernel
theorem dX4_goesAsTold_9 : decode cX4_goesAsTold 9 = .ok (.getfield 220, 3) := by decide +kernel
theorem dX4_goesAsTold_12 : decode cX4_goesAsTold 12 = .ok (.if_icmp .ge 73, 3) := by decide +kernel
theorem dX4_goesAsTold_15 : decode cX4_goesAsTold 15 = .ok (.aload_n 1, 1) := by decide +kernel
theorem dX4_goesAsTold_16 : decode cX4_goesAsTold 16 = .ok (.getfield 230, 3) := by decide +kernel
theorem dX4_goesAsTold_19 : decode cX4_goesAsTold 19 = .ok (.iload 5, 2) := by decide +kernel
theorem dX4_goesAsTold_21 : decode cX4_goesAsTold 21 = .ok (.iaload, 1) := by decide +kernel
theorem dX4_goesAsTold_22 : decode cX4_goesAsTold 22 = .ok (.istore 6, 2) := by decide +kernel
theorem dX4_goesAsTold_24 : decode cX4_goesAsTold 24 = .ok (.iload 6, 2) := by decide +kernel
theorem dX4_goesAsTold_26 : decode cX4_goesAsTold 26 = .ok (.iconst (-1), 1) := by decide +kernel
theorem dX4_goesAsTold_27 : decode cX4_goesAsTold 27 = .ok (.if_icmp .eq 15, 3) := by decide +kernel
theorem dX4_goesAsTold_30 : decode cX4_goesAsTold 30 = .ok (.iload 6, 2) := by decide +kernel
theorem dX4_goesAsTold_32 : decode cX4_goesAsTold 32 = .ok (.iload 4, 2) := by decide +kernel
theorem dX4_goesAsTold_34 : decode cX4_goesAsTold 34 = .ok (.bipush 10, 2) := by decide +kernel
theorem dX4_goesAsTold_36 : decode cX4_goesAsTold 36 = .ok (.idiv, 1) := by decide +kernel
theorem dX4_goesAsTold_37 : decode cX4_goesAsTold 37 = .ok (.if_icmp .eq 5, 3) := by decide +kernel
theorem dX4_goesAsTold_40 : decode cX4_goesAsTold 40 = .ok (.iconst 0, 1) := by decide +kernel
theorem dX4_goesAsTold_41 : decode cX4_goesAsTold 41 = .ok (.ireturn, 1) := by decide +kernel
theorem dX4_goesAsTold_42 : decode cX4_goesAsTold 42 = .ok (.aload_n 0, 1) := by decide +kernel
theorem dX4_goesAsTold_43 : decode cX4_goesAsTold 43 = .ok (.getfield 12, 3) := by decide +kernel
theorem dX4_goesAsTold_46 : decode cX4_goesAsTold 46 = .ok (.iload 4, 2) := by decide +kernel
theorem dX4_goesAsTold_48 : decode cX4_goesAsTold 48 = .ok (.aload_n 0, 1) := by decide +kernel
theorem dX4_goesAsTold_49 : decode cX4_goesAsTold 49 = .ok (.getfield 12, 3) := by decide +kernel
theorem dX4_goesAsTold_52 : decode cX4_goesAsTold 52 = .ok (.getfield 98, 3) := by decide +kernel
theorem dX4_goesAsTold_55 : decode cX4_goesAsTold 55 = .ok (.iload_n 2, 1) := by decide +kernel
theorem dX4_goesAsTold_56 : decode cX4_goesAsTold 56 = .ok (.iaload, 1) := by decide +kernel
theorem dX4_goesAsTold_57 : decode cX4_goesAsTold 57 = .ok (.aload_n 0, 1) := by decide +kernel
theorem dX4_goesAsTold_58 : decode cX4_goesAsTold 58 = .ok (.getfield 43, 3) := by decide +kernel
theorem dX4_goesAsTold_61 : decode cX4_goesAsTold 61 = .ok (.iload 5, 2) := by decide +kernel
theorem dX4_goesAsTold_63 : decode cX4_goesAsTold 63 = .ok (.iaload, 1) := by decide +kernel
theorem dX4_goesAsTold_64 : decode cX4_goesAsTold 64 = .ok (.invokestatic 107, 3) := by decide +kernel
theorem dX4_goesAsTold_67 : decode cX4_goesAsTold 67 = .ok (.aload_n 0, 1) := by decide +kernel
theorem dX4_goesAsTold_68 : decode cX4_goesAsTold 68 = .ok (.getfield 12, 3) := by decide +kernel
theorem dX4_goesAsTold_71 : decode cX4_goesAsTold 71 = .ok (.getfield 126, 3) := by decide +kernel
theorem dX4_goesAsTold_74 : decode cX4_goesAsTold 74 = .ok (.invokevirtual 195, 3) := by decide +kernel
theorem dX4_goesAsTold_77 : decode cX4_goesAsTold 77 = .ok (.istore 4, 2) := by decide +kernel
theorem dX4_goesAsTold_79 : decode cX4_goesAsTold 79 = .ok (.iinc 5 1, 3) := by decide +kernel
theorem dX4_goesAsTold_82 : decode cX4_goesAsTold 82 = .ok (.goto (-76), 3) := by decide +kernel
theorem dX4_goesAsTold_85 : decode cX4_goesAsTold 85 = .ok (.iconst 1, 1) := by decide +kernel
theorem dX4_goesAsTold_86 : decode cX4_goesAsTold 86 = .ok (.ireturn, 1) := by decide +kernel
theorem dX4_storms_0 : decode cX4_storms 0 = .ok (.iload_n 1, 1) := by decide +kernel
theorem dX4_storms_1 : decode cX4_storms 1 = .ok (.iconst 1, 1) := by decide +kernel
theorem dX4_storms_2 : decode cX4_storms 2 = .ok (.bipush 20, 2) := by decide +kernel
theorem dX4_storms_4 : decode cX4_storms 4 = .ok (.invokestatic 88, 3) := by decide +kernel
theorem dX4_storms_7 : decode cX4_storms 7 = .ok (.ifCond .ne 10, 3) := by decide +kernel
theorem dX4_storms_10 : decode cX4_storms 10 = .ok (.aload_n 0, 1) := by decide +kernel
theorem dX4_storms_11 : decode cX4_storms 11 = .ok (.ldc 54, 2) := by decide +kernel
theorem dX4_storms_13 : decode cX4_storms 13 = .ok (.invokevirtual 55, 3) := by decide +kernel
theorem dX4_storms_16 : decode cX4_storms 16 = .ok (.ireturn, 1) := by decide +kernel
theorem dX4_storms_17 : decode cX4_storms 17 = .ok (.aload_n 0, 1) := by decide +kernel
theorem dX4_storms_18 : decode cX4_storms 18 = .ok (.getfield 12, 3) := by decide +kernel
theorem dX4_storms_21 : decode cX4_storms 21 = .ok (.getfield 136, 3) := by decide +kernel
theorem dX4_storms_24 : decode cX4_storms 24 = .ok (.ldc 139, 2) := by decide +kernel
theorem dX4_storms_26 : decode cX4_storms 26 = .ok (.iload_n 1, 1) := by decide +kernel
theorem dX4_storms_27 : decode cX4_storms 27 = .ok (.isub, 1) := by decide +kernel
theorem dX4_storms_28 : decode cX4_storms 28 = .ok (.if_icmp .le 10, 3) := by decide +kernel
theorem dX4_storms_31 : decode cX4_storms 31 = .ok (.aload_n 0, 1) := by decide +kernel
theorem dX4_storms_32 : decode cX4_storms 32 = .ok (.ldc 140, 2) := by decide +kernel
theorem dX4_storms_34 : decode cX4_storms 34 = .ok (.invokevirtual 55, 3) := by decide +kernel
theorem dX4_storms_37 : decode cX4_storms 37 = .ok (.ireturn, 1) := by decide +kernel
theorem dX4_storms_38 : decode cX4_storms 38 = .ok (.iconst 0, 1) := by decide +kernel
theorem dX4_storms_39 : decode cX4_storms 39 = .ok (.istore_n 2, 1) := by decide +kernel
theorem dX4_storms_40 : decode cX4_storms 40 = .ok (.iload_n 2, 1) := by decide +kernel
theorem dX4_storms_41 : decode cX4_storms 41 = .ok (.iload_n 1, 1) := by decide +kernel
theorem dX4_storms_42 : decode cX4_storms 42 = .ok (.if_icmp .ge 16, 3) := by decide +kernel
theorem dX4_storms_45 : decode cX4_storms 45 = .ok (.aload_n 0, 1) := by decide +kernel
theorem dX4_storms_46 : decode cX4_storms 46 = .ok (.getfield 12, 3) := by decide +kernel
theorem dX4_storms_49 : decode cX4_storms 49 = .ok (.invokevirtual 237, 3) := by decide +kernel
theorem dX4_storms_52 : decode cX4_storms 52 = .ok (.iinc 2 1, 3) := by decide +kernel
theorem dX4_storms_55 : decode cX4_storms 55 = .ok (.goto (-15), 3) := by decide +kernel
theorem dX4_storms_58 : decode cX4_storms 58 = .ok (.aload_n 0, 1) := by decide +kernel
theorem dX4_storms_59 : decode cX4_storms 59 = .ok (.getfield 12, 3) := by decide +kernel
theorem dX4_storms_62 : decode cX4_storms 62 = .ok (.invokevirtual 144, 3) := by decide +kernel
theorem dX4_storms_65 : decode cX4_storms 65 = .ok (.invokestatic 148, 3) := by decide +kernel
theorem dX4_storms_68 : decode cX4_storms 68 = .ok (.ireturn, 1) := by decide +kernel
theorem dX4_odds_0 : decode cX4_odds 0 = .ok (.iload_n 1, 1) := by decide +kernel
theorem dX4_odds_1 : decode cX4_odds 1 = .ok (.invokestatic 92, 3) := by decide +kernel
theorem dX4_odds_4 : decode cX4_odds 4 = .ok (.ifCond .eq 12, 3) := by decide +kernel
theorem dX4_odds_7 : decode cX4_odds 7 = .ok (.iload_n 2, 1) := by decide +kernel
theorem dX4_odds_8 : decode cX4_odds 8 = .ok (.iconst 0, 1) := by decide +kernel
theorem dX4_odds_9 : decode cX4_odds 9 = .ok (.iconst 1, 1) := by decide +kernel
theorem dX4_odds_10 : decode cX4_odds 10 = .ok (.invokestatic 88, 3) := by decide +kernel
theorem dX4_odds_13 : decode cX4_odds 13 = .ok (.ifCond .ne 10, 3) := by decide +kernel
theorem dX4_odds_16 : decode cX4_odds 16 = .ok (.aload_n 0, 1) := by decide +kernel
theorem dX4_odds_17 : decode cX4_odds 17 = .ok (.ldc 54, 2) := by decide +kernel
theorem dX4_odds_19 : decode cX4_odds 19 = .ok (.invokevirtual 55, 3) := by decide +kernel
theorem dX4_odds_22 : decode cX4_odds 22 = .ok (.ireturn, 1) := by decide +kernel
theorem dX4_odds_23 : decode cX4_odds 23 = .ok (.aload_n 0, 1) := by decide +kernel
theorem dX4_odds_24 : decode cX4_odds 24 = .ok (.getfield 12, 3) := by decide +kernel
theorem dX4_odds_27 : decode cX4_odds 27 = .ok (.iload_n 1, 1) := by decide +kernel
theorem dX4_odds_28 : decode cX4_odds 28 = .ok (.invokevirtual 240, 3) := by decide +kernel
theorem dX4_odds_31 : decode cX4_odds 31 = .ok (.istore_n 3, 1) := by decide +kernel
theorem dX4_odds_32 : decode cX4_odds 32 = .ok (.bipush 8, 2) := by decide +kernel
theorem dX4_odds_34 : decode cX4_odds 34 = .ok (.istore 4, 2) := by decide +kernel
theorem dX4_odds_36 : decode cX4_odds 36 = .ok (.iconst 0, 1) := by decide +kernel
theorem dX4_odds_37 : decode cX4_odds 37 = .ok (.istore 5, 2) := by decide +kernel
theorem dX4_odds_39 : decode cX4_odds 39 = .ok (.iload 5, 2) := by decide +kernel
theorem dX4_odds_41 : decode cX4_odds 41 = .ok (.iconst 3, 1) := by decide +kernel
theorem dX4_odds_42 : decode cX4_odds 42 = .ok (.if_icmp .ge 25, 3) := by decide +kernel
theorem dX4_odds_45 : decode cX4_odds 45 = .ok (.iload_n 3, 1) := by decide +kernel
theorem dX4_odds_46 : decode cX4_odds 46 = .ok (.iconst 2, 1) := by decide +kernel
theorem dX4_odds_47 : decode cX4_odds 47 = .ok (.irem, 1) := by decide +kernel
theorem dX4_odds_48 : decode cX4_odds 48 = .ok (.ifCond .ne 19, 3) := by decide +kernel
theorem dX4_odds_51 : decode cX4_odds 51 = .ok (.iload_n 3, 1) := by decide +kernel
theorem dX4_odds_52 : decode cX4_odds 52 = .ok (.iconst 2, 1) := by decide +kernel
theorem dX4_odds_53 : decode cX4_odds 53 = .ok (.idiv, 1) := by decide +kernel
theorem dX4_odds_54 : decode cX4_odds 54 = .ok (.istore_n 3, 1) := by decide +kernel
theorem dX4_odds_55 : decode cX4_odds 55 = .ok (.iload 4, 2) := by decide +kernel
theorem dX4_odds_57 : decode cX4_odds 57 = .ok (.iconst 2, 1) := by decide +kernel
theorem dX4_odds_58 : decode cX4_odds 58 = .ok (.idiv, 1) := by decide +kernel
theorem dX4_odds_59 : decode cX4_odds 59 = .ok (.istore 4, 2) := by decide +kernel
theorem dX4_odds_61 : decode cX4_odds 61 = .ok (.iinc 5 1, 3) := by decide +kernel
theorem dX4_odds_64 : decode cX4_odds 64 = .ok (.goto (-25), 3) := by decide +kernel
theorem dX4_odds_67 : decode cX4_odds 67 = .ok (.iload_n 2, 1) := by decide +kernel
theorem dX4_odds_68 : decode cX4_odds 68 = .ok (.ifCond .ne 7, 3) := by decide +kernel
theorem dX4_odds_71 : decode cX4_odds 71 = .ok (.iload_n 3, 1) := by decide +kernel
theorem dX4_odds_72 : decode cX4_odds 72 = .ok (.goto 5, 3) := by decide +kernel
theorem dX4_odds_75 : decode cX4_odds 75 = .ok (.iload 4, 2) := by decide +kernel
theorem dX4_odds_77 : decode cX4_odds 77 = .ok (.ireturn, 1) := by decide +kernel
theorem dX4_drives_0 : decode cX4_drives 0 = .ok (.iload_n 1, 1) := by decide +kernel
theorem dX4_drives_1 : decode cX4_drives 1 = .ok (.iconst 0, 1) := by decide +kernel
theorem dX4_drives_2 : decode cX4_drives 2 = .ok (.bipush 20, 2) := by decide +kernel
theorem dX4_drives_4 : decode cX4_drives 4 = .ok (.invokestatic 88, 3) := by decide +kernel
theorem dX4_drives_7 : decode cX4_drives 7 = .ok (.ifCond .ne 11, 3) := by decide +kernel
theorem dX4_drives_10 : decode cX4_drives 10 = .ok (.aload_n 0, 1) := by decide +kernel
theorem dX4_drives_11 : decode cX4_drives 11 = .ok (.ldc 54, 2) := by decide +kernel
theorem dX4_drives_13 : decode cX4_drives 13 = .ok (.invokevirtual 55, 3) := by decide +kernel
theorem dX4_drives_16 : decode cX4_drives 16 = .ok (.i2l, 1) := by decide +kernel
theorem dX4_drives_17 : decode cX4_drives 17 = .ok (.lreturn, 1) := by decide +kernel
theorem dX4_drives_18 : decode cX4_drives 18 = .ok (.lconst 1, 1) := by decide +kernel
theorem dX4_drives_19 : decode cX4_drives 19 = .ok (.iconst 3, 1) := by decide +kernel
theorem dX4_drives_20 : decode cX4_drives 20 = .ok (.iload_n 1, 1) := by decide +kernel
theorem dX4_drives_21 : decode cX4_drives 21 = .ok (.imul, 1) := by decide +kernel
theorem dX4_drives_22 : decode cX4_drives 22 = .ok (.lshl, 1) := by decide +kernel
theorem dX4_drives_23 : decode cX4_drives 23 = .ok (.lreturn, 1) := by decide +kernel
theorem dX4_seed_0 : decode cX4_seed 0 = .ok (.aload_n 0, 1) := by decide +kernel
theorem dX4_seed_1 : decode cX4_seed 1 = .ok (.getfield 12, 3) := by decide +kernel
theorem dX4_seed_4 : decode cX4_seed 4 = .ok (.getfield 243, 3) := by decide +kernel
theorem dX4_seed_7 : decode cX4_seed 7 = .ok (.istore_n 2, 1) := by decide +kernel
theorem dX4_seed_8 : decode cX4_seed 8 = .ok (.aload_n 0, 1) := by decide +kernel
theorem dX4_seed_9 : decode cX4_seed 9 = .ok (.getfield 12, 3) := by decide +kernel
theorem dX4_seed_12 : decode cX4_seed 12 = .ok (.iload_n 1, 1) := by decide +kernel
theorem dX4_seed_13 : decode cX4_seed 13 = .ok (.putfield 243, 3) := by decide +kernel
theorem dX4_seed_16 : decode cX4_seed 16 = .ok (.iload_n 2, 1) := by decide +kernel
theorem dX4_seed_17 : decode cX4_seed 17 = .ok (.ireturn, 1) := by decide +kernel
theorem dX4_feed_0 : decode cX4_feed 0 = .ok (.iload_n 2, 1) := by decide +kernel
theorem dX4_feed_1 : decode cX4_feed 1 = .ok (.iconst 1, 1) := by decide +kernel
theorem dX4_feed_2 : decode cX4_feed 2 = .ok (.iconst 4, 1) := by decide +kernel
theorem dX4_feed_3 : decode cX4_feed 3 = .ok (.invokestatic 88, 3) := by decide +kernel
theorem dX4_feed_6 : decode cX4_feed 6 = .ok (.ifCond .ne 10, 3) := by decide +kernel
theorem dX4_feed_9 : decode cX4_feed 9 = .ok (.aload_n 0, 1) := by decide +kernel
theorem dX4_feed_10 : decode cX4_feed 10 = .ok (.ldc 54, 2) := by decide +kernel
theorem dX4_feed_12 : decode cX4_feed 12 = .ok (.invokevirtual 55, 3) := by decide +kernel
theorem dX4_feed_15 : decode cX4_feed 15 = .ok (.ireturn, 1) := by decide +kernel
theorem dX4_feed_16 : decode cX4_feed 16 = .ok (.aload_n 0, 1) := by decide +kernel
theorem dX4_feed_17 : decode cX4_feed 17 = .ok (.getfield 22, 3) := by decide +kernel
theorem dX4_feed_20 : decode cX4_feed 20 = .ok (.getfield 246, 3) := by decide +kernel
theorem dX4_feed_23 : decode cX4_feed 23 = .ok (.bipush 120, 2) := by decide +kernel
theorem dX4_feed_25 : decode cX4_feed 25 = .ok (.iload_n 2, 1) := by decide +kernel
theorem dX4_feed_26 : decode cX4_feed 26 = .ok (.isub, 1) := by decide +kernel
theorem dX4_feed_27 : decode cX4_feed 27 = .ok (.if_icmp .le 10, 3) := by decide +kernel
theorem dX4_feed_30 : decode cX4_feed 30 = .ok (.aload_n 0, 1) := by decide +kernel
theorem dX4_feed_31 : decode cX4_feed 31 = .ok (.ldc 63, 2) := by decide +kernel
theorem dX4_feed_33 : decode cX4_feed 33 = .ok (.invokevirtual 55, 3) := by decide +kernel
theorem dX4_feed_36 : decode cX4_feed 36 = .ok (.ireturn, 1) := by decide +kernel
theorem dX4_feed_37 : decode cX4_feed 37 = .ok (.iload_n 2, 1) := by decide +kernel
theorem dX4_feed_38 : decode cX4_feed 38 = .ok (.iconst 1, 1) := by decide +kernel
theorem dX4_feed_39 : decode cX4_feed 39 = .ok (.isub, 1) := by decide +kernel
theorem dX4_feed_40 : decode cX4_feed 40 = .ok (.istore_n 3, 1) := by decide +kernel
theorem dX4_feed_41 : decode cX4_feed 41 = .ok (.iload_n 3, 1) := by decide +kernel
theorem dX4_feed_42 : decode cX4_feed 42 = .ok (.ifCond .lt 26, 3) := by decide +kernel
theorem dX4_feed_45 : decode cX4_feed 45 = .ok (.aload_n 0, 1) := by decide +kernel
theorem dX4_feed_46 : decode cX4_feed 46 = .ok (.getfield 22, 3) := by decide +kernel
theorem dX4_feed_49 : decode cX4_feed 49 = .ok (.iload_n 1, 1) := by decide +kernel
theorem dX4_feed_50 : decode cX4_feed 50 = .ok (.bipush 8, 2) := by decide +kernel
theorem dX4_feed_52 : decode cX4_feed 52 = .ok (.iload_n 3, 1) := by decide +kernel
theorem dX4_feed_53 : decode cX4_feed 53 = .ok (.imul, 1) := by decide +kernel
theorem dX4_feed_54 : decode cX4_feed 54 = .ok (.iushr, 1) := by decide +kernel
theorem dX4_feed_55 : decode cX4_feed 55 = .ok (.sipush 255, 3) := by decide +kernel
theorem dX4_feed_58 : decode cX4_feed 58 = .ok (.iand, 1) := by decide +kernel
theorem dX4_feed_59 : decode cX4_feed 59 = .ok (.invokevirtual 249, 3) := by decide +kernel
theorem dX4_feed_62 : decode cX4_feed 62 = .ok (.iinc 3 (-1), 3) := by decide +kernel
theorem dX4_feed_65 : decode cX4_feed 65 = .ok (.goto (-24), 3) := by decide +kernel
theorem dX4_feed_68 : decode cX4_feed 68 = .ok (.aload_n 0, 1) := by decide +kernel
theorem dX4_feed_69 : decode cX4_feed 69 = .ok (.getfield 22, 3) := by decide +kernel
theorem dX4_feed_72 : decode cX4_feed 72 = .ok (.getfield 246, 3) := by decide +kernel
theorem dX4_feed_75 : decode cX4_feed 75 = .ok (.ireturn, 1) := by decide +kernel
theorem dX4_wipe_0 : decode cX4_wipe 0 = .ok (.aload_n 0, 1) := by decide +kernel
theorem dX4_wipe_1 : decode cX4_wipe 1 = .ok (.getfield 22, 3) := by decide +kernel
theorem dX4_wipe_4 : decode cX4_wipe 4 = .ok (.getfield 246, 3) := by decide +kernel
theorem dX4_wipe_7 : decode cX4_wipe 7 = .ok (.istore_n 1, 1) := by decide +kernel
theorem dX4_wipe_8 : decode cX4_wipe 8 = .ok (.aload_n 0, 1) := by decide +kernel
theorem dX4_wipe_9 : decode cX4_wipe 9 = .ok (.getfield 22, 3) := by decide +kernel
theorem dX4_wipe_12 : decode cX4_wipe 12 = .ok (.iconst 0, 1) := by decide +kernel
theorem dX4_wipe_13 : decode cX4_wipe 13 = .ok (.putfield 246, 3) := by decide +kernel
theorem dX4_wipe_16 : decode cX4_wipe 16 = .ok (.iload_n 1, 1) := by decide +kernel
theorem dX4_wipe_17 : decode cX4_wipe 17 = .ok (.ireturn, 1) := by decide +kernel
theorem dX4_text_0 : decode cX4_text 0 = .ok (.aload_n 0, 1) := by decide +kernel
theorem dX4_text_1 : decode cX4_text 1 = .ok (.getfield 29, 3) := by decide +kernel
theorem dX4_text_4 : decode cX4_text 4 = .ok (.aload_n 0, 1) := by decide +kernel
theorem dX4_text_5 : decode cX4_text 5 = .ok (.getfield 22, 3) := by decide +kernel
theorem dX4_text_8 : decode cX4_text 8 = .ok (.invokevirtual 253, 3) := by decide +kernel
theorem dX4_text_11 : decode cX4_text 11 = .ok (.aload_n 0, 1) := by decide +kernel
theorem dX4_text_12 : decode cX4_text 12 = .ok (.getfield 29, 3) := by decide +kernel
theorem dX4_text_15 : decode cX4_text 15 = .ok (.aload_n 0, 1) := by decide +kernel
theorem dX4_text_16 : decode cX4_text 16 = .ok (.getfield 12, 3) := by decide +kernel
theorem dX4_text_19 : decode cX4_text 19 = .ok (.iconst 0, 1) := by decide +kernel
theorem dX4_text_20 : decode cX4_text 20 = .ok (.invokevirtual 257, 3) := by decide +kernel
theorem dX4_text_23 : decode cX4_text 23 = .ok (.istore_n 1, 1) := by decide +kernel
theorem dX4_text_24 : decode cX4_text 24 = .ok (.iload_n 1, 1) := by decide +kernel
theorem dX4_text_25 : decode cX4_text 25 = .ok (.ifCond .lt 16, 3) := by decide +kernel
theorem dX4_text_28 : decode cX4_text 28 = .ok (.aload_n 0, 1) := by decide +kernel
theorem dX4_text_29 : decode cX4_text 29 = .ok (.getfield 29, 3) := by decide +kernel
theorem dX4_text_32 : decode cX4_text 32 = .ok (.aload_n 0, 1) := by decide +kernel
theorem dX4_text_33 : decode cX4_text 33 = .ok (.getfield 12, 3) := by decide +kernel
theorem dX4_text_36 : decode cX4_text 36 = .ok (.iconst 1, 1) := by decide +kernel
theorem dX4_text_37 : decode cX4_text 37 = .ok (.invokevirtual 257, 3) := by decide +kernel
theorem dX4_text_40 : decode cX4_text 40 = .ok (.istore_n 1, 1) := by decide +kernel
theorem dX4_text_41 : decode cX4_text 41 = .ok (.aload_n 0, 1) := by decide +kernel
theorem dX4_text_42 : decode cX4_text 42 = .ok (.getfield 22, 3) := by decide +kernel
theorem dX4_text_45 : decode cX4_text 45 = .ok (.iconst 0, 1) := by decide +kernel
theorem dX4_text_46 : decode cX4_text 46 = .ok (.putfield 246, 3) := by decide +kernel
theorem dX4_text_49 : decode cX4_text 49 = .ok (.iload_n 1, 1) := by decide +kernel
theorem dX4_text_50 : decode cX4_text 50 = .ok (.ireturn, 1) := by decide +kernel
theorem dX4_hold_0 : decode cX4_hold 0 = .ok (.iload_n 1, 1) := by decide +kernel
theorem dX4_hold_1 : decode cX4_hold 1 = .ok (.invokestatic 261, 3) := by decide +kernel
theorem dX4_hold_4 : decode cX4_hold 4 = .ok (.ifCond .eq 16, 3) := by decide +kernel
theorem dX4_hold_7 : decode cX4_hold 7 = .ok (.iload_n 2, 1) := by decide +kernel
theorem dX4_hold_8 : decode cX4_hold 8 = .ok (.iconst (-1), 1) := by decide +kernel
theorem dX4_hold_9 : decode cX4_hold 9 = .ok (.if_icmp .eq 18, 3) := by decide +kernel
theorem dX4_hold_12 : decode cX4_hold 12 = .ok (.aload_n 0, 1) := by decide +kernel
theorem dX4_hold_13 : decode cX4_hold 13 = .ok (.iload_n 2, 1) := by decide +kernel
theorem dX4_hold_14 : decode cX4_hold 14 = .ok (.invokevirtual 68, 3) := by decide +kernel
theorem dX4_hold_17 : decode cX4_hold 17 = .ok (.ifCond .ne 10, 3) := by decide +kernel
theorem dX4_hold_20 : decode cX4_hold 20 = .ok (.aload_n 0, 1) := by decide +kernel
theorem dX4_hold_21 : decode cX4_hold 21 = .ok (.ldc 54, 2) := by decide +kernel
theorem dX4_hold_23 : decode cX4_hold 23 = .ok (.invokevirtual 55, 3) := by decide +kernel
theorem dX4_hold_26 : decode cX4_hold 26 = .ok (.ireturn, 1) := by decide +kernel
theorem dX4_hold_27 : decode cX4_hold 27 = .ok (.aload_n 0, 1) := by decide +kernel
theorem dX4_hold_28 : decode cX4_hold 28 = .ok (.getfield 12, 3) := by decide +kernel
theorem dX4_hold_31 : decode cX4_hold 31 = .ok (.getfield 264, 3) := by decide +kernel
theorem dX4_hold_34 : decode cX4_hold 34 = .ok (.iload_n 1, 1) := by decide +kernel
theorem dX4_hold_35 : decode cX4_hold 35 = .ok (.iload_n 2, 1) := by decide +kernel
theorem dX4_hold_36 : decode cX4_hold 36 = .ok (.iastore, 1) := by decide +kernel
theorem dX4_hold_37 : decode cX4_hold 37 = .ok (.iconst 1, 1) := by decide +kernel
theorem dX4_hold_38 : decode cX4_hold 38 = .ok (.ireturn, 1) := by decide +kernel
theorem dX4_as_0 : decode cX4_as 0 = .ok (.iload_n 1, 1) := by decide +kernel
theorem dX4_as_1 : decode cX4_as 1 = .ok (.invokestatic 261, 3) := by decide +kernel
theorem dX4_as_4 : decode cX4_as 4 = .ok (.ifCond .eq 10, 3) := by decide +kernel
theorem dX4_as_7 : decode cX4_as 7 = .ok (.iload_n 2, 1) := by decide +kernel
theorem dX4_as_8 : decode cX4_as 8 = .ok (.invokestatic 50, 3) := by decide +kernel
theorem dX4_as_11 : decode cX4_as 11 = .ok (.ifCond .ne 10, 3) := by decide +kernel
theorem dX4_as_14 : decode cX4_as 14 = .ok (.aload_n 0, 1) := by decide +kernel
theorem dX4_as_15 : decode cX4_as 15 = .ok (.ldc 54, 2) := by decide +kernel
theorem dX4_as_17 : decode cX4_as 17 = .ok (.invokevirtual 55, 3) := by decide +kernel
theorem dX4_as_20 : decode cX4_as 20 = .ok (.ireturn, 1) := by decide +kernel
theorem dX4_as_21 : decode cX4_as 21 = .ok (.aload_n 0, 1) := by decide +kernel
theorem dX4_as_22 : decode cX4_as 22 = .ok (.getfield 12, 3) := by decide +kernel
theorem dX4_as_25 : decode cX4_as 25 = .ok (.getfield 264, 3) := by decide +kernel
theorem dX4_as_28 : decode cX4_as 28 = .ok (.iload_n 1, 1) := by decide +kernel
theorem dX4_as_29 : decode cX4_as 29 = .ok (.iaload, 1) := by decide +kernel
theorem dX4_as_30 : decode cX4_as 30 = .ok (.istore_n 3, 1) := by decide +kernel
theorem dX4_as_31 : decode cX4_as 31 = .ok (.aload_n 0, 1) := by decide +kernel
theorem dX4_as_32 : decode cX4_as 32 = .ok (.iload_n 3, 1) := by decide +kernel
theorem dX4_as_33 : decode cX4_as 33 = .ok (.invokevirtual 68, 3) := by decide +kernel
theorem dX4_as_36 : decode cX4_as 36 = .ok (.ifCond .ne 11, 3) := by decide +kernel
theorem dX4_as_39 : decode cX4_as 39 = .ok (.aload_n 0, 1) := by decide +kernel
theorem dX4_as_40 : decode cX4_as 40 = .ok (.ldc_w 267, 3) := by decide +kernel
theorem dX4_as_43 : decode cX4_as 43 = .ok (.invokevirtual 55, 3) := by decide +kernel
theorem dX4_as_46 : decode cX4_as 46 = .ok (.ireturn, 1) := by decide +kernel
theorem dX4_as_47 : decode cX4_as 47 = .ok (.aload_n 0, 1) := by decide +kernel
theorem dX4_as_48 : decode cX4_as 48 = .ok (.getfield 12, 3) := by decide +kernel
theorem dX4_as_51 : decode cX4_as 51 = .ok (.getfield 71, 3) := by decide +kernel
theorem dX4_as_54 : decode cX4_as 54 = .ok (.iload_n 3, 1) := by decide +kernel
theorem dX4_as_55 : decode cX4_as 55 = .ok (.iaload, 1) := by decide +kernel
theorem dX4_as_56 : decode cX4_as 56 = .ok (.iload_n 2, 1) := by decide +kernel
theorem dX4_as_57 : decode cX4_as 57 = .ok (.invokestatic 268, 3) := by decide +kernel
theorem dX4_as_60 : decode cX4_as 60 = .ok (.ifCond .eq 7, 3) := by decide +kernel
theorem dX4_as_63 : decode cX4_as 63 = .ok (.iload_n 3, 1) := by decide +kernel
theorem dX4_as_64 : decode cX4_as 64 = .ok (.goto 10, 3) := by decide +kernel
theorem dX4_as_67 : decode cX4_as 67 = .ok (.aload_n 0, 1) := by decide +kernel
theorem dX4_as_68 : decode cX4_as 68 = .ok (.ldc_w 271, 3) := by decide +kernel
theorem dX4_as_71 : decode cX4_as 71 = .ok (.invokevirtual 55, 3) := by decide +kernel
theorem dX4_as_74 : decode cX4_as 74 = .ok (.ireturn, 1) := by decide +kernel
theorem dX4_sheet_0 : decode cX4_sheet 0 = .ok (.iload_n 1, 1) := by decide +kernel
theorem dX4_sheet_1 : decode cX4_sheet 1 = .ok (.invokestatic 272, 3) := by decide +kernel
theorem dX4_sheet_4 : decode cX4_sheet 4 = .ok (.ifCond .eq 25, 3) := by decide +kernel
theorem dX4_sheet_7 : decode cX4_sheet 7 = .ok (.iload_n 2, 1) := by decide +kernel
theorem dX4_sheet_8 : decode cX4_sheet 8 = .ok (.ifCond .eq 28, 3) := by decide +kernel
theorem dX4_sheet_11 : decode cX4_sheet 11 = .ok (.iload_n 2, 1) := by decide +kernel
theorem dX4_sheet_12 : decode cX4_sheet 12 = .ok (.bipush 8, 2) := by decide +kernel
theorem dX4_sheet_14 : decode cX4_sheet 14 = .ok (.if_icmp .eq 22, 3) := by decide +kernel
theorem dX4_sheet_17 : decode cX4_sheet 17 = .ok (.iload_n 2, 1) := by decide +kernel
theorem dX4_sheet_18 : decode cX4_sheet 18 = .ok (.bipush 16, 2) := by decide +kernel
theorem dX4_sheet_20 : decode cX4_sheet 20 = .ok (.if_icmp .eq 16, 3) := by decide +kernel
theorem dX4_sheet_23 : decode cX4_sheet 23 = .ok (.iload_n 2, 1) := by decide +kernel
theorem dX4_sheet_24 : decode cX4_sheet 24 = .ok (.bipush 32, 2) := by decide +kernel
theorem dX4_sheet_26 : decode cX4_sheet 26 = .ok (.if_icmp .eq 10, 3) := by decide +kernel
theorem dX4_sheet_29 : decode cX4_sheet 29 = .ok (.aload_n 0, 1) := by decide +kernel
theorem dX4_sheet_30 : decode cX4_sheet 30 = .ok (.ldc 54, 2) := by decide +kernel
theorem dX4_sheet_32 : decode cX4_sheet 32 = .ok (.invokevirtual 55, 3) := by decide +kernel
theorem dX4_sheet_35 : decode cX4_sheet 35 = .ok (.ireturn, 1) := by decide +kernel
theorem dX4_sheet_36 : decode cX4_sheet 36 = .ok (.iload_n 3, 1) := by decide +kernel
theorem dX4_sheet_37 : decode cX4_sheet 37 = .ok (.ifCond .ge 11, 3) := by decide +kernel
theorem dX4_sheet_40 : decode cX4_sheet 40 = .ok (.aload_n 0, 1) := by decide +kernel
theorem dX4_sheet_41 : decode cX4_sheet 41 = .ok (.ldc_w 275, 3) := by decide +kernel
theorem dX4_sheet_44 : decode cX4_sheet 44 = .ok (.invokevirtual 55, 3) := by decide +kernel
theorem dX4_sheet_47 : decode cX4_sheet 47 = .ok (.ireturn, 1) := by decide +kernel
theorem dX4_sheet_48 : decode cX4_sheet 48 = .ok (.iload_n 3, 1) := by decide +kernel
theorem dX4_sheet_49 : decode cX4_sheet 49 = .ok (.bipush 40, 2) := by decide +kernel
theorem dX4_sheet_51 : decode cX4_sheet 51 = .ok (.if_icmp .le 10, 3) := by decide +kernel
theorem dX4_sheet_54 : decode cX4_sheet 54 = .ok (.aload_n 0, 1) := by decide +kernel
theorem dX4_sheet_55 : decode cX4_sheet 55 = .ok (.ldc 54, 2) := by decide +kernel
theorem dX4_sheet_57 : decode cX4_sheet 57 = .ok (.invokevirtual 55, 3) := by decide +kernel
theorem dX4_sheet_60 : decode cX4_sheet 60 = .ok (.ireturn, 1) := by decide +kernel
theorem dX4_sheet_61 : decode cX4_sheet 61 = .ok (.aload_n 0, 1) := by decide +kernel
theorem dX4_sheet_62 : decode cX4_sheet 62 = .ok (.getfield 35, 3) := by decide +kernel
theorem dX4_sheet_65 : decode cX4_sheet 65 = .ok (.iload_n 1, 1) := by decide +kernel
theorem dX4_sheet_66 : decode cX4_sheet 66 = .ok (.aaload, 1) := by decide +kernel
theorem dX4_sheet_67 : decode cX4_sheet 67 = .ok (.iload_n 2, 1) := by decide +kernel
theorem dX4_sheet_68 : decode cX4_sheet 68 = .ok (.iload_n 2, 1) := by decide +kernel
theorem dX4_sheet_69 : decode cX4_sheet 69 = .ok (.ifCond .ne 7, 3) := by decide +kernel
theorem dX4_sheet_72 : decode cX4_sheet 72 = .ok (.iconst 0, 1) := by decide +kernel
theorem dX4_sheet_73 : decode cX4_sheet 73 = .ok (.goto 4, 3) := by decide +kernel
theorem dX4_sheet_76 : decode cX4_sheet 76 = .ok (.iload_n 3, 1) := by decide +kernel
theorem dX4_sheet_77 : decode cX4_sheet 77 = .ok (.invokevirtual 276, 3) := by decide +kernel
theorem dX4_sheet_80 : decode cX4_sheet 80 = .ok (.aload_n 0, 1) := by decide +kernel
theorem dX4_sheet_81 : decode cX4_sheet 81 = .ok (.getfield 35, 3) := by decide +kernel
theorem dX4_sheet_84 : decode cX4_sheet 84 = .ok (.iload_n 1, 1) := by decide +kernel
theorem dX4_sheet_85 : decode cX4_sheet 85 = .ok (.aaload, 1) := by decide +kernel
theorem dX4_sheet_86 : decode cX4_sheet 86 = .ok (.getfield 220, 3) := by decide +kernel
theorem dX4_sheet_89 : decode cX4_sheet 89 = .ok (.ireturn, 1) := by decide +kernel
theorem dX4_write_0 : decode cX4_write 0 = .ok (.aload_n 0, 1) := by decide +kernel
theorem dX4_write_1 : decode cX4_write 1 = .ok (.iload_n 1, 1) := by decide +kernel
theorem dX4_write_2 : decode cX4_write 2 = .ok (.invokevirtual 227, 3) := by decide +kernel
theorem dX4_write_5 : decode cX4_write 5 = .ok (.istore 4, 2) := by decide +kernel
theorem dX4_write_7 : decode cX4_write 7 = .ok (.iload 4, 2) := by decide +kernel
theorem dX4_write_9 : decode cX4_write 9 = .ok (.ifCond .eq 6, 3) := by decide +kernel
theorem dX4_write_12 : decode cX4_write 12 = .ok (.iload 4, 2) := by decide +kernel
theorem dX4_write_14 : decode cX4_write 14 = .ok (.ireturn, 1) := by decide +kernel
theorem dX4_write_15 : decode cX4_write 15 = .ok (.iload_n 2, 1) := by decide +kernel
theorem dX4_write_16 : decode cX4_write 16 = .ok (.iconst 0, 1) := by decide +kernel
theorem dX4_write_17 : decode cX4_write 17 = .ok (.aload_n 0, 1) := by decide +kernel
theorem dX4_write_18 : decode cX4_write 18 = .ok (.getfield 35, 3) := by decide +kernel
theorem dX4_write_21 : decode cX4_write 21 = .ok (.iload_n 1, 1) := by decide +kernel
theorem dX4_write_22 : decode cX4_write 22 = .ok (.aaload, 1) := by decide +kernel
theorem dX4_write_23 : decode cX4_write 23 = .ok (.getfield 220, 3) := by decide +kernel
theorem dX4_write_26 : decode cX4_write 26 = .ok (.iconst 1, 1) := by decide +kernel
theorem dX4_write_27 : decode cX4_write 27 = .ok (.isub, 1) := by decide +kernel
theorem dX4_write_28 : decode cX4_write 28 = .ok (.invokestatic 88, 3) := by decide +kernel
theorem dX4_write_31 : decode cX4_write 31 = .ok (.ifCond .ne 10, 3) := by decide +kernel
theorem dX4_write_34 : decode cX4_write 34 = .ok (.aload_n 0, 1) := by decide +kernel
theorem dX4_write_35 : decode cX4_write 35 = .ok (.ldc 54, 2) := by decide +kernel
theorem dX4_write_37 : decode cX4_write 37 = .ok (.invokevirtual 55, 3) := by decide +kernel
theorem dX4_write_40 : decode cX4_write 40 = .ok (.ireturn, 1) := by decide +kernel
theorem dX4_write_41 : decode cX4_write 41 = .ok (.aload_n 0, 1) := by decide +kernel
theorem dX4_write_42 : decode cX4_write 42 = .ok (.getfield 35, 3) := by decide +kernel
theorem dX4_write_45 : decode cX4_write 45 = .ok (.iload_n 1, 1) := by decide +kernel
theorem dX4_write_46 : decode cX4_write 46 = .ok (.aaload, 1) := by decide +kernel
theorem dX4_write_47 : decode cX4_write 47 = .ok (.getfield 230, 3) := by decide +kernel
theorem dX4_write_50 : decode cX4_write 50 = .ok (.iload_n 2, 1) := by decide +kernel
theorem dX4_write_51 : decode cX4_write 51 = .ok (.aload_n 0, 1) := by decide +kernel
theorem dX4_write_52 : decode cX4_write 52 = .ok (.getfield 35, 3) := by decide +kernel
theorem dX4_write_55 : decode cX4_write 55 = .ok (.iload_n 1, 1) := by decide +kernel
theorem dX4_write_56 : decode cX4_write 56 = .ok (.aaload, 1) := by decide +kernel
theorem dX4_write_57 : decode cX4_write 57 = .ok (.iload_n 3, 1) := by decide +kernel
theorem dX4_write_58 : decode cX4_write 58 = .ok (.invokevirtual 279, 3) := by decide +kernel
theorem dX4_write_61 : decode cX4_write 61 = .ok (.iastore, 1) := by decide +kernel
theorem dX4_write_62 : decode cX4_write 62 = .ok (.iconst 1, 1) := by decide +kernel
theorem dX4_write_63 : decode cX4_write 63 = .ok (.ireturn, 1) := by decide +kernel
theorem dX4_copy_0 : decode cX4_copy 0 = .ok (.iload_n 1, 1) := by decide +kernel
theorem dX4_copy_1 : decode cX4_copy 1 = .ok (.invokestatic 272, 3) := by decide +kernel
theorem dX4_copy_4 : decode cX4_copy 4 = .ok (.ifCond .eq 10, 3) := by decide +kernel
theorem dX4_copy_7 : decode cX4_copy 7 = .ok (.iload_n 3, 1) := by decide +kernel
theorem dX4_copy_8 : decode cX4_copy 8 = .ok (.invokestatic 272, 3) := by decide +kernel
theorem dX4_copy_11 : decode cX4_copy 11 = .ok (.ifCond .ne 10, 3) := by decide +kernel
theorem dX4_copy_14 : decode cX4_copy 14 = .ok (.aload_n 0, 1) := by decide +kernel
theorem dX4_copy_15 : decode cX4_copy 15 = .ok (.ldc 54, 2) := by decide +kernel
theorem dX4_copy_17 : decode cX4_copy 17 = .ok (.invokevirtual 55, 3) := by decide +kernel
theorem dX4_copy_20 : decode cX4_copy 20 = .ok (.ireturn, 1) := by decide +kernel
theorem dX4_copy_21 : decode cX4_copy 21 = .ok (.aload_n 0, 1) := by decide +kernel
theorem dX4_copy_22 : decode cX4_copy 22 = .ok (.getfield 35, 3) := by decide +kernel
theorem dX4_copy_25 : decode cX4_copy 25 = .ok (.iload_n 1, 1) := by decide +kernel
theorem dX4_copy_26 : decode cX4_copy 26 = .ok (.aaload, 1) := by decide +kernel
theorem dX4_copy_27 : decode cX4_copy 27 = .ok (.astore 6, 2) := by decide +kernel
theorem dX4_copy_29 : decode cX4_copy 29 = .ok (.aload_n 0, 1) := by decide +kernel
theorem dX4_copy_30 : decode cX4_copy 30 = .ok (.getfield 35, 3) := by decide +kernel
theorem dX4_copy_33 : decode cX4_copy 33 = .ok (.iload_n 3, 1) := by decide +kernel
theorem dX4_copy_34 : decode cX4_copy 34 = .ok (.aaload, 1) := by decide +kernel
theorem dX4_copy_35 : decode cX4_copy 35 = .ok (.astore 7, 2) := by decide +kernel
theorem dX4_copy_37 : decode cX4_copy 37 = .ok (.aload 6, 2) := by decide +kernel
theorem dX4_copy_39 : decode cX4_copy 39 = .ok (.invokevirtual 282, 3) := by decide +kernel
theorem dX4_copy_42 : decode cX4_copy 42 = .ok (.ifCond .ne 11, 3) := by decide +kernel
theorem dX4_copy_45 : decode cX4_copy 45 = .ok (.aload 7, 2) := by decide +kernel
theorem dX4_copy_47 : decode cX4_copy 47 = .ok (.invokevirtual 282, 3) := by decide +kernel
theorem dX4_copy_50 : decode cX4_copy 50 = .ok (.ifCond .eq 11, 3) := by decide +kernel
theorem dX4_copy_53 : decode cX4_copy 53 = .ok (.aload_n 0, 1) := by decide +kernel
theorem dX4_copy_54 : decode cX4_copy 54 = .ok (.ldc_w 267, 3) := by decide +kernel
theorem dX4_copy_57 : decode cX4_copy 57 = .ok (.invokevirtual 55, 3) := by decide +kernel
theorem dX4_copy_60 : decode cX4_copy 60 = .ok (.ireturn, 1) := by decide +kernel
theorem dX4_copy_61 : decode cX4_copy 61 = .ok (.aload 6, 2) := by decide +kernel
theorem dX4_copy_63 : decode cX4_copy 63 = .ok (.getfield 286, 3) := by decide +kernel
theorem dX4_copy_66 : decode cX4_copy 66 = .ok (.aload 7, 2) := by decide +kernel
theorem dX4_copy_68 : decode cX4_copy 68 = .ok (.getfield 286, 3) := by decide +kernel
theorem dX4_copy_71 : decode cX4_copy 71 = .ok (.if_icmp .eq 11, 3) := by decide +kernel
theorem dX4_copy_74 : decode cX4_copy 74 = .ok (.aload_n 0, 1) := by decide +kernel
theorem dX4_copy_75 : decode cX4_copy 75 = .ok (.ldc_w 271, 3) := by decide +kernel
theorem dX4_copy_78 : decode cX4_copy 78 = .ok (.invokevirtual 55, 3) := by decide +kernel
theorem dX4_copy_81 : decode cX4_copy 81 = .ok (.ireturn, 1) := by decide +kernel
theorem dX4_copy_82 : decode cX4_copy 82 = .ok (.aload 6, 2) := by decide +kernel
theorem dX4_copy_84 : decode cX4_copy 84 = .ok (.iload_n 2, 1) := by decide +kernel
theorem dX4_copy_85 : decode cX4_copy 85 = .ok (.iload 5, 2) := by decide +kernel
theorem dX4_copy_87 : decode cX4_copy 87 = .ok (.invokevirtual 289, 3) := by decide +kernel
theorem dX4_copy_90 : decode cX4_copy 90 = .ok (.ifCond .eq 15, 3) := by decide +kernel
theorem dX4_copy_93 : decode cX4_copy 93 = .ok (.aload 7, 2) := by decide +kernel
theorem dX4_copy_95 : decode cX4_copy 95 = .ok (.iload 4, 2) := by decide +kernel
theorem dX4_copy_97 : decode cX4_copy 97 = .ok (.iload 5, 2) := by decide +kernel
theorem dX4_copy_99 : decode cX4_copy 99 = .ok (.invokevirtual 289, 3) := by decide +kernel
theorem dX4_copy_102 : decode cX4_copy 102 = .ok (.ifCond .ne 10, 3) := by decide +kernel
theorem dX4_copy_105 : decode cX4_copy 105 = .ok (.aload_n 0, 1) := by decide +kernel
theorem dX4_copy_106 : decode cX4_copy 106 = .ok (.ldc 54, 2) := by decide +kernel
theorem dX4_copy_108 : decode cX4_copy 108 = .ok (.invokevirtual 55, 3) := by decide +kernel
theorem dX4_copy_111 : decode cX4_copy 111 = .ok (.ireturn, 1) := by decide +kernel
theorem dX4_copy_112 : decode cX4_copy 112 = .ok (.aload 6, 2) := by decide +kernel
theorem dX4_copy_114 : decode cX4_copy 114 = .ok (.getfield 230, 3) := by decide +kernel
theorem dX4_copy_117 : decode cX4_copy 117 = .ok (.iload_n 2, 1) := by decide +kernel
theorem dX4_copy_118 : decode cX4_copy 118 = .ok (.aload 7, 2) := by decide +kernel
theorem dX4_copy_120 : decode cX4_copy 120 = .ok (.getfield 230, 3) := by decide +kernel
theorem dX4_copy_123 : decode cX4_copy 123 = .ok (.iload 4, 2) := by decide +kernel
theorem dX4_copy_125 : decode cX4_copy 125 = .ok (.iload 5, 2) := by decide +kernel
theorem dX4_copy_127 : decode cX4_copy 127 = .ok (.invokestatic 167, 3) := by decide +kernel
theorem dX4_copy_130 : decode cX4_copy 130 = .ok (.iload 5, 2) := by decide +kernel
theorem dX4_copy_132 : decode cX4_copy 132 = .ok (.ireturn, 1) := by decide +kernel
theorem dX4_load_0 : decode cX4_load 0 = .ok (.aload_n 0, 1) := by decide +kernel
theorem dX4_load_1 : decode cX4_load 1 = .ok (.iload_n 1, 1) := by decide +kernel
theorem dX4_load_2 : decode cX4_load 2 = .ok (.invokevirtual 227, 3) := by decide +kernel
theorem dX4_load_5 : decode cX4_load 5 = .ok (.istore_n 2, 1) := by decide +kernel
theorem dX4_load_6 : decode cX4_load 6 = .ok (.iload_n 2, 1) := by decide +kernel
theorem dX4_load_7 : decode cX4_load 7 = .ok (.ifCond .eq 5, 3) := by decide +kernel
theorem dX4_load_10 : decode cX4_load 10 = .ok (.iload_n 2, 1) := by decide +kernel
theorem dX4_load_11 : decode cX4_load 11 = .ok (.ireturn, 1) := by decide +kernel
theorem dX4_load_12 : decode cX4_load 12 = .ok (.iconst 0, 1) := by decide +kernel
theorem dX4_load_13 : decode cX4_load 13 = .ok (.istore_n 3, 1) := by decide +kernel
theorem dX4_load_14 : decode cX4_load 14 = .ok (.iconst 0, 1) := by decide +kernel
theorem dX4_load_15 : decode cX4_load 15 = .ok (.istore 4, 2) := by decide +kernel
theorem dX4_load_17 : decode cX4_load 17 = .ok (.iload 4, 2) := by decide +kernel
theorem dX4_load_19 : decode cX4_load 19 = .ok (.aload_n 0, 1) := by decide +kernel
theorem dX4_load_20 : decode cX4_load 20 = .ok (.getfield 35, 3) := by decide +kernel
theorem dX4_load_23 : decode cX4_load 23 = .ok (.iload_n 1, 1) := by decide +kernel
theorem dX4_load_24 : decode cX4_load 24 = .ok (.aaload, 1) := by decide +kernel
theorem dX4_load_25 : decode cX4_load 25 = .ok (.getfield 220, 3) := by decide +kernel
theorem dX4_load_28 : decode cX4_load 28 = .ok (.if_icmp .ge 64, 3) := by decide +kernel
theorem dX4_load_31 : decode cX4_load 31 = .ok (.iload 4, 2) := by decide +kernel
theorem dX4_load_33 : decode cX4_load 33 = .ok (.aload_n 0, 1) := by decide +kernel
theorem dX4_load_34 : decode cX4_load 34 = .ok (.getfield 12, 3) := by decide +kernel
theorem dX4_load_37 : decode cX4_load 37 = .ok (.getfield 59, 3) := by decide +kernel
theorem dX4_load_40 : decode cX4_load 40 = .ok (.if_icmp .ge 52, 3) := by decide +kernel
theorem dX4_load_43 : decode cX4_load 43 = .ok (.aload_n 0, 1) := by decide +kernel
theorem dX4_load_44 : decode cX4_load 44 = .ok (.getfield 35, 3) := by decide +kernel
theorem dX4_load_47 : decode cX4_load 47 = .ok (.iload_n 1, 1) := by decide +kernel
theorem dX4_load_48 : decode cX4_load 48 = .ok (.aaload, 1) := by decide +kernel
theorem dX4_load_49 : decode cX4_load 49 = .ok (.getfield 230, 3) := by decide +kernel
theorem dX4_load_52 : decode cX4_load 52 = .ok (.iload 4, 2) := by decide +kernel
theorem dX4_load_54 : decode cX4_load 54 = .ok (.iaload, 1) := by decide +kernel
theorem dX4_load_55 : decode cX4_load 55 = .ok (.istore 5, 2) := by decide +kernel
theorem dX4_load_57 : decode cX4_load 57 = .ok (.iload 5, 2) := by decide +kernel
theorem dX4_load_59 : decode cX4_load 59 = .ok (.iconst 0, 1) := by decide +kernel
theorem dX4_load_60 : decode cX4_load 60 = .ok (.bipush 99, 2) := by decide +kernel
theorem dX4_load_62 : decode cX4_load 62 = .ok (.invokestatic 88, 3) := by decide +kernel
theorem dX4_load_65 : decode cX4_load 65 = .ok (.ifCond .ne 6, 3) := by decide +kernel
theorem dX4_load_68 : decode cX4_load 68 = .ok (.goto 24, 3) := by decide +kernel
theorem dX4_load_71 : decode cX4_load 71 = .ok (.aload_n 0, 1) := by decide +kernel
theorem dX4_load_72 : decode cX4_load 72 = .ok (.getfield 12, 3) := by decide +kernel
theorem dX4_load_75 : decode cX4_load 75 = .ok (.getfield 74, 3) := by decide +kernel
theorem dX4_load_78 : decode cX4_load 78 = .ok (.iload 4, 2) := by decide +kernel
theorem dX4_load_80 : decode cX4_load 80 = .ok (.iload 5, 2) := by decide +kernel
theorem dX4_load_82 : decode cX4_load 82 = .ok (.iastore, 1) := by decide +kernel
theorem dX4_load_83 : decode cX4_load 83 = .ok (.iinc 3 1, 3) := by decide +kernel
theorem dX4_load_86 : decode cX4_load 86 = .ok (.iinc 4 1, 3) := by decide +kernel
theorem dX4_load_89 : decode cX4_load 89 = .ok (.goto (-72), 3) := by decide +kernel
theorem dX4_load_92 : decode cX4_load 92 = .ok (.iload_n 3, 1) := by decide +kernel
theorem dX4_load_93 : decode cX4_load 93 = .ok (.ireturn, 1) := by decide +kernel
theorem dX4_judge_0 : decode cX4_judge 0 = .ok (.aload_n 0, 1) := by decide +kernel
theorem dX4_judge_1 : decode cX4_judge 1 = .ok (.iload_n 1, 1) := by decide +kernel
theorem dX4_judge_2 : decode cX4_judge 2 = .ok (.invokevirtual 227, 3) := by decide +kernel
theorem dX4_judge_5 : decode cX4_judge 5 = .ok (.istore_n 2, 1) := by decide +kernel
theorem dX4_judge_6 : decode cX4_judge 6 = .ok (.iload_n 2, 1) := by decide +kernel
theorem dX4_judge_7 : decode cX4_judge 7 = .ok (.ifCond .eq 5, 3) := by decide +kernel
theorem dX4_judge_10 : decode cX4_judge 10 = .ok (.iload_n 2, 1) := by decide +kernel
theorem dX4_judge_11 : decode cX4_judge 11 = .ok (.ireturn, 1) := by decide +kernel
theorem dX4_judge_12 : decode cX4_judge 12 = .ok (.aload_n 0, 1) := by decide +kernel
theorem dX4_judge_13 : decode cX4_judge 13 = .ok (.getfield 12, 3) := by decide +kernel
theorem dX4_judge_16 : decode cX4_judge 16 = .ok (.getfield 95, 3) := by decide +kernel
theorem dX4_judge_19 : decode cX4_judge 19 = .ok (.iconst 0, 1) := by decide +kernel
theorem dX4_judge_20 : decode cX4_judge 20 = .ok (.iaload, 1) := by decide +kernel
theorem dX4_judge_21 : decode cX4_judge 21 = .ok (.istore_n 3, 1) := by decide +kernel
theorem dX4_judge_22 : decode cX4_judge 22 = .ok (.iconst 0, 1) := by decide +kernel
theorem dX4_judge_23 : decode cX4_judge 23 = .ok (.istore 4, 2) := by decide +kernel
theorem dX4_judge_25 : decode cX4_judge 25 = .ok (.iload 4, 2) := by decide +kernel
theorem dX4_judge_27 : decode cX4_judge 27 = .ok (.aload_n 0, 1) := by decide +kernel
theorem dX4_judge_28 : decode cX4_judge 28 = .ok (.getfield 35, 3) := by decide +kernel
theorem dX4_judge_31 : decode cX4_judge 31 = .ok (.iload_n 1, 1) := by decide +kernel
theorem dX4_judge_32 : decode cX4_judge 32 = .ok (.aaload, 1) := by decide +kernel
theorem dX4_judge_33 : decode cX4_judge 33 = .ok (.getfield 220, 3) := by decide +kernel
theorem dX4_judge_36 : decode cX4_judge 36 = .ok (.if_icmp .ge 42, 3) := by decide +kernel
theorem dX4_judge_39 : decode cX4_judge 39 = .ok (.aload_n 0, 1) := by decide +kernel
theorem dX4_judge_40 : decode cX4_judge 40 = .ok (.getfield 35, 3) := by decide +kernel
theorem dX4_judge_43 : decode cX4_judge 43 = .ok (.iload_n 1, 1) := by decide +kernel
theorem dX4_judge_44 : decode cX4_judge 44 = .ok (.aaload, 1) := by decide +kernel
theorem dX4_judge_45 : decode cX4_judge 45 = .ok (.getfield 230, 3) := by decide +kernel
theorem dX4_judge_48 : decode cX4_judge 48 = .ok (.iload 4, 2) := by decide +kernel
theorem dX4_judge_50 : decode cX4_judge 50 = .ok (.iaload, 1) := by decide +kernel
theorem dX4_judge_51 : decode cX4_judge 51 = .ok (.iload_n 3, 1) := by decide +kernel
theorem dX4_judge_52 : decode cX4_judge 52 = .ok (.if_icmp .eq 8, 3) := by decide +kernel
theorem dX4_judge_55 : decode cX4_judge 55 = .ok (.iconst 1, 1) := by decide +kernel
theorem dX4_judge_56 : decode cX4_judge 56 = .ok (.iload 4, 2) := by decide +kernel
theorem dX4_judge_58 : decode cX4_judge 58 = .ok (.iadd, 1) := by decide +kernel
theorem dX4_judge_59 : decode cX4_judge 59 = .ok (.ireturn, 1) := by decide +kernel
theorem dX4_judge_60 : decode cX4_judge 60 = .ok (.aload_n 0, 1) := by decide +kernel
theorem dX4_judge_61 : decode cX4_judge 61 = .ok (.getfield 12, 3) := by decide +kernel
theorem dX4_judge_64 : decode cX4_judge 64 = .ok (.iconst 0, 1) := by decide +kernel
theorem dX4_judge_65 : decode cX4_judge 65 = .ok (.iload_n 3, 1) := by decide +kernel
theorem dX4_judge_66 : decode cX4_judge 66 = .ok (.iload 4, 2) := by decide +kernel
theorem dX4_judge_68 : decode cX4_judge 68 = .ok (.invokevirtual 110, 3) := by decide +kernel
theorem dX4_judge_71 : decode cX4_judge 71 = .ok (.istore_n 3, 1) := by decide +kernel
theorem dX4_judge_72 : decode cX4_judge 72 = .ok (.iinc 4 1, 3) := by decide +kernel
theorem dX4_judge_75 : decode cX4_judge 75 = .ok (.goto (-50), 3) := by decide +kernel
theorem dX4_judge_78 : decode cX4_judge 78 = .ok (.iconst 0, 1) := by decide +kernel
theorem dX4_judge_79 : decode cX4_judge 79 = .ok (.ireturn, 1) := by decide +kernel
theorem dX4_wrongSheet_0 : decode cX4_wrongSheet 0 = .ok (.iload_n 1, 1) := by decide +kernel
theorem dX4_wrongSheet_1 : decode cX4_wrongSheet 1 = .ok (.invokestatic 272, 3) := by decide +kernel
theorem dX4_wrongSheet_4 : decode cX4_wrongSheet 4 = .ok (.ifCond .ne 10, 3) := by decide +kernel
theorem dX4_wrongSheet_7 : decode cX4_wrongSheet 7 = .ok (.aload_n 0, 1) := by decide +kernel
theorem dX4_wrongSheet_8 : decode cX4_wrongSheet 8 = .ok (.ldc 54, 2) := by decide +kernel
theorem dX4_wrongSheet_10 : decode cX4_wrongSheet 10 = .ok (.invokevirtual 55, 3) := by decide +kernel
theorem dX4_wrongSheet_13 : decode cX4_wrongSheet 13 = .ok (.ireturn, 1) := by decide +kernel
theorem dX4_wrongSheet_14 : decode cX4_wrongSheet 14 = .ok (.aload_n 0, 1) := by decide +kernel
theorem dX4_wrongSheet_15 : decode cX4_wrongSheet 15 = .ok (.getfield 35, 3) := by decide +kernel
theorem dX4_wrongSheet_18 : decode cX4_wrongSheet 18 = .ok (.iload_n 1, 1) := by decide +kernel
theorem dX4_wrongSheet_19 : decode cX4_wrongSheet 19 = .ok (.aaload, 1) := by decide +kernel
theorem dX4_wrongSheet_20 : decode cX4_wrongSheet 20 = .ok (.invokevirtual 282, 3) := by decide +kernel
theorem dX4_wrongSheet_23 : decode cX4_wrongSheet 23 = .ok (.ifCond .eq 13, 3) := by decide +kernel
theorem dX4_wrongSheet_26 : decode cX4_wrongSheet 26 = .ok (.aload_n 0, 1) := by decide +kernel
theorem dX4_wrongSheet_27 : decode cX4_wrongSheet 27 = .ok (.ldc_w 267, 3) := by decide +kernel
theorem dX4_wrongSheet_30 : decode cX4_wrongSheet 30 = .ok (.invokevirtual 55, 3) := by decide +kernel
theorem dX4_wrongSheet_33 : decode cX4_wrongSheet 33 = .ok (.goto 4, 3) := by decide +kernel
theorem dX4_wrongSheet_36 : decode cX4_wrongSheet 36 = .ok (.iconst 0, 1) := by decide +kernel
theorem dX4_wrongSheet_37 : decode cX4_wrongSheet 37 = .ok (.ireturn, 1) := by decide +kernel
theorem dX4_image_0 : decode cX4_image 0 = .ok (.aload_n 0, 1) := by decide +kernel
theorem dX4_image_1 : decode cX4_image 1 = .ok (.getfield 16, 3) := by decide +kernel
theorem dX4_image_4 : decode cX4_image 4 = .ok (.aload_n 0, 1) := by decide +kernel
theorem dX4_image_5 : decode cX4_image 5 = .ok (.getfield 12, 3) := by decide +kernel
theorem dX4_image_8 : decode cX4_image 8 = .ok (.invokevirtual 292, 3) := by decide +kernel
theorem dX4_image_11 : decode cX4_image 11 = .ok (.aload_n 0, 1) := by decide +kernel
theorem dX4_image_12 : decode cX4_image 12 = .ok (.iconst 1, 1) := by decide +kernel
theorem dX4_image_13 : decode cX4_image 13 = .ok (.putfield 296, 3) := by decide +kernel
theorem dX4_image_16 : decode cX4_image 16 = .ok (.iconst 1, 1) := by decide +kernel
theorem dX4_image_17 : decode cX4_image 17 = .ok (.ireturn, 1) := by decide +kernel
theorem dX4_undo_0 : decode cX4_undo 0 = .ok (.aload_n 0, 1) := by decide +kernel
theorem dX4_undo_1 : decode cX4_undo 1 = .ok (.getfield 296, 3) := by decide +kernel
theorem dX4_undo_4 : decode cX4_undo 4 = .ok (.ifCond .ne 10, 3) := by decide +kernel
theorem dX4_undo_7 : decode cX4_undo 7 = .ok (.aload_n 0, 1) := by decide +kernel
theorem dX4_undo_8 : decode cX4_undo 8 = .ok (.ldc 166, 2) := by decide +kernel
theorem dX4_undo_10 : decode cX4_undo 10 = .ok (.invokevirtual 55, 3) := by decide +kernel
theorem dX4_undo_13 : decode cX4_undo 13 = .ok (.ireturn, 1) := by decide +kernel
theorem dX4_undo_14 : decode cX4_undo 14 = .ok (.aload_n 0, 1) := by decide +kernel
theorem dX4_undo_15 : decode cX4_undo 15 = .ok (.getfield 12, 3) := by decide +kernel
theorem dX4_undo_18 : decode cX4_undo 18 = .ok (.aload_n 0, 1) := by decide +kernel
theorem dX4_undo_19 : decode cX4_undo 19 = .ok (.getfield 16, 3) := by decide +kernel
theorem dX4_undo_22 : decode cX4_undo 22 = .ok (.invokevirtual 292, 3) := by decide +kernel
theorem dX4_undo_25 : decode cX4_undo 25 = .ok (.aload_n 0, 1) := by decide +kernel
theorem dX4_undo_26 : decode cX4_undo 26 = .ok (.getfield 12, 3) := by decide +kernel
theorem dX4_undo_29 : decode cX4_undo 29 = .ok (.getfield 136, 3) := by decide +kernel
theorem dX4_undo_32 : decode cX4_undo 32 = .ok (.ireturn, 1) := by decide +kernel
theorem dX4_tear_0 : decode cX4_tear 0 = .ok (.aload_n 0, 1) := by decide +kernel
theorem dX4_tear_1 : decode cX4_tear 1 = .ok (.getfield 296, 3) := by decide +kernel
theorem dX4_tear_4 : decode cX4_tear 4 = .ok (.ifCond .eq 7, 3) := by decide +kernel
theorem dX4_tear_7 : decode cX4_tear 7 = .ok (.iconst 1, 1) := by decide +kernel
theorem dX4_tear_8 : decode cX4_tear 8 = .ok (.goto 4, 3) := by decide +kernel
theorem dX4_tear_11 : decode cX4_tear 11 = .ok (.iconst 0, 1) := by decide +kernel
theorem dX4_tear_12 : decode cX4_tear 12 = .ok (.istore_n 1, 1) := by decide +kernel
theorem dX4_tear_13 : decode cX4_tear 13 = .ok (.aload_n 0, 1) := by decide +kernel
theorem dX4_tear_14 : decode cX4_tear 14 = .ok (.iconst 0, 1) := by decide +kernel
theorem dX4_tear_15 : decode cX4_tear 15 = .ok (.putfield 296, 3) := by decide +kernel
theorem dX4_tear_18 : decode cX4_tear 18 = .ok (.iload_n 1, 1) := by decide +kernel
theorem dX4_tear_19 : decode cX4_tear 19 = .ok (.ireturn, 1) := by decide +kernel
theorem dX4_count_0 : decode cX4_count 0 = .ok (.iload_n 1, 1) := by decide +kernel
theorem dX4_count_1 : decode cX4_count 1 = .ok (.tableswitch 114 0 7 #[47, 55, 63, 71, 82, 90, 98, 106], 47) := by decide +kernel
theorem dX4_count_48 : decode cX4_count 48 = .ok (.aload_n 0, 1) := by decide +kernel
theorem dX4_count_49 : decode cX4_count 49 = .ok (.getfield 12, 3) := by decide +kernel
theorem dX4_count_52 : decode cX4_count 52 = .ok (.getfield 136, 3) := by decide +kernel
theorem dX4_count_55 : decode cX4_count 55 = .ok (.ireturn, 1) := by decide +kernel
theorem dX4_count_56 : decode cX4_count 56 = .ok (.aload_n 0, 1) := by decide +kernel
theorem dX4_count_57 : decode cX4_count 57 = .ok (.getfield 12, 3) := by decide +kernel
theorem dX4_count_60 : decode cX4_count 60 = .ok (.getfield 59, 3) := by decide +kernel
theorem dX4_count_63 : decode cX4_count 63 = .ok (.ireturn, 1) := by decide +kernel
theorem dX4_count_64 : decode cX4_count 64 = .ok (.aload_n 0, 1) := by decide +kernel
theorem dX4_count_65 : decode cX4_count 65 = .ok (.getfield 12, 3) := by decide +kernel
theorem dX4_count_68 : decode cX4_count 68 = .ok (.invokevirtual 160, 3) := by decide +kernel
theorem dX4_count_71 : decode cX4_count 71 = .ok (.ireturn, 1) := by decide +kernel
theorem dX4_count_72 : decode cX4_count 72 = .ok (.aload_n 0, 1) := by decide +kernel
theorem dX4_count_73 : decode cX4_count 73 = .ok (.getfield 12, 3) := by decide +kernel
theorem dX4_count_76 : decode cX4_count 76 = .ok (.invokevirtual 144, 3) := by decide +kernel
theorem dX4_count_79 : decode cX4_count 79 = .ok (.invokestatic 148, 3) := by decide +kernel
theorem dX4_count_82 : decode cX4_count 82 = .ok (.ireturn, 1) := by decide +kernel
theorem dX4_count_83 : decode cX4_count 83 = .ok (.aload_n 0, 1) := by decide +kernel
theorem dX4_count_84 : decode cX4_count 84 = .ok (.getfield 12, 3) := by decide +kernel
theorem dX4_count_87 : decode cX4_count 87 = .ok (.invokevirtual 300, 3) := by decide +kernel
theorem dX4_count_90 : decode cX4_count 90 = .ok (.ireturn, 1) := by decide +kernel
theorem dX4_count_91 : decode cX4_count 91 = .ok (.aload_n 0, 1) := by decide +kernel
theorem dX4_count_92 : decode cX4_count 92 = .ok (.getfield 22, 3) := by decide +kernel
theorem dX4_count_95 : decode cX4_count 95 = .ok (.getfield 246, 3) := by decide +kernel
theorem dX4_count_98 : decode cX4_count 98 = .ok (.ireturn, 1) := by decide +kernel
theorem dX4_count_99 : decode cX4_count 99 = .ok (.aload_n 0, 1) := by decide +kernel
theorem dX4_count_100 : decode cX4_count 100 = .ok (.getfield 12, 3) := by decide +kernel
theorem dX4_count_103 : decode cX4_count 103 = .ok (.getfield 243, 3) := by decide +kernel
theorem dX4_count_106 : decode cX4_count 106 = .ok (.ireturn, 1) := by decide +kernel
theorem dX4_count_107 : decode cX4_count 107 = .ok (.aload_n 0, 1) := by decide +kernel
theorem dX4_count_108 : decode cX4_count 108 = .ok (.getfield 12, 3) := by decide +kernel
theorem dX4_count_111 : decode cX4_count 111 = .ok (.invokevirtual 303, 3) := by decide +kernel
theorem dX4_count_114 : decode cX4_count 114 = .ok (.ireturn, 1) := by decide +kernel
theorem dX4_count_115 : decode cX4_count 115 = .ok (.aload_n 0, 1) := by decide +kernel
theorem dX4_count_116 : decode cX4_count 116 = .ok (.ldc 54, 2) := by decide +kernel
theorem dX4_count_118 : decode cX4_count 118 = .ok (.invokevirtual 55, 3) := by decide +kernel
theorem dX4_count_121 : decode cX4_count 121 = .ok (.ireturn, 1) := by decide +kernel
theorem dX4_status_0 : decode cX4_status 0 = .ok (.iload_n 1, 1) := by decide +kernel
theorem dX4_status_1 : decode cX4_status 1 = .ok (.iconst (-1), 1) := by decide +kernel
theorem dX4_status_2 : decode cX4_status 2 = .ok (.bipush 6, 2) := by decide +kernel
theorem dX4_status_4 : decode cX4_status 4 = .ok (.invokestatic 88, 3) := by decide +kernel
theorem dX4_status_7 : decode cX4_status 7 = .ok (.ifCond .ne 10, 3) := by decide +kernel
theorem dX4_status_10 : decode cX4_status 10 = .ok (.aload_n 0, 1) := by decide +kernel
theorem dX4_status_11 : decode cX4_status 11 = .ok (.ldc 54, 2) := by decide +kernel
theorem dX4_status_13 : decode cX4_status 13 = .ok (.invokevirtual 55, 3) := by decide +kernel
theorem dX4_status_16 : decode cX4_status 16 = .ok (.ireturn, 1) := by decide +kernel
theorem dX4_status_17 : decode cX4_status 17 = .ok (.iload_n 1, 1) := by decide +kernel
theorem dX4_status_18 : decode cX4_status 18 = .ok (.ifCond .lt 10, 3) := by decide +kernel
theorem dX4_status_21 : decode cX4_status 21 = .ok (.aload_n 0, 1) := by decide +kernel
theorem dX4_status_22 : decode cX4_status 22 = .ok (.getfield 39, 3) := by decide +kernel
theorem dX4_status_25 : decode cX4_status 25 = .ok (.iload_n 1, 1) := by decide +kernel
theorem dX4_status_26 : decode cX4_status 26 = .ok (.iaload, 1) := by decide +kernel
theorem dX4_status_27 : decode cX4_status 27 = .ok (.ireturn, 1) := by decide +kernel
theorem dX4_status_28 : decode cX4_status 28 = .ok (.iconst 0, 1) := by decide +kernel
theorem dX4_status_29 : decode cX4_status 29 = .ok (.istore_n 2, 1) := by decide +kernel
theorem dX4_status_30 : decode cX4_status 30 = .ok (.iconst 0, 1) := by decide +kernel
theorem dX4_status_31 : decode cX4_status 31 = .ok (.istore_n 3, 1) := by decide +kernel
theorem dX4_status_32 : decode cX4_status 32 = .ok (.iload_n 3, 1) := by decide +kernel
theorem dX4_status_33 : decode cX4_status 33 = .ok (.bipush 7, 2) := by decide +kernel
theorem dX4_status_35 : decode cX4_status 35 = .ok (.if_icmp .ge 18, 3) := by decide +kernel
theorem dX4_status_38 : decode cX4_status 38 = .ok (.iload_n 2, 1) := by decide +kernel
theorem dX4_status_39 : decode cX4_status 39 = .ok (.aload_n 0, 1) := by decide +kernel
theorem dX4_status_40 : decode cX4_status 40 = .ok (.getfield 39, 3) := by decide +kernel
theorem dX4_status_43 : decode cX4_status 43 = .ok (.iload_n 3, 1) := by decide +kernel
theorem dX4_status_44 : decode cX4_status 44 = .ok (.iaload, 1) := by decide +kernel
theorem dX4_status_45 : decode cX4_status 45 = .ok (.iadd, 1) := by decide +kernel
theorem dX4_status_46 : decode cX4_status 46 = .ok (.istore_n 2, 1) := by decide +kernel
theorem dX4_status_47 : decode cX4_status 47 = .ok (.iinc 3 1, 3) := by decide +kernel
theorem dX4_status_50 : decode cX4_status 50 = .ok (.goto (-18), 3) := by decide +kernel
theorem dX4_status_53 : decode cX4_status 53 = .ok (.iload_n 2, 1) := by decide +kernel
theorem dX4_status_54 : decode cX4_status 54 = .ok (.ireturn, 1) := by decide +kernel
theorem dX4_finding_0 : decode cX4_finding 0 = .ok (.ldc 54, 2) := by decide +kernel
theorem dX4_finding_2 : decode cX4_finding 2 = .ok (.iload_n 1, 1) := by decide +kernel
theorem dX4_finding_3 : decode cX4_finding 3 = .ok (.isub, 1) := by decide +kernel
theorem dX4_finding_4 : decode cX4_finding 4 = .ok (.istore_n 2, 1) := by decide +kernel
theorem dX4_finding_5 : decode cX4_finding 5 = .ok (.iload_n 2, 1) := by decide +kernel
theorem dX4_finding_6 : decode cX4_finding 6 = .ok (.ifCond .lt 19, 3) := by decide +kernel
theorem dX4_finding_9 : decode cX4_finding 9 = .ok (.iload_n 2, 1) := by decide +kernel
theorem dX4_finding_10 : decode cX4_finding 10 = .ok (.bipush 7, 2) := by decide +kernel
theorem dX4_finding_12 : decode cX4_finding 12 = .ok (.if_icmp .ge 13, 3) := by decide +kernel
theorem dX4_finding_15 : decode cX4_finding 15 = .ok (.aload_n 0, 1) := by decide +kernel
theorem dX4_finding_16 : decode cX4_finding 16 = .ok (.getfield 39, 3) := by decide +kernel
theorem dX4_finding_19 : decode cX4_finding 19 = .ok (.iload_n 2, 1) := by decide +kernel
theorem dX4_finding_20 : decode cX4_finding 20 = .ok (.dup2, 1) := by decide +kernel
theorem dX4_finding_21 : decode cX4_finding 21 = .ok (.iaload, 1) := by decide +kernel
theorem dX4_finding_22 : decode cX4_finding 22 = .ok (.iconst 1, 1) := by decide +kernel
theorem dX4_finding_23 : decode cX4_finding 23 = .ok (.iadd, 1) := by decide +kernel
theorem dX4_finding_24 : decode cX4_finding 24 = .ok (.iastore, 1) := by decide +kernel
theorem dX4_finding_25 : decode cX4_finding 25 = .ok (.iload_n 1, 1) := by decide +kernel
theorem dX4_finding_26 : decode cX4_finding 26 = .ok (.ireturn, 1) := by decide +kernel
theorem dX4_isCat_0 : decode cX4_isCat 0 = .ok (.iload_n 1, 1) := by decide +kernel
theorem dX4_isCat_1 : decode cX4_isCat 1 = .ok (.iconst 0, 1) := by decide +kernel
theorem dX4_isCat_2 : decode cX4_isCat 2 = .ok (.aload_n 0, 1) := by decide +kernel
theorem dX4_isCat_3 : decode cX4_isCat 3 = .ok (.getfield 12, 3) := by decide +kernel
theorem dX4_isCat_6 : decode cX4_isCat 6 = .ok (.getfield 59, 3) := by decide +kernel
theorem dX4_isCat_9 : decode cX4_isCat 9 = .ok (.iconst 1, 1) := by decide +kernel
theorem dX4_isCat_10 : decode cX4_isCat 10 = .ok (.isub, 1) := by decide +kernel
theorem dX4_isCat_11 : decode cX4_isCat 11 = .ok (.invokestatic 88, 3) := by decide +kernel
theorem dX4_isCat_14 : decode cX4_isCat 14 = .ok (.ireturn, 1) := by decide +kernel
theorem dX4_isSetOfCats_0 : decode cX4_isSetOfCats 0 = .ok (.iload_n 1, 1) := by decide +kernel
theorem dX4_isSetOfCats_1 : decode cX4_isSetOfCats 1 = .ok (.iconst 0, 1) := by decide +kernel
theorem dX4_isSetOfCats_2 : decode cX4_isSetOfCats 2 = .ok (.iconst 1, 1) := by decide +kernel
theorem dX4_isSetOfCats_3 : decode cX4_isSetOfCats 3 = .ok (.aload_n 0, 1) := by decide +kernel
theorem dX4_isSetOfCats_4 : decode cX4_isSetOfCats 4 = .ok (.getfield 12, 3) := by decide +kernel
theorem dX4_isSetOfCats_7 : decode cX4_isSetOfCats 7 = .ok (.getfield 59, 3) := by decide +kernel
theorem dX4_isSetOfCats_10 : decode cX4_isSetOfCats 10 = .ok (.ishl, 1) := by decide +kernel
theorem dX4_isSetOfCats_11 : decode cX4_isSetOfCats 11 = .ok (.iconst 1, 1) := by decide +kernel
theorem dX4_isSetOfCats_12 : decode cX4_isSetOfCats 12 = .ok (.isub, 1) := by decide +kernel
theorem dX4_isSetOfCats_13 : decode cX4_isSetOfCats 13 = .ok (.invokestatic 88, 3) := by decide +kernel
theorem dX4_isSetOfCats_16 : decode cX4_isSetOfCats 16 = .ok (.ireturn, 1) := by decide +kernel
theorem dX4_isShip_0 : decode cX4_isShip 0 = .ok (.iload_n 0, 1) := by decide +kernel
theorem dX4_isShip_1 : decode cX4_isShip 1 = .ok (.iconst 0, 1) := by decide +kernel
theorem dX4_isShip_2 : decode cX4_isShip 2 = .ok (.iconst 3, 1) := by decide +kernel
theorem dX4_isShip_3 : decode cX4_isShip 3 = .ok (.invokestatic 88, 3) := by decide +kernel
theorem dX4_isShip_6 : decode cX4_isShip 6 = .ok (.ireturn, 1) := by decide +kernel
theorem dX4_isCell_0 : decode cX4_isCell 0 = .ok (.iload_n 0, 1) := by decide +kernel
theorem dX4_isCell_1 : decode cX4_isCell 1 = .ok (.iconst 0, 1) := by decide +kernel
theorem dX4_isCell_2 : decode cX4_isCell 2 = .ok (.bipush 99, 2) := by decide +kernel
theorem dX4_isCell_4 : decode cX4_isCell 4 = .ok (.invokestatic 88, 3) := by decide +kernel
theorem dX4_isCell_7 : decode cX4_isCell 7 = .ok (.ireturn, 1) := by decide +kernel
theorem dX4_isKind_0 : decode cX4_isKind 0 = .ok (.iload_n 0, 1) := by decide +kernel
theorem dX4_isKind_1 : decode cX4_isKind 1 = .ok (.iconst 0, 1) := by decide +kernel
theorem dX4_isKind_2 : decode cX4_isKind 2 = .ok (.bipush 6, 2) := by decide +kernel
theorem dX4_isKind_4 : decode cX4_isKind 4 = .ok (.invokestatic 88, 3) := by decide +kernel
theorem dX4_isKind_7 : decode cX4_isKind 7 = .ok (.ireturn, 1) := by decide +kernel
theorem dX4_isSpot_0 : decode cX4_isSpot 0 = .ok (.iload_n 0, 1) := by decide +kernel
theorem dX4_isSpot_1 : decode cX4_isSpot 1 = .ok (.iconst 0, 1) := by decide +kernel
theorem dX4_isSpot_2 : decode cX4_isSpot 2 = .ok (.bipush 9, 2) := by decide +kernel
theorem dX4_isSpot_4 : decode cX4_isSpot 4 = .ok (.invokestatic 88, 3) := by decide +kernel
theorem dX4_isSpot_7 : decode cX4_isSpot 7 = .ok (.ireturn, 1) := by decide +kernel
theorem dX4_isSheet_0 : decode cX4_isSheet 0 = .ok (.iload_n 0, 1) := by decide +kernel
theorem dX4_isSheet_1 : decode cX4_isSheet 1 = .ok (.iconst 0, 1) := by decide +kernel
theorem dX4_isSheet_2 : decode cX4_isSheet 2 = .ok (.iconst 3, 1) := by decide +kernel
theorem dX4_isSheet_3 : decode cX4_isSheet 3 = .ok (.invokestatic 88, 3) := by decide +kernel
theorem dX4_isSheet_6 : decode cX4_isSheet 6 = .ok (.ireturn, 1) := by decide +kernel
theorem dX4_isWithin_0 : decode cX4_isWithin 0 = .ok (.iload_n 0, 1) := by decide +kernel
theorem dX4_isWithin_1 : decode cX4_isWithin 1 = .ok (.iload_n 1, 1) := by decide +kernel
theorem dX4_isWithin_2 : decode cX4_isWithin 2 = .ok (.if_icmp .lt 12, 3) := by decide +kernel
theorem dX4_isWithin_5 : decode cX4_isWithin 5 = .ok (.iload_n 0, 1) := by decide +kernel
theorem dX4_isWithin_6 : decode cX4_isWithin 6 = .ok (.iload_n 2, 1) := by decide +kernel
theorem dX4_isWithin_7 : decode cX4_isWithin 7 = .ok (.if_icmp .gt 7, 3) := by decide +kernel
theorem dX4_isWithin_10 : decode cX4_isWithin 10 = .ok (.iconst 1, 1) := by decide +kernel
theorem dX4_isWithin_11 : decode cX4_isWithin 11 = .ok (.goto 4, 3) := by decide +kernel
theorem dX4_isWithin_14 : decode cX4_isWithin 14 = .ok (.iconst 0, 1) := by decide +kernel
theorem dX4_isWithin_15 : decode cX4_isWithin 15 = .ok (.ireturn, 1) := by decide +kernel
theorem dX4_isIn_0 : decode cX4_isIn 0 = .ok (.iload_n 0, 1) := by decide +kernel
theorem dX4_isIn_1 : decode cX4_isIn 1 = .ok (.iload_n 1, 1) := by decide +kernel
theorem dX4_isIn_2 : decode cX4_isIn 2 = .ok (.ishr, 1) := by decide +kernel
theorem dX4_isIn_3 : decode cX4_isIn 3 = .ok (.iconst 1, 1) := by decide +kernel
theorem dX4_isIn_4 : decode cX4_isIn 4 = .ok (.iand, 1) := by decide +kernel
theorem dX4_isIn_5 : decode cX4_isIn 5 = .ok (.iconst 1, 1) := by decide +kernel
theorem dX4_isIn_6 : decode cX4_isIn 6 = .ok (.if_icmp .ne 7, 3) := by decide +kernel
theorem dX4_isIn_9 : decode cX4_isIn 9 = .ok (.iconst 1, 1) := by decide +kernel
theorem dX4_isIn_10 : decode cX4_isIn 10 = .ok (.goto 4, 3) := by decide +kernel
theorem dX4_isIn_13 : decode cX4_isIn 13 = .ok (.iconst 0, 1) := by decide +kernel
theorem dX4_isIn_14 : decode cX4_isIn 14 = .ok (.ireturn, 1) := by decide +kernel
theorem dX4_put_0 : decode cX4_put 0 = .ok (.aload_n 0, 1) := by decide +kernel
theorem dX4_put_1 : decode cX4_put 1 = .ok (.iload_n 1, 1) := by decide +kernel
theorem dX4_put_2 : decode cX4_put 2 = .ok (.iaload, 1) := by decide +kernel
theorem dX4_put_3 : decode cX4_put 3 = .ok (.istore_n 3, 1) := by decide +kernel
theorem dX4_put_4 : decode cX4_put 4 = .ok (.aload_n 0, 1) := by decide +kernel
theorem dX4_put_5 : decode cX4_put 5 = .ok (.iload_n 1, 1) := by decide +kernel
theorem dX4_put_6 : decode cX4_put 6 = .ok (.iload_n 2, 1) := by decide +kernel
theorem dX4_put_7 : decode cX4_put 7 = .ok (.iastore, 1) := by decide +kernel
theorem dX4_put_8 : decode cX4_put 8 = .ok (.iload_n 3, 1) := by decide +kernel
theorem dX4_put_9 : decode cX4_put 9 = .ok (.ireturn, 1) := by decide +kernel
theorem dX4_course_0 : decode cX4_course 0 = .ok (.iload_n 0, 1) := by decide +kernel
theorem dX4_course_1 : decode cX4_course 1 = .ok (.iload_n 1, 1) := by decide +kernel
theorem dX4_course_2 : decode cX4_course 2 = .ok (.iadd, 1) := by decide +kernel
theorem dX4_course_3 : decode cX4_course 3 = .ok (.bipush 32, 2) := by decide +kernel
theorem dX4_course_5 : decode cX4_course 5 = .ok (.invokestatic 306, 3) := by decide +kernel
theorem dX4_course_8 : decode cX4_course 8 = .ok (.ireturn, 1) := by decide +kernel
theorem dX4_heading_0 : decode cX4_heading 0 = .ok (.iload_n 0, 1) := by decide +kernel
theorem dX4_heading_1 : decode cX4_heading 1 = .ok (.iconst 2, 1) := by decide +kernel
theorem dX4_heading_2 : decode cX4_heading 2 = .ok (.iadd, 1) := by decide +kernel
theorem dX4_heading_3 : decode cX4_heading 3 = .ok (.iconst 4, 1) := by decide +kernel
theorem dX4_heading_4 : decode cX4_heading 4 = .ok (.idiv, 1) := by decide +kernel
theorem dX4_heading_5 : decode cX4_heading 5 = .ok (.bipush 8, 2) := by decide +kernel
theorem dX4_heading_7 : decode cX4_heading 7 = .ok (.irem, 1) := by decide +kernel
theorem dX4_heading_8 : decode cX4_heading 8 = .ok (.ireturn, 1) := by decide +kernel
theorem dX4_beside_0 : decode cX4_beside 0 = .ok (.iload_n 0, 1) := by decide +kernel
theorem dX4_beside_1 : decode cX4_beside 1 = .ok (.bipush 10, 2) := by decide +kernel
theorem dX4_beside_3 : decode cX4_beside 3 = .ok (.idiv, 1) := by decide +kernel
theorem dX4_beside_4 : decode cX4_beside 4 = .ok (.getstatic 309, 3) := by decide +kernel
theorem dX4_beside_7 : decode cX4_beside 7 = .ok (.iload_n 1, 1) := by decide +kernel
theorem dX4_beside_8 : decode cX4_beside 8 = .ok (.iaload, 1) := by decide +kernel
theorem dX4_beside_9 : decode cX4_beside 9 = .ok (.iadd, 1) := by decide +kernel
theorem dX4_beside_10 : decode cX4_beside 10 = .ok (.istore_n 2, 1) := by decide +kernel
theorem dX4_beside_11 : decode cX4_beside 11 = .ok (.iload_n 0, 1) := by decide +kernel
theorem dX4_beside_12 : decode cX4_beside 12 = .ok (.bipush 10, 2) := by decide +kernel
theorem dX4_beside_14 : decode cX4_beside 14 = .ok (.irem, 1) := by decide +kernel
theorem dX4_beside_15 : decode cX4_beside 15 = .ok (.getstatic 312, 3) := by decide +kernel
theorem dX4_beside_18 : decode cX4_beside 18 = .ok (.iload_n 1, 1) := by decide +kernel
theorem dX4_beside_19 : decode cX4_beside 19 = .ok (.iaload, 1) := by decide +kernel
theorem dX4_beside_20 : decode cX4_beside 20 = .ok (.iadd, 1) := by decide +kernel
theorem dX4_beside_21 : decode cX4_beside 21 = .ok (.istore_n 3, 1) := by decide +kernel
theorem dX4_beside_22 : decode cX4_beside 22 = .ok (.iload_n 2, 1) := by decide +kernel
theorem dX4_beside_23 : decode cX4_beside 23 = .ok (.iconst 0, 1) := by decide +kernel
theorem dX4_beside_24 : decode cX4_beside 24 = .ok (.bipush 9, 2) := by decide +kernel
theorem dX4_beside_26 : decode cX4_beside 26 = .ok (.invokestatic 88, 3) := by decide +kernel
theorem dX4_beside_29 : decode cX4_beside 29 = .ok (.ifCond .eq 13, 3) := by decide +kernel
theorem dX4_beside_32 : decode cX4_beside 32 = .ok (.iload_n 3, 1) := by decide +kernel
theorem dX4_beside_33 : decode cX4_beside 33 = .ok (.iconst 0, 1) := by decide +kernel
theorem dX4_beside_34 : decode cX4_beside 34 = .ok (.bipush 9, 2) := by decide +kernel
theorem dX4_beside_36 : decode cX4_beside 36 = .ok (.invokestatic 88, 3) := by decide +kernel
theorem dX4_beside_39 : decode cX4_beside 39 = .ok (.ifCond .ne 5, 3) := by decide +kernel
theorem dX4_beside_42 : decode cX4_beside 42 = .ok (.iload_n 0, 1) := by decide +kernel
theorem dX4_beside_43 : decode cX4_beside 43 = .ok (.ireturn, 1) := by decide +kernel
theorem dX4_beside_44 : decode cX4_beside 44 = .ok (.iload_n 2, 1) := by decide +kernel
theorem dX4_beside_45 : decode cX4_beside 45 = .ok (.bipush 10, 2) := by decide +kernel
theorem dX4_beside_47 : decode cX4_beside 47 = .ok (.imul, 1) := by decide +kernel
theorem dX4_beside_48 : decode cX4_beside 48 = .ok (.iload_n 3, 1) := by decide +kernel
theorem dX4_beside_49 : decode cX4_beside 49 = .ok (.iadd, 1) := by decide +kernel
theorem dX4_beside_50 : decode cX4_beside 50 = .ok (.ireturn, 1) := by decide +kernel
theorem dX4_distance_0 : decode cX4_distance 0 = .ok (.iload_n 0, 1) := by decide +kernel
theorem dX4_distance_1 : decode cX4_distance 1 = .ok (.bipush 10, 2) := by decide +kernel
theorem dX4_distance_3 : decode cX4_distance 3 = .ok (.idiv, 1) := by decide +kernel
theorem dX4_distance_4 : decode cX4_distance 4 = .ok (.iload_n 1, 1) := by decide +kernel
theorem dX4_distance_5 : decode cX4_distance 5 = .ok (.bipush 10, 2) := by decide +kernel
theorem dX4_distance_7 : decode cX4_distance 7 = .ok (.idiv, 1) := by decide +kernel
theorem dX4_distance_8 : decode cX4_distance 8 = .ok (.isub, 1) := by decide +kernel
theorem dX4_distance_9 : decode cX4_distance 9 = .ok (.invokestatic 201, 3) := by decide +kernel
theorem dX4_distance_12 : decode cX4_distance 12 = .ok (.iload_n 0, 1) := by decide +kernel
theorem dX4_distance_13 : decode cX4_distance 13 = .ok (.bipush 10, 2) := by decide +kernel
theorem dX4_distance_15 : decode cX4_distance 15 = .ok (.irem, 1) := by decide +kernel
theorem dX4_distance_16 : decode cX4_distance 16 = .ok (.iload_n 1, 1) := by decide +kernel
theorem dX4_distance_17 : decode cX4_distance 17 = .ok (.bipush 10, 2) := by decide +kernel
theorem dX4_distance_19 : decode cX4_distance 19 = .ok (.irem, 1) := by decide +kernel
theorem dX4_distance_20 : decode cX4_distance 20 = .ok (.isub, 1) := by decide +kernel
theorem dX4_distance_21 : decode cX4_distance 21 = .ok (.invokestatic 201, 3) := by decide +kernel
theorem dX4_distance_24 : decode cX4_distance 24 = .ok (.iadd, 1) := by decide +kernel
theorem dX4_distance_25 : decode cX4_distance 25 = .ok (.ireturn, 1) := by decide +kernel
theorem dX4_isOrUnder_0 : decode cX4_isOrUnder 0 = .ok (.iload_n 0, 1) := by decide +kernel
theorem dX4_isOrUnder_1 : decode cX4_isOrUnder 1 = .ok (.istore_n 2, 1) := by decide +kernel
theorem dX4_isOrUnder_2 : decode cX4_isOrUnder 2 = .ok (.iconst 0, 1) := by decide +kernel
theorem dX4_isOrUnder_3 : decode cX4_isOrUnder 3 = .ok (.istore_n 3, 1) := by decide +kernel
theorem dX4_isOrUnder_4 : decode cX4_isOrUnder 4 = .ok (.iload_n 3, 1) := by decide +kernel
theorem dX4_isOrUnder_5 : decode cX4_isOrUnder 5 = .ok (.bipush 7, 2) := by decide +kernel
theorem dX4_isOrUnder_7 : decode cX4_isOrUnder 7 = .ok (.if_icmp .ge 26, 3) := by decide +kernel
theorem dX4_isOrUnder_10 : decode cX4_isOrUnder 10 = .ok (.iload_n 2, 1) := by decide +kernel
theorem dX4_isOrUnder_11 : decode cX4_isOrUnder 11 = .ok (.ifCond .lt 22, 3) := by decide +kernel
theorem dX4_isOrUnder_14 : decode cX4_isOrUnder 14 = .ok (.iload_n 2, 1) := by decide +kernel
theorem dX4_isOrUnder_15 : decode cX4_isOrUnder 15 = .ok (.iload_n 1, 1) := by decide +kernel
theorem dX4_isOrUnder_16 : decode cX4_isOrUnder 16 = .ok (.if_icmp .ne 5, 3) := by decide +kernel
theorem dX4_isOrUnder_19 : decode cX4_isOrUnder 19 = .ok (.iconst 1, 1) := by decide +kernel
theorem dX4_isOrUnder_20 : decode cX4_isOrUnder 20 = .ok (.ireturn, 1) := by decide +kernel
theorem dX4_isOrUnder_21 : decode cX4_isOrUnder 21 = .ok (.getstatic 315, 3) := by decide +kernel
theorem dX4_isOrUnder_24 : decode cX4_isOrUnder 24 = .ok (.iload_n 2, 1) := by decide +kernel
theorem dX4_isOrUnder_25 : decode cX4_isOrUnder 25 = .ok (.iaload, 1) := by decide +kernel
theorem dX4_isOrUnder_26 : decode cX4_isOrUnder 26 = .ok (.istore_n 2, 1) := by decide +kernel
theorem dX4_isOrUnder_27 : decode cX4_isOrUnder 27 = .ok (.iinc 3 1, 3) := by decide +kernel
theorem dX4_isOrUnder_30 : decode cX4_isOrUnder 30 = .ok (.goto (-26), 3) := by decide +kernel
theorem dX4_isOrUnder_33 : decode cX4_isOrUnder 33 = .ok (.iconst 0, 1) := by decide +kernel
theorem dX4_isOrUnder_34 : decode cX4_isOrUnder 34 = .ok (.ireturn, 1) := by decide +kernel
