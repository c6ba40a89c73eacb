theorem dX0_init_0 : decode cX0_init 0 = .ok (.aload_n 0, 1) := by decide +kernel
theorem dX0_init_1 : decode cX0_init 1 = .ok (.invokespecial 3, 3) := by decide +kernel
theorem dX0_init_4 : decode cX0_init 4 = .ok (.aload_n 0, 1) := by decide +kernel
theorem dX0_init_5 : decode cX0_init 5 = .ok (.bipush 8, 2) := by decide +kernel
theorem dX0_init_7 : decode cX0_init 7 = .ok (.newarray .int, 2) := by decide +kernel
theorem dX0_init_9 : decode cX0_init 9 = .ok (.putfield 9, 3) := by decide +kernel
theorem dX0_init_12 : decode cX0_init 12 = .ok (.aload_n 0, 1) := by decide +kernel
theorem dX0_init_13 : decode cX0_init 13 = .ok (.bipush 8, 2) := by decide +kernel
theorem dX0_init_15 : decode cX0_init 15 = .ok (.newarray .int, 2) := by decide +kernel
theorem dX0_init_17 : decode cX0_init 17 = .ok (.putfield 15, 3) := by decide +kernel
theorem dX0_init_20 : decode cX0_init 20 = .ok (.aload_n 0, 1) := by decide +kernel
theorem dX0_init_21 : decode cX0_init 21 = .ok (.bipush 8, 2) := by decide +kernel
theorem dX0_init_23 : decode cX0_init 23 = .ok (.newarray .int, 2) := by decide +kernel
theorem dX0_init_25 : decode cX0_init 25 = .ok (.putfield 18, 3) := by decide +kernel
theorem dX0_init_28 : decode cX0_init 28 = .ok (.aload_n 0, 1) := by decide +kernel
theorem dX0_init_29 : decode cX0_init 29 = .ok (.iconst 4, 1) := by decide +kernel
theorem dX0_init_30 : decode cX0_init 30 = .ok (.newarray .int, 2) := by decide +kernel
theorem dX0_init_32 : decode cX0_init 32 = .ok (.putfield 21, 3) := by decide +kernel
theorem dX0_init_35 : decode cX0_init 35 = .ok (.aload_n 0, 1) := by decide +kernel
theorem dX0_init_36 : decode cX0_init 36 = .ok (.iconst 4, 1) := by decide +kernel
theorem dX0_init_37 : decode cX0_init 37 = .ok (.newarray .int, 2) := by decide +kernel
theorem dX0_init_39 : decode cX0_init 39 = .ok (.putfield 24, 3) := by decide +kernel
theorem dX0_init_42 : decode cX0_init 42 = .ok (.aload_n 0, 1) := by decide +kernel
theorem dX0_init_43 : decode cX0_init 43 = .ok (.iconst 4, 1) := by decide +kernel
theorem dX0_init_44 : decode cX0_init 44 = .ok (.newarray .int, 2) := by decide +kernel
theorem dX0_init_46 : decode cX0_init 46 = .ok (.putfield 27, 3) := by decide +kernel
theorem dX0_init_49 : decode cX0_init 49 = .ok (.aload_n 0, 1) := by decide +kernel
theorem dX0_init_50 : decode cX0_init 50 = .ok (.bipush 100, 2) := by decide +kernel
theorem dX0_init_52 : decode cX0_init 52 = .ok (.newarray .boolean, 2) := by decide +kernel
theorem dX0_init_54 : decode cX0_init 54 = .ok (.putfield 30, 3) := by decide +kernel
theorem dX0_init_57 : decode cX0_init 57 = .ok (.aload_n 0, 1) := by decide +kernel
theorem dX0_init_58 : decode cX0_init 58 = .ok (.bipush 100, 2) := by decide +kernel
theorem dX0_init_60 : decode cX0_init 60 = .ok (.putfield 34, 3) := by decide +kernel
theorem dX0_init_63 : decode cX0_init 63 = .ok (.aload_n 0, 1) := by decide +kernel
theorem dX0_init_64 : decode cX0_init 64 = .ok (.iconst 1, 1) := by decide +kernel
theorem dX0_init_65 : decode cX0_init 65 = .ok (.putfield 38, 3) := by decide +kernel
theorem dX0_init_68 : decode cX0_init 68 = .ok (.aload_n 0, 1) := by decide +kernel
theorem dX0_init_69 : decode cX0_init 69 = .ok (.bipush 10, 2) := by decide +kernel
theorem dX0_init_71 : decode cX0_init 71 = .ok (.newarray .int, 2) := by decide +kernel
theorem dX0_init_73 : decode cX0_init 73 = .ok (.putfield 41, 3) := by decide +kernel
theorem dX0_init_76 : decode cX0_init 76 = .ok (.aload_n 0, 1) := by decide +kernel
theorem dX0_init_77 : decode cX0_init 77 = .ok (.getfield 41, 3) := by decide +kernel
theorem dX0_init_80 : decode cX0_init 80 = .ok (.iconst (-1), 1) := by decide +kernel
theorem dX0_init_81 : decode cX0_init 81 = .ok (.invokestatic 44, 3) := by decide +kernel
theorem dX0_init_84 : decode cX0_init 84 = .ok (.return_, 1) := by decide +kernel
theorem dX0_become_0 : decode cX0_become 0 = .ok (.aload_n 0, 1) := by decide +kernel
theorem dX0_become_1 : decode cX0_become 1 = .ok (.aload_n 1, 1) := by decide +kernel
theorem dX0_become_2 : decode cX0_become 2 = .ok (.getfield 50, 3) := by decide +kernel
theorem dX0_become_5 : decode cX0_become 5 = .ok (.putfield 50, 3) := by decide +kernel
theorem dX0_become_8 : decode cX0_become 8 = .ok (.aload_n 1, 1) := by decide +kernel
theorem dX0_become_9 : decode cX0_become 9 = .ok (.getfield 9, 3) := by decide +kernel
theorem dX0_become_12 : decode cX0_become 12 = .ok (.iconst 0, 1) := by decide +kernel
theorem dX0_become_13 : decode cX0_become 13 = .ok (.aload_n 0, 1) := by decide +kernel
theorem dX0_become_14 : decode cX0_become 14 = .ok (.getfield 9, 3) := by decide +kernel
theorem dX0_become_17 : decode cX0_become 17 = .ok (.iconst 0, 1) := by decide +kernel
theorem dX0_become_18 : decode cX0_become 18 = .ok (.bipush 8, 2) := by decide +kernel
theorem dX0_become_20 : decode cX0_become 20 = .ok (.invokestatic 53, 3) := by decide +kernel
theorem dX0_become_23 : decode cX0_become 23 = .ok (.aload_n 1, 1) := by decide +kernel
theorem dX0_become_24 : decode cX0_become 24 = .ok (.getfield 15, 3) := by decide +kernel
theorem dX0_become_27 : decode cX0_become 27 = .ok (.iconst 0, 1) := by decide +kernel
theorem dX0_become_28 : decode cX0_become 28 = .ok (.aload_n 0, 1) := by decide +kernel
theorem dX0_become_29 : decode cX0_become 29 = .ok (.getfield 15, 3) := by decide +kernel
theorem dX0_become_32 : decode cX0_become 32 = .ok (.iconst 0, 1) := by decide +kernel
theorem dX0_become_33 : decode cX0_become 33 = .ok (.bipush 8, 2) := by decide +kernel
theorem dX0_become_35 : decode cX0_become 35 = .ok (.invokestatic 53, 3) := by decide +kernel
theorem dX0_become_38 : decode cX0_become 38 = .ok (.aload_n 1, 1) := by decide +kernel
theorem dX0_become_39 : decode cX0_become 39 = .ok (.getfield 18, 3) := by decide +kernel
theorem dX0_become_42 : decode cX0_become 42 = .ok (.iconst 0, 1) := by decide +kernel
theorem dX0_become_43 : decode cX0_become 43 = .ok (.aload_n 0, 1) := by decide +kernel
theorem dX0_become_44 : decode cX0_become 44 = .ok (.getfield 18, 3) := by decide +kernel
theorem dX0_become_47 : decode cX0_become 47 = .ok (.iconst 0, 1) := by decide +kernel
theorem dX0_become_48 : decode cX0_become 48 = .ok (.bipush 8, 2) := by decide +kernel
theorem dX0_become_50 : decode cX0_become 50 = .ok (.invokestatic 53, 3) := by decide +kernel
theorem dX0_become_53 : decode cX0_become 53 = .ok (.aload_n 1, 1) := by decide +kernel
theorem dX0_become_54 : decode cX0_become 54 = .ok (.getfield 21, 3) := by decide +kernel
theorem dX0_become_57 : decode cX0_become 57 = .ok (.iconst 0, 1) := by decide +kernel
theorem dX0_become_58 : decode cX0_become 58 = .ok (.aload_n 0, 1) := by decide +kernel
theorem dX0_become_59 : decode cX0_become 59 = .ok (.getfield 21, 3) := by decide +kernel
theorem dX0_become_62 : decode cX0_become 62 = .ok (.iconst 0, 1) := by decide +kernel
theorem dX0_become_63 : decode cX0_become 63 = .ok (.iconst 4, 1) := by decide +kernel
theorem dX0_become_64 : decode cX0_become 64 = .ok (.invokestatic 53, 3) := by decide +kernel
theorem dX0_become_67 : decode cX0_become 67 = .ok (.aload_n 1, 1) := by decide +kernel
theorem dX0_become_68 : decode cX0_become 68 = .ok (.getfield 24, 3) := by decide +kernel
theorem dX0_become_71 : decode cX0_become 71 = .ok (.iconst 0, 1) := by decide +kernel
theorem dX0_become_72 : decode cX0_become 72 = .ok (.aload_n 0, 1) := by decide +kernel
theorem dX0_become_73 : decode cX0_become 73 = .ok (.getfield 24, 3) := by decide +kernel
theorem dX0_become_76 : decode cX0_become 76 = .ok (.iconst 0, 1) := by decide +kernel
theorem dX0_become_77 : decode cX0_become 77 = .ok (.iconst 4, 1) := by decide +kernel
theorem dX0_become_78 : decode cX0_become 78 = .ok (.invokestatic 53, 3) := by decide +kernel
theorem dX0_become_81 : decode cX0_become 81 = .ok (.aload_n 1, 1) := by decide +kernel
theorem dX0_become_82 : decode cX0_become 82 = .ok (.getfield 27, 3) := by decide +kernel
theorem dX0_become_85 : decode cX0_become 85 = .ok (.iconst 0, 1) := by decide +kernel
theorem dX0_become_86 : decode cX0_become 86 = .ok (.aload_n 0, 1) := by decide +kernel
theorem dX0_become_87 : decode cX0_become 87 = .ok (.getfield 27, 3) := by decide +kernel
theorem dX0_become_90 : decode cX0_become 90 = .ok (.iconst 0, 1) := by decide +kernel
theorem dX0_become_91 : decode cX0_become 91 = .ok (.iconst 4, 1) := by decide +kernel
theorem dX0_become_92 : decode cX0_become 92 = .ok (.invokestatic 53, 3) := by decide +kernel
theorem dX0_become_95 : decode cX0_become 95 = .ok (.iconst 0, 1) := by decide +kernel
theorem dX0_become_96 : decode cX0_become 96 = .ok (.istore_n 2, 1) := by decide +kernel
theorem dX0_become_97 : decode cX0_become 97 = .ok (.iload_n 2, 1) := by decide +kernel
theorem dX0_become_98 : decode cX0_become 98 = .ok (.bipush 100, 2) := by decide +kernel
theorem dX0_become_100 : decode cX0_become 100 = .ok (.if_icmp .ge 21, 3) := by decide +kernel
theorem dX0_become_103 : decode cX0_become 103 = .ok (.aload_n 0, 1) := by decide +kernel
theorem dX0_become_104 : decode cX0_become 104 = .ok (.getfield 30, 3) := by decide +kernel
theorem dX0_become_107 : decode cX0_become 107 = .ok (.iload_n 2, 1) := by decide +kernel
theorem dX0_become_108 : decode cX0_become 108 = .ok (.aload_n 1, 1) := by decide +kernel
theorem dX0_become_109 : decode cX0_become 109 = .ok (.getfield 30, 3) := by decide +kernel
theorem dX0_become_112 : decode cX0_become 112 = .ok (.iload_n 2, 1) := by decide +kernel
theorem dX0_become_113 : decode cX0_become 113 = .ok (.baload, 1) := by decide +kernel
theorem dX0_become_114 : decode cX0_become 114 = .ok (.bastore, 1) := by decide +kernel
theorem dX0_become_115 : decode cX0_become 115 = .ok (.iinc 2 1, 3) := by decide +kernel
theorem dX0_become_118 : decode cX0_become 118 = .ok (.goto (-21), 3) := by decide +kernel
theorem dX0_become_121 : decode cX0_become 121 = .ok (.aload_n 0, 1) := by decide +kernel
theorem dX0_become_122 : decode cX0_become 122 = .ok (.aload_n 1, 1) := by decide +kernel
theorem dX0_become_123 : decode cX0_become 123 = .ok (.getfield 59, 3) := by decide +kernel
theorem dX0_become_126 : decode cX0_become 126 = .ok (.putfield 59, 3) := by decide +kernel
theorem dX0_become_129 : decode cX0_become 129 = .ok (.aload_n 0, 1) := by decide +kernel
theorem dX0_become_130 : decode cX0_become 130 = .ok (.aload_n 1, 1) := by decide +kernel
theorem dX0_become_131 : decode cX0_become 131 = .ok (.getfield 62, 3) := by decide +kernel
theorem dX0_become_134 : decode cX0_become 134 = .ok (.putfield 62, 3) := by decide +kernel
theorem dX0_become_137 : decode cX0_become 137 = .ok (.aload_n 0, 1) := by decide +kernel
theorem dX0_become_138 : decode cX0_become 138 = .ok (.aload_n 1, 1) := by decide +kernel
theorem dX0_become_139 : decode cX0_become 139 = .ok (.getfield 34, 3) := by decide +kernel
theorem dX0_become_142 : decode cX0_become 142 = .ok (.putfield 34, 3) := by decide +kernel
theorem dX0_become_145 : decode cX0_become 145 = .ok (.aload_n 0, 1) := by decide +kernel
theorem dX0_become_146 : decode cX0_become 146 = .ok (.aload_n 1, 1) := by decide +kernel
theorem dX0_become_147 : decode cX0_become 147 = .ok (.getfield 65, 3) := by decide +kernel
theorem dX0_become_150 : decode cX0_become 150 = .ok (.putfield 65, 3) := by decide +kernel
theorem dX0_become_153 : decode cX0_become 153 = .ok (.aload_n 0, 1) := by decide +kernel
theorem dX0_become_154 : decode cX0_become 154 = .ok (.aload_n 1, 1) := by decide +kernel
theorem dX0_become_155 : decode cX0_become 155 = .ok (.getfield 38, 3) := by decide +kernel
theorem dX0_become_158 : decode cX0_become 158 = .ok (.putfield 38, 3) := by decide +kernel
theorem dX0_become_161 : decode cX0_become 161 = .ok (.aload_n 1, 1) := by decide +kernel
theorem dX0_become_162 : decode cX0_become 162 = .ok (.getfield 41, 3) := by decide +kernel
theorem dX0_become_165 : decode cX0_become 165 = .ok (.iconst 0, 1) := by decide +kernel
theorem dX0_become_166 : decode cX0_become 166 = .ok (.aload_n 0, 1) := by decide +kernel
theorem dX0_become_167 : decode cX0_become 167 = .ok (.getfield 41, 3) := by decide +kernel
theorem dX0_become_170 : decode cX0_become 170 = .ok (.iconst 0, 1) := by decide +kernel
theorem dX0_become_171 : decode cX0_become 171 = .ok (.bipush 10, 2) := by decide +kernel
theorem dX0_become_173 : decode cX0_become 173 = .ok (.invokestatic 53, 3) := by decide +kernel
theorem dX0_become_176 : decode cX0_become 176 = .ok (.return_, 1) := by decide +kernel
theorem dX0_addCat_0 : decode cX0_addCat 0 = .ok (.aload_n 0, 1) := by decide +kernel
theorem dX0_addCat_1 : decode cX0_addCat 1 = .ok (.getfield 50, 3) := by decide +kernel
theorem dX0_addCat_4 : decode cX0_addCat 4 = .ok (.bipush 8, 2) := by decide +kernel
theorem dX0_addCat_6 : decode cX0_addCat 6 = .ok (.if_icmp .lt 5, 3) := by decide +kernel
theorem dX0_addCat_9 : decode cX0_addCat 9 = .ok (.iconst (-1), 1) := by decide +kernel
theorem dX0_addCat_10 : decode cX0_addCat 10 = .ok (.ireturn, 1) := by decide +kernel
theorem dX0_addCat_11 : decode cX0_addCat 11 = .ok (.aload_n 0, 1) := by decide +kernel
theorem dX0_addCat_12 : decode cX0_addCat 12 = .ok (.getfield 9, 3) := by decide +kernel
theorem dX0_addCat_15 : decode cX0_addCat 15 = .ok (.aload_n 0, 1) := by decide +kernel
theorem dX0_addCat_16 : decode cX0_addCat 16 = .ok (.getfield 50, 3) := by decide +kernel
theorem dX0_addCat_19 : decode cX0_addCat 19 = .ok (.iload_n 1, 1) := by decide +kernel
theorem dX0_addCat_20 : decode cX0_addCat 20 = .ok (.iastore, 1) := by decide +kernel
theorem dX0_addCat_21 : decode cX0_addCat 21 = .ok (.aload_n 0, 1) := by decide +kernel
theorem dX0_addCat_22 : decode cX0_addCat 22 = .ok (.getfield 15, 3) := by decide +kernel
theorem dX0_addCat_25 : decode cX0_addCat 25 = .ok (.aload_n 0, 1) := by decide +kernel
theorem dX0_addCat_26 : decode cX0_addCat 26 = .ok (.getfield 50, 3) := by decide +kernel
theorem dX0_addCat_29 : decode cX0_addCat 29 = .ok (.iload_n 2, 1) := by decide +kernel
theorem dX0_addCat_30 : decode cX0_addCat 30 = .ok (.iastore, 1) := by decide +kernel
theorem dX0_addCat_31 : decode cX0_addCat 31 = .ok (.aload_n 0, 1) := by decide +kernel
theorem dX0_addCat_32 : decode cX0_addCat 32 = .ok (.getfield 18, 3) := by decide +kernel
theorem dX0_addCat_35 : decode cX0_addCat 35 = .ok (.aload_n 0, 1) := by decide +kernel
theorem dX0_addCat_36 : decode cX0_addCat 36 = .ok (.getfield 50, 3) := by decide +kernel
theorem dX0_addCat_39 : decode cX0_addCat 39 = .ok (.iload_n 3, 1) := by decide +kernel
theorem dX0_addCat_40 : decode cX0_addCat 40 = .ok (.iastore, 1) := by decide +kernel
theorem dX0_addCat_41 : decode cX0_addCat 41 = .ok (.aload_n 0, 1) := by decide +kernel
theorem dX0_addCat_42 : decode cX0_addCat 42 = .ok (.dup, 1) := by decide +kernel
theorem dX0_addCat_43 : decode cX0_addCat 43 = .ok (.getfield 50, 3) := by decide +kernel
theorem dX0_addCat_46 : decode cX0_addCat 46 = .ok (.iconst 1, 1) := by decide +kernel
theorem dX0_addCat_47 : decode cX0_addCat 47 = .ok (.iadd, 1) := by decide +kernel
theorem dX0_addCat_48 : decode cX0_addCat 48 = .ok (.putfield 50, 3) := by decide +kernel
theorem dX0_addCat_51 : decode cX0_addCat 51 = .ok (.aload_n 0, 1) := by decide +kernel
theorem dX0_addCat_52 : decode cX0_addCat 52 = .ok (.getfield 50, 3) := by decide +kernel
theorem dX0_addCat_55 : decode cX0_addCat 55 = .ok (.iconst 1, 1) := by decide +kernel
theorem dX0_addCat_56 : decode cX0_addCat 56 = .ok (.isub, 1) := by decide +kernel
theorem dX0_addCat_57 : decode cX0_addCat 57 = .ok (.ireturn, 1) := by decide +kernel
theorem dX0_errsAs_0 : decode cX0_errsAs 0 = .ok (.aload_n 0, 1) := by decide +kernel
theorem dX0_errsAs_1 : decode cX0_errsAs 1 = .ok (.getfield 15, 3) := by decide +kernel
theorem dX0_errsAs_4 : decode cX0_errsAs 4 = .ok (.iload_n 1, 1) := by decide +kernel
theorem dX0_errsAs_5 : decode cX0_errsAs 5 = .ok (.iaload, 1) := by decide +kernel
theorem dX0_errsAs_6 : decode cX0_errsAs 6 = .ok (.iload 4, 2) := by decide +kernel
theorem dX0_errsAs_8 : decode cX0_errsAs 8 = .ok (.iadd, 1) := by decide +kernel
theorem dX0_errsAs_9 : decode cX0_errsAs 9 = .ok (.bipush 99, 2) := by decide +kernel
theorem dX0_errsAs_11 : decode cX0_errsAs 11 = .ok (.invokestatic 68, 3) := by decide +kernel
theorem dX0_errsAs_14 : decode cX0_errsAs 14 = .ok (.istore 5, 2) := by decide +kernel
theorem dX0_errsAs_16 : decode cX0_errsAs 16 = .ok (.aload_n 0, 1) := by decide +kernel
theorem dX0_errsAs_17 : decode cX0_errsAs 17 = .ok (.getfield 65, 3) := by decide +kernel
theorem dX0_errsAs_20 : decode cX0_errsAs 20 = .ok (.iload 4, 2) := by decide +kernel
theorem dX0_errsAs_22 : decode cX0_errsAs 22 = .ok (.iadd, 1) := by decide +kernel
theorem dX0_errsAs_23 : decode cX0_errsAs 23 = .ok (.bipush 16, 2) := by decide +kernel
theorem dX0_errsAs_25 : decode cX0_errsAs 25 = .ok (.irem, 1) := by decide +kernel
theorem dX0_errsAs_26 : decode cX0_errsAs 26 = .ok (.istore 6, 2) := by decide +kernel
theorem dX0_errsAs_28 : decode cX0_errsAs 28 = .ok (.iload 5, 2) := by decide +kernel
theorem dX0_errsAs_30 : decode cX0_errsAs 30 = .ok (.bipush 10, 2) := by decide +kernel
theorem dX0_errsAs_32 : decode cX0_errsAs 32 = .ok (.idiv, 1) := by decide +kernel
theorem dX0_errsAs_33 : decode cX0_errsAs 33 = .ok (.istore 7, 2) := by decide +kernel
theorem dX0_errsAs_35 : decode cX0_errsAs 35 = .ok (.iload 7, 2) := by decide +kernel
theorem dX0_errsAs_37 : decode cX0_errsAs 37 = .ok (.iconst 2, 1) := by decide +kernel
theorem dX0_errsAs_38 : decode cX0_errsAs 38 = .ok (.aload_n 0, 1) := by decide +kernel
theorem dX0_errsAs_39 : decode cX0_errsAs 39 = .ok (.getfield 62, 3) := by decide +kernel
theorem dX0_errsAs_42 : decode cX0_errsAs 42 = .ok (.iload 6, 2) := by decide +kernel
theorem dX0_errsAs_44 : decode cX0_errsAs 44 = .ok (.ishr, 1) := by decide +kernel
theorem dX0_errsAs_45 : decode cX0_errsAs 45 = .ok (.iconst 1, 1) := by decide +kernel
theorem dX0_errsAs_46 : decode cX0_errsAs 46 = .ok (.iand, 1) := by decide +kernel
theorem dX0_errsAs_47 : decode cX0_errsAs 47 = .ok (.imul, 1) := by decide +kernel
theorem dX0_errsAs_48 : decode cX0_errsAs 48 = .ok (.iadd, 1) := by decide +kernel
theorem dX0_errsAs_49 : decode cX0_errsAs 49 = .ok (.istore 8, 2) := by decide +kernel
theorem dX0_errsAs_51 : decode cX0_errsAs 51 = .ok (.iload 5, 2) := by decide +kernel
theorem dX0_errsAs_53 : decode cX0_errsAs 53 = .ok (.bipush 50, 2) := by decide +kernel
theorem dX0_errsAs_55 : decode cX0_errsAs 55 = .ok (.if_icmp .lt 7, 3) := by decide +kernel
theorem dX0_errsAs_58 : decode cX0_errsAs 58 = .ok (.iload_n 3, 1) := by decide +kernel
theorem dX0_errsAs_59 : decode cX0_errsAs 59 = .ok (.goto 5, 3) := by decide +kernel
theorem dX0_errsAs_62 : decode cX0_errsAs 62 = .ok (.iload 8, 2) := by decide +kernel
theorem dX0_errsAs_64 : decode cX0_errsAs 64 = .ok (.istore 9, 2) := by decide +kernel
theorem dX0_errsAs_66 : decode cX0_errsAs 66 = .ok (.iload 7, 2) := by decide +kernel
theorem dX0_errsAs_68 : decode cX0_errsAs 68 = .ok (.iload 6, 2) := by decide +kernel
theorem dX0_errsAs_70 : decode cX0_errsAs 70 = .ok (.iconst 5, 1) := by decide +kernel
theorem dX0_errsAs_71 : decode cX0_errsAs 71 = .ok (.irem, 1) := by decide +kernel
theorem dX0_errsAs_72 : decode cX0_errsAs 72 = .ok (.iadd, 1) := by decide +kernel
theorem dX0_errsAs_73 : decode cX0_errsAs 73 = .ok (.iconst 2, 1) := by decide +kernel
theorem dX0_errsAs_74 : decode cX0_errsAs 74 = .ok (.isub, 1) := by decide +kernel
theorem dX0_errsAs_75 : decode cX0_errsAs 75 = .ok (.istore 10, 2) := by decide +kernel
theorem dX0_errsAs_77 : decode cX0_errsAs 77 = .ok (.iload_n 2, 1) := by decide +kernel
theorem dX0_errsAs_78 : decode cX0_errsAs 78 = .ok (.tableswitch 63 1 6 #[38, 41, 44, 47, 53, 58], 38) := by decide +kernel
theorem dX0_errsAs_116 : decode cX0_errsAs 116 = .ok (.iload 8, 2) := by decide +kernel
theorem dX0_errsAs_118 : decode cX0_errsAs 118 = .ok (.ireturn, 1) := by decide +kernel
theorem dX0_errsAs_119 : decode cX0_errsAs 119 = .ok (.iload 10, 2) := by decide +kernel
theorem dX0_errsAs_121 : decode cX0_errsAs 121 = .ok (.ireturn, 1) := by decide +kernel
theorem dX0_errsAs_122 : decode cX0_errsAs 122 = .ok (.iload 9, 2) := by decide +kernel
theorem dX0_errsAs_124 : decode cX0_errsAs 124 = .ok (.ireturn, 1) := by decide +kernel
theorem dX0_errsAs_125 : decode cX0_errsAs 125 = .ok (.bipush 16, 2) := by decide +kernel
theorem dX0_errsAs_127 : decode cX0_errsAs 127 = .ok (.iload 9, 2) := by decide +kernel
theorem dX0_errsAs_129 : decode cX0_errsAs 129 = .ok (.isub, 1) := by decide +kernel
theorem dX0_errsAs_130 : decode cX0_errsAs 130 = .ok (.ireturn, 1) := by decide +kernel
theorem dX0_errsAs_131 : decode cX0_errsAs 131 = .ok (.iload 7, 2) := by decide +kernel
theorem dX0_errsAs_133 : decode cX0_errsAs 133 = .ok (.iconst 2, 1) := by decide +kernel
theorem dX0_errsAs_134 : decode cX0_errsAs 134 = .ok (.idiv, 1) := by decide +kernel
theorem dX0_errsAs_135 : decode cX0_errsAs 135 = .ok (.ireturn, 1) := by decide +kernel
theorem dX0_errsAs_136 : decode cX0_errsAs 136 = .ok (.iload 10, 2) := by decide +kernel
theorem dX0_errsAs_138 : decode cX0_errsAs 138 = .ok (.iconst 1, 1) := by decide +kernel
theorem dX0_errsAs_139 : decode cX0_errsAs 139 = .ok (.iadd, 1) := by decide +kernel
theorem dX0_errsAs_140 : decode cX0_errsAs 140 = .ok (.ireturn, 1) := by decide +kernel
theorem dX0_errsAs_141 : decode cX0_errsAs 141 = .ok (.iload 7, 2) := by decide +kernel
theorem dX0_errsAs_143 : decode cX0_errsAs 143 = .ok (.ireturn, 1) := by decide +kernel
theorem dX0_errs_0 : decode cX0_errs 0 = .ok (.aload_n 0, 1) := by decide +kernel
theorem dX0_errs_1 : decode cX0_errs 1 = .ok (.iload_n 1, 1) := by decide +kernel
theorem dX0_errs_2 : decode cX0_errs 2 = .ok (.aload_n 0, 1) := by decide +kernel
theorem dX0_errs_3 : decode cX0_errs 3 = .ok (.getfield 9, 3) := by decide +kernel
theorem dX0_errs_6 : decode cX0_errs 6 = .ok (.iload_n 1, 1) := by decide +kernel
theorem dX0_errs_7 : decode cX0_errs 7 = .ok (.iaload, 1) := by decide +kernel
theorem dX0_errs_8 : decode cX0_errs 8 = .ok (.aload_n 0, 1) := by decide +kernel
theorem dX0_errs_9 : decode cX0_errs 9 = .ok (.getfield 18, 3) := by decide +kernel
theorem dX0_errs_12 : decode cX0_errs 12 = .ok (.iload_n 1, 1) := by decide +kernel
theorem dX0_errs_13 : decode cX0_errs 13 = .ok (.iaload, 1) := by decide +kernel
theorem dX0_errs_14 : decode cX0_errs 14 = .ok (.iload_n 2, 1) := by decide +kernel
theorem dX0_errs_15 : decode cX0_errs 15 = .ok (.invokevirtual 74, 3) := by decide +kernel
theorem dX0_errs_18 : decode cX0_errs 18 = .ok (.ireturn, 1) := by decide +kernel
theorem dX0_meanOf_0 : decode cX0_meanOf 0 = .ok (.iconst 0, 1) := by decide +kernel
theorem dX0_meanOf_1 : decode cX0_meanOf 1 = .ok (.istore_n 3, 1) := by decide +kernel
theorem dX0_meanOf_2 : decode cX0_meanOf 2 = .ok (.iconst 0, 1) := by decide +kernel
theorem dX0_meanOf_3 : decode cX0_meanOf 3 = .ok (.istore 4, 2) := by decide +kernel
theorem dX0_meanOf_5 : decode cX0_meanOf 5 = .ok (.iconst 0, 1) := by decide +kernel
theorem dX0_meanOf_6 : decode cX0_meanOf 6 = .ok (.istore 5, 2) := by decide +kernel
theorem dX0_meanOf_8 : decode cX0_meanOf 8 = .ok (.iload 5, 2) := by decide +kernel
theorem dX0_meanOf_10 : decode cX0_meanOf 10 = .ok (.aload_n 0, 1) := by decide +kernel
theorem dX0_meanOf_11 : decode cX0_meanOf 11 = .ok (.getfield 50, 3) := by decide +kernel
theorem dX0_meanOf_14 : decode cX0_meanOf 14 = .ok (.if_icmp .ge 45, 3) := by decide +kernel
theorem dX0_meanOf_17 : decode cX0_meanOf 17 = .ok (.iload_n 1, 1) := by decide +kernel
theorem dX0_meanOf_18 : decode cX0_meanOf 18 = .ok (.iload 5, 2) := by decide +kernel
theorem dX0_meanOf_20 : decode cX0_meanOf 20 = .ok (.invokestatic 78, 3) := by decide +kernel
theorem dX0_meanOf_23 : decode cX0_meanOf 23 = .ok (.ifCond .eq 30, 3) := by decide +kernel
theorem dX0_meanOf_26 : decode cX0_meanOf 26 = .ok (.iload_n 3, 1) := by decide +kernel
theorem dX0_meanOf_27 : decode cX0_meanOf 27 = .ok (.aload_n 0, 1) := by decide +kernel
theorem dX0_meanOf_28 : decode cX0_meanOf 28 = .ok (.iload 5, 2) := by decide +kernel
theorem dX0_meanOf_30 : decode cX0_meanOf 30 = .ok (.aload_n 0, 1) := by decide +kernel
theorem dX0_meanOf_31 : decode cX0_meanOf 31 = .ok (.getfield 9, 3) := by decide +kernel
theorem dX0_meanOf_34 : decode cX0_meanOf 34 = .ok (.iload 5, 2) := by decide +kernel
theorem dX0_meanOf_36 : decode cX0_meanOf 36 = .ok (.iaload, 1) := by decide +kernel
theorem dX0_meanOf_37 : decode cX0_meanOf 37 = .ok (.aload_n 0, 1) := by decide +kernel
theorem dX0_meanOf_38 : decode cX0_meanOf 38 = .ok (.getfield 18, 3) := by decide +kernel
theorem dX0_meanOf_41 : decode cX0_meanOf 41 = .ok (.iload 5, 2) := by decide +kernel
theorem dX0_meanOf_43 : decode cX0_meanOf 43 = .ok (.iaload, 1) := by decide +kernel
theorem dX0_meanOf_44 : decode cX0_meanOf 44 = .ok (.iload_n 2, 1) := by decide +kernel
theorem dX0_meanOf_45 : decode cX0_meanOf 45 = .ok (.invokevirtual 74, 3) := by decide +kernel
theorem dX0_meanOf_48 : decode cX0_meanOf 48 = .ok (.iadd, 1) := by decide +kernel
theorem dX0_meanOf_49 : decode cX0_meanOf 49 = .ok (.istore_n 3, 1) := by decide +kernel
theorem dX0_meanOf_50 : decode cX0_meanOf 50 = .ok (.iinc 4 1, 3) := by decide +kernel
theorem dX0_meanOf_53 : decode cX0_meanOf 53 = .ok (.iinc 5 1, 3) := by decide +kernel
theorem dX0_meanOf_56 : decode cX0_meanOf 56 = .ok (.goto (-48), 3) := by decide +kernel
theorem dX0_meanOf_59 : decode cX0_meanOf 59 = .ok (.iload 4, 2) := by decide +kernel
theorem dX0_meanOf_61 : decode cX0_meanOf 61 = .ok (.ifCond .ne 7, 3) := by decide +kernel
theorem dX0_meanOf_64 : decode cX0_meanOf 64 = .ok (.iconst 0, 1) := by decide +kernel
theorem dX0_meanOf_65 : decode cX0_meanOf 65 = .ok (.goto 7, 3) := by decide +kernel
theorem dX0_meanOf_68 : decode cX0_meanOf 68 = .ok (.iload_n 3, 1) := by decide +kernel
theorem dX0_meanOf_69 : decode cX0_meanOf 69 = .ok (.iload 4, 2) := by decide +kernel
theorem dX0_meanOf_71 : decode cX0_meanOf 71 = .ok (.idiv, 1) := by decide +kernel
theorem dX0_meanOf_72 : decode cX0_meanOf 72 = .ok (.ireturn, 1) := by decide +kernel
theorem dX0_nextOf_0 : decode cX0_nextOf 0 = .ok (.aload_n 0, 1) := by decide +kernel
theorem dX0_nextOf_1 : decode cX0_nextOf 1 = .ok (.iload_n 2, 1) := by decide +kernel
theorem dX0_nextOf_2 : decode cX0_nextOf 2 = .ok (.aload_n 0, 1) := by decide +kernel
theorem dX0_nextOf_3 : decode cX0_nextOf 3 = .ok (.getfield 24, 3) := by decide +kernel
theorem dX0_nextOf_6 : decode cX0_nextOf 6 = .ok (.iload_n 1, 1) := by decide +kernel
theorem dX0_nextOf_7 : decode cX0_nextOf 7 = .ok (.iaload, 1) := by decide +kernel
theorem dX0_nextOf_8 : decode cX0_nextOf 8 = .ok (.aload_n 0, 1) := by decide +kernel
theorem dX0_nextOf_9 : decode cX0_nextOf 9 = .ok (.aload_n 0, 1) := by decide +kernel
theorem dX0_nextOf_10 : decode cX0_nextOf 10 = .ok (.getfield 27, 3) := by decide +kernel
theorem dX0_nextOf_13 : decode cX0_nextOf 13 = .ok (.iload_n 1, 1) := by decide +kernel
theorem dX0_nextOf_14 : decode cX0_nextOf 14 = .ok (.iaload, 1) := by decide +kernel
theorem dX0_nextOf_15 : decode cX0_nextOf 15 = .ok (.iload_n 3, 1) := by decide +kernel
theorem dX0_nextOf_16 : decode cX0_nextOf 16 = .ok (.invokevirtual 82, 3) := by decide +kernel
theorem dX0_nextOf_19 : decode cX0_nextOf 19 = .ok (.invokestatic 85, 3) := by decide +kernel
theorem dX0_nextOf_22 : decode cX0_nextOf 22 = .ok (.aload_n 0, 1) := by decide +kernel
theorem dX0_nextOf_23 : decode cX0_nextOf 23 = .ok (.getfield 59, 3) := by decide +kernel
theorem dX0_nextOf_26 : decode cX0_nextOf 26 = .ok (.invokevirtual 88, 3) := by decide +kernel
theorem dX0_nextOf_29 : decode cX0_nextOf 29 = .ok (.ireturn, 1) := by decide +kernel
theorem dX0_nextBy_0 : decode cX0_nextBy 0 = .ok (.iload_n 2, 1) := by decide +kernel
theorem dX0_nextBy_1 : decode cX0_nextBy 1 = .ok (.invokestatic 92, 3) := by decide +kernel
theorem dX0_nextBy_4 : decode cX0_nextBy 4 = .ok (.istore 4, 2) := by decide +kernel
theorem dX0_nextBy_6 : decode cX0_nextBy 6 = .ok (.aload_n 0, 1) := by decide +kernel
theorem dX0_nextBy_7 : decode cX0_nextBy 7 = .ok (.getfield 30, 3) := by decide +kernel
theorem dX0_nextBy_10 : decode cX0_nextBy 10 = .ok (.iload_n 1, 1) := by decide +kernel
theorem dX0_nextBy_11 : decode cX0_nextBy 11 = .ok (.baload, 1) := by decide +kernel
theorem dX0_nextBy_12 : decode cX0_nextBy 12 = .ok (.ifCond .ne 9, 3) := by decide +kernel
theorem dX0_nextBy_15 : decode cX0_nextBy 15 = .ok (.iload 4, 2) := by decide +kernel
theorem dX0_nextBy_17 : decode cX0_nextBy 17 = .ok (.iload_n 3, 1) := by decide +kernel
theorem dX0_nextBy_18 : decode cX0_nextBy 18 = .ok (.if_icmp .ne 5, 3) := by decide +kernel
theorem dX0_nextBy_21 : decode cX0_nextBy 21 = .ok (.iload_n 1, 1) := by decide +kernel
theorem dX0_nextBy_22 : decode cX0_nextBy 22 = .ok (.ireturn, 1) := by decide +kernel
theorem dX0_nextBy_23 : decode cX0_nextBy 23 = .ok (.iload_n 1, 1) := by decide +kernel
theorem dX0_nextBy_24 : decode cX0_nextBy 24 = .ok (.iload 4, 2) := by decide +kernel
theorem dX0_nextBy_26 : decode cX0_nextBy 26 = .ok (.invokestatic 96, 3) := by decide +kernel
theorem dX0_nextBy_29 : decode cX0_nextBy 29 = .ok (.ireturn, 1) := by decide +kernel
theorem dX0_cellBehind_0 : decode cX0_cellBehind 0 = .ok (.aload_n 0, 1) := by decide +kernel
theorem dX0_cellBehind_1 : decode cX0_cellBehind 1 = .ok (.getfield 21, 3) := by decide +kernel
theorem dX0_cellBehind_4 : decode cX0_cellBehind 4 = .ok (.iload_n 1, 1) := by decide +kernel
theorem dX0_cellBehind_5 : decode cX0_cellBehind 5 = .ok (.iaload, 1) := by decide +kernel
theorem dX0_cellBehind_6 : decode cX0_cellBehind 6 = .ok (.istore_n 3, 1) := by decide +kernel
theorem dX0_cellBehind_7 : decode cX0_cellBehind 7 = .ok (.iconst 0, 1) := by decide +kernel
theorem dX0_cellBehind_8 : decode cX0_cellBehind 8 = .ok (.istore 4, 2) := by decide +kernel
theorem dX0_cellBehind_10 : decode cX0_cellBehind 10 = .ok (.iload 4, 2) := by decide +kernel
theorem dX0_cellBehind_12 : decode cX0_cellBehind 12 = .ok (.iload_n 2, 1) := by decide +kernel
theorem dX0_cellBehind_13 : decode cX0_cellBehind 13 = .ok (.if_icmp .ge 18, 3) := by decide +kernel
theorem dX0_cellBehind_16 : decode cX0_cellBehind 16 = .ok (.aload_n 0, 1) := by decide +kernel
theorem dX0_cellBehind_17 : decode cX0_cellBehind 17 = .ok (.iload_n 1, 1) := by decide +kernel
theorem dX0_cellBehind_18 : decode cX0_cellBehind 18 = .ok (.iload_n 3, 1) := by decide +kernel
theorem dX0_cellBehind_19 : decode cX0_cellBehind 19 = .ok (.iload 4, 2) := by decide +kernel
theorem dX0_cellBehind_21 : decode cX0_cellBehind 21 = .ok (.invokevirtual 99, 3) := by decide +kernel
theorem dX0_cellBehind_24 : decode cX0_cellBehind 24 = .ok (.istore_n 3, 1) := by decide +kernel
theorem dX0_cellBehind_25 : decode cX0_cellBehind 25 = .ok (.iinc 4 1, 3) := by decide +kernel
theorem dX0_cellBehind_28 : decode cX0_cellBehind 28 = .ok (.goto (-18), 3) := by decide +kernel
theorem dX0_cellBehind_31 : decode cX0_cellBehind 31 = .ok (.iload_n 3, 1) := by decide +kernel
theorem dX0_cellBehind_32 : decode cX0_cellBehind 32 = .ok (.ireturn, 1) := by decide +kernel
theorem dX0_passWatch_0 : decode cX0_passWatch 0 = .ok (.iconst 0, 1) := by decide +kernel
theorem dX0_passWatch_1 : decode cX0_passWatch 1 = .ok (.istore_n 1, 1) := by decide +kernel
theorem dX0_passWatch_2 : decode cX0_passWatch 2 = .ok (.iload_n 1, 1) := by decide +kernel
theorem dX0_passWatch_3 : decode cX0_passWatch 3 = .ok (.iconst 4, 1) := by decide +kernel
theorem dX0_passWatch_4 : decode cX0_passWatch 4 = .ok (.if_icmp .ge 27, 3) := by decide +kernel
theorem dX0_passWatch_7 : decode cX0_passWatch 7 = .ok (.aload_n 0, 1) := by decide +kernel
theorem dX0_passWatch_8 : decode cX0_passWatch 8 = .ok (.getfield 21, 3) := by decide +kernel
theorem dX0_passWatch_11 : decode cX0_passWatch 11 = .ok (.iload_n 1, 1) := by decide +kernel
theorem dX0_passWatch_12 : decode cX0_passWatch 12 = .ok (.aload_n 0, 1) := by decide +kernel
theorem dX0_passWatch_13 : decode cX0_passWatch 13 = .ok (.iload_n 1, 1) := by decide +kernel
theorem dX0_passWatch_14 : decode cX0_passWatch 14 = .ok (.aload_n 0, 1) := by decide +kernel
theorem dX0_passWatch_15 : decode cX0_passWatch 15 = .ok (.getfield 21, 3) := by decide +kernel
theorem dX0_passWatch_18 : decode cX0_passWatch 18 = .ok (.iload_n 1, 1) := by decide +kernel
theorem dX0_passWatch_19 : decode cX0_passWatch 19 = .ok (.iaload, 1) := by decide +kernel
theorem dX0_passWatch_20 : decode cX0_passWatch 20 = .ok (.iconst 0, 1) := by decide +kernel
theorem dX0_passWatch_21 : decode cX0_passWatch 21 = .ok (.invokevirtual 99, 3) := by decide +kernel
theorem dX0_passWatch_24 : decode cX0_passWatch 24 = .ok (.iastore, 1) := by decide +kernel
theorem dX0_passWatch_25 : decode cX0_passWatch 25 = .ok (.iinc 1 1, 3) := by decide +kernel
theorem dX0_passWatch_28 : decode cX0_passWatch 28 = .ok (.goto (-26), 3) := by decide +kernel
theorem dX0_passWatch_31 : decode cX0_passWatch 31 = .ok (.iconst 0, 1) := by decide +kernel
theorem dX0_passWatch_32 : decode cX0_passWatch 32 = .ok (.istore_n 1, 1) := by decide +kernel
theorem dX0_passWatch_33 : decode cX0_passWatch 33 = .ok (.iload_n 1, 1) := by decide +kernel
theorem dX0_passWatch_34 : decode cX0_passWatch 34 = .ok (.aload_n 0, 1) := by decide +kernel
theorem dX0_passWatch_35 : decode cX0_passWatch 35 = .ok (.getfield 50, 3) := by decide +kernel
theorem dX0_passWatch_38 : decode cX0_passWatch 38 = .ok (.if_icmp .ge 28, 3) := by decide +kernel
theorem dX0_passWatch_41 : decode cX0_passWatch 41 = .ok (.aload_n 0, 1) := by decide +kernel
theorem dX0_passWatch_42 : decode cX0_passWatch 42 = .ok (.getfield 15, 3) := by decide +kernel
theorem dX0_passWatch_45 : decode cX0_passWatch 45 = .ok (.iload_n 1, 1) := by decide +kernel
theorem dX0_passWatch_46 : decode cX0_passWatch 46 = .ok (.aload_n 0, 1) := by decide +kernel
theorem dX0_passWatch_47 : decode cX0_passWatch 47 = .ok (.getfield 15, 3) := by decide +kernel
theorem dX0_passWatch_50 : decode cX0_passWatch 50 = .ok (.iload_n 1, 1) := by decide +kernel
theorem dX0_passWatch_51 : decode cX0_passWatch 51 = .ok (.iaload, 1) := by decide +kernel
theorem dX0_passWatch_52 : decode cX0_passWatch 52 = .ok (.iconst 1, 1) := by decide +kernel
theorem dX0_passWatch_53 : decode cX0_passWatch 53 = .ok (.iadd, 1) := by decide +kernel
theorem dX0_passWatch_54 : decode cX0_passWatch 54 = .ok (.bipush 99, 2) := by decide +kernel
theorem dX0_passWatch_56 : decode cX0_passWatch 56 = .ok (.invokestatic 68, 3) := by decide +kernel
theorem dX0_passWatch_59 : decode cX0_passWatch 59 = .ok (.iastore, 1) := by decide +kernel
theorem dX0_passWatch_60 : decode cX0_passWatch 60 = .ok (.iinc 1 1, 3) := by decide +kernel
theorem dX0_passWatch_63 : decode cX0_passWatch 63 = .ok (.goto (-30), 3) := by decide +kernel
theorem dX0_passWatch_66 : decode cX0_passWatch 66 = .ok (.aload_n 0, 1) := by decide +kernel
theorem dX0_passWatch_67 : decode cX0_passWatch 67 = .ok (.dup, 1) := by decide +kernel
theorem dX0_passWatch_68 : decode cX0_passWatch 68 = .ok (.getfield 65, 3) := by decide +kernel
theorem dX0_passWatch_71 : decode cX0_passWatch 71 = .ok (.iconst 1, 1) := by decide +kernel
theorem dX0_passWatch_72 : decode cX0_passWatch 72 = .ok (.iadd, 1) := by decide +kernel
theorem dX0_passWatch_73 : decode cX0_passWatch 73 = .ok (.putfield 65, 3) := by decide +kernel
theorem dX0_passWatch_76 : decode cX0_passWatch 76 = .ok (.return_, 1) := by decide +kernel
theorem dX0_passStorm_0 : decode cX0_passStorm 0 = .ok (.iconst 0, 1) := by decide +kernel
theorem dX0_passStorm_1 : decode cX0_passStorm 1 = .ok (.istore_n 1, 1) := by decide +kernel
theorem dX0_passStorm_2 : decode cX0_passStorm 2 = .ok (.iload_n 1, 1) := by decide +kernel
theorem dX0_passStorm_3 : decode cX0_passStorm 3 = .ok (.iconst 4, 1) := by decide +kernel
theorem dX0_passStorm_4 : decode cX0_passStorm 4 = .ok (.if_icmp .ge 39, 3) := by decide +kernel
theorem dX0_passStorm_7 : decode cX0_passStorm 7 = .ok (.aload_n 0, 1) := by decide +kernel
theorem dX0_passStorm_8 : decode cX0_passStorm 8 = .ok (.iload_n 1, 1) := by decide +kernel
theorem dX0_passStorm_9 : decode cX0_passStorm 9 = .ok (.invokevirtual 102, 3) := by decide +kernel
theorem dX0_passStorm_12 : decode cX0_passStorm 12 = .ok (.ifCond .ne 25, 3) := by decide +kernel
theorem dX0_passStorm_15 : decode cX0_passStorm 15 = .ok (.aload_n 0, 1) := by decide +kernel
theorem dX0_passStorm_16 : decode cX0_passStorm 16 = .ok (.getfield 21, 3) := by decide +kernel
theorem dX0_passStorm_19 : decode cX0_passStorm 19 = .ok (.iload_n 1, 1) := by decide +kernel
theorem dX0_passStorm_20 : decode cX0_passStorm 20 = .ok (.aload_n 0, 1) := by decide +kernel
theorem dX0_passStorm_21 : decode cX0_passStorm 21 = .ok (.getfield 21, 3) := by decide +kernel
theorem dX0_passStorm_24 : decode cX0_passStorm 24 = .ok (.iload_n 1, 1) := by decide +kernel
theorem dX0_passStorm_25 : decode cX0_passStorm 25 = .ok (.iaload, 1) := by decide +kernel
theorem dX0_passStorm_26 : decode cX0_passStorm 26 = .ok (.aload_n 0, 1) := by decide +kernel
theorem dX0_passStorm_27 : decode cX0_passStorm 27 = .ok (.invokevirtual 106, 3) := by decide +kernel
theorem dX0_passStorm_30 : decode cX0_passStorm 30 = .ok (.bipush 8, 2) := by decide +kernel
theorem dX0_passStorm_32 : decode cX0_passStorm 32 = .ok (.irem, 1) := by decide +kernel
theorem dX0_passStorm_33 : decode cX0_passStorm 33 = .ok (.invokestatic 96, 3) := by decide +kernel
theorem dX0_passStorm_36 : decode cX0_passStorm 36 = .ok (.iastore, 1) := by decide +kernel
theorem dX0_passStorm_37 : decode cX0_passStorm 37 = .ok (.iinc 1 1, 3) := by decide +kernel
theorem dX0_passStorm_40 : decode cX0_passStorm 40 = .ok (.goto (-38), 3) := by decide +kernel
theorem dX0_passStorm_43 : decode cX0_passStorm 43 = .ok (.aload_n 0, 1) := by decide +kernel
theorem dX0_passStorm_44 : decode cX0_passStorm 44 = .ok (.invokevirtual 110, 3) := by decide +kernel
theorem dX0_passStorm_47 : decode cX0_passStorm 47 = .ok (.return_, 1) := by decide +kernel
theorem dX0_draw_0 : decode cX0_draw 0 = .ok (.aload_n 0, 1) := by decide +kernel
theorem dX0_draw_1 : decode cX0_draw 1 = .ok (.aload_n 0, 1) := by decide +kernel
theorem dX0_draw_2 : decode cX0_draw 2 = .ok (.getfield 38, 3) := by decide +kernel
theorem dX0_draw_5 : decode cX0_draw 5 = .ok (.ldc 113, 2) := by decide +kernel
theorem dX0_draw_7 : decode cX0_draw 7 = .ok (.imul, 1) := by decide +kernel
theorem dX0_draw_8 : decode cX0_draw 8 = .ok (.sipush 12345, 3) := by decide +kernel
theorem dX0_draw_11 : decode cX0_draw 11 = .ok (.iadd, 1) := by decide +kernel
theorem dX0_draw_12 : decode cX0_draw 12 = .ok (.putfield 38, 3) := by decide +kernel
theorem dX0_draw_15 : decode cX0_draw 15 = .ok (.aload_n 0, 1) := by decide +kernel
theorem dX0_draw_16 : decode cX0_draw 16 = .ok (.getfield 38, 3) := by decide +kernel
theorem dX0_draw_19 : decode cX0_draw 19 = .ok (.bipush 8, 2) := by decide +kernel
theorem dX0_draw_21 : decode cX0_draw 21 = .ok (.iushr, 1) := by decide +kernel
theorem dX0_draw_22 : decode cX0_draw 22 = .ok (.ireturn, 1) := by decide +kernel
theorem dX0_drivesThatLand_0 : decode cX0_drivesThatLand 0 = .ok (.aload_n 0, 1) := by decide +kernel
theorem dX0_drivesThatLand_1 : decode cX0_drivesThatLand 1 = .ok (.iload_n 1, 1) := by decide +kernel
theorem dX0_drivesThatLand_2 : decode cX0_drivesThatLand 2 = .ok (.invokevirtual 102, 3) := by decide +kernel
theorem dX0_drivesThatLand_5 : decode cX0_drivesThatLand 5 = .ok (.ifCond .eq 6, 3) := by decide +kernel
theorem dX0_drivesThatLand_8 : decode cX0_drivesThatLand 8 = .ok (.bipush 8, 2) := by decide +kernel
theorem dX0_drivesThatLand_10 : decode cX0_drivesThatLand 10 = .ok (.ireturn, 1) := by decide +kernel
theorem dX0_drivesThatLand_11 : decode cX0_drivesThatLand 11 = .ok (.iconst 0, 1) := by decide +kernel
theorem dX0_drivesThatLand_12 : decode cX0_drivesThatLand 12 = .ok (.istore_n 2, 1) := by decide +kernel
theorem dX0_drivesThatLand_13 : decode cX0_drivesThatLand 13 = .ok (.iconst 0, 1) := by decide +kernel
theorem dX0_drivesThatLand_14 : decode cX0_drivesThatLand 14 = .ok (.istore_n 3, 1) := by decide +kernel
theorem dX0_drivesThatLand_15 : decode cX0_drivesThatLand 15 = .ok (.iload_n 3, 1) := by decide +kernel
theorem dX0_drivesThatLand_16 : decode cX0_drivesThatLand 16 = .ok (.bipush 8, 2) := by decide +kernel
theorem dX0_drivesThatLand_18 : decode cX0_drivesThatLand 18 = .ok (.if_icmp .ge 30, 3) := by decide +kernel
theorem dX0_drivesThatLand_21 : decode cX0_drivesThatLand 21 = .ok (.aload_n 0, 1) := by decide +kernel
theorem dX0_drivesThatLand_22 : decode cX0_drivesThatLand 22 = .ok (.getfield 30, 3) := by decide +kernel
theorem dX0_drivesThatLand_25 : decode cX0_drivesThatLand 25 = .ok (.aload_n 0, 1) := by decide +kernel
theorem dX0_drivesThatLand_26 : decode cX0_drivesThatLand 26 = .ok (.getfield 21, 3) := by decide +kernel
theorem dX0_drivesThatLand_29 : decode cX0_drivesThatLand 29 = .ok (.iload_n 1, 1) := by decide +kernel
theorem dX0_drivesThatLand_30 : decode cX0_drivesThatLand 30 = .ok (.iaload, 1) := by decide +kernel
theorem dX0_drivesThatLand_31 : decode cX0_drivesThatLand 31 = .ok (.iload_n 3, 1) := by decide +kernel
theorem dX0_drivesThatLand_32 : decode cX0_drivesThatLand 32 = .ok (.invokestatic 96, 3) := by decide +kernel
theorem dX0_drivesThatLand_35 : decode cX0_drivesThatLand 35 = .ok (.baload, 1) := by decide +kernel
theorem dX0_drivesThatLand_36 : decode cX0_drivesThatLand 36 = .ok (.ifCond .eq 6, 3) := by decide +kernel
theorem dX0_drivesThatLand_39 : decode cX0_drivesThatLand 39 = .ok (.iinc 2 1, 3) := by decide +kernel
theorem dX0_drivesThatLand_42 : decode cX0_drivesThatLand 42 = .ok (.iinc 3 1, 3) := by decide +kernel
theorem dX0_drivesThatLand_45 : decode cX0_drivesThatLand 45 = .ok (.goto (-30), 3) := by decide +kernel
theorem dX0_drivesThatLand_48 : decode cX0_drivesThatLand 48 = .ok (.iload_n 2, 1) := by decide +kernel
theorem dX0_drivesThatLand_49 : decode cX0_drivesThatLand 49 = .ok (.ireturn, 1) := by decide +kernel
theorem dX0_isLanded_0 : decode cX0_isLanded 0 = .ok (.aload_n 0, 1) := by decide +kernel
theorem dX0_isLanded_1 : decode cX0_isLanded 1 = .ok (.getfield 30, 3) := by decide +kernel
theorem dX0_isLanded_4 : decode cX0_isLanded 4 = .ok (.aload_n 0, 1) := by decide +kernel
theorem dX0_isLanded_5 : decode cX0_isLanded 5 = .ok (.getfield 21, 3) := by decide +kernel
theorem dX0_isLanded_8 : decode cX0_isLanded 8 = .ok (.iload_n 1, 1) := by decide +kernel
theorem dX0_isLanded_9 : decode cX0_isLanded 9 = .ok (.iaload, 1) := by decide +kernel
theorem dX0_isLanded_10 : decode cX0_isLanded 10 = .ok (.baload, 1) := by decide +kernel
theorem dX0_isLanded_11 : decode cX0_isLanded 11 = .ok (.ireturn, 1) := by decide +kernel
theorem dX0_landedShips_0 : decode cX0_landedShips 0 = .ok (.iconst 0, 1) := by decide +kernel
theorem dX0_landedShips_1 : decode cX0_landedShips 1 = .ok (.istore_n 1, 1) := by decide +kernel
theorem dX0_landedShips_2 : decode cX0_landedShips 2 = .ok (.iconst 0, 1) := by decide +kernel
theorem dX0_landedShips_3 : decode cX0_landedShips 3 = .ok (.istore_n 2, 1) := by decide +kernel
theorem dX0_landedShips_4 : decode cX0_landedShips 4 = .ok (.iload_n 2, 1) := by decide +kernel
theorem dX0_landedShips_5 : decode cX0_landedShips 5 = .ok (.iconst 4, 1) := by decide +kernel
theorem dX0_landedShips_6 : decode cX0_landedShips 6 = .ok (.if_icmp .ge 23, 3) := by decide +kernel
theorem dX0_landedShips_9 : decode cX0_landedShips 9 = .ok (.aload_n 0, 1) := by decide +kernel
theorem dX0_landedShips_10 : decode cX0_landedShips 10 = .ok (.iload_n 2, 1) := by decide +kernel
theorem dX0_landedShips_11 : decode cX0_landedShips 11 = .ok (.invokevirtual 102, 3) := by decide +kernel
theorem dX0_landedShips_14 : decode cX0_landedShips 14 = .ok (.ifCond .eq 9, 3) := by decide +kernel
theorem dX0_landedShips_17 : decode cX0_landedShips 17 = .ok (.iload_n 1, 1) := by decide +kernel
theorem dX0_landedShips_18 : decode cX0_landedShips 18 = .ok (.iconst 1, 1) := by decide +kernel
theorem dX0_landedShips_19 : decode cX0_landedShips 19 = .ok (.iload_n 2, 1) := by decide +kernel
theorem dX0_landedShips_20 : decode cX0_landedShips 20 = .ok (.ishl, 1) := by decide +kernel
theorem dX0_landedShips_21 : decode cX0_landedShips 21 = .ok (.ior, 1) := by decide +kernel
theorem dX0_landedShips_22 : decode cX0_landedShips 22 = .ok (.istore_n 1, 1) := by decide +kernel
theorem dX0_landedShips_23 : decode cX0_landedShips 23 = .ok (.iinc 2 1, 3) := by decide +kernel
theorem dX0_landedShips_26 : decode cX0_landedShips 26 = .ok (.goto (-22), 3) := by decide +kernel
theorem dX0_landedShips_29 : decode cX0_landedShips 29 = .ok (.iload_n 1, 1) := by decide +kernel
theorem dX0_landedShips_30 : decode cX0_landedShips 30 = .ok (.ireturn, 1) := by decide +kernel
theorem dX0_fedIn_0 : decode cX0_fedIn 0 = .ok (.iload_n 2, 1) := by decide +kernel
theorem dX0_fedIn_1 : decode cX0_fedIn 1 = .ok (.iconst 1, 1) := by decide +kernel
theorem dX0_fedIn_2 : decode cX0_fedIn 2 = .ok (.if_icmp .ge 5, 3) := by decide +kernel
theorem dX0_fedIn_5 : decode cX0_fedIn 5 = .ok (.iconst 0, 1) := by decide +kernel
theorem dX0_fedIn_6 : decode cX0_fedIn 6 = .ok (.ireturn, 1) := by decide +kernel
theorem dX0_fedIn_7 : decode cX0_fedIn 7 = .ok (.iconst 0, 1) := by decide +kernel
theorem dX0_fedIn_8 : decode cX0_fedIn 8 = .ok (.istore_n 3, 1) := by decide +kernel
theorem dX0_fedIn_9 : decode cX0_fedIn 9 = .ok (.iconst 0, 1) := by decide +kernel
theorem dX0_fedIn_10 : decode cX0_fedIn 10 = .ok (.istore 4, 2) := by decide +kernel
theorem dX0_fedIn_12 : decode cX0_fedIn 12 = .ok (.iload 4, 2) := by decide +kernel
theorem dX0_fedIn_14 : decode cX0_fedIn 14 = .ok (.aload_n 0, 1) := by decide +kernel
theorem dX0_fedIn_15 : decode cX0_fedIn 15 = .ok (.getfield 50, 3) := by decide +kernel
theorem dX0_fedIn_18 : decode cX0_fedIn 18 = .ok (.if_icmp .ge 43, 3) := by decide +kernel
theorem dX0_fedIn_21 : decode cX0_fedIn 21 = .ok (.iload_n 2, 1) := by decide +kernel
theorem dX0_fedIn_22 : decode cX0_fedIn 22 = .ok (.aload_n 0, 1) := by decide +kernel
theorem dX0_fedIn_23 : decode cX0_fedIn 23 = .ok (.getfield 15, 3) := by decide +kernel
theorem dX0_fedIn_26 : decode cX0_fedIn 26 = .ok (.iload 4, 2) := by decide +kernel
theorem dX0_fedIn_28 : decode cX0_fedIn 28 = .ok (.iaload, 1) := by decide +kernel
theorem dX0_fedIn_29 : decode cX0_fedIn 29 = .ok (.isub, 1) := by decide +kernel
theorem dX0_fedIn_30 : decode cX0_fedIn 30 = .ok (.iconst 0, 1) := by decide +kernel
theorem dX0_fedIn_31 : decode cX0_fedIn 31 = .ok (.invokestatic 114, 3) := by decide +kernel
theorem dX0_fedIn_34 : decode cX0_fedIn 34 = .ok (.istore 5, 2) := by decide +kernel
theorem dX0_fedIn_36 : decode cX0_fedIn 36 = .ok (.iload 5, 2) := by decide +kernel
theorem dX0_fedIn_38 : decode cX0_fedIn 38 = .ok (.iload_n 1, 1) := by decide +kernel
theorem dX0_fedIn_39 : decode cX0_fedIn 39 = .ok (.if_icmp .ge 16, 3) := by decide +kernel
theorem dX0_fedIn_42 : decode cX0_fedIn 42 = .ok (.iload_n 3, 1) := by decide +kernel
theorem dX0_fedIn_43 : decode cX0_fedIn 43 = .ok (.iconst 1, 1) := by decide +kernel
theorem dX0_fedIn_44 : decode cX0_fedIn 44 = .ok (.iload_n 1, 1) := by decide +kernel
theorem dX0_fedIn_45 : decode cX0_fedIn 45 = .ok (.iconst 1, 1) := by decide +kernel
theorem dX0_fedIn_46 : decode cX0_fedIn 46 = .ok (.isub, 1) := by decide +kernel
theorem dX0_fedIn_47 : decode cX0_fedIn 47 = .ok (.iload 5, 2) := by decide +kernel
theorem dX0_fedIn_49 : decode cX0_fedIn 49 = .ok (.isub, 1) := by decide +kernel
theorem dX0_fedIn_50 : decode cX0_fedIn 50 = .ok (.iload_n 2, 1) := by decide +kernel
theorem dX0_fedIn_51 : decode cX0_fedIn 51 = .ok (.idiv, 1) := by decide +kernel
theorem dX0_fedIn_52 : decode cX0_fedIn 52 = .ok (.iadd, 1) := by decide +kernel
theorem dX0_fedIn_53 : decode cX0_fedIn 53 = .ok (.iadd, 1) := by decide +kernel
theorem dX0_fedIn_54 : decode cX0_fedIn 54 = .ok (.istore_n 3, 1) := by decide +kernel
theorem dX0_fedIn_55 : decode cX0_fedIn 55 = .ok (.iinc 4 1, 3) := by decide +kernel
theorem dX0_fedIn_58 : decode cX0_fedIn 58 = .ok (.goto (-46), 3) := by decide +kernel
theorem dX0_fedIn_61 : decode cX0_fedIn 61 = .ok (.iload_n 3, 1) := by decide +kernel
theorem dX0_fedIn_62 : decode cX0_fedIn 62 = .ok (.ireturn, 1) := by decide +kernel
theorem dX0_greatestHunger_0 : decode cX0_greatestHunger 0 = .ok (.iconst 0, 1) := by decide +kernel
theorem dX0_greatestHunger_1 : decode cX0_greatestHunger 1 = .ok (.istore_n 1, 1) := by decide +kernel
theorem dX0_greatestHunger_2 : decode cX0_greatestHunger 2 = .ok (.iconst 0, 1) := by decide +kernel
theorem dX0_greatestHunger_3 : decode cX0_greatestHunger 3 = .ok (.istore_n 2, 1) := by decide +kernel
theorem dX0_greatestHunger_4 : decode cX0_greatestHunger 4 = .ok (.iload_n 2, 1) := by decide +kernel
theorem dX0_greatestHunger_5 : decode cX0_greatestHunger 5 = .ok (.aload_n 0, 1) := by decide +kernel
theorem dX0_greatestHunger_6 : decode cX0_greatestHunger 6 = .ok (.getfield 50, 3) := by decide +kernel
theorem dX0_greatestHunger_9 : decode cX0_greatestHunger 9 = .ok (.if_icmp .ge 20, 3) := by decide +kernel
theorem dX0_greatestHunger_12 : decode cX0_greatestHunger 12 = .ok (.iload_n 1, 1) := by decide +kernel
theorem dX0_greatestHunger_13 : decode cX0_greatestHunger 13 = .ok (.aload_n 0, 1) := by decide +kernel
theorem dX0_greatestHunger_14 : decode cX0_greatestHunger 14 = .ok (.getfield 15, 3) := by decide +kernel
theorem dX0_greatestHunger_17 : decode cX0_greatestHunger 17 = .ok (.iload_n 2, 1) := by decide +kernel
theorem dX0_greatestHunger_18 : decode cX0_greatestHunger 18 = .ok (.iaload, 1) := by decide +kernel
theorem dX0_greatestHunger_19 : decode cX0_greatestHunger 19 = .ok (.invokestatic 114, 3) := by decide +kernel
theorem dX0_greatestHunger_22 : decode cX0_greatestHunger 22 = .ok (.istore_n 1, 1) := by decide +kernel
theorem dX0_greatestHunger_23 : decode cX0_greatestHunger 23 = .ok (.iinc 2 1, 3) := by decide +kernel
theorem dX0_greatestHunger_26 : decode cX0_greatestHunger 26 = .ok (.goto (-22), 3) := by decide +kernel
theorem dX0_greatestHunger_29 : decode cX0_greatestHunger 29 = .ok (.iload_n 1, 1) := by decide +kernel
theorem dX0_greatestHunger_30 : decode cX0_greatestHunger 30 = .ok (.ireturn, 1) := by decide +kernel
theorem dX0_hungerOfAll_0 : decode cX0_hungerOfAll 0 = .ok (.iconst 0, 1) := by decide +kernel
theorem dX0_hungerOfAll_1 : decode cX0_hungerOfAll 1 = .ok (.istore_n 1, 1) := by decide +kernel
theorem dX0_hungerOfAll_2 : decode cX0_hungerOfAll 2 = .ok (.iconst 0, 1) := by decide +kernel
theorem dX0_hungerOfAll_3 : decode cX0_hungerOfAll 3 = .ok (.istore_n 2, 1) := by decide +kernel
theorem dX0_hungerOfAll_4 : decode cX0_hungerOfAll 4 = .ok (.iload_n 2, 1) := by decide +kernel
theorem dX0_hungerOfAll_5 : decode cX0_hungerOfAll 5 = .ok (.aload_n 0, 1) := by decide +kernel
theorem dX0_hungerOfAll_6 : decode cX0_hungerOfAll 6 = .ok (.getfield 50, 3) := by decide +kernel
theorem dX0_hungerOfAll_9 : decode cX0_hungerOfAll 9 = .ok (.if_icmp .ge 18, 3) := by decide +kernel
theorem dX0_hungerOfAll_12 : decode cX0_hungerOfAll 12 = .ok (.iload_n 1, 1) := by decide +kernel
theorem dX0_hungerOfAll_13 : decode cX0_hungerOfAll 13 = .ok (.aload_n 0, 1) := by decide +kernel
theorem dX0_hungerOfAll_14 : decode cX0_hungerOfAll 14 = .ok (.getfield 15, 3) := by decide +kernel
theorem dX0_hungerOfAll_17 : decode cX0_hungerOfAll 17 = .ok (.iload_n 2, 1) := by decide +kernel
theorem dX0_hungerOfAll_18 : decode cX0_hungerOfAll 18 = .ok (.iaload, 1) := by decide +kernel
theorem dX0_hungerOfAll_19 : decode cX0_hungerOfAll 19 = .ok (.iadd, 1) := by decide +kernel
theorem dX0_hungerOfAll_20 : decode cX0_hungerOfAll 20 = .ok (.istore_n 1, 1) := by decide +kernel
theorem dX0_hungerOfAll_21 : decode cX0_hungerOfAll 21 = .ok (.iinc 2 1, 3) := by decide +kernel
theorem dX0_hungerOfAll_24 : decode cX0_hungerOfAll 24 = .ok (.goto (-20), 3) := by decide +kernel
theorem dX0_hungerOfAll_27 : decode cX0_hungerOfAll 27 = .ok (.iload_n 1, 1) := by decide +kernel
theorem dX0_hungerOfAll_28 : decode cX0_hungerOfAll 28 = .ok (.ireturn, 1) := by decide +kernel
theorem dX0_islands_0 : decode cX0_islands 0 = .ok (.iconst 0, 1) := by decide +kernel
theorem dX0_islands_1 : decode cX0_islands 1 = .ok (.istore_n 1, 1) := by decide +kernel
theorem dX0_islands_2 : decode cX0_islands 2 = .ok (.iconst 0, 1) := by decide +kernel
theorem dX0_islands_3 : decode cX0_islands 3 = .ok (.istore_n 2, 1) := by decide +kernel
theorem dX0_islands_4 : decode cX0_islands 4 = .ok (.iload_n 2, 1) := by decide +kernel
theorem dX0_islands_5 : decode cX0_islands 5 = .ok (.bipush 100, 2) := by decide +kernel
theorem dX0_islands_7 : decode cX0_islands 7 = .ok (.if_icmp .ge 21, 3) := by decide +kernel
theorem dX0_islands_10 : decode cX0_islands 10 = .ok (.aload_n 0, 1) := by decide +kernel
theorem dX0_islands_11 : decode cX0_islands 11 = .ok (.getfield 30, 3) := by decide +kernel
theorem dX0_islands_14 : decode cX0_islands 14 = .ok (.iload_n 2, 1) := by decide +kernel
theorem dX0_islands_15 : decode cX0_islands 15 = .ok (.baload, 1) := by decide +kernel
theorem dX0_islands_16 : decode cX0_islands 16 = .ok (.ifCond .eq 6, 3) := by decide +kernel
theorem dX0_islands_19 : decode cX0_islands 19 = .ok (.iinc 1 1, 3) := by decide +kernel
theorem dX0_islands_22 : decode cX0_islands 22 = .ok (.iinc 2 1, 3) := by decide +kernel
theorem dX0_islands_25 : decode cX0_islands 25 = .ok (.goto (-21), 3) := by decide +kernel
theorem dX0_islands_28 : decode cX0_islands 28 = .ok (.iload_n 1, 1) := by decide +kernel
theorem dX0_islands_29 : decode cX0_islands 29 = .ok (.ireturn, 1) := by decide +kernel
theorem dX0_spotsHeld_0 : decode cX0_spotsHeld 0 = .ok (.iconst 0, 1) := by decide +kernel
theorem dX0_spotsHeld_1 : decode cX0_spotsHeld 1 = .ok (.istore_n 1, 1) := by decide +kernel
theorem dX0_spotsHeld_2 : decode cX0_spotsHeld 2 = .ok (.iconst 0, 1) := by decide +kernel
theorem dX0_spotsHeld_3 : decode cX0_spotsHeld 3 = .ok (.istore_n 2, 1) := by decide +kernel
theorem dX0_spotsHeld_4 : decode cX0_spotsHeld 4 = .ok (.iload_n 2, 1) := by decide +kernel
theorem dX0_spotsHeld_5 : decode cX0_spotsHeld 5 = .ok (.bipush 10, 2) := by decide +kernel
theorem dX0_spotsHeld_7 : decode cX0_spotsHeld 7 = .ok (.if_icmp .ge 21, 3) := by decide +kernel
theorem dX0_spotsHeld_10 : decode cX0_spotsHeld 10 = .ok (.aload_n 0, 1) := by decide +kernel
theorem dX0_spotsHeld_11 : decode cX0_spotsHeld 11 = .ok (.getfield 41, 3) := by decide +kernel
theorem dX0_spotsHeld_14 : decode cX0_spotsHeld 14 = .ok (.iload_n 2, 1) := by decide +kernel
theorem dX0_spotsHeld_15 : decode cX0_spotsHeld 15 = .ok (.iaload, 1) := by decide +kernel
theorem dX0_spotsHeld_16 : decode cX0_spotsHeld 16 = .ok (.ifCond .lt 6, 3) := by decide +kernel
theorem dX0_spotsHeld_19 : decode cX0_spotsHeld 19 = .ok (.iinc 1 1, 3) := by decide +kernel
theorem dX0_spotsHeld_22 : decode cX0_spotsHeld 22 = .ok (.iinc 2 1, 3) := by decide +kernel
theorem dX0_spotsHeld_25 : decode cX0_spotsHeld 25 = .ok (.goto (-21), 3) := by decide +kernel
theorem dX0_spotsHeld_28 : decode cX0_spotsHeld 28 = .ok (.iload_n 1, 1) := by decide +kernel
theorem dX0_spotsHeld_29 : decode cX0_spotsHeld 29 = .ok (.ireturn, 1) := by decide +kernel
theorem dX1_init_0 : decode cX1_init 0 = .ok (.aload_n 0, 1) := by decide +kernel
theorem dX1_init_1 : decode cX1_init 1 = .ok (.invokespecial 3, 3) := by decide +kernel
theorem dX1_init_4 : decode cX1_init 4 = .ok (.aload_n 0, 1) := by decide +kernel
theorem dX1_init_5 : decode cX1_init 5 = .ok (.bipush 121, 2) := by decide +kernel
theorem dX1_init_7 : decode cX1_init 7 = .ok (.newarray .int, 2) := by decide +kernel
theorem dX1_init_9 : decode cX1_init 9 = .ok (.putfield 9, 3) := by decide +kernel
theorem dX1_init_12 : decode cX1_init 12 = .ok (.aload_n 0, 1) := by decide +kernel
theorem dX1_init_13 : decode cX1_init 13 = .ok (.bipush 121, 2) := by decide +kernel
theorem dX1_init_15 : decode cX1_init 15 = .ok (.newarray .int, 2) := by decide +kernel
theorem dX1_init_17 : decode cX1_init 17 = .ok (.putfield 15, 3) := by decide +kernel
theorem dX1_init_20 : decode cX1_init 20 = .ok (.aload_n 0, 1) := by decide +kernel
theorem dX1_init_21 : decode cX1_init 21 = .ok (.bipush 121, 2) := by decide +kernel
theorem dX1_init_23 : decode cX1_init 23 = .ok (.newarray .int, 2) := by decide +kernel
theorem dX1_init_25 : decode cX1_init 25 = .ok (.putfield 18, 3) := by decide +kernel
theorem dX1_init_28 : decode cX1_init 28 = .ok (.return_, 1) := by decide +kernel
theorem dX1_scan_0 : decode cX1_scan 0 = .ok (.aload_n 0, 1) := by decide +kernel
theorem dX1_scan_1 : decode cX1_scan 1 = .ok (.iconst 0, 1) := by decide +kernel
theorem dX1_scan_2 : decode cX1_scan 2 = .ok (.putfield 21, 3) := by decide +kernel
theorem dX1_scan_5 : decode cX1_scan 5 = .ok (.iconst 0, 1) := by decide +kernel
theorem dX1_scan_6 : decode cX1_scan 6 = .ok (.istore_n 2, 1) := by decide +kernel
theorem dX1_scan_7 : decode cX1_scan 7 = .ok (.iconst 0, 1) := by decide +kernel
theorem dX1_scan_8 : decode cX1_scan 8 = .ok (.istore_n 3, 1) := by decide +kernel
theorem dX1_scan_9 : decode cX1_scan 9 = .ok (.iload_n 3, 1) := by decide +kernel
theorem dX1_scan_10 : decode cX1_scan 10 = .ok (.bipush 120, 2) := by decide +kernel
theorem dX1_scan_12 : decode cX1_scan 12 = .ok (.if_icmp .ge 51, 3) := by decide +kernel
theorem dX1_scan_15 : decode cX1_scan 15 = .ok (.iload_n 2, 1) := by decide +kernel
theorem dX1_scan_16 : decode cX1_scan 16 = .ok (.aload_n 1, 1) := by decide +kernel
theorem dX1_scan_17 : decode cX1_scan 17 = .ok (.getfield 25, 3) := by decide +kernel
theorem dX1_scan_20 : decode cX1_scan 20 = .ok (.if_icmp .ge 43, 3) := by decide +kernel
theorem dX1_scan_23 : decode cX1_scan 23 = .ok (.aload_n 1, 1) := by decide +kernel
theorem dX1_scan_24 : decode cX1_scan 24 = .ok (.getfield 30, 3) := by decide +kernel
theorem dX1_scan_27 : decode cX1_scan 27 = .ok (.iload_n 2, 1) := by decide +kernel
theorem dX1_scan_28 : decode cX1_scan 28 = .ok (.iaload, 1) := by decide +kernel
theorem dX1_scan_29 : decode cX1_scan 29 = .ok (.bipush 32, 2) := by decide +kernel
theorem dX1_scan_31 : decode cX1_scan 31 = .ok (.if_icmp .ne 9, 3) := by decide +kernel
theorem dX1_scan_34 : decode cX1_scan 34 = .ok (.iinc 2 1, 3) := by decide +kernel
theorem dX1_scan_37 : decode cX1_scan 37 = .ok (.goto 20, 3) := by decide +kernel
theorem dX1_scan_40 : decode cX1_scan 40 = .ok (.aload_n 0, 1) := by decide +kernel
theorem dX1_scan_41 : decode cX1_scan 41 = .ok (.aload_n 1, 1) := by decide +kernel
theorem dX1_scan_42 : decode cX1_scan 42 = .ok (.iload_n 2, 1) := by decide +kernel
theorem dX1_scan_43 : decode cX1_scan 43 = .ok (.invokevirtual 33, 3) := by decide +kernel
theorem dX1_scan_46 : decode cX1_scan 46 = .ok (.istore_n 2, 1) := by decide +kernel
theorem dX1_scan_47 : decode cX1_scan 47 = .ok (.aload_n 0, 1) := by decide +kernel
theorem dX1_scan_48 : decode cX1_scan 48 = .ok (.dup, 1) := by decide +kernel
theorem dX1_scan_49 : decode cX1_scan 49 = .ok (.getfield 21, 3) := by decide +kernel
theorem dX1_scan_52 : decode cX1_scan 52 = .ok (.iconst 1, 1) := by decide +kernel
theorem dX1_scan_53 : decode cX1_scan 53 = .ok (.iadd, 1) := by decide +kernel
theorem dX1_scan_54 : decode cX1_scan 54 = .ok (.putfield 21, 3) := by decide +kernel
theorem dX1_scan_57 : decode cX1_scan 57 = .ok (.iinc 3 1, 3) := by decide +kernel
theorem dX1_scan_60 : decode cX1_scan 60 = .ok (.goto (-51), 3) := by decide +kernel
theorem dX1_scan_63 : decode cX1_scan 63 = .ok (.aload_n 0, 1) := by decide +kernel
theorem dX1_scan_64 : decode cX1_scan 64 = .ok (.getfield 9, 3) := by decide +kernel
theorem dX1_scan_67 : decode cX1_scan 67 = .ok (.aload_n 0, 1) := by decide +kernel
theorem dX1_scan_68 : decode cX1_scan 68 = .ok (.getfield 21, 3) := by decide +kernel
theorem dX1_scan_71 : decode cX1_scan 71 = .ok (.bipush 20, 2) := by decide +kernel
theorem dX1_scan_73 : decode cX1_scan 73 = .ok (.iastore, 1) := by decide +kernel
theorem dX1_scan_74 : decode cX1_scan 74 = .ok (.aload_n 0, 1) := by decide +kernel
theorem dX1_scan_75 : decode cX1_scan 75 = .ok (.getfield 15, 3) := by decide +kernel
theorem dX1_scan_78 : decode cX1_scan 78 = .ok (.aload_n 0, 1) := by decide +kernel
theorem dX1_scan_79 : decode cX1_scan 79 = .ok (.getfield 21, 3) := by decide +kernel
theorem dX1_scan_82 : decode cX1_scan 82 = .ok (.aload_n 1, 1) := by decide +kernel
theorem dX1_scan_83 : decode cX1_scan 83 = .ok (.getfield 25, 3) := by decide +kernel
theorem dX1_scan_86 : decode cX1_scan 86 = .ok (.iastore, 1) := by decide +kernel
theorem dX1_scan_87 : decode cX1_scan 87 = .ok (.return_, 1) := by decide +kernel
theorem dX1_takeToken_0 : decode cX1_takeToken 0 = .ok (.aload_n 0, 1) := by decide +kernel
theorem dX1_takeToken_1 : decode cX1_takeToken 1 = .ok (.getfield 15, 3) := by decide +kernel
theorem dX1_takeToken_4 : decode cX1_takeToken 4 = .ok (.aload_n 0, 1) := by decide +kernel
theorem dX1_takeToken_5 : decode cX1_takeToken 5 = .ok (.getfield 21, 3) := by decide +kernel
theorem dX1_takeToken_8 : decode cX1_takeToken 8 = .ok (.iload_n 2, 1) := by decide +kernel
theorem dX1_takeToken_9 : decode cX1_takeToken 9 = .ok (.iastore, 1) := by decide +kernel
theorem dX1_takeToken_10 : decode cX1_takeToken 10 = .ok (.aload_n 1, 1) := by decide +kernel
theorem dX1_takeToken_11 : decode cX1_takeToken 11 = .ok (.iload_n 2, 1) := by decide +kernel
theorem dX1_takeToken_12 : decode cX1_takeToken 12 = .ok (.bipush 97, 2) := by decide +kernel
theorem dX1_takeToken_14 : decode cX1_takeToken 14 = .ok (.bipush 122, 2) := by decide +kernel
theorem dX1_takeToken_16 : decode cX1_takeToken 16 = .ok (.invokevirtual 37, 3) := by decide +kernel
theorem dX1_takeToken_19 : decode cX1_takeToken 19 = .ok (.istore_n 3, 1) := by decide +kernel
theorem dX1_takeToken_20 : decode cX1_takeToken 20 = .ok (.iload_n 3, 1) := by decide +kernel
theorem dX1_takeToken_21 : decode cX1_takeToken 21 = .ok (.iload_n 2, 1) := by decide +kernel
theorem dX1_takeToken_22 : decode cX1_takeToken 22 = .ok (.if_icmp .le 20, 3) := by decide +kernel
theorem dX1_takeToken_25 : decode cX1_takeToken 25 = .ok (.aload_n 0, 1) := by decide +kernel
theorem dX1_takeToken_26 : decode cX1_takeToken 26 = .ok (.getfield 9, 3) := by decide +kernel
theorem dX1_takeToken_29 : decode cX1_takeToken 29 = .ok (.aload_n 0, 1) := by decide +kernel
theorem dX1_takeToken_30 : decode cX1_takeToken 30 = .ok (.getfield 21, 3) := by decide +kernel
theorem dX1_takeToken_33 : decode cX1_takeToken 33 = .ok (.aload_n 1, 1) := by decide +kernel
theorem dX1_takeToken_34 : decode cX1_takeToken 34 = .ok (.iload_n 2, 1) := by decide +kernel
theorem dX1_takeToken_35 : decode cX1_takeToken 35 = .ok (.iload_n 3, 1) := by decide +kernel
theorem dX1_takeToken_36 : decode cX1_takeToken 36 = .ok (.invokestatic 41, 3) := by decide +kernel
theorem dX1_takeToken_39 : decode cX1_takeToken 39 = .ok (.iastore, 1) := by decide +kernel
theorem dX1_takeToken_40 : decode cX1_takeToken 40 = .ok (.iload_n 3, 1) := by decide +kernel
theorem dX1_takeToken_41 : decode cX1_takeToken 41 = .ok (.ireturn, 1) := by decide +kernel
theorem dX1_takeToken_42 : decode cX1_takeToken 42 = .ok (.aload_n 1, 1) := by decide +kernel
theorem dX1_takeToken_43 : decode cX1_takeToken 43 = .ok (.iload_n 2, 1) := by decide +kernel
theorem dX1_takeToken_44 : decode cX1_takeToken 44 = .ok (.bipush 48, 2) := by decide +kernel
theorem dX1_takeToken_46 : decode cX1_takeToken 46 = .ok (.bipush 57, 2) := by decide +kernel
theorem dX1_takeToken_48 : decode cX1_takeToken 48 = .ok (.invokevirtual 37, 3) := by decide +kernel
theorem dX1_takeToken_51 : decode cX1_takeToken 51 = .ok (.istore_n 3, 1) := by decide +kernel
theorem dX1_takeToken_52 : decode cX1_takeToken 52 = .ok (.iload_n 3, 1) := by decide +kernel
theorem dX1_takeToken_53 : decode cX1_takeToken 53 = .ok (.iload_n 2, 1) := by decide +kernel
theorem dX1_takeToken_54 : decode cX1_takeToken 54 = .ok (.if_icmp .le 31, 3) := by decide +kernel
theorem dX1_takeToken_57 : decode cX1_takeToken 57 = .ok (.aload_n 0, 1) := by decide +kernel
theorem dX1_takeToken_58 : decode cX1_takeToken 58 = .ok (.getfield 9, 3) := by decide +kernel
theorem dX1_takeToken_61 : decode cX1_takeToken 61 = .ok (.aload_n 0, 1) := by decide +kernel
theorem dX1_takeToken_62 : decode cX1_takeToken 62 = .ok (.getfield 21, 3) := by decide +kernel
theorem dX1_takeToken_65 : decode cX1_takeToken 65 = .ok (.bipush 17, 2) := by decide +kernel
theorem dX1_takeToken_67 : decode cX1_takeToken 67 = .ok (.iastore, 1) := by decide +kernel
theorem dX1_takeToken_68 : decode cX1_takeToken 68 = .ok (.aload_n 0, 1) := by decide +kernel
theorem dX1_takeToken_69 : decode cX1_takeToken 69 = .ok (.getfield 18, 3) := by decide +kernel
theorem dX1_takeToken_72 : decode cX1_takeToken 72 = .ok (.aload_n 0, 1) := by decide +kernel
theorem dX1_takeToken_73 : decode cX1_takeToken 73 = .ok (.getfield 21, 3) := by decide +kernel
theorem dX1_takeToken_76 : decode cX1_takeToken 76 = .ok (.aload_n 1, 1) := by decide +kernel
theorem dX1_takeToken_77 : decode cX1_takeToken 77 = .ok (.iload_n 2, 1) := by decide +kernel
theorem dX1_takeToken_78 : decode cX1_takeToken 78 = .ok (.iload_n 3, 1) := by decide +kernel
theorem dX1_takeToken_79 : decode cX1_takeToken 79 = .ok (.invokevirtual 45, 3) := by decide +kernel
theorem dX1_takeToken_82 : decode cX1_takeToken 82 = .ok (.iastore, 1) := by decide +kernel
theorem dX1_takeToken_83 : decode cX1_takeToken 83 = .ok (.iload_n 3, 1) := by decide +kernel
theorem dX1_takeToken_84 : decode cX1_takeToken 84 = .ok (.ireturn, 1) := by decide +kernel
theorem dX1_takeToken_85 : decode cX1_takeToken 85 = .ok (.aload_n 0, 1) := by decide +kernel
theorem dX1_takeToken_86 : decode cX1_takeToken 86 = .ok (.getfield 9, 3) := by decide +kernel
theorem dX1_takeToken_89 : decode cX1_takeToken 89 = .ok (.aload_n 0, 1) := by decide +kernel
theorem dX1_takeToken_90 : decode cX1_takeToken 90 = .ok (.getfield 21, 3) := by decide +kernel
theorem dX1_takeToken_93 : decode cX1_takeToken 93 = .ok (.aload_n 1, 1) := by decide +kernel
theorem dX1_takeToken_94 : decode cX1_takeToken 94 = .ok (.getfield 30, 3) := by decide +kernel
theorem dX1_takeToken_97 : decode cX1_takeToken 97 = .ok (.iload_n 2, 1) := by decide +kernel
theorem dX1_takeToken_98 : decode cX1_takeToken 98 = .ok (.iaload, 1) := by decide +kernel
theorem dX1_takeToken_99 : decode cX1_takeToken 99 = .ok (.invokestatic 49, 3) := by decide +kernel
theorem dX1_takeToken_102 : decode cX1_takeToken 102 = .ok (.iastore, 1) := by decide +kernel
theorem dX1_takeToken_103 : decode cX1_takeToken 103 = .ok (.iload_n 2, 1) := by decide +kernel
theorem dX1_takeToken_104 : decode cX1_takeToken 104 = .ok (.iconst 1, 1) := by decide +kernel
theorem dX1_takeToken_105 : decode cX1_takeToken 105 = .ok (.iadd, 1) := by decide +kernel
theorem dX1_takeToken_106 : decode cX1_takeToken 106 = .ok (.ireturn, 1) := by decide +kernel
theorem dX1_wordAt_0 : decode cX1_wordAt 0 = .ok (.iconst 0, 1) := by decide +kernel
theorem dX1_wordAt_1 : decode cX1_wordAt 1 = .ok (.istore_n 3, 1) := by decide +kernel
theorem dX1_wordAt_2 : decode cX1_wordAt 2 = .ok (.iload_n 3, 1) := by decide +kernel
theorem dX1_wordAt_3 : decode cX1_wordAt 3 = .ok (.bipush 17, 2) := by decide +kernel
theorem dX1_wordAt_5 : decode cX1_wordAt 5 = .ok (.if_icmp .ge 24, 3) := by decide +kernel
theorem dX1_wordAt_8 : decode cX1_wordAt 8 = .ok (.aload_n 0, 1) := by decide +kernel
theorem dX1_wordAt_9 : decode cX1_wordAt 9 = .ok (.iload_n 1, 1) := by decide +kernel
theorem dX1_wordAt_10 : decode cX1_wordAt 10 = .ok (.iload_n 2, 1) := by decide +kernel
theorem dX1_wordAt_11 : decode cX1_wordAt 11 = .ok (.iload_n 3, 1) := by decide +kernel
theorem dX1_wordAt_12 : decode cX1_wordAt 12 = .ok (.invokestatic 53, 3) := by decide +kernel
theorem dX1_wordAt_15 : decode cX1_wordAt 15 = .ok (.invokevirtual 57, 3) := by decide +kernel
theorem dX1_wordAt_18 : decode cX1_wordAt 18 = .ok (.ifCond .eq 5, 3) := by decide +kernel
theorem dX1_wordAt_21 : decode cX1_wordAt 21 = .ok (.iload_n 3, 1) := by decide +kernel
theorem dX1_wordAt_22 : decode cX1_wordAt 22 = .ok (.ireturn, 1) := by decide +kernel
theorem dX1_wordAt_23 : decode cX1_wordAt 23 = .ok (.iinc 3 1, 3) := by decide +kernel
theorem dX1_wordAt_26 : decode cX1_wordAt 26 = .ok (.goto (-24), 3) := by decide +kernel
theorem dX1_wordAt_29 : decode cX1_wordAt 29 = .ok (.bipush 21, 2) := by decide +kernel
theorem dX1_wordAt_31 : decode cX1_wordAt 31 = .ok (.ireturn, 1) := by decide +kernel
theorem dX1_signOf_0 : decode cX1_signOf 0 = .ok (.iload_n 0, 1) := by decide +kernel
theorem dX1_signOf_1 : decode cX1_signOf 1 = .ok (.bipush 59, 2) := by decide +kernel
theorem dX1_signOf_3 : decode cX1_signOf 3 = .ok (.if_icmp .ne 6, 3) := by decide +kernel
theorem dX1_signOf_6 : decode cX1_signOf 6 = .ok (.bipush 18, 2) := by decide +kernel
theorem dX1_signOf_8 : decode cX1_signOf 8 = .ok (.ireturn, 1) := by decide +kernel
theorem dX1_signOf_9 : decode cX1_signOf 9 = .ok (.iload_n 0, 1) := by decide +kernel
theorem dX1_signOf_10 : decode cX1_signOf 10 = .ok (.bipush 45, 2) := by decide +kernel
theorem dX1_signOf_12 : decode cX1_signOf 12 = .ok (.if_icmp .ne 8, 3) := by decide +kernel
theorem dX1_signOf_15 : decode cX1_signOf 15 = .ok (.bipush 19, 2) := by decide +kernel
theorem dX1_signOf_17 : decode cX1_signOf 17 = .ok (.goto 5, 3) := by decide +kernel
theorem dX1_signOf_20 : decode cX1_signOf 20 = .ok (.bipush 21, 2) := by decide +kernel
theorem dX1_signOf_22 : decode cX1_signOf 22 = .ok (.ireturn, 1) := by decide +kernel
theorem dX1_spelled_0 : decode cX1_spelled 0 = .ok (.iload_n 0, 1) := by decide +kernel
theorem dX1_spelled_1 : decode cX1_spelled 1 = .ok (.tableswitch 134 0 16 #[83, 86, 89, 92, 95, 98, 101, 104, 107, 110, 113, 116, 119, 122, 125, 128, 131], 83) := by decide +kernel
theorem dX1_spelled_84 : decode cX1_spelled 84 = .ok (.ldc 61, 2) := by decide +kernel
theorem dX1_spelled_86 : decode cX1_spelled 86 = .ok (.areturn, 1) := by decide +kernel
theorem dX1_spelled_87 : decode cX1_spelled 87 = .ok (.ldc 63, 2) := by decide +kernel
theorem dX1_spelled_89 : decode cX1_spelled 89 = .ok (.areturn, 1) := by decide +kernel
theorem dX1_spelled_90 : decode cX1_spelled 90 = .ok (.ldc 65, 2) := by decide +kernel
theorem dX1_spelled_92 : decode cX1_spelled 92 = .ok (.areturn, 1) := by decide +kernel
theorem dX1_spelled_93 : decode cX1_spelled 93 = .ok (.ldc 67, 2) := by decide +kernel
theorem dX1_spelled_95 : decode cX1_spelled 95 = .ok (.areturn, 1) := by decide +kernel
theorem dX1_spelled_96 : decode cX1_spelled 96 = .ok (.ldc 69, 2) := by decide +kernel
theorem dX1_spelled_98 : decode cX1_spelled 98 = .ok (.areturn, 1) := by decide +kernel
theorem dX1_spelled_99 : decode cX1_spelled 99 = .ok (.ldc 71, 2) := by decide +kernel
theorem dX1_spelled_101 : decode cX1_spelled 101 = .ok (.areturn, 1) := by decide +kernel
theorem dX1_spelled_102 : decode cX1_spelled 102 = .ok (.ldc 73, 2) := by decide +kernel
theorem dX1_spelled_104 : decode cX1_spelled 104 = .ok (.areturn, 1) := by decide +kernel
theorem dX1_spelled_105 : decode cX1_spelled 105 = .ok (.ldc 75, 2) := by decide +kernel
theorem dX1_spelled_107 : decode cX1_spelled 107 = .ok (.areturn, 1) := by decide +kernel
theorem dX1_spelled_108 : decode cX1_spelled 108 = .ok (.ldc 77, 2) := by decide +kernel
theorem dX1_spelled_110 : decode cX1_spelled 110 = .ok (.areturn, 1) := by decide +kernel
theorem dX1_spelled_111 : decode cX1_spelled 111 = .ok (.ldc 79, 2) := by decide +kernel
theorem dX1_spelled_113 : decode cX1_spelled 113 = .ok (.areturn, 1) := by decide +kernel
theorem dX1_spelled_114 : decode cX1_spelled 114 = .ok (.ldc 81, 2) := by decide +kernel
theorem dX1_spelled_116 : decode cX1_spelled 116 = .ok (.areturn, 1) := by decide +kernel
theorem dX1_spelled_117 : decode cX1_spelled 117 = .ok (.ldc 83, 2) := by decide +kernel
theorem dX1_spelled_119 : decode cX1_spelled 119 = .ok (.areturn, 1) := by decide +kernel
theorem dX1_spelled_120 : decode cX1_spelled 120 = .ok (.ldc 85, 2) := by decide +kernel
theorem dX1_spelled_122 : decode cX1_spelled 122 = .ok (.areturn, 1) := by decide +kernel
theorem dX1_spelled_123 : decode cX1_spelled 123 = .ok (.ldc 87, 2) := by decide +kernel
theorem dX1_spelled_125 : decode cX1_spelled 125 = .ok (.areturn, 1) := by decide +kernel
theorem dX1_spelled_126 : decode cX1_spelled 126 = .ok (.ldc 89, 2) := by decide +kernel
theorem dX1_spelled_128 : decode cX1_spelled 128 = .ok (.areturn, 1) := by decide +kernel
theorem dX1_spelled_129 : decode cX1_spelled 129 = .ok (.ldc 91, 2) := by decide +kernel
theorem dX1_spelled_131 : decode cX1_spelled 131 = .ok (.areturn, 1) := by decide +kernel
theorem dX1_spelled_132 : decode cX1_spelled 132 = .ok (.ldc 93, 2) := by decide +kernel
theorem dX1_spelled_134 : decode cX1_spelled 134 = .ok (.areturn, 1) := by decide +kernel
theorem dX1_spelled_135 : decode cX1_spelled 135 = .ok (.ldc 95, 2) := by decide +kernel
theorem dX1_spelled_137 : decode cX1_spelled 137 = .ok (.areturn, 1) := by decide +kernel
theorem dX1_read_0 : decode cX1_read 0 = .ok (.aload_n 0, 1) := by decide +kernel
theorem dX1_read_1 : decode cX1_read 1 = .ok (.iload_n 2, 1) := by decide +kernel
theorem dX1_read_2 : decode cX1_read 2 = .ok (.putfield 97, 3) := by decide +kernel
theorem dX1_read_5 : decode cX1_read 5 = .ok (.aload_n 0, 1) := by decide +kernel
theorem dX1_read_6 : decode cX1_read 6 = .ok (.iconst 0, 1) := by decide +kernel
theorem dX1_read_7 : decode cX1_read 7 = .ok (.putfield 101, 3) := by decide +kernel
theorem dX1_read_10 : decode cX1_read 10 = .ok (.aload_n 0, 1) := by decide +kernel
theorem dX1_read_11 : decode cX1_read 11 = .ok (.aload_n 1, 1) := by decide +kernel
theorem dX1_read_12 : decode cX1_read 12 = .ok (.getfield 104, 3) := by decide +kernel
theorem dX1_read_15 : decode cX1_read 15 = .ok (.putfield 109, 3) := by decide +kernel
theorem dX1_read_18 : decode cX1_read 18 = .ok (.aload_n 0, 1) := by decide +kernel
theorem dX1_read_19 : decode cX1_read 19 = .ok (.iconst 0, 1) := by decide +kernel
theorem dX1_read_20 : decode cX1_read 20 = .ok (.putfield 110, 3) := by decide +kernel
theorem dX1_read_23 : decode cX1_read 23 = .ok (.iconst 1, 1) := by decide +kernel
theorem dX1_read_24 : decode cX1_read 24 = .ok (.istore_n 3, 1) := by decide +kernel
theorem dX1_read_25 : decode cX1_read 25 = .ok (.iload_n 3, 1) := by decide +kernel
theorem dX1_read_26 : decode cX1_read 26 = .ok (.bipush 120, 2) := by decide +kernel
theorem dX1_read_28 : decode cX1_read 28 = .ok (.if_icmp .gt 65, 3) := by decide +kernel
theorem dX1_read_31 : decode cX1_read 31 = .ok (.aload_n 0, 1) := by decide +kernel
theorem dX1_read_32 : decode cX1_read 32 = .ok (.aload_n 1, 1) := by decide +kernel
theorem dX1_read_33 : decode cX1_read 33 = .ok (.invokevirtual 113, 3) := by decide +kernel
theorem dX1_read_36 : decode cX1_read 36 = .ok (.aload_n 0, 1) := by decide +kernel
theorem dX1_read_37 : decode cX1_read 37 = .ok (.getfield 101, 3) := by decide +kernel
theorem dX1_read_40 : decode cX1_read 40 = .ok (.ifCond .ne 19, 3) := by decide +kernel
theorem dX1_read_43 : decode cX1_read 43 = .ok (.aload_n 0, 1) := by decide +kernel
theorem dX1_read_44 : decode cX1_read 44 = .ok (.getfield 9, 3) := by decide +kernel
theorem dX1_read_47 : decode cX1_read 47 = .ok (.aload_n 0, 1) := by decide +kernel
theorem dX1_read_48 : decode cX1_read 48 = .ok (.getfield 110, 3) := by decide +kernel
theorem dX1_read_51 : decode cX1_read 51 = .ok (.iaload, 1) := by decide +kernel
theorem dX1_read_52 : decode cX1_read 52 = .ok (.bipush 20, 2) := by decide +kernel
theorem dX1_read_54 : decode cX1_read 54 = .ok (.if_icmp .ne 5, 3) := by decide +kernel
theorem dX1_read_57 : decode cX1_read 57 = .ok (.iload_n 3, 1) := by decide +kernel
theorem dX1_read_58 : decode cX1_read 58 = .ok (.ireturn, 1) := by decide +kernel
theorem dX1_read_59 : decode cX1_read 59 = .ok (.aload_n 0, 1) := by decide +kernel
theorem dX1_read_60 : decode cX1_read 60 = .ok (.getfield 101, 3) := by decide +kernel
theorem dX1_read_63 : decode cX1_read 63 = .ok (.ifCond .ne 30, 3) := by decide +kernel
theorem dX1_read_66 : decode cX1_read 66 = .ok (.aload_n 0, 1) := by decide +kernel
theorem dX1_read_67 : decode cX1_read 67 = .ok (.getfield 9, 3) := by decide +kernel
theorem dX1_read_70 : decode cX1_read 70 = .ok (.aload_n 0, 1) := by decide +kernel
theorem dX1_read_71 : decode cX1_read 71 = .ok (.getfield 110, 3) := by decide +kernel
theorem dX1_read_74 : decode cX1_read 74 = .ok (.iaload, 1) := by decide +kernel
theorem dX1_read_75 : decode cX1_read 75 = .ok (.bipush 18, 2) := by decide +kernel
theorem dX1_read_77 : decode cX1_read 77 = .ok (.if_icmp .eq 6, 3) := by decide +kernel
theorem dX1_read_80 : decode cX1_read 80 = .ok (.goto 13, 3) := by decide +kernel
theorem dX1_read_83 : decode cX1_read 83 = .ok (.aload_n 0, 1) := by decide +kernel
theorem dX1_read_84 : decode cX1_read 84 = .ok (.invokevirtual 117, 3) := by decide +kernel
theorem dX1_read_87 : decode cX1_read 87 = .ok (.iinc 3 1, 3) := by decide +kernel
theorem dX1_read_90 : decode cX1_read 90 = .ok (.goto (-65), 3) := by decide +kernel
theorem dX1_read_93 : decode cX1_read 93 = .ok (.iconst (-1), 1) := by decide +kernel
theorem dX1_read_94 : decode cX1_read 94 = .ok (.aload_n 0, 1) := by decide +kernel
theorem dX1_read_95 : decode cX1_read 95 = .ok (.getfield 15, 3) := by decide +kernel
theorem dX1_read_98 : decode cX1_read 98 = .ok (.aload_n 0, 1) := by decide +kernel
theorem dX1_read_99 : decode cX1_read 99 = .ok (.getfield 110, 3) := by decide +kernel
theorem dX1_read_102 : decode cX1_read 102 = .ok (.iaload, 1) := by decide +kernel
theorem dX1_read_103 : decode cX1_read 103 = .ok (.isub, 1) := by decide +kernel
theorem dX1_read_104 : decode cX1_read 104 = .ok (.ireturn, 1) := by decide +kernel
theorem dX1_advance_0 : decode cX1_advance 0 = .ok (.aload_n 0, 1) := by decide +kernel
theorem dX1_advance_1 : decode cX1_advance 1 = .ok (.getfield 110, 3) := by decide +kernel
theorem dX1_advance_4 : decode cX1_advance 4 = .ok (.aload_n 0, 1) := by decide +kernel
theorem dX1_advance_5 : decode cX1_advance 5 = .ok (.getfield 21, 3) := by decide +kernel
theorem dX1_advance_8 : decode cX1_advance 8 = .ok (.if_icmp .ge 13, 3) := by decide +kernel
theorem dX1_advance_11 : decode cX1_advance 11 = .ok (.aload_n 0, 1) := by decide +kernel
theorem dX1_advance_12 : decode cX1_advance 12 = .ok (.dup, 1) := by decide +kernel
theorem dX1_advance_13 : decode cX1_advance 13 = .ok (.getfield 110, 3) := by decide +kernel
theorem dX1_advance_16 : decode cX1_advance 16 = .ok (.iconst 1, 1) := by decide +kernel
theorem dX1_advance_17 : decode cX1_advance 17 = .ok (.iadd, 1) := by decide +kernel
theorem dX1_advance_18 : decode cX1_advance 18 = .ok (.putfield 110, 3) := by decide +kernel
theorem dX1_advance_21 : decode cX1_advance 21 = .ok (.return_, 1) := by decide +kernel
theorem dX1_readItem_0 : decode cX1_readItem 0 = .ok (.aload_n 0, 1) := by decide +kernel
theorem dX1_readItem_1 : decode cX1_readItem 1 = .ok (.getfield 9, 3) := by decide +kernel
theorem dX1_readItem_4 : decode cX1_readItem 4 = .ok (.aload_n 0, 1) := by decide +kernel
theorem dX1_readItem_5 : decode cX1_readItem 5 = .ok (.getfield 110, 3) := by decide +kernel
theorem dX1_readItem_8 : decode cX1_readItem 8 = .ok (.iaload, 1) := by decide +kernel
theorem dX1_readItem_9 : decode cX1_readItem 9 = .ok (.istore_n 2, 1) := by decide +kernel
theorem dX1_readItem_10 : decode cX1_readItem 10 = .ok (.iload_n 2, 1) := by decide +kernel
theorem dX1_readItem_11 : decode cX1_readItem 11 = .ok (.invokestatic 120, 3) := by decide +kernel
theorem dX1_readItem_14 : decode cX1_readItem 14 = .ok (.ifCond .eq 10, 3) := by decide +kernel
theorem dX1_readItem_17 : decode cX1_readItem 17 = .ok (.aload_n 0, 1) := by decide +kernel
theorem dX1_readItem_18 : decode cX1_readItem 18 = .ok (.aload_n 1, 1) := by decide +kernel
theorem dX1_readItem_19 : decode cX1_readItem 19 = .ok (.iload_n 2, 1) := by decide +kernel
theorem dX1_readItem_20 : decode cX1_readItem 20 = .ok (.invokevirtual 124, 3) := by decide +kernel
theorem dX1_readItem_23 : decode cX1_readItem 23 = .ok (.return_, 1) := by decide +kernel
theorem dX1_readItem_24 : decode cX1_readItem 24 = .ok (.iload_n 2, 1) := by decide +kernel
theorem dX1_readItem_25 : decode cX1_readItem 25 = .ok (.tableswitch 103 7 11 #[35, 43, 51, 68, 85], 35) := by decide +kernel
theorem dX1_readItem_60 : decode cX1_readItem 60 = .ok (.aload_n 0, 1) := by decide +kernel
theorem dX1_readItem_61 : decode cX1_readItem 61 = .ok (.aload_n 1, 1) := by decide +kernel
theorem dX1_readItem_62 : decode cX1_readItem 62 = .ok (.invokevirtual 128, 3) := by decide +kernel
theorem dX1_readItem_65 : decode cX1_readItem 65 = .ok (.goto 68, 3) := by decide +kernel
theorem dX1_readItem_68 : decode cX1_readItem 68 = .ok (.aload_n 0, 1) := by decide +kernel
theorem dX1_readItem_69 : decode cX1_readItem 69 = .ok (.aload_n 1, 1) := by decide +kernel
theorem dX1_readItem_70 : decode cX1_readItem 70 = .ok (.invokevirtual 131, 3) := by decide +kernel
theorem dX1_readItem_73 : decode cX1_readItem 73 = .ok (.goto 60, 3) := by decide +kernel
theorem dX1_readItem_76 : decode cX1_readItem 76 = .ok (.aload_n 1, 1) := by decide +kernel
theorem dX1_readItem_77 : decode cX1_readItem 77 = .ok (.aload_n 0, 1) := by decide +kernel
theorem dX1_readItem_78 : decode cX1_readItem 78 = .ok (.aload_n 1, 1) := by decide +kernel
theorem dX1_readItem_79 : decode cX1_readItem 79 = .ok (.getfield 134, 3) := by decide +kernel
theorem dX1_readItem_82 : decode cX1_readItem 82 = .ok (.bipush 7, 2) := by decide +kernel
theorem dX1_readItem_84 : decode cX1_readItem 84 = .ok (.invokevirtual 137, 3) := by decide +kernel
theorem dX1_readItem_87 : decode cX1_readItem 87 = .ok (.putfield 134, 3) := by decide +kernel
theorem dX1_readItem_90 : decode cX1_readItem 90 = .ok (.goto 43, 3) := by decide +kernel
theorem dX1_readItem_93 : decode cX1_readItem 93 = .ok (.aload_n 1, 1) := by decide +kernel
theorem dX1_readItem_94 : decode cX1_readItem 94 = .ok (.aload_n 0, 1) := by decide +kernel
theorem dX1_readItem_95 : decode cX1_readItem 95 = .ok (.aload_n 1, 1) := by decide +kernel
theorem dX1_readItem_96 : decode cX1_readItem 96 = .ok (.getfield 140, 3) := by decide +kernel
theorem dX1_readItem_99 : decode cX1_readItem 99 = .ok (.ldc 143, 2) := by decide +kernel
theorem dX1_readItem_101 : decode cX1_readItem 101 = .ok (.invokevirtual 137, 3) := by decide +kernel
theorem dX1_readItem_104 : decode cX1_readItem 104 = .ok (.putfield 140, 3) := by decide +kernel
theorem dX1_readItem_107 : decode cX1_readItem 107 = .ok (.goto 26, 3) := by decide +kernel
theorem dX1_readItem_110 : decode cX1_readItem 110 = .ok (.aload_n 1, 1) := by decide +kernel
theorem dX1_readItem_111 : decode cX1_readItem 111 = .ok (.aload_n 0, 1) := by decide +kernel
theorem dX1_readItem_112 : decode cX1_readItem 112 = .ok (.aload_n 1, 1) := by decide +kernel
theorem dX1_readItem_113 : decode cX1_readItem 113 = .ok (.getfield 144, 3) := by decide +kernel
theorem dX1_readItem_116 : decode cX1_readItem 116 = .ok (.sipush 9999, 3) := by decide +kernel
theorem dX1_readItem_119 : decode cX1_readItem 119 = .ok (.invokevirtual 137, 3) := by decide +kernel
theorem dX1_readItem_122 : decode cX1_readItem 122 = .ok (.putfield 144, 3) := by decide +kernel
theorem dX1_readItem_125 : decode cX1_readItem 125 = .ok (.goto 8, 3) := by decide +kernel
theorem dX1_readItem_128 : decode cX1_readItem 128 = .ok (.aload_n 0, 1) := by decide +kernel
theorem dX1_readItem_129 : decode cX1_readItem 129 = .ok (.iconst 1, 1) := by decide +kernel
theorem dX1_readItem_130 : decode cX1_readItem 130 = .ok (.putfield 101, 3) := by decide +kernel
theorem dX1_readItem_133 : decode cX1_readItem 133 = .ok (.return_, 1) := by decide +kernel
theorem dX1_readCat_0 : decode cX1_readCat 0 = .ok (.aload_n 0, 1) := by decide +kernel
theorem dX1_readCat_1 : decode cX1_readCat 1 = .ok (.getfield 109, 3) := by decide +kernel
theorem dX1_readCat_4 : decode cX1_readCat 4 = .ok (.bipush 8, 2) := by decide +kernel
theorem dX1_readCat_6 : decode cX1_readCat 6 = .ok (.if_icmp .lt 9, 3) := by decide +kernel
theorem dX1_readCat_9 : decode cX1_readCat 9 = .ok (.aload_n 0, 1) := by decide +kernel
theorem dX1_readCat_10 : decode cX1_readCat 10 = .ok (.iconst 1, 1) := by decide +kernel
theorem dX1_readCat_11 : decode cX1_readCat 11 = .ok (.putfield 101, 3) := by decide +kernel
theorem dX1_readCat_14 : decode cX1_readCat 14 = .ok (.return_, 1) := by decide +kernel
theorem dX1_readCat_15 : decode cX1_readCat 15 = .ok (.aload_n 0, 1) := by decide +kernel
theorem dX1_readCat_16 : decode cX1_readCat 16 = .ok (.invokevirtual 117, 3) := by decide +kernel
theorem dX1_readCat_19 : decode cX1_readCat 19 = .ok (.aload_n 0, 1) := by decide +kernel
theorem dX1_readCat_20 : decode cX1_readCat 20 = .ok (.bipush 12, 2) := by decide +kernel
theorem dX1_readCat_22 : decode cX1_readCat 22 = .ok (.bipush 99, 2) := by decide +kernel
theorem dX1_readCat_24 : decode cX1_readCat 24 = .ok (.invokevirtual 147, 3) := by decide +kernel
theorem dX1_readCat_27 : decode cX1_readCat 27 = .ok (.istore_n 3, 1) := by decide +kernel
theorem dX1_readCat_28 : decode cX1_readCat 28 = .ok (.aload_n 0, 1) := by decide +kernel
theorem dX1_readCat_29 : decode cX1_readCat 29 = .ok (.invokevirtual 150, 3) := by decide +kernel
theorem dX1_readCat_32 : decode cX1_readCat 32 = .ok (.istore 4, 2) := by decide +kernel
theorem dX1_readCat_34 : decode cX1_readCat 34 = .ok (.aload_n 0, 1) := by decide +kernel
theorem dX1_readCat_35 : decode cX1_readCat 35 = .ok (.dup, 1) := by decide +kernel
theorem dX1_readCat_36 : decode cX1_readCat 36 = .ok (.getfield 109, 3) := by decide +kernel
theorem dX1_readCat_39 : decode cX1_readCat 39 = .ok (.iconst 1, 1) := by decide +kernel
theorem dX1_readCat_40 : decode cX1_readCat 40 = .ok (.iadd, 1) := by decide +kernel
theorem dX1_readCat_41 : decode cX1_readCat 41 = .ok (.putfield 109, 3) := by decide +kernel
theorem dX1_readCat_44 : decode cX1_readCat 44 = .ok (.aload_n 0, 1) := by decide +kernel
theorem dX1_readCat_45 : decode cX1_readCat 45 = .ok (.getfield 97, 3) := by decide +kernel
theorem dX1_readCat_48 : decode cX1_readCat 48 = .ok (.ifCond .eq 28, 3) := by decide +kernel
theorem dX1_readCat_51 : decode cX1_readCat 51 = .ok (.aload_n 0, 1) := by decide +kernel
theorem dX1_readCat_52 : decode cX1_readCat 52 = .ok (.getfield 101, 3) := by decide +kernel
theorem dX1_readCat_55 : decode cX1_readCat 55 = .ok (.ifCond .ne 21, 3) := by decide +kernel
theorem dX1_readCat_58 : decode cX1_readCat 58 = .ok (.aload_n 1, 1) := by decide +kernel
theorem dX1_readCat_59 : decode cX1_readCat 59 = .ok (.iload_n 2, 1) := by decide +kernel
theorem dX1_readCat_60 : decode cX1_readCat 60 = .ok (.iload_n 3, 1) := by decide +kernel
theorem dX1_readCat_61 : decode cX1_readCat 61 = .ok (.iconst (-1), 1) := by decide +kernel
theorem dX1_readCat_62 : decode cX1_readCat 62 = .ok (.if_icmp .ne 7, 3) := by decide +kernel
theorem dX1_readCat_65 : decode cX1_readCat 65 = .ok (.iconst 0, 1) := by decide +kernel
theorem dX1_readCat_66 : decode cX1_readCat 66 = .ok (.goto 4, 3) := by decide +kernel
theorem dX1_readCat_69 : decode cX1_readCat 69 = .ok (.iload_n 3, 1) := by decide +kernel
theorem dX1_readCat_70 : decode cX1_readCat 70 = .ok (.iload 4, 2) := by decide +kernel
theorem dX1_readCat_72 : decode cX1_readCat 72 = .ok (.invokevirtual 154, 3) := by decide +kernel
theorem dX1_readCat_75 : decode cX1_readCat 75 = .ok (.pop, 1) := by decide +kernel
theorem dX1_readCat_76 : decode cX1_readCat 76 = .ok (.return_, 1) := by decide +kernel
theorem dX1_readHabit_0 : decode cX1_readHabit 0 = .ok (.aload_n 0, 1) := by decide +kernel
theorem dX1_readHabit_1 : decode cX1_readHabit 1 = .ok (.getfield 101, 3) := by decide +kernel
theorem dX1_readHabit_4 : decode cX1_readHabit 4 = .ok (.ifCond .ne 17, 3) := by decide +kernel
theorem dX1_readHabit_7 : decode cX1_readHabit 7 = .ok (.aload_n 0, 1) := by decide +kernel
theorem dX1_readHabit_8 : decode cX1_readHabit 8 = .ok (.getfield 9, 3) := by decide +kernel
theorem dX1_readHabit_11 : decode cX1_readHabit 11 = .ok (.aload_n 0, 1) := by decide +kernel
theorem dX1_readHabit_12 : decode cX1_readHabit 12 = .ok (.getfield 110, 3) := by decide +kernel
theorem dX1_readHabit_15 : decode cX1_readHabit 15 = .ok (.iaload, 1) := by decide +kernel
theorem dX1_readHabit_16 : decode cX1_readHabit 16 = .ok (.bipush 13, 2) := by decide +kernel
theorem dX1_readHabit_18 : decode cX1_readHabit 18 = .ok (.if_icmp .eq 5, 3) := by decide +kernel
theorem dX1_readHabit_21 : decode cX1_readHabit 21 = .ok (.iconst 0, 1) := by decide +kernel
theorem dX1_readHabit_22 : decode cX1_readHabit 22 = .ok (.ireturn, 1) := by decide +kernel
theorem dX1_readHabit_23 : decode cX1_readHabit 23 = .ok (.aload_n 0, 1) := by decide +kernel
theorem dX1_readHabit_24 : decode cX1_readHabit 24 = .ok (.invokevirtual 117, 3) := by decide +kernel
theorem dX1_readHabit_27 : decode cX1_readHabit 27 = .ok (.aload_n 0, 1) := by decide +kernel
theorem dX1_readHabit_28 : decode cX1_readHabit 28 = .ok (.getfield 9, 3) := by decide +kernel
theorem dX1_readHabit_31 : decode cX1_readHabit 31 = .ok (.aload_n 0, 1) := by decide +kernel
theorem dX1_readHabit_32 : decode cX1_readHabit 32 = .ok (.getfield 110, 3) := by decide +kernel
theorem dX1_readHabit_35 : decode cX1_readHabit 35 = .ok (.iaload, 1) := by decide +kernel
theorem dX1_readHabit_36 : decode cX1_readHabit 36 = .ok (.bipush 19, 2) := by decide +kernel
theorem dX1_readHabit_38 : decode cX1_readHabit 38 = .ok (.if_icmp .ne 7, 3) := by decide +kernel
theorem dX1_readHabit_41 : decode cX1_readHabit 41 = .ok (.iconst 1, 1) := by decide +kernel
theorem dX1_readHabit_42 : decode cX1_readHabit 42 = .ok (.goto 4, 3) := by decide +kernel
theorem dX1_readHabit_45 : decode cX1_readHabit 45 = .ok (.iconst 0, 1) := by decide +kernel
theorem dX1_readHabit_46 : decode cX1_readHabit 46 = .ok (.istore_n 1, 1) := by decide +kernel
theorem dX1_readHabit_47 : decode cX1_readHabit 47 = .ok (.iload_n 1, 1) := by decide +kernel
theorem dX1_readHabit_48 : decode cX1_readHabit 48 = .ok (.ifCond .eq 7, 3) := by decide +kernel
theorem dX1_readHabit_51 : decode cX1_readHabit 51 = .ok (.aload_n 0, 1) := by decide +kernel
theorem dX1_readHabit_52 : decode cX1_readHabit 52 = .ok (.invokevirtual 117, 3) := by decide +kernel
theorem dX1_readHabit_55 : decode cX1_readHabit 55 = .ok (.aload_n 0, 1) := by decide +kernel
theorem dX1_readHabit_56 : decode cX1_readHabit 56 = .ok (.bipush 15, 2) := by decide +kernel
theorem dX1_readHabit_58 : decode cX1_readHabit 58 = .ok (.invokevirtual 158, 3) := by decide +kernel
theorem dX1_readHabit_61 : decode cX1_readHabit 61 = .ok (.istore_n 2, 1) := by decide +kernel
theorem dX1_readHabit_62 : decode cX1_readHabit 62 = .ok (.iload_n 1, 1) := by decide +kernel
theorem dX1_readHabit_63 : decode cX1_readHabit 63 = .ok (.ifCond .eq 8, 3) := by decide +kernel
theorem dX1_readHabit_66 : decode cX1_readHabit 66 = .ok (.iload_n 2, 1) := by decide +kernel
theorem dX1_readHabit_67 : decode cX1_readHabit 67 = .ok (.ineg, 1) := by decide +kernel
theorem dX1_readHabit_68 : decode cX1_readHabit 68 = .ok (.goto 4, 3) := by decide +kernel
theorem dX1_readHabit_71 : decode cX1_readHabit 71 = .ok (.iload_n 2, 1) := by decide +kernel
theorem dX1_readHabit_72 : decode cX1_readHabit 72 = .ok (.ireturn, 1) := by decide +kernel
theorem dX1_readIsland_0 : decode cX1_readIsland 0 = .ok (.aload_n 0, 1) := by decide +kernel
theorem dX1_readIsland_1 : decode cX1_readIsland 1 = .ok (.bipush 7, 2) := by decide +kernel
theorem dX1_readIsland_3 : decode cX1_readIsland 3 = .ok (.bipush 99, 2) := by decide +kernel
theorem dX1_readIsland_5 : decode cX1_readIsland 5 = .ok (.invokevirtual 147, 3) := by decide +kernel
theorem dX1_readIsland_8 : decode cX1_readIsland 8 = .ok (.istore_n 2, 1) := by decide +kernel
theorem dX1_readIsland_9 : decode cX1_readIsland 9 = .ok (.aload_n 0, 1) := by decide +kernel
theorem dX1_readIsland_10 : decode cX1_readIsland 10 = .ok (.getfield 97, 3) := by decide +kernel
theorem dX1_readIsland_13 : decode cX1_readIsland 13 = .ok (.ifCond .eq 17, 3) := by decide +kernel
theorem dX1_readIsland_16 : decode cX1_readIsland 16 = .ok (.iload_n 2, 1) := by decide +kernel
theorem dX1_readIsland_17 : decode cX1_readIsland 17 = .ok (.invokestatic 161, 3) := by decide +kernel
theorem dX1_readIsland_20 : decode cX1_readIsland 20 = .ok (.ifCond .eq 10, 3) := by decide +kernel
theorem dX1_readIsland_23 : decode cX1_readIsland 23 = .ok (.aload_n 1, 1) := by decide +kernel
theorem dX1_readIsland_24 : decode cX1_readIsland 24 = .ok (.getfield 164, 3) := by decide +kernel
theorem dX1_readIsland_27 : decode cX1_readIsland 27 = .ok (.iload_n 2, 1) := by decide +kernel
theorem dX1_readIsland_28 : decode cX1_readIsland 28 = .ok (.iconst 1, 1) := by decide +kernel
theorem dX1_readIsland_29 : decode cX1_readIsland 29 = .ok (.bastore, 1) := by decide +kernel
theorem dX1_readIsland_30 : decode cX1_readIsland 30 = .ok (.return_, 1) := by decide +kernel
theorem dX1_readShip_0 : decode cX1_readShip 0 = .ok (.aload_n 0, 1) := by decide +kernel
theorem dX1_readShip_1 : decode cX1_readShip 1 = .ok (.bipush 8, 2) := by decide +kernel
theorem dX1_readShip_3 : decode cX1_readShip 3 = .ok (.iconst 3, 1) := by decide +kernel
theorem dX1_readShip_4 : decode cX1_readShip 4 = .ok (.invokevirtual 147, 3) := by decide +kernel
theorem dX1_readShip_7 : decode cX1_readShip 7 = .ok (.istore_n 2, 1) := by decide +kernel
theorem dX1_readShip_8 : decode cX1_readShip 8 = .ok (.aload_n 0, 1) := by decide +kernel
theorem dX1_readShip_9 : decode cX1_readShip 9 = .ok (.bipush 14, 2) := by decide +kernel
theorem dX1_readShip_11 : decode cX1_readShip 11 = .ok (.bipush 99, 2) := by decide +kernel
theorem dX1_readShip_13 : decode cX1_readShip 13 = .ok (.invokevirtual 147, 3) := by decide +kernel
theorem dX1_readShip_16 : decode cX1_readShip 16 = .ok (.istore_n 3, 1) := by decide +kernel
theorem dX1_readShip_17 : decode cX1_readShip 17 = .ok (.aload_n 0, 1) := by decide +kernel
theorem dX1_readShip_18 : decode cX1_readShip 18 = .ok (.bipush 15, 2) := by decide +kernel
theorem dX1_readShip_20 : decode cX1_readShip 20 = .ok (.bipush 31, 2) := by decide +kernel
theorem dX1_readShip_22 : decode cX1_readShip 22 = .ok (.invokevirtual 147, 3) := by decide +kernel
theorem dX1_readShip_25 : decode cX1_readShip 25 = .ok (.istore 4, 2) := by decide +kernel
theorem dX1_readShip_27 : decode cX1_readShip 27 = .ok (.aload_n 0, 1) := by decide +kernel
theorem dX1_readShip_28 : decode cX1_readShip 28 = .ok (.bipush 16, 2) := by decide +kernel
theorem dX1_readShip_30 : decode cX1_readShip 30 = .ok (.iconst 1, 1) := by decide +kernel
theorem dX1_readShip_31 : decode cX1_readShip 31 = .ok (.aload_n 0, 1) := by decide +kernel
theorem dX1_readShip_32 : decode cX1_readShip 32 = .ok (.getfield 109, 3) := by decide +kernel
theorem dX1_readShip_35 : decode cX1_readShip 35 = .ok (.ishl, 1) := by decide +kernel
theorem dX1_readShip_36 : decode cX1_readShip 36 = .ok (.iconst 1, 1) := by decide +kernel
theorem dX1_readShip_37 : decode cX1_readShip 37 = .ok (.isub, 1) := by decide +kernel
theorem dX1_readShip_38 : decode cX1_readShip 38 = .ok (.invokevirtual 147, 3) := by decide +kernel
theorem dX1_readShip_41 : decode cX1_readShip 41 = .ok (.istore 5, 2) := by decide +kernel
theorem dX1_readShip_43 : decode cX1_readShip 43 = .ok (.aload_n 0, 1) := by decide +kernel
theorem dX1_readShip_44 : decode cX1_readShip 44 = .ok (.getfield 97, 3) := by decide +kernel
theorem dX1_readShip_47 : decode cX1_readShip 47 = .ok (.ifCond .eq 17, 3) := by decide +kernel
theorem dX1_readShip_50 : decode cX1_readShip 50 = .ok (.aload_n 0, 1) := by decide +kernel
theorem dX1_readShip_51 : decode cX1_readShip 51 = .ok (.getfield 101, 3) := by decide +kernel
theorem dX1_readShip_54 : decode cX1_readShip 54 = .ok (.ifCond .ne 10, 3) := by decide +kernel
theorem dX1_readShip_57 : decode cX1_readShip 57 = .ok (.iload_n 2, 1) := by decide +kernel
theorem dX1_readShip_58 : decode cX1_readShip 58 = .ok (.invokestatic 168, 3) := by decide +kernel
theorem dX1_readShip_61 : decode cX1_readShip 61 = .ok (.ifCond .ne 4, 3) := by decide +kernel
theorem dX1_readShip_64 : decode cX1_readShip 64 = .ok (.return_, 1) := by decide +kernel
theorem dX1_readShip_65 : decode cX1_readShip 65 = .ok (.aload_n 1, 1) := by decide +kernel
theorem dX1_readShip_66 : decode cX1_readShip 66 = .ok (.getfield 171, 3) := by decide +kernel
theorem dX1_readShip_69 : decode cX1_readShip 69 = .ok (.iload_n 2, 1) := by decide +kernel
theorem dX1_readShip_70 : decode cX1_readShip 70 = .ok (.iload_n 3, 1) := by decide +kernel
theorem dX1_readShip_71 : decode cX1_readShip 71 = .ok (.iconst (-1), 1) := by decide +kernel
theorem dX1_readShip_72 : decode cX1_readShip 72 = .ok (.if_icmp .ne 12, 3) := by decide +kernel
theorem dX1_readShip_75 : decode cX1_readShip 75 = .ok (.aload_n 1, 1) := by decide +kernel
theorem dX1_readShip_76 : decode cX1_readShip 76 = .ok (.getfield 171, 3) := by decide +kernel
theorem dX1_readShip_79 : decode cX1_readShip 79 = .ok (.iload_n 2, 1) := by decide +kernel
theorem dX1_readShip_80 : decode cX1_readShip 80 = .ok (.iaload, 1) := by decide +kernel
theorem dX1_readShip_81 : decode cX1_readShip 81 = .ok (.goto 4, 3) := by decide +kernel
theorem dX1_readShip_84 : decode cX1_readShip 84 = .ok (.iload_n 3, 1) := by decide +kernel
theorem dX1_readShip_85 : decode cX1_readShip 85 = .ok (.iastore, 1) := by decide +kernel
theorem dX1_readShip_86 : decode cX1_readShip 86 = .ok (.aload_n 1, 1) := by decide +kernel
theorem dX1_readShip_87 : decode cX1_readShip 87 = .ok (.getfield 174, 3) := by decide +kernel
theorem dX1_readShip_90 : decode cX1_readShip 90 = .ok (.iload_n 2, 1) := by decide +kernel
theorem dX1_readShip_91 : decode cX1_readShip 91 = .ok (.iload 4, 2) := by decide +kernel
theorem dX1_readShip_93 : decode cX1_readShip 93 = .ok (.iconst (-1), 1) := by decide +kernel
theorem dX1_readShip_94 : decode cX1_readShip 94 = .ok (.if_icmp .ne 12, 3) := by decide +kernel
theorem dX1_readShip_97 : decode cX1_readShip 97 = .ok (.aload_n 1, 1) := by decide +kernel
theorem dX1_readShip_98 : decode cX1_readShip 98 = .ok (.getfield 174, 3) := by decide +kernel
theorem dX1_readShip_101 : decode cX1_readShip 101 = .ok (.iload_n 2, 1) := by decide +kernel
theorem dX1_readShip_102 : decode cX1_readShip 102 = .ok (.iaload, 1) := by decide +kernel
theorem dX1_readShip_103 : decode cX1_readShip 103 = .ok (.goto 5, 3) := by decide +kernel
theorem dX1_readShip_106 : decode cX1_readShip 106 = .ok (.iload 4, 2) := by decide +kernel
theorem dX1_readShip_108 : decode cX1_readShip 108 = .ok (.iastore, 1) := by decide +kernel
theorem dX1_readShip_109 : decode cX1_readShip 109 = .ok (.aload_n 1, 1) := by decide +kernel
theorem dX1_readShip_110 : decode cX1_readShip 110 = .ok (.getfield 177, 3) := by decide +kernel
theorem dX1_readShip_113 : decode cX1_readShip 113 = .ok (.iload_n 2, 1) := by decide +kernel
theorem dX1_readShip_114 : decode cX1_readShip 114 = .ok (.iload 5, 2) := by decide +kernel
theorem dX1_readShip_116 : decode cX1_readShip 116 = .ok (.iconst (-1), 1) := by decide +kernel
theorem dX1_readShip_117 : decode cX1_readShip 117 = .ok (.if_icmp .ne 12, 3) := by decide +kernel
theorem dX1_readShip_120 : decode cX1_readShip 120 = .ok (.aload_n 1, 1) := by decide +kernel
theorem dX1_readShip_121 : decode cX1_readShip 121 = .ok (.getfield 177, 3) := by decide +kernel
theorem dX1_readShip_124 : decode cX1_readShip 124 = .ok (.iload_n 2, 1) := by decide +kernel
theorem dX1_readShip_125 : decode cX1_readShip 125 = .ok (.iaload, 1) := by decide +kernel
theorem dX1_readShip_126 : decode cX1_readShip 126 = .ok (.goto 5, 3) := by decide +kernel
theorem dX1_readShip_129 : decode cX1_readShip 129 = .ok (.iload 5, 2) := by decide +kernel
theorem dX1_readShip_131 : decode cX1_readShip 131 = .ok (.iastore, 1) := by decide +kernel
theorem dX1_readShip_132 : decode cX1_readShip 132 = .ok (.return_, 1) := by decide +kernel
theorem dX1_readSetting_0 : decode cX1_readSetting 0 = .ok (.aload_n 0, 1) := by decide +kernel
theorem dX1_readSetting_1 : decode cX1_readSetting 1 = .ok (.invokevirtual 117, 3) := by decide +kernel
theorem dX1_readSetting_4 : decode cX1_readSetting 4 = .ok (.aload_n 0, 1) := by decide +kernel
theorem dX1_readSetting_5 : decode cX1_readSetting 5 = .ok (.iload_n 2, 1) := by decide +kernel
theorem dX1_readSetting_6 : decode cX1_readSetting 6 = .ok (.invokevirtual 158, 3) := by decide +kernel
theorem dX1_readSetting_9 : decode cX1_readSetting 9 = .ok (.istore_n 3, 1) := by decide +kernel
theorem dX1_readSetting_10 : decode cX1_readSetting 10 = .ok (.aload_n 0, 1) := by decide +kernel
theorem dX1_readSetting_11 : decode cX1_readSetting 11 = .ok (.getfield 97, 3) := by decide +kernel
theorem dX1_readSetting_14 : decode cX1_readSetting 14 = .ok (.ifCond .eq 14, 3) := by decide +kernel
theorem dX1_readSetting_17 : decode cX1_readSetting 17 = .ok (.aload_n 0, 1) := by decide +kernel
theorem dX1_readSetting_18 : decode cX1_readSetting 18 = .ok (.getfield 101, 3) := by decide +kernel
theorem dX1_readSetting_21 : decode cX1_readSetting 21 = .ok (.ifCond .ne 7, 3) := by decide +kernel
theorem dX1_readSetting_24 : decode cX1_readSetting 24 = .ok (.iload_n 3, 1) := by decide +kernel
theorem dX1_readSetting_25 : decode cX1_readSetting 25 = .ok (.goto 4, 3) := by decide +kernel
theorem dX1_readSetting_28 : decode cX1_readSetting 28 = .ok (.iload_n 1, 1) := by decide +kernel
theorem dX1_readSetting_29 : decode cX1_readSetting 29 = .ok (.ireturn, 1) := by decide +kernel
theorem dX1_readPart_0 : decode cX1_readPart 0 = .ok (.aload_n 0, 1) := by decide +kernel
theorem dX1_readPart_1 : decode cX1_readPart 1 = .ok (.getfield 101, 3) := by decide +kernel
theorem dX1_readPart_4 : decode cX1_readPart 4 = .ok (.ifCond .ne 16, 3) := by decide +kernel
theorem dX1_readPart_7 : decode cX1_readPart 7 = .ok (.aload_n 0, 1) := by decide +kernel
theorem dX1_readPart_8 : decode cX1_readPart 8 = .ok (.getfield 9, 3) := by decide +kernel
theorem dX1_readPart_11 : decode cX1_readPart 11 = .ok (.aload_n 0, 1) := by decide +kernel
theorem dX1_readPart_12 : decode cX1_readPart 12 = .ok (.getfield 110, 3) := by decide +kernel
theorem dX1_readPart_15 : decode cX1_readPart 15 = .ok (.iaload, 1) := by decide +kernel
theorem dX1_readPart_16 : decode cX1_readPart 16 = .ok (.iload_n 1, 1) := by decide +kernel
theorem dX1_readPart_17 : decode cX1_readPart 17 = .ok (.if_icmp .eq 5, 3) := by decide +kernel
theorem dX1_readPart_20 : decode cX1_readPart 20 = .ok (.iconst (-1), 1) := by decide +kernel
theorem dX1_readPart_21 : decode cX1_readPart 21 = .ok (.ireturn, 1) := by decide +kernel
theorem dX1_readPart_22 : decode cX1_readPart 22 = .ok (.aload_n 0, 1) := by decide +kernel
theorem dX1_readPart_23 : decode cX1_readPart 23 = .ok (.invokevirtual 117, 3) := by decide +kernel
theorem dX1_readPart_26 : decode cX1_readPart 26 = .ok (.aload_n 0, 1) := by decide +kernel
theorem dX1_readPart_27 : decode cX1_readPart 27 = .ok (.iload_n 2, 1) := by decide +kernel
theorem dX1_readPart_28 : decode cX1_readPart 28 = .ok (.invokevirtual 158, 3) := by decide +kernel
theorem dX1_readPart_31 : decode cX1_readPart 31 = .ok (.ireturn, 1) := by decide +kernel
theorem dX1_takeNumber_0 : decode cX1_takeNumber 0 = .ok (.aload_n 0, 1) := by decide +kernel
theorem dX1_takeNumber_1 : decode cX1_takeNumber 1 = .ok (.getfield 9, 3) := by decide +kernel
theorem dX1_takeNumber_4 : decode cX1_takeNumber 4 = .ok (.aload_n 0, 1) := by decide +kernel
theorem dX1_takeNumber_5 : decode cX1_takeNumber 5 = .ok (.getfield 110, 3) := by decide +kernel
theorem dX1_takeNumber_8 : decode cX1_takeNumber 8 = .ok (.iaload, 1) := by decide +kernel
theorem dX1_takeNumber_9 : decode cX1_takeNumber 9 = .ok (.bipush 17, 2) := by decide +kernel
theorem dX1_takeNumber_11 : decode cX1_takeNumber 11 = .ok (.if_icmp .ne 16, 3) := by decide +kernel
theorem dX1_takeNumber_14 : decode cX1_takeNumber 14 = .ok (.aload_n 0, 1) := by decide +kernel
theorem dX1_takeNumber_15 : decode cX1_takeNumber 15 = .ok (.getfield 18, 3) := by decide +kernel
theorem dX1_takeNumber_18 : decode cX1_takeNumber 18 = .ok (.aload_n 0, 1) := by decide +kernel
theorem dX1_takeNumber_19 : decode cX1_takeNumber 19 = .ok (.getfield 110, 3) := by decide +kernel
theorem dX1_takeNumber_22 : decode cX1_takeNumber 22 = .ok (.iaload, 1) := by decide +kernel
theorem dX1_takeNumber_23 : decode cX1_takeNumber 23 = .ok (.iload_n 1, 1) := by decide +kernel
theorem dX1_takeNumber_24 : decode cX1_takeNumber 24 = .ok (.if_icmp .le 10, 3) := by decide +kernel
theorem dX1_takeNumber_27 : decode cX1_takeNumber 27 = .ok (.aload_n 0, 1) := by decide +kernel
theorem dX1_takeNumber_28 : decode cX1_takeNumber 28 = .ok (.iconst 1, 1) := by decide +kernel
theorem dX1_takeNumber_29 : decode cX1_takeNumber 29 = .ok (.putfield 101, 3) := by decide +kernel
theorem dX1_takeNumber_32 : decode cX1_takeNumber 32 = .ok (.iconst (-1), 1) := by decide +kernel
theorem dX1_takeNumber_33 : decode cX1_takeNumber 33 = .ok (.ireturn, 1) := by decide +kernel
theorem dX1_takeNumber_34 : decode cX1_takeNumber 34 = .ok (.aload_n 0, 1) := by decide +kernel
theorem dX1_takeNumber_35 : decode cX1_takeNumber 35 = .ok (.getfield 18, 3) := by decide +kernel
theorem dX1_takeNumber_38 : decode cX1_takeNumber 38 = .ok (.aload_n 0, 1) := by decide +kernel
theorem dX1_takeNumber_39 : decode cX1_takeNumber 39 = .ok (.getfield 110, 3) := by decide +kernel
theorem dX1_takeNumber_42 : decode cX1_takeNumber 42 = .ok (.iaload, 1) := by decide +kernel
theorem dX1_takeNumber_43 : decode cX1_takeNumber 43 = .ok (.istore_n 2, 1) := by decide +kernel
theorem dX1_takeNumber_44 : decode cX1_takeNumber 44 = .ok (.aload_n 0, 1) := by decide +kernel
theorem dX1_takeNumber_45 : decode cX1_takeNumber 45 = .ok (.invokevirtual 117, 3) := by decide +kernel
theorem dX1_takeNumber_48 : decode cX1_takeNumber 48 = .ok (.iload_n 2, 1) := by decide +kernel
theorem dX1_takeNumber_49 : decode cX1_takeNumber 49 = .ok (.ireturn, 1) := by decide +kernel
theorem dX2_init_0 : decode cX2_init 0 = .ok (.aload_n 0, 1) := by decide +kernel
theorem dX2_init_1 : decode cX2_init 1 = .ok (.invokespecial 3, 3) := by decide +kernel
theorem dX2_init_4 : decode cX2_init 4 = .ok (.aload_n 0, 1) := by decide +kernel
theorem dX2_init_5 : decode cX2_init 5 = .ok (.bipush 40, 2) := by decide +kernel
theorem dX2_init_7 : decode cX2_init 7 = .ok (.newarray .int, 2) := by decide +kernel
theorem dX2_init_9 : decode cX2_init 9 = .ok (.putfield 9, 3) := by decide +kernel
theorem dX2_init_12 : decode cX2_init 12 = .ok (.return_, 1) := by decide +kernel
theorem dX2_begin_0 : decode cX2_begin 0 = .ok (.aload_n 0, 1) := by decide +kernel
theorem dX2_begin_1 : decode cX2_begin 1 = .ok (.iload_n 1, 1) := by decide +kernel
theorem dX2_begin_2 : decode cX2_begin 2 = .ok (.putfield 15, 3) := by decide +kernel
theorem dX2_begin_5 : decode cX2_begin 5 = .ok (.aload_n 0, 1) := by decide +kernel
theorem dX2_begin_6 : decode cX2_begin 6 = .ok (.iload_n 2, 1) := by decide +kernel
theorem dX2_begin_7 : decode cX2_begin 7 = .ok (.putfield 19, 3) := by decide +kernel
theorem dX2_begin_10 : decode cX2_begin 10 = .ok (.aload_n 0, 1) := by decide +kernel
theorem dX2_begin_11 : decode cX2_begin 11 = .ok (.getfield 9, 3) := by decide +kernel
theorem dX2_begin_14 : decode cX2_begin 14 = .ok (.iconst 0, 1) := by decide +kernel
theorem dX2_begin_15 : decode cX2_begin 15 = .ok (.invokestatic 22, 3) := by decide +kernel
theorem dX2_begin_18 : decode cX2_begin 18 = .ok (.return_, 1) := by decide +kernel
theorem dX2_isMissing_0 : decode cX2_isMissing 0 = .ok (.aload_n 0, 1) := by decide +kernel
theorem dX2_isMissing_1 : decode cX2_isMissing 1 = .ok (.getfield 15, 3) := by decide +kernel
theorem dX2_isMissing_4 : decode cX2_isMissing 4 = .ok (.ifCond .ne 7, 3) := by decide +kernel
theorem dX2_isMissing_7 : decode cX2_isMissing 7 = .ok (.iconst 1, 1) := by decide +kernel
theorem dX2_isMissing_8 : decode cX2_isMissing 8 = .ok (.goto 4, 3) := by decide +kernel
theorem dX2_isMissing_11 : decode cX2_isMissing 11 = .ok (.iconst 0, 1) := by decide +kernel
theorem dX2_isMissing_12 : decode cX2_isMissing 12 = .ok (.ireturn, 1) := by decide +kernel
theorem dX2_lowest_0 : decode cX2_lowest 0 = .ok (.aload_n 0, 1) := by decide +kernel
theorem dX2_lowest_1 : decode cX2_lowest 1 = .ok (.getfield 15, 3) := by decide +kernel
theorem dX2_lowest_4 : decode cX2_lowest 4 = .ok (.bipush 8, 2) := by decide +kernel
theorem dX2_lowest_6 : decode cX2_lowest 6 = .ok (.if_icmp .ne 6, 3) := by decide +kernel
theorem dX2_lowest_9 : decode cX2_lowest 9 = .ok (.iload_n 1, 1) := by decide +kernel
theorem dX2_lowest_10 : decode cX2_lowest 10 = .ok (.i2b, 1) := by decide +kernel
theorem dX2_lowest_11 : decode cX2_lowest 11 = .ok (.ireturn, 1) := by decide +kernel
theorem dX2_lowest_12 : decode cX2_lowest 12 = .ok (.aload_n 0, 1) := by decide +kernel
theorem dX2_lowest_13 : decode cX2_lowest 13 = .ok (.getfield 15, 3) := by decide +kernel
theorem dX2_lowest_16 : decode cX2_lowest 16 = .ok (.bipush 16, 2) := by decide +kernel
theorem dX2_lowest_18 : decode cX2_lowest 18 = .ok (.if_icmp .ne 8, 3) := by decide +kernel
theorem dX2_lowest_21 : decode cX2_lowest 21 = .ok (.iload_n 1, 1) := by decide +kernel
theorem dX2_lowest_22 : decode cX2_lowest 22 = .ok (.i2s, 1) := by decide +kernel
theorem dX2_lowest_23 : decode cX2_lowest 23 = .ok (.goto 4, 3) := by decide +kernel
theorem dX2_lowest_26 : decode cX2_lowest 26 = .ok (.iload_n 1, 1) := by decide +kernel
theorem dX2_lowest_27 : decode cX2_lowest 27 = .ok (.ireturn, 1) := by decide +kernel
theorem dX2_has_0 : decode cX2_has 0 = .ok (.iload_n 1, 1) := by decide +kernel
theorem dX2_has_1 : decode cX2_has 1 = .ok (.ifCond .lt 29, 3) := by decide +kernel
theorem dX2_has_4 : decode cX2_has 4 = .ok (.iload_n 2, 1) := by decide +kernel
theorem dX2_has_5 : decode cX2_has 5 = .ok (.ifCond .lt 25, 3) := by decide +kernel
theorem dX2_has_8 : decode cX2_has 8 = .ok (.iload_n 1, 1) := by decide +kernel
theorem dX2_has_9 : decode cX2_has 9 = .ok (.aload_n 0, 1) := by decide +kernel
theorem dX2_has_10 : decode cX2_has 10 = .ok (.getfield 19, 3) := by decide +kernel
theorem dX2_has_13 : decode cX2_has 13 = .ok (.if_icmp .gt 17, 3) := by decide +kernel
theorem dX2_has_16 : decode cX2_has 16 = .ok (.iload_n 2, 1) := by decide +kernel
theorem dX2_has_17 : decode cX2_has 17 = .ok (.aload_n 0, 1) := by decide +kernel
theorem dX2_has_18 : decode cX2_has 18 = .ok (.getfield 19, 3) := by decide +kernel
theorem dX2_has_21 : decode cX2_has 21 = .ok (.iload_n 1, 1) := by decide +kernel
theorem dX2_has_22 : decode cX2_has 22 = .ok (.isub, 1) := by decide +kernel
theorem dX2_has_23 : decode cX2_has 23 = .ok (.if_icmp .gt 7, 3) := by decide +kernel
theorem dX2_has_26 : decode cX2_has 26 = .ok (.iconst 1, 1) := by decide +kernel
theorem dX2_has_27 : decode cX2_has 27 = .ok (.goto 4, 3) := by decide +kernel
theorem dX2_has_30 : decode cX2_has 30 = .ok (.iconst 0, 1) := by decide +kernel
theorem dX2_has_31 : decode cX2_has 31 = .ok (.ireturn, 1) := by decide +kernel
theorem dX3_init_0 : decode cX3_init 0 = .ok (.aload_n 0, 1) := by decide +kernel
theorem dX3_init_1 : decode cX3_init 1 = .ok (.invokespecial 3, 3) := by decide +kernel
theorem dX3_init_4 : decode cX3_init 4 = .ok (.aload_n 0, 1) := by decide +kernel
theorem dX3_init_5 : decode cX3_init 5 = .ok (.bipush 120, 2) := by decide +kernel
theorem dX3_init_7 : decode cX3_init 7 = .ok (.newarray .int, 2) := by decide +kernel
theorem dX3_init_9 : decode cX3_init 9 = .ok (.putfield 9, 3) := by decide +kernel
theorem dX3_init_12 : decode cX3_init 12 = .ok (.return_, 1) := by decide +kernel
theorem dX3_add_0 : decode cX3_add 0 = .ok (.aload_n 0, 1) := by decide +kernel
theorem dX3_add_1 : decode cX3_add 1 = .ok (.getfield 15, 3) := by decide +kernel
theorem dX3_add_4 : decode cX3_add 4 = .ok (.bipush 120, 2) := by decide +kernel
theorem dX3_add_6 : decode cX3_add 6 = .ok (.if_icmp .ge 23, 3) := by decide +kernel
theorem dX3_add_9 : decode cX3_add 9 = .ok (.aload_n 0, 1) := by decide +kernel
theorem dX3_add_10 : decode cX3_add 10 = .ok (.getfield 9, 3) := by decide +kernel
theorem dX3_add_13 : decode cX3_add 13 = .ok (.aload_n 0, 1) := by decide +kernel
theorem dX3_add_14 : decode cX3_add 14 = .ok (.getfield 15, 3) := by decide +kernel
theorem dX3_add_17 : decode cX3_add 17 = .ok (.iload_n 1, 1) := by decide +kernel
theorem dX3_add_18 : decode cX3_add 18 = .ok (.iastore, 1) := by decide +kernel
theorem dX3_add_19 : decode cX3_add 19 = .ok (.aload_n 0, 1) := by decide +kernel
theorem dX3_add_20 : decode cX3_add 20 = .ok (.dup, 1) := by decide +kernel
theorem dX3_add_21 : decode cX3_add 21 = .ok (.getfield 15, 3) := by decide +kernel
theorem dX3_add_24 : decode cX3_add 24 = .ok (.iconst 1, 1) := by decide +kernel
theorem dX3_add_25 : decode cX3_add 25 = .ok (.iadd, 1) := by decide +kernel
theorem dX3_add_26 : decode cX3_add 26 = .ok (.putfield 15, 3) := by decide +kernel
theorem dX3_add_29 : decode cX3_add 29 = .ok (.return_, 1) := by decide +kernel
theorem dX3_runEnd_0 : decode cX3_runEnd 0 = .ok (.iload_n 1, 1) := by decide +kernel
theorem dX3_runEnd_1 : decode cX3_runEnd 1 = .ok (.istore 4, 2) := by decide +kernel
theorem dX3_runEnd_3 : decode cX3_runEnd 3 = .ok (.iload 4, 2) := by decide +kernel
theorem dX3_runEnd_5 : decode cX3_runEnd 5 = .ok (.aload_n 0, 1) := by decide +kernel
theorem dX3_runEnd_6 : decode cX3_runEnd 6 = .ok (.getfield 15, 3) := by decide +kernel
theorem dX3_runEnd_9 : decode cX3_runEnd 9 = .ok (.if_icmp .ge 24, 3) := by decide +kernel
theorem dX3_runEnd_12 : decode cX3_runEnd 12 = .ok (.aload_n 0, 1) := by decide +kernel
theorem dX3_runEnd_13 : decode cX3_runEnd 13 = .ok (.getfield 9, 3) := by decide +kernel
theorem dX3_runEnd_16 : decode cX3_runEnd 16 = .ok (.iload 4, 2) := by decide +kernel
theorem dX3_runEnd_18 : decode cX3_runEnd 18 = .ok (.iaload, 1) := by decide +kernel
theorem dX3_runEnd_19 : decode cX3_runEnd 19 = .ok (.iload_n 2, 1) := by decide +kernel
theorem dX3_runEnd_20 : decode cX3_runEnd 20 = .ok (.iload_n 3, 1) := by decide +kernel
theorem dX3_runEnd_21 : decode cX3_runEnd 21 = .ok (.invokestatic 19, 3) := by decide +kernel
theorem dX3_runEnd_24 : decode cX3_runEnd 24 = .ok (.ifCond .eq 9, 3) := by decide +kernel
theorem dX3_runEnd_27 : decode cX3_runEnd 27 = .ok (.iinc 4 1, 3) := by decide +kernel
theorem dX3_runEnd_30 : decode cX3_runEnd 30 = .ok (.goto (-27), 3) := by decide +kernel
theorem dX3_runEnd_33 : decode cX3_runEnd 33 = .ok (.iload 4, 2) := by decide +kernel
theorem dX3_runEnd_35 : decode cX3_runEnd 35 = .ok (.ireturn, 1) := by decide +kernel
theorem dX3_numberAt_0 : decode cX3_numberAt 0 = .ok (.iconst 0, 1) := by decide +kernel
theorem dX3_numberAt_1 : decode cX3_numberAt 1 = .ok (.istore_n 3, 1) := by decide +kernel
theorem dX3_numberAt_2 : decode cX3_numberAt 2 = .ok (.iload_n 1, 1) := by decide +kernel
theorem dX3_numberAt_3 : decode cX3_numberAt 3 = .ok (.istore 4, 2) := by decide +kernel
theorem dX3_numberAt_5 : decode cX3_numberAt 5 = .ok (.iload 4, 2) := by decide +kernel
theorem dX3_numberAt_7 : decode cX3_numberAt 7 = .ok (.iload_n 2, 1) := by decide +kernel
theorem dX3_numberAt_8 : decode cX3_numberAt 8 = .ok (.if_icmp .ge 39, 3) := by decide +kernel
theorem dX3_numberAt_11 : decode cX3_numberAt 11 = .ok (.iload 4, 2) := by decide +kernel
theorem dX3_numberAt_13 : decode cX3_numberAt 13 = .ok (.aload_n 0, 1) := by decide +kernel
theorem dX3_numberAt_14 : decode cX3_numberAt 14 = .ok (.getfield 15, 3) := by decide +kernel
theorem dX3_numberAt_17 : decode cX3_numberAt 17 = .ok (.if_icmp .ge 30, 3) := by decide +kernel
theorem dX3_numberAt_20 : decode cX3_numberAt 20 = .ok (.iload_n 3, 1) := by decide +kernel
theorem dX3_numberAt_21 : decode cX3_numberAt 21 = .ok (.bipush 10, 2) := by decide +kernel
theorem dX3_numberAt_23 : decode cX3_numberAt 23 = .ok (.imul, 1) := by decide +kernel
theorem dX3_numberAt_24 : decode cX3_numberAt 24 = .ok (.aload_n 0, 1) := by decide +kernel
theorem dX3_numberAt_25 : decode cX3_numberAt 25 = .ok (.getfield 9, 3) := by decide +kernel
theorem dX3_numberAt_28 : decode cX3_numberAt 28 = .ok (.iload 4, 2) := by decide +kernel
theorem dX3_numberAt_30 : decode cX3_numberAt 30 = .ok (.iaload, 1) := by decide +kernel
theorem dX3_numberAt_31 : decode cX3_numberAt 31 = .ok (.iadd, 1) := by decide +kernel
theorem dX3_numberAt_32 : decode cX3_numberAt 32 = .ok (.bipush 48, 2) := by decide +kernel
theorem dX3_numberAt_34 : decode cX3_numberAt 34 = .ok (.isub, 1) := by decide +kernel
theorem dX3_numberAt_35 : decode cX3_numberAt 35 = .ok (.ldc 23, 2) := by decide +kernel
theorem dX3_numberAt_37 : decode cX3_numberAt 37 = .ok (.invokestatic 24, 3) := by decide +kernel
theorem dX3_numberAt_40 : decode cX3_numberAt 40 = .ok (.istore_n 3, 1) := by decide +kernel
theorem dX3_numberAt_41 : decode cX3_numberAt 41 = .ok (.iinc 4 1, 3) := by decide +kernel
theorem dX3_numberAt_44 : decode cX3_numberAt 44 = .ok (.goto (-39), 3) := by decide +kernel
theorem dX3_numberAt_47 : decode cX3_numberAt 47 = .ok (.iload_n 3, 1) := by decide +kernel
theorem dX3_numberAt_48 : decode cX3_numberAt 48 = .ok (.ireturn, 1) := by decide +kernel
theorem dX3_isWordAt_0 : decode cX3_isWordAt 0 = .ok (.iload_n 2, 1) := by decide +kernel
theorem dX3_isWordAt_1 : decode cX3_isWordAt 1 = .ok (.iload_n 1, 1) := by decide +kernel
theorem dX3_isWordAt_2 : decode cX3_isWordAt 2 = .ok (.isub, 1) := by decide +kernel
theorem dX3_isWordAt_3 : decode cX3_isWordAt 3 = .ok (.aload_n 3, 1) := by decide +kernel
theorem dX3_isWordAt_4 : decode cX3_isWordAt 4 = .ok (.invokevirtual 30, 3) := by decide +kernel
theorem dX3_isWordAt_7 : decode cX3_isWordAt 7 = .ok (.if_icmp .ne 11, 3) := by decide +kernel
theorem dX3_isWordAt_10 : decode cX3_isWordAt 10 = .ok (.iload_n 2, 1) := by decide +kernel
theorem dX3_isWordAt_11 : decode cX3_isWordAt 11 = .ok (.aload_n 0, 1) := by decide +kernel
theorem dX3_isWordAt_12 : decode cX3_isWordAt 12 = .ok (.getfield 15, 3) := by decide +kernel
theorem dX3_isWordAt_15 : decode cX3_isWordAt 15 = .ok (.if_icmp .le 5, 3) := by decide +kernel
theorem dX3_isWordAt_18 : decode cX3_isWordAt 18 = .ok (.iconst 0, 1) := by decide +kernel
theorem dX3_isWordAt_19 : decode cX3_isWordAt 19 = .ok (.ireturn, 1) := by decide +kernel
theorem dX3_isWordAt_20 : decode cX3_isWordAt 20 = .ok (.iload_n 1, 1) := by decide +kernel
theorem dX3_isWordAt_21 : decode cX3_isWordAt 21 = .ok (.istore 4, 2) := by decide +kernel
theorem dX3_isWordAt_23 : decode cX3_isWordAt 23 = .ok (.iload 4, 2) := by decide +kernel
theorem dX3_isWordAt_25 : decode cX3_isWordAt 25 = .ok (.iload_n 2, 1) := by decide +kernel
theorem dX3_isWordAt_26 : decode cX3_isWordAt 26 = .ok (.if_icmp .ge 29, 3) := by decide +kernel
theorem dX3_isWordAt_29 : decode cX3_isWordAt 29 = .ok (.aload_n 0, 1) := by decide +kernel
theorem dX3_isWordAt_30 : decode cX3_isWordAt 30 = .ok (.getfield 9, 3) := by decide +kernel
theorem dX3_isWordAt_33 : decode cX3_isWordAt 33 = .ok (.iload 4, 2) := by decide +kernel
theorem dX3_isWordAt_35 : decode cX3_isWordAt 35 = .ok (.iaload, 1) := by decide +kernel
theorem dX3_isWordAt_36 : decode cX3_isWordAt 36 = .ok (.aload_n 3, 1) := by decide +kernel
theorem dX3_isWordAt_37 : decode cX3_isWordAt 37 = .ok (.iload 4, 2) := by decide +kernel
theorem dX3_isWordAt_39 : decode cX3_isWordAt 39 = .ok (.iload_n 1, 1) := by decide +kernel
theorem dX3_isWordAt_40 : decode cX3_isWordAt 40 = .ok (.isub, 1) := by decide +kernel
theorem dX3_isWordAt_41 : decode cX3_isWordAt 41 = .ok (.invokevirtual 35, 3) := by decide +kernel
theorem dX3_isWordAt_44 : decode cX3_isWordAt 44 = .ok (.if_icmp .eq 5, 3) := by decide +kernel
theorem dX3_isWordAt_47 : decode cX3_isWordAt 47 = .ok (.iconst 0, 1) := by decide +kernel
theorem dX3_isWordAt_48 : decode cX3_isWordAt 48 = .ok (.ireturn, 1) := by decide +kernel
theorem dX3_isWordAt_49 : decode cX3_isWordAt 49 = .ok (.iinc 4 1, 3) := by decide +kernel
theorem dX3_isWordAt_52 : decode cX3_isWordAt 52 = .ok (.goto (-29), 3) := by decide +kernel
theorem dX3_isWordAt_55 : decode cX3_isWordAt 55 = .ok (.iconst 1, 1) := by decide +kernel
theorem dX3_isWordAt_56 : decode cX3_isWordAt 56 = .ok (.ireturn, 1) := by decide +kernel
theorem dJ6_bitCount_0f7a4_0 : decode cJ6_bitCount_0f7a4 0 = .ok (.iload_n 0, 1) := by decide +kernel
theorem dJ6_bitCount_0f7a4_1 : decode cJ6_bitCount_0f7a4 1 = .ok (.iload_n 0, 1) := by decide +kernel
theorem dJ6_bitCount_0f7a4_2 : decode cJ6_bitCount_0f7a4 2 = .ok (.iconst 1, 1) := by decide +kernel
theorem dJ6_bitCount_0f7a4_3 : decode cJ6_bitCount_0f7a4 3 = .ok (.iushr, 1) := by decide +kernel
theorem dJ6_bitCount_0f7a4_4 : decode cJ6_bitCount_0f7a4 4 = .ok (.ldc_w 265, 3) := by decide +kernel
theorem dJ6_bitCount_0f7a4_7 : decode cJ6_bitCount_0f7a4 7 = .ok (.iand, 1) := by decide +kernel
theorem dJ6_bitCount_0f7a4_8 : decode cJ6_bitCount_0f7a4 8 = .ok (.isub, 1) := by decide +kernel
theorem dJ6_bitCount_0f7a4_9 : decode cJ6_bitCount_0f7a4 9 = .ok (.istore_n 0, 1) := by decide +kernel
theorem dJ6_bitCount_0f7a4_10 : decode cJ6_bitCount_0f7a4 10 = .ok (.iload_n 0, 1) := by decide +kernel
theorem dJ6_bitCount_0f7a4_11 : decode cJ6_bitCount_0f7a4 11 = .ok (.ldc_w 266, 3) := by decide +kernel
theorem dJ6_bitCount_0f7a4_14 : decode cJ6_bitCount_0f7a4 14 = .ok (.iand, 1) := by decide +kernel
theorem dJ6_bitCount_0f7a4_15 : decode cJ6_bitCount_0f7a4 15 = .ok (.iload_n 0, 1) := by decide +kernel
theorem dJ6_bitCount_0f7a4_16 : decode cJ6_bitCount_0f7a4 16 = .ok (.iconst 2, 1) := by decide +kernel
theorem dJ6_bitCount_0f7a4_17 : decode cJ6_bitCount_0f7a4 17 = .ok (.iushr, 1) := by decide +kernel
theorem dJ6_bitCount_0f7a4_18 : decode cJ6_bitCount_0f7a4 18 = .ok (.ldc_w 266, 3) := by decide +kernel
theorem dJ6_bitCount_0f7a4_21 : decode cJ6_bitCount_0f7a4 21 = .ok (.iand, 1) := by decide +kernel
theorem dJ6_bitCount_0f7a4_22 : decode cJ6_bitCount_0f7a4 22 = .ok (.iadd, 1) := by decide +kernel
theorem dJ6_bitCount_0f7a4_23 : decode cJ6_bitCount_0f7a4 23 = .ok (.istore_n 0, 1) := by decide +kernel
theorem dJ6_bitCount_0f7a4_24 : decode cJ6_bitCount_0f7a4 24 = .ok (.iload_n 0, 1) := by decide +kernel
theorem dJ6_bitCount_0f7a4_25 : decode cJ6_bitCount_0f7a4 25 = .ok (.iload_n 0, 1) := by decide +kernel
theorem dJ6_bitCount_0f7a4_26 : decode cJ6_bitCount_0f7a4 26 = .ok (.iconst 4, 1) := by decide +kernel
theorem dJ6_bitCount_0f7a4_27 : decode cJ6_bitCount_0f7a4 27 = .ok (.iushr, 1) := by decide +kernel
theorem dJ6_bitCount_0f7a4_28 : decode cJ6_bitCount_0f7a4 28 = .ok (.iadd, 1) := by decide +kernel
theorem dJ6_bitCount_0f7a4_29 : decode cJ6_bitCount_0f7a4 29 = .ok (.ldc_w 267, 3) := by decide +kernel
theorem dJ6_bitCount_0f7a4_32 : decode cJ6_bitCount_0f7a4 32 = .ok (.iand, 1) := by decide +kernel
theorem dJ6_bitCount_0f7a4_33 : decode cJ6_bitCount_0f7a4 33 = .ok (.istore_n 0, 1) := by decide +kernel
theorem dJ6_bitCount_0f7a4_34 : decode cJ6_bitCount_0f7a4 34 = .ok (.iload_n 0, 1) := by decide +kernel
theorem dJ6_bitCount_0f7a4_35 : decode cJ6_bitCount_0f7a4 35 = .ok (.iload_n 0, 1) := by decide +kernel
theorem dJ6_bitCount_0f7a4_36 : decode cJ6_bitCount_0f7a4 36 = .ok (.bipush 8, 2) := by decide +kernel
theorem dJ6_bitCount_0f7a4_38 : decode cJ6_bitCount_0f7a4 38 = .ok (.iushr, 1) := by decide +kernel
theorem dJ6_bitCount_0f7a4_39 : decode cJ6_bitCount_0f7a4 39 = .ok (.iadd, 1) := by decide +kernel
theorem dJ6_bitCount_0f7a4_40 : decode cJ6_bitCount_0f7a4 40 = .ok (.istore_n 0, 1) := by decide +kernel
theorem dJ6_bitCount_0f7a4_41 : decode cJ6_bitCount_0f7a4 41 = .ok (.iload_n 0, 1) := by decide +kernel
theorem dJ6_bitCount_0f7a4_42 : decode cJ6_bitCount_0f7a4 42 = .ok (.iload_n 0, 1) := by decide +kernel
theorem dJ6_bitCount_0f7a4_43 : decode cJ6_bitCount_0f7a4 43 = .ok (.bipush 16, 2) := by decide +kernel
theorem dJ6_bitCount_0f7a4_45 : decode cJ6_bitCount_0f7a4 45 = .ok (.iushr, 1) := by decide +kernel
theorem dJ6_bitCount_0f7a4_46 : decode cJ6_bitCount_0f7a4 46 = .ok (.iadd, 1) := by decide +kernel
theorem dJ6_bitCount_0f7a4_47 : decode cJ6_bitCount_0f7a4 47 = .ok (.istore_n 0, 1) := by decide +kernel
theorem dJ6_bitCount_0f7a4_48 : decode cJ6_bitCount_0f7a4 48 = .ok (.iload_n 0, 1) := by decide +kernel
theorem dJ6_bitCount_0f7a4_49 : decode cJ6_bitCount_0f7a4 49 = .ok (.bipush 63, 2) := by decide +kernel
theorem dJ6_bitCount_0f7a4_51 : decode cJ6_bitCount_0f7a4 51 = .ok (.iand, 1) := by decide +kernel
theorem dJ6_bitCount_0f7a4_52 : decode cJ6_bitCount_0f7a4 52 = .ok (.ireturn, 1) := by decide +kernel
theorem dJ9_floorMod_7cf53_0 : decode cJ9_floorMod_7cf53 0 = .ok (.iload_n 0, 1) := by decide +kernel
theorem dJ9_floorMod_7cf53_1 : decode cJ9_floorMod_7cf53 1 = .ok (.iload_n 1, 1) := by decide +kernel
theorem dJ9_floorMod_7cf53_2 : decode cJ9_floorMod_7cf53 2 = .ok (.irem, 1) := by decide +kernel
theorem dJ9_floorMod_7cf53_3 : decode cJ9_floorMod_7cf53 3 = .ok (.istore_n 2, 1) := by decide +kernel
theorem dJ9_floorMod_7cf53_4 : decode cJ9_floorMod_7cf53 4 = .ok (.iload_n 0, 1) := by decide +kernel
theorem dJ9_floorMod_7cf53_5 : decode cJ9_floorMod_7cf53 5 = .ok (.iload_n 1, 1) := by decide +kernel
theorem dJ9_floorMod_7cf53_6 : decode cJ9_floorMod_7cf53 6 = .ok (.ixor, 1) := by decide +kernel
theorem dJ9_floorMod_7cf53_7 : decode cJ9_floorMod_7cf53 7 = .ok (.ifCond .ge 11, 3) := by decide +kernel
theorem dJ9_floorMod_7cf53_10 : decode cJ9_floorMod_7cf53 10 = .ok (.iload_n 2, 1) := by decide +kernel
theorem dJ9_floorMod_7cf53_11 : decode cJ9_floorMod_7cf53 11 = .ok (.ifCond .eq 7, 3) := by decide +kernel
theorem dJ9_floorMod_7cf53_14 : decode cJ9_floorMod_7cf53 14 = .ok (.iload_n 2, 1) := by decide +kernel
theorem dJ9_floorMod_7cf53_15 : decode cJ9_floorMod_7cf53 15 = .ok (.iload_n 1, 1) := by decide +kernel
theorem dJ9_floorMod_7cf53_16 : decode cJ9_floorMod_7cf53 16 = .ok (.iadd, 1) := by decide +kernel
theorem dJ9_floorMod_7cf53_17 : decode cJ9_floorMod_7cf53 17 = .ok (.ireturn, 1) := by decide +kernel
theorem dJ9_floorMod_7cf53_18 : decode cJ9_floorMod_7cf53 18 = .ok (.iload_n 2, 1) := by decide +kernel
theorem dJ9_floorMod_7cf53_19 : decode cJ9_floorMod_7cf53 19 = .ok (.ireturn, 1) := by decide +kernel
theorem dJ9_abs_0f7a4_0 : decode cJ9_abs_0f7a4 0 = .ok (.iload_n 0, 1) := by decide +kernel
theorem dJ9_abs_0f7a4_1 : decode cJ9_abs_0f7a4 1 = .ok (.ifCond .ge 8, 3) := by decide +kernel
theorem dJ9_abs_0f7a4_4 : decode cJ9_abs_0f7a4 4 = .ok (.iload_n 0, 1) := by decide +kernel
theorem dJ9_abs_0f7a4_5 : decode cJ9_abs_0f7a4 5 = .ok (.ineg, 1) := by decide +kernel
theorem dJ9_abs_0f7a4_6 : decode cJ9_abs_0f7a4 6 = .ok (.goto 4, 3) := by decide +kernel
theorem dJ9_abs_0f7a4_9 : decode cJ9_abs_0f7a4 9 = .ok (.iload_n 0, 1) := by decide +kernel
theorem dJ9_abs_0f7a4_10 : decode cJ9_abs_0f7a4 10 = .ok (.ireturn, 1) := by decide +kernel
theorem dJ9_max_7cf53_0 : decode cJ9_max_7cf53 0 = .ok (.iload_n 0, 1) := by decide +kernel
theorem dJ9_max_7cf53_1 : decode cJ9_max_7cf53 1 = .ok (.iload_n 1, 1) := by decide +kernel
theorem dJ9_max_7cf53_2 : decode cJ9_max_7cf53 2 = .ok (.if_icmp .lt 7, 3) := by decide +kernel
theorem dJ9_max_7cf53_5 : decode cJ9_max_7cf53 5 = .ok (.iload_n 0, 1) := by decide +kernel
theorem dJ9_max_7cf53_6 : decode cJ9_max_7cf53 6 = .ok (.goto 4, 3) := by decide +kernel
theorem dJ9_max_7cf53_9 : decode cJ9_max_7cf53 9 = .ok (.iload_n 1, 1) := by decide +kernel
theorem dJ9_max_7cf53_10 : decode cJ9_max_7cf53 10 = .ok (.ireturn, 1) := by decide +kernel
theorem dJ9_min_7cf53_0 : decode cJ9_min_7cf53 0 = .ok (.iload_n 0, 1) := by decide +kernel
theorem dJ9_min_7cf53_1 : decode cJ9_min_7cf53 1 = .ok (.iload_n 1, 1) := by decide +kernel
theorem dJ9_min_7cf53_2 : decode cJ9_min_7cf53 2 = .ok (.if_icmp .gt 7, 3) := by decide +kernel
theorem dJ9_min_7cf53_5 : decode cJ9_min_7cf53 5 = .ok (.iload_n 0, 1) := by decide +kernel
theorem dJ9_min_7cf53_6 : decode cJ9_min_7cf53 6 = .ok (.goto 4, 3) := by decide +kernel
theorem dJ9_min_7cf53_9 : decode cJ9_min_7cf53 9 = .ok (.iload_n 1, 1) := by decide +kernel
theorem dJ9_min_7cf53_10 : decode cJ9_min_7cf53 10 = .ok (.ireturn, 1) := by decide +kernel
theorem dJ0_length_8abf5_0 : decode cJ0_length_8abf5 0 = .ok (.aload_n 0, 1) := by decide +kernel
theorem dJ0_length_8abf5_1 : decode cJ0_length_8abf5 1 = .ok (.getfield 9, 3) := by decide +kernel
theorem dJ0_length_8abf5_4 : decode cJ0_length_8abf5 4 = .ok (.arraylength, 1) := by decide +kernel
theorem dJ0_length_8abf5_5 : decode cJ0_length_8abf5 5 = .ok (.aload_n 0, 1) := by decide +kernel
theorem dJ0_length_8abf5_6 : decode cJ0_length_8abf5 6 = .ok (.invokevirtual 335, 3) := by decide +kernel
theorem dJ0_length_8abf5_9 : decode cJ0_length_8abf5 9 = .ok (.ishr, 1) := by decide +kernel
theorem dJ0_length_8abf5_10 : decode cJ0_length_8abf5 10 = .ok (.ireturn, 1) := by decide +kernel
theorem dJ0_charAt_5068e_0 : decode cJ0_charAt_5068e 0 = .ok (.aload_n 0, 1) := by decide +kernel
theorem dJ0_charAt_5068e_1 : decode cJ0_charAt_5068e 1 = .ok (.invokevirtual 492, 3) := by decide +kernel
theorem dJ0_charAt_5068e_4 : decode cJ0_charAt_5068e 4 = .ok (.ifCond .eq 12, 3) := by decide +kernel
theorem dJ0_charAt_5068e_7 : decode cJ0_charAt_5068e 7 = .ok (.aload_n 0, 1) := by decide +kernel
theorem dJ0_charAt_5068e_8 : decode cJ0_charAt_5068e 8 = .ok (.getfield 9, 3) := by decide +kernel
theorem dJ0_charAt_5068e_11 : decode cJ0_charAt_5068e 11 = .ok (.iload_n 1, 1) := by decide +kernel
theorem dJ0_charAt_5068e_12 : decode cJ0_charAt_5068e 12 = .ok (.invokestatic 495, 3) := by decide +kernel
theorem dJ0_charAt_5068e_15 : decode cJ0_charAt_5068e 15 = .ok (.ireturn, 1) := by decide +kernel
theorem dJ0_charAt_5068e_16 : decode cJ0_charAt_5068e 16 = .ok (.aload_n 0, 1) := by decide +kernel
theorem dJ0_charAt_5068e_17 : decode cJ0_charAt_5068e 17 = .ok (.getfield 9, 3) := by decide +kernel
theorem dJ0_charAt_5068e_20 : decode cJ0_charAt_5068e 20 = .ok (.iload_n 1, 1) := by decide +kernel
theorem dJ0_charAt_5068e_21 : decode cJ0_charAt_5068e 21 = .ok (.invokestatic 498, 3) := by decide +kernel
theorem dJ0_charAt_5068e_24 : decode cJ0_charAt_5068e 24 = .ok (.ireturn, 1) := by decide +kernel
theorem dJ0_coder_7d493_0 : decode cJ0_coder_7d493 0 = .ok (.getstatic 38, 3) := by decide +kernel
theorem dJ0_coder_7d493_3 : decode cJ0_coder_7d493 3 = .ok (.ifCond .eq 10, 3) := by decide +kernel
theorem dJ0_coder_7d493_6 : decode cJ0_coder_7d493 6 = .ok (.aload_n 0, 1) := by decide +kernel
theorem dJ0_coder_7d493_7 : decode cJ0_coder_7d493 7 = .ok (.getfield 15, 3) := by decide +kernel
theorem dJ0_coder_7d493_10 : decode cJ0_coder_7d493 10 = .ok (.goto 4, 3) := by decide +kernel
theorem dJ0_coder_7d493_13 : decode cJ0_coder_7d493 13 = .ok (.iconst 1, 1) := by decide +kernel
theorem dJ0_coder_7d493_14 : decode cJ0_coder_7d493 14 = .ok (.ireturn, 1) := by decide +kernel
theorem dJ0_isLatin1_aae02_0 : decode cJ0_isLatin1_aae02 0 = .ok (.getstatic 38, 3) := by decide +kernel
theorem dJ0_isLatin1_aae02_3 : decode cJ0_isLatin1_aae02 3 = .ok (.ifCond .eq 14, 3) := by decide +kernel
theorem dJ0_isLatin1_aae02_6 : decode cJ0_isLatin1_aae02 6 = .ok (.aload_n 0, 1) := by decide +kernel
theorem dJ0_isLatin1_aae02_7 : decode cJ0_isLatin1_aae02 7 = .ok (.getfield 15, 3) := by decide +kernel
theorem dJ0_isLatin1_aae02_10 : decode cJ0_isLatin1_aae02 10 = .ok (.ifCond .ne 7, 3) := by decide +kernel
theorem dJ0_isLatin1_aae02_13 : decode cJ0_isLatin1_aae02 13 = .ok (.iconst 1, 1) := by decide +kernel
theorem dJ0_isLatin1_aae02_14 : decode cJ0_isLatin1_aae02 14 = .ok (.goto 4, 3) := by decide +kernel
theorem dJ0_isLatin1_aae02_17 : decode cJ0_isLatin1_aae02 17 = .ok (.iconst 0, 1) := by decide +kernel
theorem dJ0_isLatin1_aae02_18 : decode cJ0_isLatin1_aae02 18 = .ok (.ireturn, 1) := by decide +kernel
theorem dJ0_checkIndex_df160_0 : decode cJ0_checkIndex_df160 0 = .ok (.iload_n 0, 1) := by decide +kernel
theorem dJ0_checkIndex_df160_1 : decode cJ0_checkIndex_df160 1 = .ok (.iload_n 1, 1) := by decide +kernel
theorem dJ0_checkIndex_df160_2 : decode cJ0_checkIndex_df160 2 = .ok (.getstatic 1053, 3) := by decide +kernel
theorem dJ0_checkIndex_df160_5 : decode cJ0_checkIndex_df160 5 = .ok (.invokestatic 1059, 3) := by decide +kernel
theorem dJ0_checkIndex_df160_8 : decode cJ0_checkIndex_df160 8 = .ok (.pop, 1) := by decide +kernel
theorem dJ0_checkIndex_df160_9 : decode cJ0_checkIndex_df160 9 = .ok (.return_, 1) := by decide +kernel
theorem dJ1_charAt_3b067_0 : decode cJ1_charAt_3b067 0 = .ok (.iload_n 1, 1) := by decide +kernel
theorem dJ1_charAt_3b067_1 : decode cJ1_charAt_3b067 1 = .ok (.aload_n 0, 1) := by decide +kernel
theorem dJ1_charAt_3b067_2 : decode cJ1_charAt_3b067 2 = .ok (.arraylength, 1) := by decide +kernel
theorem dJ1_charAt_3b067_3 : decode cJ1_charAt_3b067 3 = .ok (.invokestatic 9, 3) := by decide +kernel
theorem dJ1_charAt_3b067_6 : decode cJ1_charAt_3b067 6 = .ok (.aload_n 0, 1) := by decide +kernel
theorem dJ1_charAt_3b067_7 : decode cJ1_charAt_3b067 7 = .ok (.iload_n 1, 1) := by decide +kernel
theorem dJ1_charAt_3b067_8 : decode cJ1_charAt_3b067 8 = .ok (.baload, 1) := by decide +kernel
theorem dJ1_charAt_3b067_9 : decode cJ1_charAt_3b067 9 = .ok (.sipush 255, 3) := by decide +kernel
theorem dJ1_charAt_3b067_12 : decode cJ1_charAt_3b067 12 = .ok (.iand, 1) := by decide +kernel
theorem dJ1_charAt_3b067_13 : decode cJ1_charAt_3b067 13 = .ok (.i2c, 1) := by decide +kernel
theorem dJ1_charAt_3b067_14 : decode cJ1_charAt_3b067 14 = .ok (.ireturn, 1) := by decide +kernel
theorem dJ2_getChar_3b067_0 : decode cJ2_getChar_3b067 0 = .ok (.getstatic 44, 3) := by decide +kernel
theorem dJ2_getChar_3b067_3 : decode cJ2_getChar_3b067 3 = .ok (.ifCond .ne 25, 3) := by decide +kernel
theorem dJ2_getChar_3b067_6 : decode cJ2_getChar_3b067 6 = .ok (.iload_n 1, 1) := by decide +kernel
theorem dJ2_getChar_3b067_7 : decode cJ2_getChar_3b067 7 = .ok (.ifCond .lt 11, 3) := by decide +kernel
theorem dJ2_getChar_3b067_10 : decode cJ2_getChar_3b067 10 = .ok (.iload_n 1, 1) := by decide +kernel
theorem dJ2_getChar_3b067_11 : decode cJ2_getChar_3b067 11 = .ok (.aload_n 0, 1) := by decide +kernel
theorem dJ2_getChar_3b067_12 : decode cJ2_getChar_3b067 12 = .ok (.invokestatic 48, 3) := by decide +kernel
theorem dJ2_getChar_3b067_15 : decode cJ2_getChar_3b067 15 = .ok (.if_icmp .lt 13, 3) := by decide +kernel
theorem dJ2_getChar_3b067_18 : decode cJ2_getChar_3b067 18 = .ok (.new 52, 3) := by decide +kernel
theorem dJ2_getChar_3b067_21 : decode cJ2_getChar_3b067 21 = .ok (.dup, 1) := by decide +kernel
theorem dJ2_getChar_3b067_22 : decode cJ2_getChar_3b067 22 = .ok (.ldc 54, 2) := by decide +kernel
theorem dJ2_getChar_3b067_24 : decode cJ2_getChar_3b067 24 = .ok (.invokespecial 56, 3) := by decide +kernel
theorem dJ2_getChar_3b067_27 : decode cJ2_getChar_3b067 27 = .ok (.athrow, 1) := by decide +kernel
theorem dJ2_getChar_3b067_28 : decode cJ2_getChar_3b067 28 = .ok (.iload_n 1, 1) := by decide +kernel
theorem dJ2_getChar_3b067_29 : decode cJ2_getChar_3b067 29 = .ok (.iconst 1, 1) := by decide +kernel
theorem dJ2_getChar_3b067_30 : decode cJ2_getChar_3b067 30 = .ok (.ishl, 1) := by decide +kernel
theorem dJ2_getChar_3b067_31 : decode cJ2_getChar_3b067 31 = .ok (.istore_n 1, 1) := by decide +kernel
theorem dJ2_getChar_3b067_32 : decode cJ2_getChar_3b067 32 = .ok (.aload_n 0, 1) := by decide +kernel
theorem dJ2_getChar_3b067_33 : decode cJ2_getChar_3b067 33 = .ok (.iload_n 1, 1) := by decide +kernel
theorem dJ2_getChar_3b067_34 : decode cJ2_getChar_3b067 34 = .ok (.iinc 1 1, 3) := by decide +kernel
theorem dJ2_getChar_3b067_37 : decode cJ2_getChar_3b067 37 = .ok (.baload, 1) := by decide +kernel
theorem dJ2_getChar_3b067_38 : decode cJ2_getChar_3b067 38 = .ok (.sipush 255, 3) := by decide +kernel
theorem dJ2_getChar_3b067_41 : decode cJ2_getChar_3b067 41 = .ok (.iand, 1) := by decide +kernel
theorem dJ2_getChar_3b067_42 : decode cJ2_getChar_3b067 42 = .ok (.getstatic 59, 3) := by decide +kernel
theorem dJ2_getChar_3b067_45 : decode cJ2_getChar_3b067 45 = .ok (.ishl, 1) := by decide +kernel
theorem dJ2_getChar_3b067_46 : decode cJ2_getChar_3b067 46 = .ok (.aload_n 0, 1) := by decide +kernel
theorem dJ2_getChar_3b067_47 : decode cJ2_getChar_3b067 47 = .ok (.iload_n 1, 1) := by decide +kernel
theorem dJ2_getChar_3b067_48 : decode cJ2_getChar_3b067 48 = .ok (.baload, 1) := by decide +kernel
theorem dJ2_getChar_3b067_49 : decode cJ2_getChar_3b067 49 = .ok (.sipush 255, 3) := by decide +kernel
theorem dJ2_getChar_3b067_52 : decode cJ2_getChar_3b067 52 = .ok (.iand, 1) := by decide +kernel
theorem dJ2_getChar_3b067_53 : decode cJ2_getChar_3b067 53 = .ok (.getstatic 63, 3) := by decide +kernel
theorem dJ2_getChar_3b067_56 : decode cJ2_getChar_3b067 56 = .ok (.ishl, 1) := by decide +kernel
theorem dJ2_getChar_3b067_57 : decode cJ2_getChar_3b067 57 = .ok (.ior, 1) := by decide +kernel
theorem dJ2_getChar_3b067_58 : decode cJ2_getChar_3b067 58 = .ok (.i2c, 1) := by decide +kernel
theorem dJ2_getChar_3b067_59 : decode cJ2_getChar_3b067 59 = .ok (.ireturn, 1) := by decide +kernel
theorem dJ2_length_9d52b_0 : decode cJ2_length_9d52b 0 = .ok (.aload_n 0, 1) := by decide +kernel
theorem dJ2_length_9d52b_1 : decode cJ2_length_9d52b 1 = .ok (.arraylength, 1) := by decide +kernel
theorem dJ2_length_9d52b_2 : decode cJ2_length_9d52b 2 = .ok (.iconst 1, 1) := by decide +kernel
theorem dJ2_length_9d52b_3 : decode cJ2_length_9d52b 3 = .ok (.ishr, 1) := by decide +kernel
theorem dJ2_length_9d52b_4 : decode cJ2_length_9d52b 4 = .ok (.ireturn, 1) := by decide +kernel
theorem dJ2_charAt_3b067_0 : decode cJ2_charAt_3b067 0 = .ok (.iload_n 1, 1) := by decide +kernel
theorem dJ2_charAt_3b067_1 : decode cJ2_charAt_3b067 1 = .ok (.aload_n 0, 1) := by decide +kernel
theorem dJ2_charAt_3b067_2 : decode cJ2_charAt_3b067 2 = .ok (.invokestatic 67, 3) := by decide +kernel
theorem dJ2_charAt_3b067_5 : decode cJ2_charAt_3b067 5 = .ok (.aload_n 0, 1) := by decide +kernel
theorem dJ2_charAt_3b067_6 : decode cJ2_charAt_3b067 6 = .ok (.iload_n 1, 1) := by decide +kernel
theorem dJ2_charAt_3b067_7 : decode cJ2_charAt_3b067 7 = .ok (.invokestatic 71, 3) := by decide +kernel
theorem dJ2_charAt_3b067_10 : decode cJ2_charAt_3b067 10 = .ok (.ireturn, 1) := by decide +kernel
theorem dJ2_checkIndex_2214a_0 : decode cJ2_checkIndex_2214a 0 = .ok (.iload_n 0, 1) := by decide +kernel
theorem dJ2_checkIndex_2214a_1 : decode cJ2_checkIndex_2214a 1 = .ok (.aload_n 1, 1) := by decide +kernel
theorem dJ2_checkIndex_2214a_2 : decode cJ2_checkIndex_2214a 2 = .ok (.invokestatic 48, 3) := by decide +kernel
theorem dJ2_checkIndex_2214a_5 : decode cJ2_checkIndex_2214a 5 = .ok (.invokestatic 414, 3) := by decide +kernel
theorem dJ2_checkIndex_2214a_8 : decode cJ2_checkIndex_2214a 8 = .ok (.return_, 1) := by decide +kernel
theorem dJ7_fill_53178_0 : decode cJ7_fill_53178 0 = .ok (.iconst 0, 1) := by decide +kernel
theorem dJ7_fill_53178_1 : decode cJ7_fill_53178 1 = .ok (.istore_n 2, 1) := by decide +kernel
theorem dJ7_fill_53178_2 : decode cJ7_fill_53178 2 = .ok (.aload_n 0, 1) := by decide +kernel
theorem dJ7_fill_53178_3 : decode cJ7_fill_53178 3 = .ok (.arraylength, 1) := by decide +kernel
theorem dJ7_fill_53178_4 : decode cJ7_fill_53178 4 = .ok (.istore_n 3, 1) := by decide +kernel
theorem dJ7_fill_53178_5 : decode cJ7_fill_53178 5 = .ok (.iload_n 2, 1) := by decide +kernel
theorem dJ7_fill_53178_6 : decode cJ7_fill_53178 6 = .ok (.iload_n 3, 1) := by decide +kernel
theorem dJ7_fill_53178_7 : decode cJ7_fill_53178 7 = .ok (.if_icmp .ge 13, 3) := by decide +kernel
theorem dJ7_fill_53178_10 : decode cJ7_fill_53178 10 = .ok (.aload_n 0, 1) := by decide +kernel
theorem dJ7_fill_53178_11 : decode cJ7_fill_53178 11 = .ok (.iload_n 2, 1) := by decide +kernel
theorem dJ7_fill_53178_12 : decode cJ7_fill_53178 12 = .ok (.iload_n 1, 1) := by decide +kernel
theorem dJ7_fill_53178_13 : decode cJ7_fill_53178 13 = .ok (.iastore, 1) := by decide +kernel
theorem dJ7_fill_53178_14 : decode cJ7_fill_53178 14 = .ok (.iinc 2 1, 3) := by decide +kernel
theorem dJ7_fill_53178_17 : decode cJ7_fill_53178 17 = .ok (.goto (-12), 3) := by decide +kernel
theorem dJ7_fill_53178_20 : decode cJ7_fill_53178 20 = .ok (.return_, 1) := by decide +kernel
theorem dJ3_checkIndex_8e157_0 : decode cJ3_checkIndex_8e157 0 = .ok (.iload_n 0, 1) := by decide +kernel
theorem dJ3_checkIndex_8e157_1 : decode cJ3_checkIndex_8e157 1 = .ok (.ifCond .lt 8, 3) := by decide +kernel
theorem dJ3_checkIndex_8e157_4 : decode cJ3_checkIndex_8e157 4 = .ok (.iload_n 0, 1) := by decide +kernel
theorem dJ3_checkIndex_8e157_5 : decode cJ3_checkIndex_8e157 5 = .ok (.iload_n 1, 1) := by decide +kernel
theorem dJ3_checkIndex_8e157_6 : decode cJ3_checkIndex_8e157 6 = .ok (.if_icmp .lt 10, 3) := by decide +kernel
theorem dJ3_checkIndex_8e157_9 : decode cJ3_checkIndex_8e157 9 = .ok (.aload_n 2, 1) := by decide +kernel
theorem dJ3_checkIndex_8e157_10 : decode cJ3_checkIndex_8e157 10 = .ok (.iload_n 0, 1) := by decide +kernel
theorem dJ3_checkIndex_8e157_11 : decode cJ3_checkIndex_8e157 11 = .ok (.iload_n 1, 1) := by decide +kernel
theorem dJ3_checkIndex_8e157_12 : decode cJ3_checkIndex_8e157 12 = .ok (.invokestatic 95, 3) := by decide +kernel
theorem dJ3_checkIndex_8e157_15 : decode cJ3_checkIndex_8e157 15 = .ok (.athrow, 1) := by decide +kernel
theorem dJ3_checkIndex_8e157_16 : decode cJ3_checkIndex_8e157 16 = .ok (.iload_n 0, 1) := by decide +kernel
theorem dJ3_checkIndex_8e157_17 : decode cJ3_checkIndex_8e157 17 = .ok (.ireturn, 1) := by decide +kernel
