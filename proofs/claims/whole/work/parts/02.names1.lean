theorem dX0_init_0 : decode cX0_init 0 = .ok (.aload_n 0, 1) := by decide +kernel
theorem dX0_init_1 : decode cX0_init 1 = .ok (.invokespecial 3, 3) := by decide +kernel
theorem dX0_init_4 : decode cX0_init 4 = .ok (.aload_n 0, 1) := by decide +kernel
theorem dX0_init_5 : decode cX0_init 5 = .ok (.iconst 3, 1) := by decide +kernel
theorem dX0_init_6 : decode cX0_init 6 = .ok (.putfield 9, 3) := by decide +kernel
theorem dX0_init_9 : decode cX0_init 9 = .ok (.aload_n 0, 1) := by decide +kernel
theorem dX0_init_10 : decode cX0_init 10 = .ok (.iconst 5, 1) := by decide +kernel
theorem dX0_init_11 : decode cX0_init 11 = .ok (.putfield 15, 3) := by decide +kernel
theorem dX0_init_14 : decode cX0_init 14 = .ok (.aload_n 0, 1) := by decide +kernel
theorem dX0_init_15 : decode cX0_init 15 = .ok (.bipush 7, 2) := by decide +kernel
theorem dX0_init_17 : decode cX0_init 17 = .ok (.putfield 18, 3) := by decide +kernel
theorem dX0_init_20 : decode cX0_init 20 = .ok (.aload_n 0, 1) := by decide +kernel
theorem dX0_init_21 : decode cX0_init 21 = .ok (.sipush 244, 3) := by decide +kernel
theorem dX0_init_24 : decode cX0_init 24 = .ok (.newarray .int, 2) := by decide +kernel
theorem dX0_init_26 : decode cX0_init 26 = .ok (.putfield 21, 3) := by decide +kernel
theorem dX0_init_29 : decode cX0_init 29 = .ok (.aload_n 0, 1) := by decide +kernel
theorem dX0_init_30 : decode cX0_init 30 = .ok (.iconst 0, 1) := by decide +kernel
theorem dX0_init_31 : decode cX0_init 31 = .ok (.putfield 25, 3) := by decide +kernel
theorem dX0_init_34 : decode cX0_init 34 = .ok (.aload_n 0, 1) := by decide +kernel
theorem dX0_init_35 : decode cX0_init 35 = .ok (.iconst 0, 1) := by decide +kernel
theorem dX0_init_36 : decode cX0_init 36 = .ok (.putfield 28, 3) := by decide +kernel
theorem dX0_init_39 : decode cX0_init 39 = .ok (.aload_n 0, 1) := by decide +kernel
theorem dX0_init_40 : decode cX0_init 40 = .ok (.iconst 0, 1) := by decide +kernel
theorem dX0_init_41 : decode cX0_init 41 = .ok (.putfield 31, 3) := by decide +kernel
theorem dX0_init_44 : decode cX0_init 44 = .ok (.aload_n 0, 1) := by decide +kernel
theorem dX0_init_45 : decode cX0_init 45 = .ok (.bipush (-9), 2) := by decide +kernel
theorem dX0_init_47 : decode cX0_init 47 = .ok (.putfield 34, 3) := by decide +kernel
theorem dX0_init_50 : decode cX0_init 50 = .ok (.aload_n 0, 1) := by decide +kernel
theorem dX0_init_51 : decode cX0_init 51 = .ok (.iconst 0, 1) := by decide +kernel
theorem dX0_init_52 : decode cX0_init 52 = .ok (.putfield 37, 3) := by decide +kernel
theorem dX0_init_55 : decode cX0_init 55 = .ok (.aload_n 0, 1) := by decide +kernel
theorem dX0_init_56 : decode cX0_init 56 = .ok (.sipush 244, 3) := by decide +kernel
theorem dX0_init_59 : decode cX0_init 59 = .ok (.newarray .int, 2) := by decide +kernel
theorem dX0_init_61 : decode cX0_init 61 = .ok (.putfield 40, 3) := by decide +kernel
theorem dX0_init_64 : decode cX0_init 64 = .ok (.aload_n 0, 1) := by decide +kernel
theorem dX0_init_65 : decode cX0_init 65 = .ok (.sipush 244, 3) := by decide +kernel
theorem dX0_init_68 : decode cX0_init 68 = .ok (.newarray .int, 2) := by decide +kernel
theorem dX0_init_70 : decode cX0_init 70 = .ok (.putfield 43, 3) := by decide +kernel
theorem dX0_init_73 : decode cX0_init 73 = .ok (.aload_n 0, 1) := by decide +kernel
theorem dX0_init_74 : decode cX0_init 74 = .ok (.aload_n 1, 1) := by decide +kernel
theorem dX0_init_75 : decode cX0_init 75 = .ok (.putfield 46, 3) := by decide +kernel
theorem dX0_init_78 : decode cX0_init 78 = .ok (.return_, 1) := by decide +kernel
theorem dX0_sumOf_0 : decode cX0_sumOf 0 = .ok (.aload_n 0, 1) := by decide +kernel
theorem dX0_sumOf_1 : decode cX0_sumOf 1 = .ok (.getfield 9, 3) := by decide +kernel
theorem dX0_sumOf_4 : decode cX0_sumOf 4 = .ok (.aload_n 0, 1) := by decide +kernel
theorem dX0_sumOf_5 : decode cX0_sumOf 5 = .ok (.getfield 15, 3) := by decide +kernel
theorem dX0_sumOf_8 : decode cX0_sumOf 8 = .ok (.invokestatic 50, 3) := by decide +kernel
theorem dX0_sumOf_11 : decode cX0_sumOf 11 = .ok (.istore_n 2, 1) := by decide +kernel
theorem dX0_sumOf_12 : decode cX0_sumOf 12 = .ok (.iload_n 1, 1) := by decide +kernel
theorem dX0_sumOf_13 : decode cX0_sumOf 13 = .ok (.sipush 511, 3) := by decide +kernel
theorem dX0_sumOf_16 : decode cX0_sumOf 16 = .ok (.iand, 1) := by decide +kernel
theorem dX0_sumOf_17 : decode cX0_sumOf 17 = .ok (.invokestatic 56, 3) := by decide +kernel
theorem dX0_sumOf_20 : decode cX0_sumOf 20 = .ok (.istore_n 3, 1) := by decide +kernel
theorem dX0_sumOf_21 : decode cX0_sumOf 21 = .ok (.iload_n 1, 1) := by decide +kernel
theorem dX0_sumOf_22 : decode cX0_sumOf 22 = .ok (.bipush 9, 2) := by decide +kernel
theorem dX0_sumOf_24 : decode cX0_sumOf 24 = .ok (.iushr, 1) := by decide +kernel
theorem dX0_sumOf_25 : decode cX0_sumOf 25 = .ok (.invokestatic 56, 3) := by decide +kernel
theorem dX0_sumOf_28 : decode cX0_sumOf 28 = .ok (.istore 4, 2) := by decide +kernel
theorem dX0_sumOf_30 : decode cX0_sumOf 30 = .ok (.iload_n 2, 1) := by decide +kernel
theorem dX0_sumOf_31 : decode cX0_sumOf 31 = .ok (.iload_n 3, 1) := by decide +kernel
theorem dX0_sumOf_32 : decode cX0_sumOf 32 = .ok (.imul, 1) := by decide +kernel
theorem dX0_sumOf_33 : decode cX0_sumOf 33 = .ok (.aload_n 0, 1) := by decide +kernel
theorem dX0_sumOf_34 : decode cX0_sumOf 34 = .ok (.getfield 15, 3) := by decide +kernel
theorem dX0_sumOf_37 : decode cX0_sumOf 37 = .ok (.iload_n 2, 1) := by decide +kernel
theorem dX0_sumOf_38 : decode cX0_sumOf 38 = .ok (.isub, 1) := by decide +kernel
theorem dX0_sumOf_39 : decode cX0_sumOf 39 = .ok (.iload 4, 2) := by decide +kernel
theorem dX0_sumOf_41 : decode cX0_sumOf 41 = .ok (.imul, 1) := by decide +kernel
theorem dX0_sumOf_42 : decode cX0_sumOf 42 = .ok (.iadd, 1) := by decide +kernel
theorem dX0_sumOf_43 : decode cX0_sumOf 43 = .ok (.ireturn, 1) := by decide +kernel
theorem dX0_weigh_0 : decode cX0_weigh 0 = .ok (.aload_n 0, 1) := by decide +kernel
theorem dX0_weigh_1 : decode cX0_weigh 1 = .ok (.getfield 40, 3) := by decide +kernel
theorem dX0_weigh_4 : decode cX0_weigh 4 = .ok (.iconst 0, 1) := by decide +kernel
theorem dX0_weigh_5 : decode cX0_weigh 5 = .ok (.invokestatic 62, 3) := by decide +kernel
theorem dX0_weigh_8 : decode cX0_weigh 8 = .ok (.iconst 0, 1) := by decide +kernel
theorem dX0_weigh_9 : decode cX0_weigh 9 = .ok (.istore 4, 2) := by decide +kernel
theorem dX0_weigh_11 : decode cX0_weigh 11 = .ok (.iload 4, 2) := by decide +kernel
theorem dX0_weigh_13 : decode cX0_weigh 13 = .ok (.aload_n 1, 1) := by decide +kernel
theorem dX0_weigh_14 : decode cX0_weigh 14 = .ok (.getfield 68, 3) := by decide +kernel
theorem dX0_weigh_17 : decode cX0_weigh 17 = .ok (.if_icmp .ge 80, 3) := by decide +kernel
theorem dX0_weigh_20 : decode cX0_weigh 20 = .ok (.aload_n 2, 1) := by decide +kernel
theorem dX0_weigh_21 : decode cX0_weigh 21 = .ok (.aload_n 1, 1) := by decide +kernel
theorem dX0_weigh_22 : decode cX0_weigh 22 = .ok (.getfield 73, 3) := by decide +kernel
theorem dX0_weigh_25 : decode cX0_weigh 25 = .ok (.iload 4, 2) := by decide +kernel
theorem dX0_weigh_27 : decode cX0_weigh 27 = .ok (.iaload, 1) := by decide +kernel
theorem dX0_weigh_28 : decode cX0_weigh 28 = .ok (.aaload, 1) := by decide +kernel
theorem dX0_weigh_29 : decode cX0_weigh 29 = .ok (.astore 5, 2) := by decide +kernel
theorem dX0_weigh_31 : decode cX0_weigh 31 = .ok (.aload_n 3, 1) := by decide +kernel
theorem dX0_weigh_32 : decode cX0_weigh 32 = .ok (.aload 5, 2) := by decide +kernel
theorem dX0_weigh_34 : decode cX0_weigh 34 = .ok (.getfield 76, 3) := by decide +kernel
theorem dX0_weigh_37 : decode cX0_weigh 37 = .ok (.iaload, 1) := by decide +kernel
theorem dX0_weigh_38 : decode cX0_weigh 38 = .ok (.istore 6, 2) := by decide +kernel
theorem dX0_weigh_40 : decode cX0_weigh 40 = .ok (.iconst 0, 1) := by decide +kernel
theorem dX0_weigh_41 : decode cX0_weigh 41 = .ok (.istore 7, 2) := by decide +kernel
theorem dX0_weigh_43 : decode cX0_weigh 43 = .ok (.iload 7, 2) := by decide +kernel
theorem dX0_weigh_45 : decode cX0_weigh 45 = .ok (.sipush 244, 3) := by decide +kernel
theorem dX0_weigh_48 : decode cX0_weigh 48 = .ok (.if_icmp .ge 43, 3) := by decide +kernel
theorem dX0_weigh_51 : decode cX0_weigh 51 = .ok (.aload_n 0, 1) := by decide +kernel
theorem dX0_weigh_52 : decode cX0_weigh 52 = .ok (.getfield 40, 3) := by decide +kernel
theorem dX0_weigh_55 : decode cX0_weigh 55 = .ok (.iload 7, 2) := by decide +kernel
theorem dX0_weigh_57 : decode cX0_weigh 57 = .ok (.dup2, 1) := by decide +kernel
theorem dX0_weigh_58 : decode cX0_weigh 58 = .ok (.iaload, 1) := by decide +kernel
theorem dX0_weigh_59 : decode cX0_weigh 59 = .ok (.aload_n 0, 1) := by decide +kernel
theorem dX0_weigh_60 : decode cX0_weigh 60 = .ok (.getfield 46, 3) := by decide +kernel
theorem dX0_weigh_63 : decode cX0_weigh 63 = .ok (.iload 7, 2) := by decide +kernel
theorem dX0_weigh_65 : decode cX0_weigh 65 = .ok (.iload 6, 2) := by decide +kernel
theorem dX0_weigh_67 : decode cX0_weigh 67 = .ok (.aload 5, 2) := by decide +kernel
theorem dX0_weigh_69 : decode cX0_weigh 69 = .ok (.getfield 81, 3) := by decide +kernel
theorem dX0_weigh_72 : decode cX0_weigh 72 = .ok (.aload 5, 2) := by decide +kernel
theorem dX0_weigh_74 : decode cX0_weigh 74 = .ok (.getfield 84, 3) := by decide +kernel
theorem dX0_weigh_77 : decode cX0_weigh 77 = .ok (.invokevirtual 87, 3) := by decide +kernel
theorem dX0_weigh_80 : decode cX0_weigh 80 = .ok (.iload 4, 2) := by decide +kernel
theorem dX0_weigh_82 : decode cX0_weigh 82 = .ok (.ishl, 1) := by decide +kernel
theorem dX0_weigh_83 : decode cX0_weigh 83 = .ok (.ior, 1) := by decide +kernel
theorem dX0_weigh_84 : decode cX0_weigh 84 = .ok (.iastore, 1) := by decide +kernel
theorem dX0_weigh_85 : decode cX0_weigh 85 = .ok (.iinc 7 1, 3) := by decide +kernel
theorem dX0_weigh_88 : decode cX0_weigh 88 = .ok (.goto (-45), 3) := by decide +kernel
theorem dX0_weigh_91 : decode cX0_weigh 91 = .ok (.iinc 4 1, 3) := by decide +kernel
theorem dX0_weigh_94 : decode cX0_weigh 94 = .ok (.goto (-83), 3) := by decide +kernel
theorem dX0_weigh_97 : decode cX0_weigh 97 = .ok (.iconst 0, 1) := by decide +kernel
theorem dX0_weigh_98 : decode cX0_weigh 98 = .ok (.istore 4, 2) := by decide +kernel
theorem dX0_weigh_100 : decode cX0_weigh 100 = .ok (.iload 4, 2) := by decide +kernel
theorem dX0_weigh_102 : decode cX0_weigh 102 = .ok (.sipush 244, 3) := by decide +kernel
theorem dX0_weigh_105 : decode cX0_weigh 105 = .ok (.if_icmp .ge 63, 3) := by decide +kernel
theorem dX0_weigh_108 : decode cX0_weigh 108 = .ok (.aload_n 0, 1) := by decide +kernel
theorem dX0_weigh_109 : decode cX0_weigh 109 = .ok (.getfield 21, 3) := by decide +kernel
theorem dX0_weigh_112 : decode cX0_weigh 112 = .ok (.iload 4, 2) := by decide +kernel
theorem dX0_weigh_114 : decode cX0_weigh 114 = .ok (.aload_n 0, 1) := by decide +kernel
theorem dX0_weigh_115 : decode cX0_weigh 115 = .ok (.aload_n 0, 1) := by decide +kernel
theorem dX0_weigh_116 : decode cX0_weigh 116 = .ok (.getfield 40, 3) := by decide +kernel
theorem dX0_weigh_119 : decode cX0_weigh 119 = .ok (.iload 4, 2) := by decide +kernel
theorem dX0_weigh_121 : decode cX0_weigh 121 = .ok (.iaload, 1) := by decide +kernel
theorem dX0_weigh_122 : decode cX0_weigh 122 = .ok (.invokevirtual 93, 3) := by decide +kernel
theorem dX0_weigh_125 : decode cX0_weigh 125 = .ok (.iastore, 1) := by decide +kernel
theorem dX0_weigh_126 : decode cX0_weigh 126 = .ok (.iload 4, 2) := by decide +kernel
theorem dX0_weigh_128 : decode cX0_weigh 128 = .ok (.ifCond .eq 17, 3) := by decide +kernel
theorem dX0_weigh_131 : decode cX0_weigh 131 = .ok (.aload_n 0, 1) := by decide +kernel
theorem dX0_weigh_132 : decode cX0_weigh 132 = .ok (.getfield 21, 3) := by decide +kernel
theorem dX0_weigh_135 : decode cX0_weigh 135 = .ok (.iload 4, 2) := by decide +kernel
theorem dX0_weigh_137 : decode cX0_weigh 137 = .ok (.iaload, 1) := by decide +kernel
theorem dX0_weigh_138 : decode cX0_weigh 138 = .ok (.aload_n 0, 1) := by decide +kernel
theorem dX0_weigh_139 : decode cX0_weigh 139 = .ok (.getfield 25, 3) := by decide +kernel
theorem dX0_weigh_142 : decode cX0_weigh 142 = .ok (.if_icmp .ge 20, 3) := by decide +kernel
theorem dX0_weigh_145 : decode cX0_weigh 145 = .ok (.aload_n 0, 1) := by decide +kernel
theorem dX0_weigh_146 : decode cX0_weigh 146 = .ok (.aload_n 0, 1) := by decide +kernel
theorem dX0_weigh_147 : decode cX0_weigh 147 = .ok (.getfield 21, 3) := by decide +kernel
theorem dX0_weigh_150 : decode cX0_weigh 150 = .ok (.iload 4, 2) := by decide +kernel
theorem dX0_weigh_152 : decode cX0_weigh 152 = .ok (.iaload, 1) := by decide +kernel
theorem dX0_weigh_153 : decode cX0_weigh 153 = .ok (.putfield 25, 3) := by decide +kernel
theorem dX0_weigh_156 : decode cX0_weigh 156 = .ok (.aload_n 0, 1) := by decide +kernel
theorem dX0_weigh_157 : decode cX0_weigh 157 = .ok (.iload 4, 2) := by decide +kernel
theorem dX0_weigh_159 : decode cX0_weigh 159 = .ok (.putfield 31, 3) := by decide +kernel
theorem dX0_weigh_162 : decode cX0_weigh 162 = .ok (.iinc 4 1, 3) := by decide +kernel
theorem dX0_weigh_165 : decode cX0_weigh 165 = .ok (.goto (-65), 3) := by decide +kernel
theorem dX0_weigh_168 : decode cX0_weigh 168 = .ok (.aload_n 0, 1) := by decide +kernel
theorem dX0_weigh_169 : decode cX0_weigh 169 = .ok (.aload_n 0, 1) := by decide +kernel
theorem dX0_weigh_170 : decode cX0_weigh 170 = .ok (.getfield 25, 3) := by decide +kernel
theorem dX0_weigh_173 : decode cX0_weigh 173 = .ok (.putfield 28, 3) := by decide +kernel
theorem dX0_weigh_176 : decode cX0_weigh 176 = .ok (.aload_n 0, 1) := by decide +kernel
theorem dX0_weigh_177 : decode cX0_weigh 177 = .ok (.bipush (-9), 2) := by decide +kernel
theorem dX0_weigh_179 : decode cX0_weigh 179 = .ok (.putfield 34, 3) := by decide +kernel
theorem dX0_weigh_182 : decode cX0_weigh 182 = .ok (.return_, 1) := by decide +kernel
theorem dX0_takeTwoRules_0 : decode cX0_takeTwoRules 0 = .ok (.aload_n 0, 1) := by decide +kernel
theorem dX0_takeTwoRules_1 : decode cX0_takeTwoRules 1 = .ok (.getfield 18, 3) := by decide +kernel
theorem dX0_takeTwoRules_4 : decode cX0_takeTwoRules 4 = .ok (.aload_n 0, 1) := by decide +kernel
theorem dX0_takeTwoRules_5 : decode cX0_takeTwoRules 5 = .ok (.getfield 25, 3) := by decide +kernel
theorem dX0_takeTwoRules_8 : decode cX0_takeTwoRules 8 = .ok (.if_icmp .lt 4, 3) := by decide +kernel
theorem dX0_takeTwoRules_11 : decode cX0_takeTwoRules 11 = .ok (.return_, 1) := by decide +kernel
theorem dX0_takeTwoRules_12 : decode cX0_takeTwoRules 12 = .ok (.aload_n 0, 1) := by decide +kernel
theorem dX0_takeTwoRules_13 : decode cX0_takeTwoRules 13 = .ok (.invokevirtual 96, 3) := by decide +kernel
theorem dX0_takeTwoRules_16 : decode cX0_takeTwoRules 16 = .ok (.istore_n 1, 1) := by decide +kernel
theorem dX0_takeTwoRules_17 : decode cX0_takeTwoRules 17 = .ok (.iconst 0, 1) := by decide +kernel
theorem dX0_takeTwoRules_18 : decode cX0_takeTwoRules 18 = .ok (.istore_n 2, 1) := by decide +kernel
theorem dX0_takeTwoRules_19 : decode cX0_takeTwoRules 19 = .ok (.iload_n 2, 1) := by decide +kernel
theorem dX0_takeTwoRules_20 : decode cX0_takeTwoRules 20 = .ok (.iload_n 1, 1) := by decide +kernel
theorem dX0_takeTwoRules_21 : decode cX0_takeTwoRules 21 = .ok (.if_icmp .ge 100, 3) := by decide +kernel
theorem dX0_takeTwoRules_24 : decode cX0_takeTwoRules 24 = .ok (.iload_n 2, 1) := by decide +kernel
theorem dX0_takeTwoRules_25 : decode cX0_takeTwoRules 25 = .ok (.iconst 1, 1) := by decide +kernel
theorem dX0_takeTwoRules_26 : decode cX0_takeTwoRules 26 = .ok (.iadd, 1) := by decide +kernel
theorem dX0_takeTwoRules_27 : decode cX0_takeTwoRules 27 = .ok (.istore_n 3, 1) := by decide +kernel
theorem dX0_takeTwoRules_28 : decode cX0_takeTwoRules 28 = .ok (.iload_n 3, 1) := by decide +kernel
theorem dX0_takeTwoRules_29 : decode cX0_takeTwoRules 29 = .ok (.iload_n 1, 1) := by decide +kernel
theorem dX0_takeTwoRules_30 : decode cX0_takeTwoRules 30 = .ok (.if_icmp .ge 85, 3) := by decide +kernel
theorem dX0_takeTwoRules_33 : decode cX0_takeTwoRules 33 = .ok (.aload_n 0, 1) := by decide +kernel
theorem dX0_takeTwoRules_34 : decode cX0_takeTwoRules 34 = .ok (.getfield 40, 3) := by decide +kernel
theorem dX0_takeTwoRules_37 : decode cX0_takeTwoRules 37 = .ok (.aload_n 0, 1) := by decide +kernel
theorem dX0_takeTwoRules_38 : decode cX0_takeTwoRules 38 = .ok (.getfield 43, 3) := by decide +kernel
theorem dX0_takeTwoRules_41 : decode cX0_takeTwoRules 41 = .ok (.iload_n 2, 1) := by decide +kernel
theorem dX0_takeTwoRules_42 : decode cX0_takeTwoRules 42 = .ok (.iaload, 1) := by decide +kernel
theorem dX0_takeTwoRules_43 : decode cX0_takeTwoRules 43 = .ok (.iaload, 1) := by decide +kernel
theorem dX0_takeTwoRules_44 : decode cX0_takeTwoRules 44 = .ok (.aload_n 0, 1) := by decide +kernel
theorem dX0_takeTwoRules_45 : decode cX0_takeTwoRules 45 = .ok (.getfield 40, 3) := by decide +kernel
theorem dX0_takeTwoRules_48 : decode cX0_takeTwoRules 48 = .ok (.aload_n 0, 1) := by decide +kernel
theorem dX0_takeTwoRules_49 : decode cX0_takeTwoRules 49 = .ok (.getfield 43, 3) := by decide +kernel
theorem dX0_takeTwoRules_52 : decode cX0_takeTwoRules 52 = .ok (.iload_n 3, 1) := by decide +kernel
theorem dX0_takeTwoRules_53 : decode cX0_takeTwoRules 53 = .ok (.iaload, 1) := by decide +kernel
theorem dX0_takeTwoRules_54 : decode cX0_takeTwoRules 54 = .ok (.iaload, 1) := by decide +kernel
theorem dX0_takeTwoRules_55 : decode cX0_takeTwoRules 55 = .ok (.iand, 1) := by decide +kernel
theorem dX0_takeTwoRules_56 : decode cX0_takeTwoRules 56 = .ok (.istore 4, 2) := by decide +kernel
theorem dX0_takeTwoRules_58 : decode cX0_takeTwoRules 58 = .ok (.aload_n 0, 1) := by decide +kernel
theorem dX0_takeTwoRules_59 : decode cX0_takeTwoRules 59 = .ok (.getfield 18, 3) := by decide +kernel
theorem dX0_takeTwoRules_62 : decode cX0_takeTwoRules 62 = .ok (.aload_n 0, 1) := by decide +kernel
theorem dX0_takeTwoRules_63 : decode cX0_takeTwoRules 63 = .ok (.iload 4, 2) := by decide +kernel
theorem dX0_takeTwoRules_65 : decode cX0_takeTwoRules 65 = .ok (.invokevirtual 93, 3) := by decide +kernel
theorem dX0_takeTwoRules_68 : decode cX0_takeTwoRules 68 = .ok (.iadd, 1) := by decide +kernel
theorem dX0_takeTwoRules_69 : decode cX0_takeTwoRules 69 = .ok (.istore 5, 2) := by decide +kernel
theorem dX0_takeTwoRules_71 : decode cX0_takeTwoRules 71 = .ok (.iload 5, 2) := by decide +kernel
theorem dX0_takeTwoRules_73 : decode cX0_takeTwoRules 73 = .ok (.aload_n 0, 1) := by decide +kernel
theorem dX0_takeTwoRules_74 : decode cX0_takeTwoRules 74 = .ok (.getfield 28, 3) := by decide +kernel
theorem dX0_takeTwoRules_77 : decode cX0_takeTwoRules 77 = .ok (.if_icmp .lt 6, 3) := by decide +kernel
theorem dX0_takeTwoRules_80 : decode cX0_takeTwoRules 80 = .ok (.goto 29, 3) := by decide +kernel
theorem dX0_takeTwoRules_83 : decode cX0_takeTwoRules 83 = .ok (.aload_n 0, 1) := by decide +kernel
theorem dX0_takeTwoRules_84 : decode cX0_takeTwoRules 84 = .ok (.iload 5, 2) := by decide +kernel
theorem dX0_takeTwoRules_86 : decode cX0_takeTwoRules 86 = .ok (.putfield 28, 3) := by decide +kernel
theorem dX0_takeTwoRules_89 : decode cX0_takeTwoRules 89 = .ok (.aload_n 0, 1) := by decide +kernel
theorem dX0_takeTwoRules_90 : decode cX0_takeTwoRules 90 = .ok (.aload_n 0, 1) := by decide +kernel
theorem dX0_takeTwoRules_91 : decode cX0_takeTwoRules 91 = .ok (.getfield 43, 3) := by decide +kernel
theorem dX0_takeTwoRules_94 : decode cX0_takeTwoRules 94 = .ok (.iload_n 2, 1) := by decide +kernel
theorem dX0_takeTwoRules_95 : decode cX0_takeTwoRules 95 = .ok (.iaload, 1) := by decide +kernel
theorem dX0_takeTwoRules_96 : decode cX0_takeTwoRules 96 = .ok (.putfield 31, 3) := by decide +kernel
theorem dX0_takeTwoRules_99 : decode cX0_takeTwoRules 99 = .ok (.aload_n 0, 1) := by decide +kernel
theorem dX0_takeTwoRules_100 : decode cX0_takeTwoRules 100 = .ok (.aload_n 0, 1) := by decide +kernel
theorem dX0_takeTwoRules_101 : decode cX0_takeTwoRules 101 = .ok (.getfield 43, 3) := by decide +kernel
theorem dX0_takeTwoRules_104 : decode cX0_takeTwoRules 104 = .ok (.iload_n 3, 1) := by decide +kernel
theorem dX0_takeTwoRules_105 : decode cX0_takeTwoRules 105 = .ok (.iaload, 1) := by decide +kernel
theorem dX0_takeTwoRules_106 : decode cX0_takeTwoRules 106 = .ok (.putfield 34, 3) := by decide +kernel
theorem dX0_takeTwoRules_109 : decode cX0_takeTwoRules 109 = .ok (.iinc 3 1, 3) := by decide +kernel
theorem dX0_takeTwoRules_112 : decode cX0_takeTwoRules 112 = .ok (.goto (-84), 3) := by decide +kernel
theorem dX0_takeTwoRules_115 : decode cX0_takeTwoRules 115 = .ok (.iinc 2 1, 3) := by decide +kernel
theorem dX0_takeTwoRules_118 : decode cX0_takeTwoRules 118 = .ok (.goto (-99), 3) := by decide +kernel
theorem dX0_takeTwoRules_121 : decode cX0_takeTwoRules 121 = .ok (.return_, 1) := by decide +kernel
theorem dX0_gatherCandidates_0 : decode cX0_gatherCandidates 0 = .ok (.iconst 0, 1) := by decide +kernel
theorem dX0_gatherCandidates_1 : decode cX0_gatherCandidates 1 = .ok (.istore_n 1, 1) := by decide +kernel
theorem dX0_gatherCandidates_2 : decode cX0_gatherCandidates 2 = .ok (.iconst 0, 1) := by decide +kernel
theorem dX0_gatherCandidates_3 : decode cX0_gatherCandidates 3 = .ok (.istore_n 2, 1) := by decide +kernel
theorem dX0_gatherCandidates_4 : decode cX0_gatherCandidates 4 = .ok (.iload_n 2, 1) := by decide +kernel
theorem dX0_gatherCandidates_5 : decode cX0_gatherCandidates 5 = .ok (.sipush 244, 3) := by decide +kernel
theorem dX0_gatherCandidates_8 : decode cX0_gatherCandidates 8 = .ok (.if_icmp .ge 81, 3) := by decide +kernel
theorem dX0_gatherCandidates_11 : decode cX0_gatherCandidates 11 = .ok (.iconst 0, 1) := by decide +kernel
theorem dX0_gatherCandidates_12 : decode cX0_gatherCandidates 12 = .ok (.istore_n 3, 1) := by decide +kernel
theorem dX0_gatherCandidates_13 : decode cX0_gatherCandidates 13 = .ok (.iconst 0, 1) := by decide +kernel
theorem dX0_gatherCandidates_14 : decode cX0_gatherCandidates 14 = .ok (.istore 4, 2) := by decide +kernel
theorem dX0_gatherCandidates_16 : decode cX0_gatherCandidates 16 = .ok (.iload 4, 2) := by decide +kernel
theorem dX0_gatherCandidates_18 : decode cX0_gatherCandidates 18 = .ok (.iload_n 1, 1) := by decide +kernel
theorem dX0_gatherCandidates_19 : decode cX0_gatherCandidates 19 = .ok (.if_icmp .ge 47, 3) := by decide +kernel
theorem dX0_gatherCandidates_22 : decode cX0_gatherCandidates 22 = .ok (.iload_n 3, 1) := by decide +kernel
theorem dX0_gatherCandidates_23 : decode cX0_gatherCandidates 23 = .ok (.ifCond .ne 43, 3) := by decide +kernel
theorem dX0_gatherCandidates_26 : decode cX0_gatherCandidates 26 = .ok (.aload_n 0, 1) := by decide +kernel
theorem dX0_gatherCandidates_27 : decode cX0_gatherCandidates 27 = .ok (.getfield 40, 3) := by decide +kernel
theorem dX0_gatherCandidates_30 : decode cX0_gatherCandidates 30 = .ok (.aload_n 0, 1) := by decide +kernel
theorem dX0_gatherCandidates_31 : decode cX0_gatherCandidates 31 = .ok (.getfield 43, 3) := by decide +kernel
theorem dX0_gatherCandidates_34 : decode cX0_gatherCandidates 34 = .ok (.iload 4, 2) := by decide +kernel
theorem dX0_gatherCandidates_36 : decode cX0_gatherCandidates 36 = .ok (.iaload, 1) := by decide +kernel
theorem dX0_gatherCandidates_37 : decode cX0_gatherCandidates 37 = .ok (.iaload, 1) := by decide +kernel
theorem dX0_gatherCandidates_38 : decode cX0_gatherCandidates 38 = .ok (.istore 5, 2) := by decide +kernel
theorem dX0_gatherCandidates_40 : decode cX0_gatherCandidates 40 = .ok (.iload 5, 2) := by decide +kernel
theorem dX0_gatherCandidates_42 : decode cX0_gatherCandidates 42 = .ok (.aload_n 0, 1) := by decide +kernel
theorem dX0_gatherCandidates_43 : decode cX0_gatherCandidates 43 = .ok (.getfield 40, 3) := by decide +kernel
theorem dX0_gatherCandidates_46 : decode cX0_gatherCandidates 46 = .ok (.iload_n 2, 1) := by decide +kernel
theorem dX0_gatherCandidates_47 : decode cX0_gatherCandidates 47 = .ok (.iaload, 1) := by decide +kernel
theorem dX0_gatherCandidates_48 : decode cX0_gatherCandidates 48 = .ok (.iand, 1) := by decide +kernel
theorem dX0_gatherCandidates_49 : decode cX0_gatherCandidates 49 = .ok (.iload 5, 2) := by decide +kernel
theorem dX0_gatherCandidates_51 : decode cX0_gatherCandidates 51 = .ok (.if_icmp .ne 7, 3) := by decide +kernel
theorem dX0_gatherCandidates_54 : decode cX0_gatherCandidates 54 = .ok (.iconst 1, 1) := by decide +kernel
theorem dX0_gatherCandidates_55 : decode cX0_gatherCandidates 55 = .ok (.goto 4, 3) := by decide +kernel
theorem dX0_gatherCandidates_58 : decode cX0_gatherCandidates 58 = .ok (.iconst 0, 1) := by decide +kernel
theorem dX0_gatherCandidates_59 : decode cX0_gatherCandidates 59 = .ok (.istore_n 3, 1) := by decide +kernel
theorem dX0_gatherCandidates_60 : decode cX0_gatherCandidates 60 = .ok (.iinc 4 1, 3) := by decide +kernel
theorem dX0_gatherCandidates_63 : decode cX0_gatherCandidates 63 = .ok (.goto (-47), 3) := by decide +kernel
theorem dX0_gatherCandidates_66 : decode cX0_gatherCandidates 66 = .ok (.iload_n 3, 1) := by decide +kernel
theorem dX0_gatherCandidates_67 : decode cX0_gatherCandidates 67 = .ok (.ifCond .eq 6, 3) := by decide +kernel
theorem dX0_gatherCandidates_70 : decode cX0_gatherCandidates 70 = .ok (.goto 13, 3) := by decide +kernel
theorem dX0_gatherCandidates_73 : decode cX0_gatherCandidates 73 = .ok (.aload_n 0, 1) := by decide +kernel
theorem dX0_gatherCandidates_74 : decode cX0_gatherCandidates 74 = .ok (.getfield 43, 3) := by decide +kernel
theorem dX0_gatherCandidates_77 : decode cX0_gatherCandidates 77 = .ok (.iload_n 1, 1) := by decide +kernel
theorem dX0_gatherCandidates_78 : decode cX0_gatherCandidates 78 = .ok (.iload_n 2, 1) := by decide +kernel
theorem dX0_gatherCandidates_79 : decode cX0_gatherCandidates 79 = .ok (.iastore, 1) := by decide +kernel
theorem dX0_gatherCandidates_80 : decode cX0_gatherCandidates 80 = .ok (.iinc 1 1, 3) := by decide +kernel
theorem dX0_gatherCandidates_83 : decode cX0_gatherCandidates 83 = .ok (.iinc 2 1, 3) := by decide +kernel
theorem dX0_gatherCandidates_86 : decode cX0_gatherCandidates 86 = .ok (.goto (-82), 3) := by decide +kernel
theorem dX0_gatherCandidates_89 : decode cX0_gatherCandidates 89 = .ok (.iload_n 1, 1) := by decide +kernel
theorem dX0_gatherCandidates_90 : decode cX0_gatherCandidates 90 = .ok (.ireturn, 1) := by decide +kernel
theorem dX0_firstChange_0 : decode cX0_firstChange 0 = .ok (.aload_n 0, 1) := by decide +kernel
theorem dX0_firstChange_1 : decode cX0_firstChange 1 = .ok (.getfield 25, 3) := by decide +kernel
theorem dX0_firstChange_4 : decode cX0_firstChange 4 = .ok (.istore_n 3, 1) := by decide +kernel
theorem dX0_firstChange_5 : decode cX0_firstChange 5 = .ok (.aload_n 1, 1) := by decide +kernel
theorem dX0_firstChange_6 : decode cX0_firstChange 6 = .ok (.getfield 100, 3) := by decide +kernel
theorem dX0_firstChange_9 : decode cX0_firstChange 9 = .ok (.istore 4, 2) := by decide +kernel
theorem dX0_firstChange_11 : decode cX0_firstChange 11 = .ok (.iconst 0, 1) := by decide +kernel
theorem dX0_firstChange_12 : decode cX0_firstChange 12 = .ok (.istore 5, 2) := by decide +kernel
theorem dX0_firstChange_14 : decode cX0_firstChange 14 = .ok (.iload 5, 2) := by decide +kernel
theorem dX0_firstChange_16 : decode cX0_firstChange 16 = .ok (.aload_n 1, 1) := by decide +kernel
theorem dX0_firstChange_17 : decode cX0_firstChange 17 = .ok (.getfield 68, 3) := by decide +kernel
theorem dX0_firstChange_20 : decode cX0_firstChange 20 = .ok (.if_icmp .ge 77, 3) := by decide +kernel
theorem dX0_firstChange_23 : decode cX0_firstChange 23 = .ok (.aload_n 2, 1) := by decide +kernel
theorem dX0_firstChange_24 : decode cX0_firstChange 24 = .ok (.aload_n 1, 1) := by decide +kernel
theorem dX0_firstChange_25 : decode cX0_firstChange 25 = .ok (.getfield 73, 3) := by decide +kernel
theorem dX0_firstChange_28 : decode cX0_firstChange 28 = .ok (.iload 5, 2) := by decide +kernel
theorem dX0_firstChange_30 : decode cX0_firstChange 30 = .ok (.iaload, 1) := by decide +kernel
theorem dX0_firstChange_31 : decode cX0_firstChange 31 = .ok (.aaload, 1) := by decide +kernel
theorem dX0_firstChange_32 : decode cX0_firstChange 32 = .ok (.getfield 103, 3) := by decide +kernel
theorem dX0_firstChange_35 : decode cX0_firstChange 35 = .ok (.iconst 1, 1) := by decide +kernel
theorem dX0_firstChange_36 : decode cX0_firstChange 36 = .ok (.iadd, 1) := by decide +kernel
theorem dX0_firstChange_37 : decode cX0_firstChange 37 = .ok (.istore 6, 2) := by decide +kernel
theorem dX0_firstChange_39 : decode cX0_firstChange 39 = .ok (.iload 6, 2) := by decide +kernel
theorem dX0_firstChange_41 : decode cX0_firstChange 41 = .ok (.aload_n 1, 1) := by decide +kernel
theorem dX0_firstChange_42 : decode cX0_firstChange 42 = .ok (.getfield 106, 3) := by decide +kernel
theorem dX0_firstChange_45 : decode cX0_firstChange 45 = .ok (.if_icmp .le 6, 3) := by decide +kernel
theorem dX0_firstChange_48 : decode cX0_firstChange 48 = .ok (.goto 43, 3) := by decide +kernel
theorem dX0_firstChange_51 : decode cX0_firstChange 51 = .ok (.aload_n 0, 1) := by decide +kernel
theorem dX0_firstChange_52 : decode cX0_firstChange 52 = .ok (.aload_n 0, 1) := by decide +kernel
theorem dX0_firstChange_53 : decode cX0_firstChange 53 = .ok (.iload 6, 2) := by decide +kernel
theorem dX0_firstChange_55 : decode cX0_firstChange 55 = .ok (.aload_n 1, 1) := by decide +kernel
theorem dX0_firstChange_56 : decode cX0_firstChange 56 = .ok (.aload_n 2, 1) := by decide +kernel
theorem dX0_firstChange_57 : decode cX0_firstChange 57 = .ok (.invokevirtual 109, 3) := by decide +kernel
theorem dX0_firstChange_60 : decode cX0_firstChange 60 = .ok (.invokevirtual 113, 3) := by decide +kernel
theorem dX0_firstChange_63 : decode cX0_firstChange 63 = .ok (.istore 7, 2) := by decide +kernel
theorem dX0_firstChange_65 : decode cX0_firstChange 65 = .ok (.iload 7, 2) := by decide +kernel
theorem dX0_firstChange_67 : decode cX0_firstChange 67 = .ok (.iload_n 3, 1) := by decide +kernel
theorem dX0_firstChange_68 : decode cX0_firstChange 68 = .ok (.if_icmp .lt 16, 3) := by decide +kernel
theorem dX0_firstChange_71 : decode cX0_firstChange 71 = .ok (.iload 7, 2) := by decide +kernel
theorem dX0_firstChange_73 : decode cX0_firstChange 73 = .ok (.iload_n 3, 1) := by decide +kernel
theorem dX0_firstChange_74 : decode cX0_firstChange 74 = .ok (.if_icmp .ne 17, 3) := by decide +kernel
theorem dX0_firstChange_77 : decode cX0_firstChange 77 = .ok (.iload 6, 2) := by decide +kernel
theorem dX0_firstChange_79 : decode cX0_firstChange 79 = .ok (.iload 4, 2) := by decide +kernel
theorem dX0_firstChange_81 : decode cX0_firstChange 81 = .ok (.if_icmp .ge 10, 3) := by decide +kernel
theorem dX0_firstChange_84 : decode cX0_firstChange 84 = .ok (.iload 7, 2) := by decide +kernel
theorem dX0_firstChange_86 : decode cX0_firstChange 86 = .ok (.istore_n 3, 1) := by decide +kernel
theorem dX0_firstChange_87 : decode cX0_firstChange 87 = .ok (.iload 6, 2) := by decide +kernel
theorem dX0_firstChange_89 : decode cX0_firstChange 89 = .ok (.istore 4, 2) := by decide +kernel
theorem dX0_firstChange_91 : decode cX0_firstChange 91 = .ok (.iinc 5 1, 3) := by decide +kernel
theorem dX0_firstChange_94 : decode cX0_firstChange 94 = .ok (.goto (-80), 3) := by decide +kernel
theorem dX0_firstChange_97 : decode cX0_firstChange 97 = .ok (.aload_n 0, 1) := by decide +kernel
theorem dX0_firstChange_98 : decode cX0_firstChange 98 = .ok (.aload_n 0, 1) := by decide +kernel
theorem dX0_firstChange_99 : decode cX0_firstChange 99 = .ok (.getfield 25, 3) := by decide +kernel
theorem dX0_firstChange_102 : decode cX0_firstChange 102 = .ok (.iload_n 3, 1) := by decide +kernel
theorem dX0_firstChange_103 : decode cX0_firstChange 103 = .ok (.isub, 1) := by decide +kernel
theorem dX0_firstChange_104 : decode cX0_firstChange 104 = .ok (.putfield 37, 3) := by decide +kernel
theorem dX0_firstChange_107 : decode cX0_firstChange 107 = .ok (.iload 4, 2) := by decide +kernel
theorem dX0_firstChange_109 : decode cX0_firstChange 109 = .ok (.ireturn, 1) := by decide +kernel
theorem dX0_sayingsAhead_0 : decode cX0_sayingsAhead 0 = .ok (.iconst 0, 1) := by decide +kernel
theorem dX0_sayingsAhead_1 : decode cX0_sayingsAhead 1 = .ok (.istore 4, 2) := by decide +kernel
theorem dX0_sayingsAhead_3 : decode cX0_sayingsAhead 3 = .ok (.iconst 0, 1) := by decide +kernel
theorem dX0_sayingsAhead_4 : decode cX0_sayingsAhead 4 = .ok (.istore 5, 2) := by decide +kernel
theorem dX0_sayingsAhead_6 : decode cX0_sayingsAhead 6 = .ok (.iload 5, 2) := by decide +kernel
theorem dX0_sayingsAhead_8 : decode cX0_sayingsAhead 8 = .ok (.aload_n 2, 1) := by decide +kernel
theorem dX0_sayingsAhead_9 : decode cX0_sayingsAhead 9 = .ok (.getfield 68, 3) := by decide +kernel
theorem dX0_sayingsAhead_12 : decode cX0_sayingsAhead 12 = .ok (.if_icmp .ge 36, 3) := by decide +kernel
theorem dX0_sayingsAhead_15 : decode cX0_sayingsAhead 15 = .ok (.aload_n 3, 1) := by decide +kernel
theorem dX0_sayingsAhead_16 : decode cX0_sayingsAhead 16 = .ok (.aload_n 2, 1) := by decide +kernel
theorem dX0_sayingsAhead_17 : decode cX0_sayingsAhead 17 = .ok (.getfield 73, 3) := by decide +kernel
theorem dX0_sayingsAhead_20 : decode cX0_sayingsAhead 20 = .ok (.iload 5, 2) := by decide +kernel
theorem dX0_sayingsAhead_22 : decode cX0_sayingsAhead 22 = .ok (.iaload, 1) := by decide +kernel
theorem dX0_sayingsAhead_23 : decode cX0_sayingsAhead 23 = .ok (.aaload, 1) := by decide +kernel
theorem dX0_sayingsAhead_24 : decode cX0_sayingsAhead 24 = .ok (.getfield 103, 3) := by decide +kernel
theorem dX0_sayingsAhead_27 : decode cX0_sayingsAhead 27 = .ok (.iload_n 1, 1) := by decide +kernel
theorem dX0_sayingsAhead_28 : decode cX0_sayingsAhead 28 = .ok (.if_icmp .ge 14, 3) := by decide +kernel
theorem dX0_sayingsAhead_31 : decode cX0_sayingsAhead 31 = .ok (.iload 4, 2) := by decide +kernel
theorem dX0_sayingsAhead_33 : decode cX0_sayingsAhead 33 = .ok (.sipush 513, 3) := by decide +kernel
theorem dX0_sayingsAhead_36 : decode cX0_sayingsAhead 36 = .ok (.iload 5, 2) := by decide +kernel
theorem dX0_sayingsAhead_38 : decode cX0_sayingsAhead 38 = .ok (.ishl, 1) := by decide +kernel
theorem dX0_sayingsAhead_39 : decode cX0_sayingsAhead 39 = .ok (.ior, 1) := by decide +kernel
theorem dX0_sayingsAhead_40 : decode cX0_sayingsAhead 40 = .ok (.istore 4, 2) := by decide +kernel
theorem dX0_sayingsAhead_42 : decode cX0_sayingsAhead 42 = .ok (.iinc 5 1, 3) := by decide +kernel
theorem dX0_sayingsAhead_45 : decode cX0_sayingsAhead 45 = .ok (.goto (-39), 3) := by decide +kernel
theorem dX0_sayingsAhead_48 : decode cX0_sayingsAhead 48 = .ok (.iload 4, 2) := by decide +kernel
theorem dX0_sayingsAhead_50 : decode cX0_sayingsAhead 50 = .ok (.ireturn, 1) := by decide +kernel
theorem dX0_costParted_0 : decode cX0_costParted 0 = .ok (.aload_n 0, 1) := by decide +kernel
theorem dX0_costParted_1 : decode cX0_costParted 1 = .ok (.aload_n 0, 1) := by decide +kernel
theorem dX0_costParted_2 : decode cX0_costParted 2 = .ok (.getfield 40, 3) := by decide +kernel
theorem dX0_costParted_5 : decode cX0_costParted 5 = .ok (.iconst 0, 1) := by decide +kernel
theorem dX0_costParted_6 : decode cX0_costParted 6 = .ok (.iaload, 1) := by decide +kernel
theorem dX0_costParted_7 : decode cX0_costParted 7 = .ok (.iload_n 1, 1) := by decide +kernel
theorem dX0_costParted_8 : decode cX0_costParted 8 = .ok (.iand, 1) := by decide +kernel
theorem dX0_costParted_9 : decode cX0_costParted 9 = .ok (.invokevirtual 93, 3) := by decide +kernel
theorem dX0_costParted_12 : decode cX0_costParted 12 = .ok (.istore_n 2, 1) := by decide +kernel
theorem dX0_costParted_13 : decode cX0_costParted 13 = .ok (.aload_n 0, 1) := by decide +kernel
theorem dX0_costParted_14 : decode cX0_costParted 14 = .ok (.aload_n 0, 1) := by decide +kernel
theorem dX0_costParted_15 : decode cX0_costParted 15 = .ok (.getfield 40, 3) := by decide +kernel
theorem dX0_costParted_18 : decode cX0_costParted 18 = .ok (.iconst 0, 1) := by decide +kernel
theorem dX0_costParted_19 : decode cX0_costParted 19 = .ok (.iaload, 1) := by decide +kernel
theorem dX0_costParted_20 : decode cX0_costParted 20 = .ok (.iload_n 1, 1) := by decide +kernel
theorem dX0_costParted_21 : decode cX0_costParted 21 = .ok (.iconst (-1), 1) := by decide +kernel
theorem dX0_costParted_22 : decode cX0_costParted 22 = .ok (.ixor, 1) := by decide +kernel
theorem dX0_costParted_23 : decode cX0_costParted 23 = .ok (.iand, 1) := by decide +kernel
theorem dX0_costParted_24 : decode cX0_costParted 24 = .ok (.invokevirtual 93, 3) := by decide +kernel
theorem dX0_costParted_27 : decode cX0_costParted 27 = .ok (.istore_n 3, 1) := by decide +kernel
theorem dX0_costParted_28 : decode cX0_costParted 28 = .ok (.iconst 1, 1) := by decide +kernel
theorem dX0_costParted_29 : decode cX0_costParted 29 = .ok (.istore 4, 2) := by decide +kernel
theorem dX0_costParted_31 : decode cX0_costParted 31 = .ok (.iload 4, 2) := by decide +kernel
theorem dX0_costParted_33 : decode cX0_costParted 33 = .ok (.sipush 244, 3) := by decide +kernel
theorem dX0_costParted_36 : decode cX0_costParted 36 = .ok (.if_icmp .ge 47, 3) := by decide +kernel
theorem dX0_costParted_39 : decode cX0_costParted 39 = .ok (.iload_n 2, 1) := by decide +kernel
theorem dX0_costParted_40 : decode cX0_costParted 40 = .ok (.aload_n 0, 1) := by decide +kernel
theorem dX0_costParted_41 : decode cX0_costParted 41 = .ok (.aload_n 0, 1) := by decide +kernel
theorem dX0_costParted_42 : decode cX0_costParted 42 = .ok (.getfield 40, 3) := by decide +kernel
theorem dX0_costParted_45 : decode cX0_costParted 45 = .ok (.iload 4, 2) := by decide +kernel
theorem dX0_costParted_47 : decode cX0_costParted 47 = .ok (.iaload, 1) := by decide +kernel
theorem dX0_costParted_48 : decode cX0_costParted 48 = .ok (.iload_n 1, 1) := by decide +kernel
theorem dX0_costParted_49 : decode cX0_costParted 49 = .ok (.iand, 1) := by decide +kernel
theorem dX0_costParted_50 : decode cX0_costParted 50 = .ok (.invokevirtual 93, 3) := by decide +kernel
theorem dX0_costParted_53 : decode cX0_costParted 53 = .ok (.invokestatic 50, 3) := by decide +kernel
theorem dX0_costParted_56 : decode cX0_costParted 56 = .ok (.istore_n 2, 1) := by decide +kernel
theorem dX0_costParted_57 : decode cX0_costParted 57 = .ok (.iload_n 3, 1) := by decide +kernel
theorem dX0_costParted_58 : decode cX0_costParted 58 = .ok (.aload_n 0, 1) := by decide +kernel
theorem dX0_costParted_59 : decode cX0_costParted 59 = .ok (.aload_n 0, 1) := by decide +kernel
theorem dX0_costParted_60 : decode cX0_costParted 60 = .ok (.getfield 40, 3) := by decide +kernel
theorem dX0_costParted_63 : decode cX0_costParted 63 = .ok (.iload 4, 2) := by decide +kernel
theorem dX0_costParted_65 : decode cX0_costParted 65 = .ok (.iaload, 1) := by decide +kernel
theorem dX0_costParted_66 : decode cX0_costParted 66 = .ok (.iload_n 1, 1) := by decide +kernel
theorem dX0_costParted_67 : decode cX0_costParted 67 = .ok (.iconst (-1), 1) := by decide +kernel
theorem dX0_costParted_68 : decode cX0_costParted 68 = .ok (.ixor, 1) := by decide +kernel
theorem dX0_costParted_69 : decode cX0_costParted 69 = .ok (.iand, 1) := by decide +kernel
theorem dX0_costParted_70 : decode cX0_costParted 70 = .ok (.invokevirtual 93, 3) := by decide +kernel
theorem dX0_costParted_73 : decode cX0_costParted 73 = .ok (.invokestatic 50, 3) := by decide +kernel
theorem dX0_costParted_76 : decode cX0_costParted 76 = .ok (.istore_n 3, 1) := by decide +kernel
theorem dX0_costParted_77 : decode cX0_costParted 77 = .ok (.iinc 4 1, 3) := by decide +kernel
theorem dX0_costParted_80 : decode cX0_costParted 80 = .ok (.goto (-49), 3) := by decide +kernel
theorem dX0_costParted_83 : decode cX0_costParted 83 = .ok (.iload_n 2, 1) := by decide +kernel
theorem dX0_costParted_84 : decode cX0_costParted 84 = .ok (.iload_n 3, 1) := by decide +kernel
theorem dX0_costParted_85 : decode cX0_costParted 85 = .ok (.iadd, 1) := by decide +kernel
theorem dX0_costParted_86 : decode cX0_costParted 86 = .ok (.ireturn, 1) := by decide +kernel
theorem dX1_init_0 : decode cX1_init 0 = .ok (.aload_n 0, 1) := by decide +kernel
theorem dX1_init_1 : decode cX1_init 1 = .ok (.invokespecial 3, 3) := by decide +kernel
theorem dX1_init_4 : decode cX1_init 4 = .ok (.aload_n 0, 1) := by decide +kernel
theorem dX1_init_5 : decode cX1_init 5 = .ok (.new 9, 3) := by decide +kernel
theorem dX1_init_8 : decode cX1_init 8 = .ok (.dup, 1) := by decide +kernel
theorem dX1_init_9 : decode cX1_init 9 = .ok (.invokespecial 11, 3) := by decide +kernel
theorem dX1_init_12 : decode cX1_init 12 = .ok (.putfield 12, 3) := by decide +kernel
theorem dX1_init_15 : decode cX1_init 15 = .ok (.aload_n 0, 1) := by decide +kernel
theorem dX1_init_16 : decode cX1_init 16 = .ok (.new 18, 3) := by decide +kernel
theorem dX1_init_19 : decode cX1_init 19 = .ok (.dup, 1) := by decide +kernel
theorem dX1_init_20 : decode cX1_init 20 = .ok (.aload_n 0, 1) := by decide +kernel
theorem dX1_init_21 : decode cX1_init 21 = .ok (.getfield 12, 3) := by decide +kernel
theorem dX1_init_24 : decode cX1_init 24 = .ok (.invokespecial 20, 3) := by decide +kernel
theorem dX1_init_27 : decode cX1_init 27 = .ok (.putfield 23, 3) := by decide +kernel
theorem dX1_init_30 : decode cX1_init 30 = .ok (.aload_n 0, 1) := by decide +kernel
theorem dX1_init_31 : decode cX1_init 31 = .ok (.bipush 12, 2) := by decide +kernel
theorem dX1_init_33 : decode cX1_init 33 = .ok (.newarray .int, 2) := by decide +kernel
theorem dX1_init_35 : decode cX1_init 35 = .ok (.putfield 27, 3) := by decide +kernel
theorem dX1_init_38 : decode cX1_init 38 = .ok (.aload_n 0, 1) := by decide +kernel
theorem dX1_init_39 : decode cX1_init 39 = .ok (.iconst 0, 1) := by decide +kernel
theorem dX1_init_40 : decode cX1_init 40 = .ok (.putfield 31, 3) := by decide +kernel
theorem dX1_init_43 : decode cX1_init 43 = .ok (.aload_n 0, 1) := by decide +kernel
theorem dX1_init_44 : decode cX1_init 44 = .ok (.bipush 8, 2) := by decide +kernel
theorem dX1_init_46 : decode cX1_init 46 = .ok (.anewarray 35, 3) := by decide +kernel
theorem dX1_init_49 : decode cX1_init 49 = .ok (.putfield 37, 3) := by decide +kernel
theorem dX1_init_52 : decode cX1_init 52 = .ok (.aload_n 0, 1) := by decide +kernel
theorem dX1_init_53 : decode cX1_init 53 = .ok (.iconst 0, 1) := by decide +kernel
theorem dX1_init_54 : decode cX1_init 54 = .ok (.putfield 41, 3) := by decide +kernel
theorem dX1_init_57 : decode cX1_init 57 = .ok (.aload_n 0, 1) := by decide +kernel
theorem dX1_init_58 : decode cX1_init 58 = .ok (.bipush 24, 2) := by decide +kernel
theorem dX1_init_60 : decode cX1_init 60 = .ok (.anewarray 44, 3) := by decide +kernel
theorem dX1_init_63 : decode cX1_init 63 = .ok (.putfield 46, 3) := by decide +kernel
theorem dX1_init_66 : decode cX1_init 66 = .ok (.aload_n 0, 1) := by decide +kernel
theorem dX1_init_67 : decode cX1_init 67 = .ok (.iconst 0, 1) := by decide +kernel
theorem dX1_init_68 : decode cX1_init 68 = .ok (.putfield 50, 3) := by decide +kernel
theorem dX1_init_71 : decode cX1_init 71 = .ok (.iconst 0, 1) := by decide +kernel
theorem dX1_init_72 : decode cX1_init 72 = .ok (.istore_n 1, 1) := by decide +kernel
theorem dX1_init_73 : decode cX1_init 73 = .ok (.iload_n 1, 1) := by decide +kernel
theorem dX1_init_74 : decode cX1_init 74 = .ok (.bipush 8, 2) := by decide +kernel
theorem dX1_init_76 : decode cX1_init 76 = .ok (.if_icmp .ge 22, 3) := by decide +kernel
theorem dX1_init_79 : decode cX1_init 79 = .ok (.aload_n 0, 1) := by decide +kernel
theorem dX1_init_80 : decode cX1_init 80 = .ok (.getfield 37, 3) := by decide +kernel
theorem dX1_init_83 : decode cX1_init 83 = .ok (.iload_n 1, 1) := by decide +kernel
theorem dX1_init_84 : decode cX1_init 84 = .ok (.new 35, 3) := by decide +kernel
theorem dX1_init_87 : decode cX1_init 87 = .ok (.dup, 1) := by decide +kernel
theorem dX1_init_88 : decode cX1_init 88 = .ok (.invokespecial 53, 3) := by decide +kernel
theorem dX1_init_91 : decode cX1_init 91 = .ok (.aastore, 1) := by decide +kernel
theorem dX1_init_92 : decode cX1_init 92 = .ok (.iinc 1 1, 3) := by decide +kernel
theorem dX1_init_95 : decode cX1_init 95 = .ok (.goto (-22), 3) := by decide +kernel
theorem dX1_init_98 : decode cX1_init 98 = .ok (.iconst 0, 1) := by decide +kernel
theorem dX1_init_99 : decode cX1_init 99 = .ok (.istore_n 1, 1) := by decide +kernel
theorem dX1_init_100 : decode cX1_init 100 = .ok (.iload_n 1, 1) := by decide +kernel
theorem dX1_init_101 : decode cX1_init 101 = .ok (.bipush 24, 2) := by decide +kernel
theorem dX1_init_103 : decode cX1_init 103 = .ok (.if_icmp .ge 22, 3) := by decide +kernel
theorem dX1_init_106 : decode cX1_init 106 = .ok (.aload_n 0, 1) := by decide +kernel
theorem dX1_init_107 : decode cX1_init 107 = .ok (.getfield 46, 3) := by decide +kernel
theorem dX1_init_110 : decode cX1_init 110 = .ok (.iload_n 1, 1) := by decide +kernel
theorem dX1_init_111 : decode cX1_init 111 = .ok (.new 44, 3) := by decide +kernel
theorem dX1_init_114 : decode cX1_init 114 = .ok (.dup, 1) := by decide +kernel
theorem dX1_init_115 : decode cX1_init 115 = .ok (.invokespecial 54, 3) := by decide +kernel
theorem dX1_init_118 : decode cX1_init 118 = .ok (.aastore, 1) := by decide +kernel
theorem dX1_init_119 : decode cX1_init 119 = .ok (.iinc 1 1, 3) := by decide +kernel
theorem dX1_init_122 : decode cX1_init 122 = .ok (.goto (-22), 3) := by decide +kernel
theorem dX1_init_125 : decode cX1_init 125 = .ok (.return_, 1) := by decide +kernel
theorem dX1_hasCase_0 : decode cX1_hasCase 0 = .ok (.iload_n 1, 1) := by decide +kernel
theorem dX1_hasCase_1 : decode cX1_hasCase 1 = .ok (.aload_n 0, 1) := by decide +kernel
theorem dX1_hasCase_2 : decode cX1_hasCase 2 = .ok (.getfield 31, 3) := by decide +kernel
theorem dX1_hasCase_5 : decode cX1_hasCase 5 = .ok (.invokestatic 55, 3) := by decide +kernel
theorem dX1_hasCase_8 : decode cX1_hasCase 8 = .ok (.ireturn, 1) := by decide +kernel
theorem dX1_hasMaster_0 : decode cX1_hasMaster 0 = .ok (.iload_n 1, 1) := by decide +kernel
theorem dX1_hasMaster_1 : decode cX1_hasMaster 1 = .ok (.aload_n 0, 1) := by decide +kernel
theorem dX1_hasMaster_2 : decode cX1_hasMaster 2 = .ok (.getfield 41, 3) := by decide +kernel
theorem dX1_hasMaster_5 : decode cX1_hasMaster 5 = .ok (.invokestatic 55, 3) := by decide +kernel
theorem dX1_hasMaster_8 : decode cX1_hasMaster 8 = .ok (.ireturn, 1) := by decide +kernel
theorem dX1_hasSaying_0 : decode cX1_hasSaying 0 = .ok (.iload_n 1, 1) := by decide +kernel
theorem dX1_hasSaying_1 : decode cX1_hasSaying 1 = .ok (.aload_n 0, 1) := by decide +kernel
theorem dX1_hasSaying_2 : decode cX1_hasSaying 2 = .ok (.getfield 50, 3) := by decide +kernel
theorem dX1_hasSaying_5 : decode cX1_hasSaying 5 = .ok (.invokestatic 55, 3) := by decide +kernel
theorem dX1_hasSaying_8 : decode cX1_hasSaying 8 = .ok (.ireturn, 1) := by decide +kernel
theorem dX1_hasYear_0 : decode cX1_hasYear 0 = .ok (.aload_n 0, 1) := by decide +kernel
theorem dX1_hasYear_1 : decode cX1_hasYear 1 = .ok (.iload_n 1, 1) := by decide +kernel
theorem dX1_hasYear_2 : decode cX1_hasYear 2 = .ok (.invokevirtual 59, 3) := by decide +kernel
theorem dX1_hasYear_5 : decode cX1_hasYear 5 = .ok (.ifCond .eq 33, 3) := by decide +kernel
theorem dX1_hasYear_8 : decode cX1_hasYear 8 = .ok (.iload_n 2, 1) := by decide +kernel
theorem dX1_hasYear_9 : decode cX1_hasYear 9 = .ok (.aload_n 0, 1) := by decide +kernel
theorem dX1_hasYear_10 : decode cX1_hasYear 10 = .ok (.getfield 37, 3) := by decide +kernel
theorem dX1_hasYear_13 : decode cX1_hasYear 13 = .ok (.iload_n 1, 1) := by decide +kernel
theorem dX1_hasYear_14 : decode cX1_hasYear 14 = .ok (.aaload, 1) := by decide +kernel
theorem dX1_hasYear_15 : decode cX1_hasYear 15 = .ok (.getfield 63, 3) := by decide +kernel
theorem dX1_hasYear_18 : decode cX1_hasYear 18 = .ok (.if_icmp .lt 20, 3) := by decide +kernel
theorem dX1_hasYear_21 : decode cX1_hasYear 21 = .ok (.iload_n 2, 1) := by decide +kernel
theorem dX1_hasYear_22 : decode cX1_hasYear 22 = .ok (.aload_n 0, 1) := by decide +kernel
theorem dX1_hasYear_23 : decode cX1_hasYear 23 = .ok (.getfield 37, 3) := by decide +kernel
theorem dX1_hasYear_26 : decode cX1_hasYear 26 = .ok (.iload_n 1, 1) := by decide +kernel
theorem dX1_hasYear_27 : decode cX1_hasYear 27 = .ok (.aaload, 1) := by decide +kernel
theorem dX1_hasYear_28 : decode cX1_hasYear 28 = .ok (.getfield 66, 3) := by decide +kernel
theorem dX1_hasYear_31 : decode cX1_hasYear 31 = .ok (.if_icmp .gt 7, 3) := by decide +kernel
theorem dX1_hasYear_34 : decode cX1_hasYear 34 = .ok (.iconst 1, 1) := by decide +kernel
theorem dX1_hasYear_35 : decode cX1_hasYear 35 = .ok (.goto 4, 3) := by decide +kernel
theorem dX1_hasYear_38 : decode cX1_hasYear 38 = .ok (.iconst 0, 1) := by decide +kernel
theorem dX1_hasYear_39 : decode cX1_hasYear 39 = .ok (.ireturn, 1) := by decide +kernel
theorem dX1_hasRoom_0 : decode cX1_hasRoom 0 = .ok (.aload_n 0, 1) := by decide +kernel
theorem dX1_hasRoom_1 : decode cX1_hasRoom 1 = .ok (.getfield 50, 3) := by decide +kernel
theorem dX1_hasRoom_4 : decode cX1_hasRoom 4 = .ok (.iload_n 2, 1) := by decide +kernel
theorem dX1_hasRoom_5 : decode cX1_hasRoom 5 = .ok (.iadd, 1) := by decide +kernel
theorem dX1_hasRoom_6 : decode cX1_hasRoom 6 = .ok (.bipush 24, 2) := by decide +kernel
theorem dX1_hasRoom_8 : decode cX1_hasRoom 8 = .ok (.if_icmp .gt 23, 3) := by decide +kernel
theorem dX1_hasRoom_11 : decode cX1_hasRoom 11 = .ok (.aload_n 0, 1) := by decide +kernel
theorem dX1_hasRoom_12 : decode cX1_hasRoom 12 = .ok (.getfield 37, 3) := by decide +kernel
theorem dX1_hasRoom_15 : decode cX1_hasRoom 15 = .ok (.iload_n 1, 1) := by decide +kernel
theorem dX1_hasRoom_16 : decode cX1_hasRoom 16 = .ok (.aaload, 1) := by decide +kernel
theorem dX1_hasRoom_17 : decode cX1_hasRoom 17 = .ok (.getfield 69, 3) := by decide +kernel
theorem dX1_hasRoom_20 : decode cX1_hasRoom 20 = .ok (.iload_n 2, 1) := by decide +kernel
theorem dX1_hasRoom_21 : decode cX1_hasRoom 21 = .ok (.iadd, 1) := by decide +kernel
theorem dX1_hasRoom_22 : decode cX1_hasRoom 22 = .ok (.bipush 9, 2) := by decide +kernel
theorem dX1_hasRoom_24 : decode cX1_hasRoom 24 = .ok (.if_icmp .gt 7, 3) := by decide +kernel
theorem dX1_hasRoom_27 : decode cX1_hasRoom 27 = .ok (.iconst 1, 1) := by decide +kernel
theorem dX1_hasRoom_28 : decode cX1_hasRoom 28 = .ok (.goto 4, 3) := by decide +kernel
theorem dX1_hasRoom_31 : decode cX1_hasRoom 31 = .ok (.iconst 0, 1) := by decide +kernel
theorem dX1_hasRoom_32 : decode cX1_hasRoom 32 = .ok (.ireturn, 1) := by decide +kernel
theorem dX1_addCase_0 : decode cX1_addCase 0 = .ok (.aload_n 0, 1) := by decide +kernel
theorem dX1_addCase_1 : decode cX1_addCase 1 = .ok (.getfield 27, 3) := by decide +kernel
theorem dX1_addCase_4 : decode cX1_addCase 4 = .ok (.aload_n 0, 1) := by decide +kernel
theorem dX1_addCase_5 : decode cX1_addCase 5 = .ok (.getfield 31, 3) := by decide +kernel
theorem dX1_addCase_8 : decode cX1_addCase 8 = .ok (.iload_n 1, 1) := by decide +kernel
theorem dX1_addCase_9 : decode cX1_addCase 9 = .ok (.iastore, 1) := by decide +kernel
theorem dX1_addCase_10 : decode cX1_addCase 10 = .ok (.aload_n 0, 1) := by decide +kernel
theorem dX1_addCase_11 : decode cX1_addCase 11 = .ok (.dup, 1) := by decide +kernel
theorem dX1_addCase_12 : decode cX1_addCase 12 = .ok (.getfield 31, 3) := by decide +kernel
theorem dX1_addCase_15 : decode cX1_addCase 15 = .ok (.iconst 1, 1) := by decide +kernel
theorem dX1_addCase_16 : decode cX1_addCase 16 = .ok (.iadd, 1) := by decide +kernel
theorem dX1_addCase_17 : decode cX1_addCase 17 = .ok (.putfield 31, 3) := by decide +kernel
theorem dX1_addCase_20 : decode cX1_addCase 20 = .ok (.aload_n 0, 1) := by decide +kernel
theorem dX1_addCase_21 : decode cX1_addCase 21 = .ok (.getfield 31, 3) := by decide +kernel
theorem dX1_addCase_24 : decode cX1_addCase 24 = .ok (.iconst 1, 1) := by decide +kernel
theorem dX1_addCase_25 : decode cX1_addCase 25 = .ok (.isub, 1) := by decide +kernel
theorem dX1_addCase_26 : decode cX1_addCase 26 = .ok (.ireturn, 1) := by decide +kernel
theorem dX1_addMaster_0 : decode cX1_addMaster 0 = .ok (.aload_n 0, 1) := by decide +kernel
theorem dX1_addMaster_1 : decode cX1_addMaster 1 = .ok (.getfield 37, 3) := by decide +kernel
theorem dX1_addMaster_4 : decode cX1_addMaster 4 = .ok (.aload_n 0, 1) := by decide +kernel
theorem dX1_addMaster_5 : decode cX1_addMaster 5 = .ok (.getfield 41, 3) := by decide +kernel
theorem dX1_addMaster_8 : decode cX1_addMaster 8 = .ok (.aaload, 1) := by decide +kernel
theorem dX1_addMaster_9 : decode cX1_addMaster 9 = .ok (.astore 4, 2) := by decide +kernel
theorem dX1_addMaster_11 : decode cX1_addMaster 11 = .ok (.aload 4, 2) := by decide +kernel
theorem dX1_addMaster_13 : decode cX1_addMaster 13 = .ok (.iload_n 1, 1) := by decide +kernel
theorem dX1_addMaster_14 : decode cX1_addMaster 14 = .ok (.putfield 63, 3) := by decide +kernel
theorem dX1_addMaster_17 : decode cX1_addMaster 17 = .ok (.aload 4, 2) := by decide +kernel
theorem dX1_addMaster_19 : decode cX1_addMaster 19 = .ok (.iload_n 2, 1) := by decide +kernel
theorem dX1_addMaster_20 : decode cX1_addMaster 20 = .ok (.putfield 66, 3) := by decide +kernel
theorem dX1_addMaster_23 : decode cX1_addMaster 23 = .ok (.aload 4, 2) := by decide +kernel
theorem dX1_addMaster_25 : decode cX1_addMaster 25 = .ok (.iload_n 3, 1) := by decide +kernel
theorem dX1_addMaster_26 : decode cX1_addMaster 26 = .ok (.putfield 72, 3) := by decide +kernel
theorem dX1_addMaster_29 : decode cX1_addMaster 29 = .ok (.aload 4, 2) := by decide +kernel
theorem dX1_addMaster_31 : decode cX1_addMaster 31 = .ok (.iload_n 3, 1) := by decide +kernel
theorem dX1_addMaster_32 : decode cX1_addMaster 32 = .ok (.bipush (-9), 2) := by decide +kernel
theorem dX1_addMaster_34 : decode cX1_addMaster 34 = .ok (.if_icmp .ne 7, 3) := by decide +kernel
theorem dX1_addMaster_37 : decode cX1_addMaster 37 = .ok (.iconst 0, 1) := by decide +kernel
theorem dX1_addMaster_38 : decode cX1_addMaster 38 = .ok (.goto 16, 3) := by decide +kernel
theorem dX1_addMaster_41 : decode cX1_addMaster 41 = .ok (.aload_n 0, 1) := by decide +kernel
theorem dX1_addMaster_42 : decode cX1_addMaster 42 = .ok (.getfield 37, 3) := by decide +kernel
theorem dX1_addMaster_45 : decode cX1_addMaster 45 = .ok (.iload_n 3, 1) := by decide +kernel
theorem dX1_addMaster_46 : decode cX1_addMaster 46 = .ok (.aaload, 1) := by decide +kernel
theorem dX1_addMaster_47 : decode cX1_addMaster 47 = .ok (.getfield 75, 3) := by decide +kernel
theorem dX1_addMaster_50 : decode cX1_addMaster 50 = .ok (.iconst 1, 1) := by decide +kernel
theorem dX1_addMaster_51 : decode cX1_addMaster 51 = .ok (.iload_n 3, 1) := by decide +kernel
theorem dX1_addMaster_52 : decode cX1_addMaster 52 = .ok (.ishl, 1) := by decide +kernel
theorem dX1_addMaster_53 : decode cX1_addMaster 53 = .ok (.ior, 1) := by decide +kernel
theorem dX1_addMaster_54 : decode cX1_addMaster 54 = .ok (.putfield 75, 3) := by decide +kernel
theorem dX1_addMaster_57 : decode cX1_addMaster 57 = .ok (.aload_n 0, 1) := by decide +kernel
theorem dX1_addMaster_58 : decode cX1_addMaster 58 = .ok (.dup, 1) := by decide +kernel
theorem dX1_addMaster_59 : decode cX1_addMaster 59 = .ok (.getfield 41, 3) := by decide +kernel
theorem dX1_addMaster_62 : decode cX1_addMaster 62 = .ok (.iconst 1, 1) := by decide +kernel
theorem dX1_addMaster_63 : decode cX1_addMaster 63 = .ok (.iadd, 1) := by decide +kernel
theorem dX1_addMaster_64 : decode cX1_addMaster 64 = .ok (.putfield 41, 3) := by decide +kernel
theorem dX1_addMaster_67 : decode cX1_addMaster 67 = .ok (.aload_n 0, 1) := by decide +kernel
theorem dX1_addMaster_68 : decode cX1_addMaster 68 = .ok (.getfield 41, 3) := by decide +kernel
theorem dX1_addMaster_71 : decode cX1_addMaster 71 = .ok (.iconst 1, 1) := by decide +kernel
theorem dX1_addMaster_72 : decode cX1_addMaster 72 = .ok (.isub, 1) := by decide +kernel
theorem dX1_addMaster_73 : decode cX1_addMaster 73 = .ok (.ireturn, 1) := by decide +kernel
theorem dX1_addSaying_0 : decode cX1_addSaying 0 = .ok (.aload_n 0, 1) := by decide +kernel
theorem dX1_addSaying_1 : decode cX1_addSaying 1 = .ok (.getfield 46, 3) := by decide +kernel
theorem dX1_addSaying_4 : decode cX1_addSaying 4 = .ok (.aload_n 0, 1) := by decide +kernel
theorem dX1_addSaying_5 : decode cX1_addSaying 5 = .ok (.getfield 50, 3) := by decide +kernel
theorem dX1_addSaying_8 : decode cX1_addSaying 8 = .ok (.aaload, 1) := by decide +kernel
theorem dX1_addSaying_9 : decode cX1_addSaying 9 = .ok (.astore 6, 2) := by decide +kernel
theorem dX1_addSaying_11 : decode cX1_addSaying 11 = .ok (.aload 6, 2) := by decide +kernel
theorem dX1_addSaying_13 : decode cX1_addSaying 13 = .ok (.iload_n 1, 1) := by decide +kernel
theorem dX1_addSaying_14 : decode cX1_addSaying 14 = .ok (.putfield 78, 3) := by decide +kernel
theorem dX1_addSaying_17 : decode cX1_addSaying 17 = .ok (.aload 6, 2) := by decide +kernel
theorem dX1_addSaying_19 : decode cX1_addSaying 19 = .ok (.iload_n 2, 1) := by decide +kernel
theorem dX1_addSaying_20 : decode cX1_addSaying 20 = .ok (.putfield 81, 3) := by decide +kernel
theorem dX1_addSaying_23 : decode cX1_addSaying 23 = .ok (.aload 6, 2) := by decide +kernel
theorem dX1_addSaying_25 : decode cX1_addSaying 25 = .ok (.iload_n 3, 1) := by decide +kernel
theorem dX1_addSaying_26 : decode cX1_addSaying 26 = .ok (.putfield 84, 3) := by decide +kernel
theorem dX1_addSaying_29 : decode cX1_addSaying 29 = .ok (.aload 6, 2) := by decide +kernel
theorem dX1_addSaying_31 : decode cX1_addSaying 31 = .ok (.iload 4, 2) := by decide +kernel
theorem dX1_addSaying_33 : decode cX1_addSaying 33 = .ok (.putfield 87, 3) := by decide +kernel
theorem dX1_addSaying_36 : decode cX1_addSaying 36 = .ok (.aload 6, 2) := by decide +kernel
theorem dX1_addSaying_38 : decode cX1_addSaying 38 = .ok (.iload 5, 2) := by decide +kernel
theorem dX1_addSaying_40 : decode cX1_addSaying 40 = .ok (.putfield 90, 3) := by decide +kernel
theorem dX1_addSaying_43 : decode cX1_addSaying 43 = .ok (.aload_n 0, 1) := by decide +kernel
theorem dX1_addSaying_44 : decode cX1_addSaying 44 = .ok (.getfield 37, 3) := by decide +kernel
theorem dX1_addSaying_47 : decode cX1_addSaying 47 = .ok (.iload_n 1, 1) := by decide +kernel
theorem dX1_addSaying_48 : decode cX1_addSaying 48 = .ok (.aaload, 1) := by decide +kernel
theorem dX1_addSaying_49 : decode cX1_addSaying 49 = .ok (.astore 7, 2) := by decide +kernel
theorem dX1_addSaying_51 : decode cX1_addSaying 51 = .ok (.aload 7, 2) := by decide +kernel
theorem dX1_addSaying_53 : decode cX1_addSaying 53 = .ok (.getfield 93, 3) := by decide +kernel
theorem dX1_addSaying_56 : decode cX1_addSaying 56 = .ok (.aload 7, 2) := by decide +kernel
theorem dX1_addSaying_58 : decode cX1_addSaying 58 = .ok (.getfield 69, 3) := by decide +kernel
theorem dX1_addSaying_61 : decode cX1_addSaying 61 = .ok (.aload_n 0, 1) := by decide +kernel
theorem dX1_addSaying_62 : decode cX1_addSaying 62 = .ok (.getfield 50, 3) := by decide +kernel
theorem dX1_addSaying_65 : decode cX1_addSaying 65 = .ok (.iastore, 1) := by decide +kernel
theorem dX1_addSaying_66 : decode cX1_addSaying 66 = .ok (.aload 7, 2) := by decide +kernel
theorem dX1_addSaying_68 : decode cX1_addSaying 68 = .ok (.dup, 1) := by decide +kernel
theorem dX1_addSaying_69 : decode cX1_addSaying 69 = .ok (.getfield 69, 3) := by decide +kernel
theorem dX1_addSaying_72 : decode cX1_addSaying 72 = .ok (.iconst 1, 1) := by decide +kernel
theorem dX1_addSaying_73 : decode cX1_addSaying 73 = .ok (.iadd, 1) := by decide +kernel
theorem dX1_addSaying_74 : decode cX1_addSaying 74 = .ok (.putfield 69, 3) := by decide +kernel
theorem dX1_addSaying_77 : decode cX1_addSaying 77 = .ok (.aload 7, 2) := by decide +kernel
theorem dX1_addSaying_79 : decode cX1_addSaying 79 = .ok (.getfield 96, 3) := by decide +kernel
theorem dX1_addSaying_82 : decode cX1_addSaying 82 = .ok (.iconst 0, 1) := by decide +kernel
theorem dX1_addSaying_83 : decode cX1_addSaying 83 = .ok (.putfield 100, 3) := by decide +kernel
theorem dX1_addSaying_86 : decode cX1_addSaying 86 = .ok (.aload_n 0, 1) := by decide +kernel
theorem dX1_addSaying_87 : decode cX1_addSaying 87 = .ok (.dup, 1) := by decide +kernel
theorem dX1_addSaying_88 : decode cX1_addSaying 88 = .ok (.getfield 50, 3) := by decide +kernel
theorem dX1_addSaying_91 : decode cX1_addSaying 91 = .ok (.iconst 1, 1) := by decide +kernel
theorem dX1_addSaying_92 : decode cX1_addSaying 92 = .ok (.iadd, 1) := by decide +kernel
theorem dX1_addSaying_93 : decode cX1_addSaying 93 = .ok (.putfield 50, 3) := by decide +kernel
theorem dX1_addSaying_96 : decode cX1_addSaying 96 = .ok (.aload_n 0, 1) := by decide +kernel
theorem dX1_addSaying_97 : decode cX1_addSaying 97 = .ok (.getfield 50, 3) := by decide +kernel
theorem dX1_addSaying_100 : decode cX1_addSaying 100 = .ok (.iconst 1, 1) := by decide +kernel
theorem dX1_addSaying_101 : decode cX1_addSaying 101 = .ok (.isub, 1) := by decide +kernel
theorem dX1_addSaying_102 : decode cX1_addSaying 102 = .ok (.ireturn, 1) := by decide +kernel
theorem dX1_reprice_0 : decode cX1_reprice 0 = .ok (.aload_n 0, 1) := by decide +kernel
theorem dX1_reprice_1 : decode cX1_reprice 1 = .ok (.getfield 23, 3) := by decide +kernel
theorem dX1_reprice_4 : decode cX1_reprice 4 = .ok (.iload_n 1, 1) := by decide +kernel
theorem dX1_reprice_5 : decode cX1_reprice 5 = .ok (.putfield 106, 3) := by decide +kernel
theorem dX1_reprice_8 : decode cX1_reprice 8 = .ok (.aload_n 0, 1) := by decide +kernel
theorem dX1_reprice_9 : decode cX1_reprice 9 = .ok (.getfield 23, 3) := by decide +kernel
theorem dX1_reprice_12 : decode cX1_reprice 12 = .ok (.iload_n 2, 1) := by decide +kernel
theorem dX1_reprice_13 : decode cX1_reprice 13 = .ok (.putfield 109, 3) := by decide +kernel
theorem dX1_reprice_16 : decode cX1_reprice 16 = .ok (.aload_n 0, 1) := by decide +kernel
theorem dX1_reprice_17 : decode cX1_reprice 17 = .ok (.getfield 23, 3) := by decide +kernel
theorem dX1_reprice_20 : decode cX1_reprice 20 = .ok (.iload_n 3, 1) := by decide +kernel
theorem dX1_reprice_21 : decode cX1_reprice 21 = .ok (.putfield 112, 3) := by decide +kernel
theorem dX1_reprice_24 : decode cX1_reprice 24 = .ok (.iconst 0, 1) := by decide +kernel
theorem dX1_reprice_25 : decode cX1_reprice 25 = .ok (.istore 4, 2) := by decide +kernel
theorem dX1_reprice_27 : decode cX1_reprice 27 = .ok (.iload 4, 2) := by decide +kernel
theorem dX1_reprice_29 : decode cX1_reprice 29 = .ok (.aload_n 0, 1) := by decide +kernel
theorem dX1_reprice_30 : decode cX1_reprice 30 = .ok (.getfield 41, 3) := by decide +kernel
theorem dX1_reprice_33 : decode cX1_reprice 33 = .ok (.if_icmp .ge 23, 3) := by decide +kernel
theorem dX1_reprice_36 : decode cX1_reprice 36 = .ok (.aload_n 0, 1) := by decide +kernel
theorem dX1_reprice_37 : decode cX1_reprice 37 = .ok (.getfield 37, 3) := by decide +kernel
theorem dX1_reprice_40 : decode cX1_reprice 40 = .ok (.iload 4, 2) := by decide +kernel
theorem dX1_reprice_42 : decode cX1_reprice 42 = .ok (.aaload, 1) := by decide +kernel
theorem dX1_reprice_43 : decode cX1_reprice 43 = .ok (.getfield 96, 3) := by decide +kernel
theorem dX1_reprice_46 : decode cX1_reprice 46 = .ok (.iconst 0, 1) := by decide +kernel
theorem dX1_reprice_47 : decode cX1_reprice 47 = .ok (.putfield 100, 3) := by decide +kernel
theorem dX1_reprice_50 : decode cX1_reprice 50 = .ok (.iinc 4 1, 3) := by decide +kernel
theorem dX1_reprice_53 : decode cX1_reprice 53 = .ok (.goto (-26), 3) := by decide +kernel
theorem dX1_reprice_56 : decode cX1_reprice 56 = .ok (.return_, 1) := by decide +kernel
theorem dX1_lifeFigure_0 : decode cX1_lifeFigure 0 = .ok (.aload_n 0, 1) := by decide +kernel
theorem dX1_lifeFigure_1 : decode cX1_lifeFigure 1 = .ok (.getfield 37, 3) := by decide +kernel
theorem dX1_lifeFigure_4 : decode cX1_lifeFigure 4 = .ok (.iload_n 1, 1) := by decide +kernel
theorem dX1_lifeFigure_5 : decode cX1_lifeFigure 5 = .ok (.aaload, 1) := by decide +kernel
theorem dX1_lifeFigure_6 : decode cX1_lifeFigure 6 = .ok (.astore_n 3, 1) := by decide +kernel
theorem dX1_lifeFigure_7 : decode cX1_lifeFigure 7 = .ok (.iload_n 2, 1) := by decide +kernel
theorem dX1_lifeFigure_8 : decode cX1_lifeFigure 8 = .ok (.tableswitch 52 0 3 #[32, 37, 42, 47], 32) := by decide +kernel
theorem dX1_lifeFigure_40 : decode cX1_lifeFigure 40 = .ok (.aload_n 3, 1) := by decide +kernel
theorem dX1_lifeFigure_41 : decode cX1_lifeFigure 41 = .ok (.getfield 63, 3) := by decide +kernel
theorem dX1_lifeFigure_44 : decode cX1_lifeFigure 44 = .ok (.ireturn, 1) := by decide +kernel
theorem dX1_lifeFigure_45 : decode cX1_lifeFigure 45 = .ok (.aload_n 3, 1) := by decide +kernel
theorem dX1_lifeFigure_46 : decode cX1_lifeFigure 46 = .ok (.getfield 66, 3) := by decide +kernel
theorem dX1_lifeFigure_49 : decode cX1_lifeFigure 49 = .ok (.ireturn, 1) := by decide +kernel
theorem dX1_lifeFigure_50 : decode cX1_lifeFigure 50 = .ok (.aload_n 3, 1) := by decide +kernel
theorem dX1_lifeFigure_51 : decode cX1_lifeFigure 51 = .ok (.getfield 72, 3) := by decide +kernel
theorem dX1_lifeFigure_54 : decode cX1_lifeFigure 54 = .ok (.ireturn, 1) := by decide +kernel
theorem dX1_lifeFigure_55 : decode cX1_lifeFigure 55 = .ok (.aload_n 3, 1) := by decide +kernel
theorem dX1_lifeFigure_56 : decode cX1_lifeFigure 56 = .ok (.getfield 69, 3) := by decide +kernel
theorem dX1_lifeFigure_59 : decode cX1_lifeFigure 59 = .ok (.ireturn, 1) := by decide +kernel
theorem dX1_lifeFigure_60 : decode cX1_lifeFigure 60 = .ok (.aload_n 0, 1) := by decide +kernel
theorem dX1_lifeFigure_61 : decode cX1_lifeFigure 61 = .ok (.iload_n 1, 1) := by decide +kernel
theorem dX1_lifeFigure_62 : decode cX1_lifeFigure 62 = .ok (.invokevirtual 115, 3) := by decide +kernel
theorem dX1_lifeFigure_65 : decode cX1_lifeFigure 65 = .ok (.ireturn, 1) := by decide +kernel
theorem dX1_pupils_0 : decode cX1_pupils 0 = .ok (.iconst 0, 1) := by decide +kernel
theorem dX1_pupils_1 : decode cX1_pupils 1 = .ok (.istore_n 2, 1) := by decide +kernel
theorem dX1_pupils_2 : decode cX1_pupils 2 = .ok (.iconst 0, 1) := by decide +kernel
theorem dX1_pupils_3 : decode cX1_pupils 3 = .ok (.istore_n 3, 1) := by decide +kernel
theorem dX1_pupils_4 : decode cX1_pupils 4 = .ok (.iload_n 3, 1) := by decide +kernel
theorem dX1_pupils_5 : decode cX1_pupils 5 = .ok (.aload_n 0, 1) := by decide +kernel
theorem dX1_pupils_6 : decode cX1_pupils 6 = .ok (.getfield 41, 3) := by decide +kernel
theorem dX1_pupils_9 : decode cX1_pupils 9 = .ok (.if_icmp .ge 29, 3) := by decide +kernel
theorem dX1_pupils_12 : decode cX1_pupils 12 = .ok (.aload_n 0, 1) := by decide +kernel
theorem dX1_pupils_13 : decode cX1_pupils 13 = .ok (.getfield 37, 3) := by decide +kernel
theorem dX1_pupils_16 : decode cX1_pupils 16 = .ok (.iload_n 3, 1) := by decide +kernel
theorem dX1_pupils_17 : decode cX1_pupils 17 = .ok (.aaload, 1) := by decide +kernel
theorem dX1_pupils_18 : decode cX1_pupils 18 = .ok (.getfield 75, 3) := by decide +kernel
theorem dX1_pupils_21 : decode cX1_pupils 21 = .ok (.iload_n 1, 1) := by decide +kernel
theorem dX1_pupils_22 : decode cX1_pupils 22 = .ok (.iushr, 1) := by decide +kernel
theorem dX1_pupils_23 : decode cX1_pupils 23 = .ok (.iconst 1, 1) := by decide +kernel
theorem dX1_pupils_24 : decode cX1_pupils 24 = .ok (.iand, 1) := by decide +kernel
theorem dX1_pupils_25 : decode cX1_pupils 25 = .ok (.iconst 1, 1) := by decide +kernel
theorem dX1_pupils_26 : decode cX1_pupils 26 = .ok (.if_icmp .ne 6, 3) := by decide +kernel
theorem dX1_pupils_29 : decode cX1_pupils 29 = .ok (.iinc 2 1, 3) := by decide +kernel
theorem dX1_pupils_32 : decode cX1_pupils 32 = .ok (.iinc 3 1, 3) := by decide +kernel
theorem dX1_pupils_35 : decode cX1_pupils 35 = .ok (.goto (-31), 3) := by decide +kernel
theorem dX1_pupils_38 : decode cX1_pupils 38 = .ok (.iload_n 2, 1) := by decide +kernel
theorem dX1_pupils_39 : decode cX1_pupils 39 = .ok (.ireturn, 1) := by decide +kernel
theorem dX1_caseTraits_0 : decode cX1_caseTraits 0 = .ok (.aload_n 0, 1) := by decide +kernel
theorem dX1_caseTraits_1 : decode cX1_caseTraits 1 = .ok (.getfield 27, 3) := by decide +kernel
theorem dX1_caseTraits_4 : decode cX1_caseTraits 4 = .ok (.aload_n 0, 1) := by decide +kernel
theorem dX1_caseTraits_5 : decode cX1_caseTraits 5 = .ok (.getfield 46, 3) := by decide +kernel
theorem dX1_caseTraits_8 : decode cX1_caseTraits 8 = .ok (.iload_n 1, 1) := by decide +kernel
theorem dX1_caseTraits_9 : decode cX1_caseTraits 9 = .ok (.aaload, 1) := by decide +kernel
theorem dX1_caseTraits_10 : decode cX1_caseTraits 10 = .ok (.getfield 81, 3) := by decide +kernel
theorem dX1_caseTraits_13 : decode cX1_caseTraits 13 = .ok (.iaload, 1) := by decide +kernel
theorem dX1_caseTraits_14 : decode cX1_caseTraits 14 = .ok (.ireturn, 1) := by decide +kernel
theorem dX1_strainOf_0 : decode cX1_strainOf 0 = .ok (.aload_n 0, 1) := by decide +kernel
theorem dX1_strainOf_1 : decode cX1_strainOf 1 = .ok (.getfield 46, 3) := by decide +kernel
theorem dX1_strainOf_4 : decode cX1_strainOf 4 = .ok (.iload_n 1, 1) := by decide +kernel
theorem dX1_strainOf_5 : decode cX1_strainOf 5 = .ok (.aaload, 1) := by decide +kernel
theorem dX1_strainOf_6 : decode cX1_strainOf 6 = .ok (.astore_n 3, 1) := by decide +kernel
theorem dX1_strainOf_7 : decode cX1_strainOf 7 = .ok (.aload_n 0, 1) := by decide +kernel
theorem dX1_strainOf_8 : decode cX1_strainOf 8 = .ok (.getfield 12, 3) := by decide +kernel
theorem dX1_strainOf_11 : decode cX1_strainOf 11 = .ok (.iload_n 2, 1) := by decide +kernel
theorem dX1_strainOf_12 : decode cX1_strainOf 12 = .ok (.aload_n 0, 1) := by decide +kernel
theorem dX1_strainOf_13 : decode cX1_strainOf 13 = .ok (.iload_n 1, 1) := by decide +kernel
theorem dX1_strainOf_14 : decode cX1_strainOf 14 = .ok (.invokevirtual 119, 3) := by decide +kernel
theorem dX1_strainOf_17 : decode cX1_strainOf 17 = .ok (.aload_n 3, 1) := by decide +kernel
theorem dX1_strainOf_18 : decode cX1_strainOf 18 = .ok (.getfield 87, 3) := by decide +kernel
theorem dX1_strainOf_21 : decode cX1_strainOf 21 = .ok (.aload_n 3, 1) := by decide +kernel
theorem dX1_strainOf_22 : decode cX1_strainOf 22 = .ok (.getfield 90, 3) := by decide +kernel
theorem dX1_strainOf_25 : decode cX1_strainOf 25 = .ok (.invokevirtual 122, 3) := by decide +kernel
theorem dX1_strainOf_28 : decode cX1_strainOf 28 = .ok (.ireturn, 1) := by decide +kernel
theorem dX1_settled_0 : decode cX1_settled 0 = .ok (.iconst 0, 1) := by decide +kernel
theorem dX1_settled_1 : decode cX1_settled 1 = .ok (.istore_n 1, 1) := by decide +kernel
theorem dX1_settled_2 : decode cX1_settled 2 = .ok (.iload_n 1, 1) := by decide +kernel
theorem dX1_settled_3 : decode cX1_settled 3 = .ok (.aload_n 0, 1) := by decide +kernel
theorem dX1_settled_4 : decode cX1_settled 4 = .ok (.getfield 41, 3) := by decide +kernel
theorem dX1_settled_7 : decode cX1_settled 7 = .ok (.if_icmp .ge 75, 3) := by decide +kernel
theorem dX1_settled_10 : decode cX1_settled 10 = .ok (.aload_n 0, 1) := by decide +kernel
theorem dX1_settled_11 : decode cX1_settled 11 = .ok (.getfield 37, 3) := by decide +kernel
theorem dX1_settled_14 : decode cX1_settled 14 = .ok (.iload_n 1, 1) := by decide +kernel
theorem dX1_settled_15 : decode cX1_settled 15 = .ok (.aaload, 1) := by decide +kernel
theorem dX1_settled_16 : decode cX1_settled 16 = .ok (.getfield 96, 3) := by decide +kernel
theorem dX1_settled_19 : decode cX1_settled 19 = .ok (.getfield 100, 3) := by decide +kernel
theorem dX1_settled_22 : decode cX1_settled 22 = .ok (.ifCond .eq 6, 3) := by decide +kernel
theorem dX1_settled_25 : decode cX1_settled 25 = .ok (.goto 51, 3) := by decide +kernel
theorem dX1_settled_28 : decode cX1_settled 28 = .ok (.aload_n 0, 1) := by decide +kernel
theorem dX1_settled_29 : decode cX1_settled 29 = .ok (.getfield 23, 3) := by decide +kernel
theorem dX1_settled_32 : decode cX1_settled 32 = .ok (.aload_n 0, 1) := by decide +kernel
theorem dX1_settled_33 : decode cX1_settled 33 = .ok (.getfield 37, 3) := by decide +kernel
theorem dX1_settled_36 : decode cX1_settled 36 = .ok (.iload_n 1, 1) := by decide +kernel
theorem dX1_settled_37 : decode cX1_settled 37 = .ok (.aaload, 1) := by decide +kernel
theorem dX1_settled_38 : decode cX1_settled 38 = .ok (.aload_n 0, 1) := by decide +kernel
theorem dX1_settled_39 : decode cX1_settled 39 = .ok (.getfield 46, 3) := by decide +kernel
theorem dX1_settled_42 : decode cX1_settled 42 = .ok (.aload_n 0, 1) := by decide +kernel
theorem dX1_settled_43 : decode cX1_settled 43 = .ok (.getfield 27, 3) := by decide +kernel
theorem dX1_settled_46 : decode cX1_settled 46 = .ok (.invokevirtual 126, 3) := by decide +kernel
theorem dX1_settled_49 : decode cX1_settled 49 = .ok (.aload_n 0, 1) := by decide +kernel
theorem dX1_settled_50 : decode cX1_settled 50 = .ok (.getfield 23, 3) := by decide +kernel
theorem dX1_settled_53 : decode cX1_settled 53 = .ok (.invokevirtual 130, 3) := by decide +kernel
theorem dX1_settled_56 : decode cX1_settled 56 = .ok (.aload_n 0, 1) := by decide +kernel
theorem dX1_settled_57 : decode cX1_settled 57 = .ok (.getfield 37, 3) := by decide +kernel
theorem dX1_settled_60 : decode cX1_settled 60 = .ok (.iload_n 1, 1) := by decide +kernel
theorem dX1_settled_61 : decode cX1_settled 61 = .ok (.aaload, 1) := by decide +kernel
theorem dX1_settled_62 : decode cX1_settled 62 = .ok (.getfield 96, 3) := by decide +kernel
theorem dX1_settled_65 : decode cX1_settled 65 = .ok (.aload_n 0, 1) := by decide +kernel
theorem dX1_settled_66 : decode cX1_settled 66 = .ok (.getfield 23, 3) := by decide +kernel
theorem dX1_settled_69 : decode cX1_settled 69 = .ok (.aload_n 0, 1) := by decide +kernel
theorem dX1_settled_70 : decode cX1_settled 70 = .ok (.getfield 12, 3) := by decide +kernel
theorem dX1_settled_73 : decode cX1_settled 73 = .ok (.invokevirtual 133, 3) := by decide +kernel
theorem dX1_settled_76 : decode cX1_settled 76 = .ok (.iinc 1 1, 3) := by decide +kernel
theorem dX1_settled_79 : decode cX1_settled 79 = .ok (.goto (-77), 3) := by decide +kernel
theorem dX1_settled_82 : decode cX1_settled 82 = .ok (.aload_n 0, 1) := by decide +kernel
theorem dX1_settled_83 : decode cX1_settled 83 = .ok (.getfield 37, 3) := by decide +kernel
theorem dX1_settled_86 : decode cX1_settled 86 = .ok (.areturn, 1) := by decide +kernel
theorem dX1_changeYear_0 : decode cX1_changeYear 0 = .ok (.aload_n 0, 1) := by decide +kernel
theorem dX1_changeYear_1 : decode cX1_changeYear 1 = .ok (.getfield 23, 3) := by decide +kernel
theorem dX1_changeYear_4 : decode cX1_changeYear 4 = .ok (.aload_n 0, 1) := by decide +kernel
theorem dX1_changeYear_5 : decode cX1_changeYear 5 = .ok (.getfield 37, 3) := by decide +kernel
theorem dX1_changeYear_8 : decode cX1_changeYear 8 = .ok (.iload_n 1, 1) := by decide +kernel
theorem dX1_changeYear_9 : decode cX1_changeYear 9 = .ok (.aaload, 1) := by decide +kernel
theorem dX1_changeYear_10 : decode cX1_changeYear 10 = .ok (.aload_n 0, 1) := by decide +kernel
theorem dX1_changeYear_11 : decode cX1_changeYear 11 = .ok (.getfield 46, 3) := by decide +kernel
theorem dX1_changeYear_14 : decode cX1_changeYear 14 = .ok (.aload_n 0, 1) := by decide +kernel
theorem dX1_changeYear_15 : decode cX1_changeYear 15 = .ok (.getfield 27, 3) := by decide +kernel
theorem dX1_changeYear_18 : decode cX1_changeYear 18 = .ok (.invokevirtual 126, 3) := by decide +kernel
theorem dX1_changeYear_21 : decode cX1_changeYear 21 = .ok (.aload_n 0, 1) := by decide +kernel
theorem dX1_changeYear_22 : decode cX1_changeYear 22 = .ok (.getfield 23, 3) := by decide +kernel
theorem dX1_changeYear_25 : decode cX1_changeYear 25 = .ok (.aload_n 0, 1) := by decide +kernel
theorem dX1_changeYear_26 : decode cX1_changeYear 26 = .ok (.getfield 37, 3) := by decide +kernel
theorem dX1_changeYear_29 : decode cX1_changeYear 29 = .ok (.iload_n 1, 1) := by decide +kernel
theorem dX1_changeYear_30 : decode cX1_changeYear 30 = .ok (.aaload, 1) := by decide +kernel
theorem dX1_changeYear_31 : decode cX1_changeYear 31 = .ok (.aload_n 0, 1) := by decide +kernel
theorem dX1_changeYear_32 : decode cX1_changeYear 32 = .ok (.getfield 46, 3) := by decide +kernel
theorem dX1_changeYear_35 : decode cX1_changeYear 35 = .ok (.invokevirtual 137, 3) := by decide +kernel
theorem dX1_changeYear_38 : decode cX1_changeYear 38 = .ok (.ireturn, 1) := by decide +kernel
theorem dX1_sumIfOtherwise_0 : decode cX1_sumIfOtherwise 0 = .ok (.aload_n 0, 1) := by decide +kernel
theorem dX1_sumIfOtherwise_1 : decode cX1_sumIfOtherwise 1 = .ok (.getfield 46, 3) := by decide +kernel
theorem dX1_sumIfOtherwise_4 : decode cX1_sumIfOtherwise 4 = .ok (.iload_n 1, 1) := by decide +kernel
theorem dX1_sumIfOtherwise_5 : decode cX1_sumIfOtherwise 5 = .ok (.aaload, 1) := by decide +kernel
theorem dX1_sumIfOtherwise_6 : decode cX1_sumIfOtherwise 6 = .ok (.astore_n 2, 1) := by decide +kernel
theorem dX1_sumIfOtherwise_7 : decode cX1_sumIfOtherwise 7 = .ok (.aload_n 2, 1) := by decide +kernel
theorem dX1_sumIfOtherwise_8 : decode cX1_sumIfOtherwise 8 = .ok (.iconst 1, 1) := by decide +kernel
theorem dX1_sumIfOtherwise_9 : decode cX1_sumIfOtherwise 9 = .ok (.aload_n 2, 1) := by decide +kernel
theorem dX1_sumIfOtherwise_10 : decode cX1_sumIfOtherwise 10 = .ok (.getfield 87, 3) := by decide +kernel
theorem dX1_sumIfOtherwise_13 : decode cX1_sumIfOtherwise 13 = .ok (.isub, 1) := by decide +kernel
theorem dX1_sumIfOtherwise_14 : decode cX1_sumIfOtherwise 14 = .ok (.putfield 87, 3) := by decide +kernel
theorem dX1_sumIfOtherwise_17 : decode cX1_sumIfOtherwise 17 = .ok (.aload_n 0, 1) := by decide +kernel
theorem dX1_sumIfOtherwise_18 : decode cX1_sumIfOtherwise 18 = .ok (.getfield 23, 3) := by decide +kernel
theorem dX1_sumIfOtherwise_21 : decode cX1_sumIfOtherwise 21 = .ok (.aload_n 0, 1) := by decide +kernel
theorem dX1_sumIfOtherwise_22 : decode cX1_sumIfOtherwise 22 = .ok (.getfield 37, 3) := by decide +kernel
theorem dX1_sumIfOtherwise_25 : decode cX1_sumIfOtherwise 25 = .ok (.aload_n 2, 1) := by decide +kernel
theorem dX1_sumIfOtherwise_26 : decode cX1_sumIfOtherwise 26 = .ok (.getfield 78, 3) := by decide +kernel
theorem dX1_sumIfOtherwise_29 : decode cX1_sumIfOtherwise 29 = .ok (.aaload, 1) := by decide +kernel
theorem dX1_sumIfOtherwise_30 : decode cX1_sumIfOtherwise 30 = .ok (.aload_n 0, 1) := by decide +kernel
theorem dX1_sumIfOtherwise_31 : decode cX1_sumIfOtherwise 31 = .ok (.getfield 46, 3) := by decide +kernel
theorem dX1_sumIfOtherwise_34 : decode cX1_sumIfOtherwise 34 = .ok (.aload_n 0, 1) := by decide +kernel
theorem dX1_sumIfOtherwise_35 : decode cX1_sumIfOtherwise 35 = .ok (.getfield 27, 3) := by decide +kernel
theorem dX1_sumIfOtherwise_38 : decode cX1_sumIfOtherwise 38 = .ok (.invokevirtual 126, 3) := by decide +kernel
theorem dX1_sumIfOtherwise_41 : decode cX1_sumIfOtherwise 41 = .ok (.aload_n 0, 1) := by decide +kernel
theorem dX1_sumIfOtherwise_42 : decode cX1_sumIfOtherwise 42 = .ok (.getfield 23, 3) := by decide +kernel
theorem dX1_sumIfOtherwise_45 : decode cX1_sumIfOtherwise 45 = .ok (.invokevirtual 130, 3) := by decide +kernel
theorem dX1_sumIfOtherwise_48 : decode cX1_sumIfOtherwise 48 = .ok (.aload_n 2, 1) := by decide +kernel
theorem dX1_sumIfOtherwise_49 : decode cX1_sumIfOtherwise 49 = .ok (.iconst 1, 1) := by decide +kernel
theorem dX1_sumIfOtherwise_50 : decode cX1_sumIfOtherwise 50 = .ok (.aload_n 2, 1) := by decide +kernel
theorem dX1_sumIfOtherwise_51 : decode cX1_sumIfOtherwise 51 = .ok (.getfield 87, 3) := by decide +kernel
theorem dX1_sumIfOtherwise_54 : decode cX1_sumIfOtherwise 54 = .ok (.isub, 1) := by decide +kernel
theorem dX1_sumIfOtherwise_55 : decode cX1_sumIfOtherwise 55 = .ok (.putfield 87, 3) := by decide +kernel
theorem dX1_sumIfOtherwise_58 : decode cX1_sumIfOtherwise 58 = .ok (.aload_n 0, 1) := by decide +kernel
theorem dX1_sumIfOtherwise_59 : decode cX1_sumIfOtherwise 59 = .ok (.getfield 23, 3) := by decide +kernel
theorem dX1_sumIfOtherwise_62 : decode cX1_sumIfOtherwise 62 = .ok (.getfield 141, 3) := by decide +kernel
theorem dX1_sumIfOtherwise_65 : decode cX1_sumIfOtherwise 65 = .ok (.ireturn, 1) := by decide +kernel
theorem dX1_opponents_0 : decode cX1_opponents 0 = .ok (.aload_n 0, 1) := by decide +kernel
theorem dX1_opponents_1 : decode cX1_opponents 1 = .ok (.getfield 46, 3) := by decide +kernel
theorem dX1_opponents_4 : decode cX1_opponents 4 = .ok (.iload_n 1, 1) := by decide +kernel
theorem dX1_opponents_5 : decode cX1_opponents 5 = .ok (.aaload, 1) := by decide +kernel
theorem dX1_opponents_6 : decode cX1_opponents 6 = .ok (.astore_n 3, 1) := by decide +kernel
theorem dX1_opponents_7 : decode cX1_opponents 7 = .ok (.iconst 0, 1) := by decide +kernel
theorem dX1_opponents_8 : decode cX1_opponents 8 = .ok (.istore 4, 2) := by decide +kernel
theorem dX1_opponents_10 : decode cX1_opponents 10 = .ok (.iconst 0, 1) := by decide +kernel
theorem dX1_opponents_11 : decode cX1_opponents 11 = .ok (.istore 5, 2) := by decide +kernel
theorem dX1_opponents_13 : decode cX1_opponents 13 = .ok (.iload 5, 2) := by decide +kernel
theorem dX1_opponents_15 : decode cX1_opponents 15 = .ok (.aload_n 0, 1) := by decide +kernel
theorem dX1_opponents_16 : decode cX1_opponents 16 = .ok (.getfield 41, 3) := by decide +kernel
theorem dX1_opponents_19 : decode cX1_opponents 19 = .ok (.if_icmp .ge 71, 3) := by decide +kernel
theorem dX1_opponents_22 : decode cX1_opponents 22 = .ok (.aload_n 2, 1) := by decide +kernel
theorem dX1_opponents_23 : decode cX1_opponents 23 = .ok (.iload 5, 2) := by decide +kernel
theorem dX1_opponents_25 : decode cX1_opponents 25 = .ok (.aaload, 1) := by decide +kernel
theorem dX1_opponents_26 : decode cX1_opponents 26 = .ok (.astore 6, 2) := by decide +kernel
theorem dX1_opponents_28 : decode cX1_opponents 28 = .ok (.iload 5, 2) := by decide +kernel
theorem dX1_opponents_30 : decode cX1_opponents 30 = .ok (.aload_n 3, 1) := by decide +kernel
theorem dX1_opponents_31 : decode cX1_opponents 31 = .ok (.getfield 78, 3) := by decide +kernel
theorem dX1_opponents_34 : decode cX1_opponents 34 = .ok (.if_icmp .eq 50, 3) := by decide +kernel
theorem dX1_opponents_37 : decode cX1_opponents 37 = .ok (.aload 6, 2) := by decide +kernel
theorem dX1_opponents_39 : decode cX1_opponents 39 = .ok (.invokevirtual 144, 3) := by decide +kernel
theorem dX1_opponents_42 : decode cX1_opponents 42 = .ok (.ifCond .ne 6, 3) := by decide +kernel
theorem dX1_opponents_45 : decode cX1_opponents 45 = .ok (.goto 39, 3) := by decide +kernel
theorem dX1_opponents_48 : decode cX1_opponents 48 = .ok (.aload_n 0, 1) := by decide +kernel
theorem dX1_opponents_49 : decode cX1_opponents 49 = .ok (.getfield 12, 3) := by decide +kernel
theorem dX1_opponents_52 : decode cX1_opponents 52 = .ok (.aload 6, 2) := by decide +kernel
theorem dX1_opponents_54 : decode cX1_opponents 54 = .ok (.getfield 96, 3) := by decide +kernel
theorem dX1_opponents_57 : decode cX1_opponents 57 = .ok (.getfield 148, 3) := by decide +kernel
theorem dX1_opponents_60 : decode cX1_opponents 60 = .ok (.aload_n 0, 1) := by decide +kernel
theorem dX1_opponents_61 : decode cX1_opponents 61 = .ok (.iload_n 1, 1) := by decide +kernel
theorem dX1_opponents_62 : decode cX1_opponents 62 = .ok (.invokevirtual 119, 3) := by decide +kernel
theorem dX1_opponents_65 : decode cX1_opponents 65 = .ok (.invokevirtual 151, 3) := by decide +kernel
theorem dX1_opponents_68 : decode cX1_opponents 68 = .ok (.aload_n 3, 1) := by decide +kernel
theorem dX1_opponents_69 : decode cX1_opponents 69 = .ok (.getfield 87, 3) := by decide +kernel
theorem dX1_opponents_72 : decode cX1_opponents 72 = .ok (.if_icmp .eq 12, 3) := by decide +kernel
theorem dX1_opponents_75 : decode cX1_opponents 75 = .ok (.iload 4, 2) := by decide +kernel
theorem dX1_opponents_77 : decode cX1_opponents 77 = .ok (.iconst 1, 1) := by decide +kernel
theorem dX1_opponents_78 : decode cX1_opponents 78 = .ok (.iload 5, 2) := by decide +kernel
theorem dX1_opponents_80 : decode cX1_opponents 80 = .ok (.ishl, 1) := by decide +kernel
theorem dX1_opponents_81 : decode cX1_opponents 81 = .ok (.ior, 1) := by decide +kernel
theorem dX1_opponents_82 : decode cX1_opponents 82 = .ok (.istore 4, 2) := by decide +kernel
theorem dX1_opponents_84 : decode cX1_opponents 84 = .ok (.iinc 5 1, 3) := by decide +kernel
theorem dX1_opponents_87 : decode cX1_opponents 87 = .ok (.goto (-74), 3) := by decide +kernel
theorem dX1_opponents_90 : decode cX1_opponents 90 = .ok (.iload 4, 2) := by decide +kernel
theorem dX1_opponents_92 : decode cX1_opponents 92 = .ok (.ireturn, 1) := by decide +kernel
theorem dX1_knownToAll_0 : decode cX1_knownToAll 0 = .ok (.iconst 0, 1) := by decide +kernel
theorem dX1_knownToAll_1 : decode cX1_knownToAll 1 = .ok (.istore_n 3, 1) := by decide +kernel
theorem dX1_knownToAll_2 : decode cX1_knownToAll 2 = .ok (.iconst 0, 1) := by decide +kernel
theorem dX1_knownToAll_3 : decode cX1_knownToAll 3 = .ok (.istore 4, 2) := by decide +kernel
theorem dX1_knownToAll_5 : decode cX1_knownToAll 5 = .ok (.iconst 0, 1) := by decide +kernel
theorem dX1_knownToAll_6 : decode cX1_knownToAll 6 = .ok (.istore 5, 2) := by decide +kernel
theorem dX1_knownToAll_8 : decode cX1_knownToAll 8 = .ok (.iload 5, 2) := by decide +kernel
theorem dX1_knownToAll_10 : decode cX1_knownToAll 10 = .ok (.aload_n 0, 1) := by decide +kernel
theorem dX1_knownToAll_11 : decode cX1_knownToAll 11 = .ok (.getfield 41, 3) := by decide +kernel
theorem dX1_knownToAll_14 : decode cX1_knownToAll 14 = .ok (.if_icmp .ge 52, 3) := by decide +kernel
theorem dX1_knownToAll_17 : decode cX1_knownToAll 17 = .ok (.aload_n 2, 1) := by decide +kernel
theorem dX1_knownToAll_18 : decode cX1_knownToAll 18 = .ok (.iload 5, 2) := by decide +kernel
theorem dX1_knownToAll_20 : decode cX1_knownToAll 20 = .ok (.aaload, 1) := by decide +kernel
theorem dX1_knownToAll_21 : decode cX1_knownToAll 21 = .ok (.astore 6, 2) := by decide +kernel
theorem dX1_knownToAll_23 : decode cX1_knownToAll 23 = .ok (.aload 6, 2) := by decide +kernel
theorem dX1_knownToAll_25 : decode cX1_knownToAll 25 = .ok (.invokevirtual 144, 3) := by decide +kernel
theorem dX1_knownToAll_28 : decode cX1_knownToAll 28 = .ok (.ifCond .ne 6, 3) := by decide +kernel
theorem dX1_knownToAll_31 : decode cX1_knownToAll 31 = .ok (.goto 29, 3) := by decide +kernel
theorem dX1_knownToAll_34 : decode cX1_knownToAll 34 = .ok (.iload_n 3, 1) := by decide +kernel
theorem dX1_knownToAll_35 : decode cX1_knownToAll 35 = .ok (.aload 6, 2) := by decide +kernel
theorem dX1_knownToAll_37 : decode cX1_knownToAll 37 = .ok (.getfield 96, 3) := by decide +kernel
theorem dX1_knownToAll_40 : decode cX1_knownToAll 40 = .ok (.iload_n 1, 1) := by decide +kernel
theorem dX1_knownToAll_41 : decode cX1_knownToAll 41 = .ok (.invokevirtual 155, 3) := by decide +kernel
theorem dX1_knownToAll_44 : decode cX1_knownToAll 44 = .ok (.ior, 1) := by decide +kernel
theorem dX1_knownToAll_45 : decode cX1_knownToAll 45 = .ok (.istore_n 3, 1) := by decide +kernel
theorem dX1_knownToAll_46 : decode cX1_knownToAll 46 = .ok (.iload 4, 2) := by decide +kernel
theorem dX1_knownToAll_48 : decode cX1_knownToAll 48 = .ok (.aload 6, 2) := by decide +kernel
theorem dX1_knownToAll_50 : decode cX1_knownToAll 50 = .ok (.getfield 96, 3) := by decide +kernel
theorem dX1_knownToAll_53 : decode cX1_knownToAll 53 = .ok (.iload_n 1, 1) := by decide +kernel
theorem dX1_knownToAll_54 : decode cX1_knownToAll 54 = .ok (.invokevirtual 158, 3) := by decide +kernel
theorem dX1_knownToAll_57 : decode cX1_knownToAll 57 = .ok (.ior, 1) := by decide +kernel
theorem dX1_knownToAll_58 : decode cX1_knownToAll 58 = .ok (.istore 4, 2) := by decide +kernel
theorem dX1_knownToAll_60 : decode cX1_knownToAll 60 = .ok (.iinc 5 1, 3) := by decide +kernel
theorem dX1_knownToAll_63 : decode cX1_knownToAll 63 = .ok (.goto (-55), 3) := by decide +kernel
theorem dX1_knownToAll_66 : decode cX1_knownToAll 66 = .ok (.iload_n 3, 1) := by decide +kernel
theorem dX1_knownToAll_67 : decode cX1_knownToAll 67 = .ok (.ifCond .eq 8, 3) := by decide +kernel
theorem dX1_knownToAll_70 : decode cX1_knownToAll 70 = .ok (.iload 4, 2) := by decide +kernel
theorem dX1_knownToAll_72 : decode cX1_knownToAll 72 = .ok (.ifCond .ne 7, 3) := by decide +kernel
theorem dX1_knownToAll_75 : decode cX1_knownToAll 75 = .ok (.iconst 1, 1) := by decide +kernel
theorem dX1_knownToAll_76 : decode cX1_knownToAll 76 = .ok (.goto 4, 3) := by decide +kernel
theorem dX1_knownToAll_79 : decode cX1_knownToAll 79 = .ok (.iconst 0, 1) := by decide +kernel
theorem dX1_knownToAll_80 : decode cX1_knownToAll 80 = .ok (.ireturn, 1) := by decide +kernel
theorem dX1_manyUnsure_0 : decode cX1_manyUnsure 0 = .ok (.iconst 0, 1) := by decide +kernel
theorem dX1_manyUnsure_1 : decode cX1_manyUnsure 1 = .ok (.istore_n 3, 1) := by decide +kernel
theorem dX1_manyUnsure_2 : decode cX1_manyUnsure 2 = .ok (.iconst 0, 1) := by decide +kernel
theorem dX1_manyUnsure_3 : decode cX1_manyUnsure 3 = .ok (.istore 4, 2) := by decide +kernel
theorem dX1_manyUnsure_5 : decode cX1_manyUnsure 5 = .ok (.iload 4, 2) := by decide +kernel
theorem dX1_manyUnsure_7 : decode cX1_manyUnsure 7 = .ok (.aload_n 0, 1) := by decide +kernel
theorem dX1_manyUnsure_8 : decode cX1_manyUnsure 8 = .ok (.getfield 41, 3) := by decide +kernel
theorem dX1_manyUnsure_11 : decode cX1_manyUnsure 11 = .ok (.if_icmp .ge 39, 3) := by decide +kernel
theorem dX1_manyUnsure_14 : decode cX1_manyUnsure 14 = .ok (.aload_n 2, 1) := by decide +kernel
theorem dX1_manyUnsure_15 : decode cX1_manyUnsure 15 = .ok (.iload 4, 2) := by decide +kernel
theorem dX1_manyUnsure_17 : decode cX1_manyUnsure 17 = .ok (.aaload, 1) := by decide +kernel
theorem dX1_manyUnsure_18 : decode cX1_manyUnsure 18 = .ok (.astore 5, 2) := by decide +kernel
theorem dX1_manyUnsure_20 : decode cX1_manyUnsure 20 = .ok (.aload 5, 2) := by decide +kernel
theorem dX1_manyUnsure_22 : decode cX1_manyUnsure 22 = .ok (.invokevirtual 144, 3) := by decide +kernel
theorem dX1_manyUnsure_25 : decode cX1_manyUnsure 25 = .ok (.ifCond .eq 19, 3) := by decide +kernel
theorem dX1_manyUnsure_28 : decode cX1_manyUnsure 28 = .ok (.aload 5, 2) := by decide +kernel
theorem dX1_manyUnsure_30 : decode cX1_manyUnsure 30 = .ok (.getfield 96, 3) := by decide +kernel
theorem dX1_manyUnsure_33 : decode cX1_manyUnsure 33 = .ok (.iload_n 1, 1) := by decide +kernel
theorem dX1_manyUnsure_34 : decode cX1_manyUnsure 34 = .ok (.invokevirtual 161, 3) := by decide +kernel
theorem dX1_manyUnsure_37 : decode cX1_manyUnsure 37 = .ok (.iconst 2, 1) := by decide +kernel
theorem dX1_manyUnsure_38 : decode cX1_manyUnsure 38 = .ok (.if_icmp .ne 6, 3) := by decide +kernel
theorem dX1_manyUnsure_41 : decode cX1_manyUnsure 41 = .ok (.iinc 3 1, 3) := by decide +kernel
theorem dX1_manyUnsure_44 : decode cX1_manyUnsure 44 = .ok (.iinc 4 1, 3) := by decide +kernel
theorem dX1_manyUnsure_47 : decode cX1_manyUnsure 47 = .ok (.goto (-42), 3) := by decide +kernel
theorem dX1_manyUnsure_50 : decode cX1_manyUnsure 50 = .ok (.iload_n 3, 1) := by decide +kernel
theorem dX1_manyUnsure_51 : decode cX1_manyUnsure 51 = .ok (.ireturn, 1) := by decide +kernel
theorem dX1_yearsApart_0 : decode cX1_yearsApart 0 = .ok (.sipush 1000, 3) := by decide +kernel
theorem dX1_yearsApart_3 : decode cX1_yearsApart 3 = .ok (.istore_n 2, 1) := by decide +kernel
theorem dX1_yearsApart_4 : decode cX1_yearsApart 4 = .ok (.iconst (-1), 1) := by decide +kernel
theorem dX1_yearsApart_5 : decode cX1_yearsApart 5 = .ok (.istore_n 3, 1) := by decide +kernel
theorem dX1_yearsApart_6 : decode cX1_yearsApart 6 = .ok (.iconst 0, 1) := by decide +kernel
theorem dX1_yearsApart_7 : decode cX1_yearsApart 7 = .ok (.istore 4, 2) := by decide +kernel
theorem dX1_yearsApart_9 : decode cX1_yearsApart 9 = .ok (.iload 4, 2) := by decide +kernel
theorem dX1_yearsApart_11 : decode cX1_yearsApart 11 = .ok (.aload_n 0, 1) := by decide +kernel
theorem dX1_yearsApart_12 : decode cX1_yearsApart 12 = .ok (.getfield 50, 3) := by decide +kernel
theorem dX1_yearsApart_15 : decode cX1_yearsApart 15 = .ok (.if_icmp .ge 59, 3) := by decide +kernel
theorem dX1_yearsApart_18 : decode cX1_yearsApart 18 = .ok (.iload_n 1, 1) := by decide +kernel
theorem dX1_yearsApart_19 : decode cX1_yearsApart 19 = .ok (.aload_n 0, 1) := by decide +kernel
theorem dX1_yearsApart_20 : decode cX1_yearsApart 20 = .ok (.getfield 46, 3) := by decide +kernel
theorem dX1_yearsApart_23 : decode cX1_yearsApart 23 = .ok (.iload 4, 2) := by decide +kernel
theorem dX1_yearsApart_25 : decode cX1_yearsApart 25 = .ok (.aaload, 1) := by decide +kernel
theorem dX1_yearsApart_26 : decode cX1_yearsApart 26 = .ok (.getfield 78, 3) := by decide +kernel
theorem dX1_yearsApart_29 : decode cX1_yearsApart 29 = .ok (.iushr, 1) := by decide +kernel
theorem dX1_yearsApart_30 : decode cX1_yearsApart 30 = .ok (.iconst 1, 1) := by decide +kernel
theorem dX1_yearsApart_31 : decode cX1_yearsApart 31 = .ok (.iand, 1) := by decide +kernel
theorem dX1_yearsApart_32 : decode cX1_yearsApart 32 = .ok (.ifCond .ne 6, 3) := by decide +kernel
theorem dX1_yearsApart_35 : decode cX1_yearsApart 35 = .ok (.goto 33, 3) := by decide +kernel
theorem dX1_yearsApart_38 : decode cX1_yearsApart 38 = .ok (.iload_n 2, 1) := by decide +kernel
theorem dX1_yearsApart_39 : decode cX1_yearsApart 39 = .ok (.aload_n 0, 1) := by decide +kernel
theorem dX1_yearsApart_40 : decode cX1_yearsApart 40 = .ok (.getfield 46, 3) := by decide +kernel
theorem dX1_yearsApart_43 : decode cX1_yearsApart 43 = .ok (.iload 4, 2) := by decide +kernel
theorem dX1_yearsApart_45 : decode cX1_yearsApart 45 = .ok (.aaload, 1) := by decide +kernel
theorem dX1_yearsApart_46 : decode cX1_yearsApart 46 = .ok (.getfield 84, 3) := by decide +kernel
theorem dX1_yearsApart_49 : decode cX1_yearsApart 49 = .ok (.invokestatic 164, 3) := by decide +kernel
theorem dX1_yearsApart_52 : decode cX1_yearsApart 52 = .ok (.istore_n 2, 1) := by decide +kernel
theorem dX1_yearsApart_53 : decode cX1_yearsApart 53 = .ok (.iload_n 3, 1) := by decide +kernel
theorem dX1_yearsApart_54 : decode cX1_yearsApart 54 = .ok (.aload_n 0, 1) := by decide +kernel
theorem dX1_yearsApart_55 : decode cX1_yearsApart 55 = .ok (.getfield 46, 3) := by decide +kernel
theorem dX1_yearsApart_58 : decode cX1_yearsApart 58 = .ok (.iload 4, 2) := by decide +kernel
theorem dX1_yearsApart_60 : decode cX1_yearsApart 60 = .ok (.aaload, 1) := by decide +kernel
theorem dX1_yearsApart_61 : decode cX1_yearsApart 61 = .ok (.getfield 84, 3) := by decide +kernel
theorem dX1_yearsApart_64 : decode cX1_yearsApart 64 = .ok (.invokestatic 169, 3) := by decide +kernel
theorem dX1_yearsApart_67 : decode cX1_yearsApart 67 = .ok (.istore_n 3, 1) := by decide +kernel
theorem dX1_yearsApart_68 : decode cX1_yearsApart 68 = .ok (.iinc 4 1, 3) := by decide +kernel
theorem dX1_yearsApart_71 : decode cX1_yearsApart 71 = .ok (.goto (-62), 3) := by decide +kernel
theorem dX1_yearsApart_74 : decode cX1_yearsApart 74 = .ok (.iconst 0, 1) := by decide +kernel
theorem dX1_yearsApart_75 : decode cX1_yearsApart 75 = .ok (.iload_n 3, 1) := by decide +kernel
theorem dX1_yearsApart_76 : decode cX1_yearsApart 76 = .ok (.iload_n 2, 1) := by decide +kernel
theorem dX1_yearsApart_77 : decode cX1_yearsApart 77 = .ok (.isub, 1) := by decide +kernel
theorem dX1_yearsApart_78 : decode cX1_yearsApart 78 = .ok (.invokestatic 169, 3) := by decide +kernel
theorem dX1_yearsApart_81 : decode cX1_yearsApart 81 = .ok (.ireturn, 1) := by decide +kernel
theorem dX1_digestFrom_0 : decode cX1_digestFrom 0 = .ok (.lload_n 1, 1) := by decide +kernel
theorem dX1_digestFrom_1 : decode cX1_digestFrom 1 = .ok (.lstore_n 3, 1) := by decide +kernel
theorem dX1_digestFrom_2 : decode cX1_digestFrom 2 = .ok (.iconst 0, 1) := by decide +kernel
theorem dX1_digestFrom_3 : decode cX1_digestFrom 3 = .ok (.istore 5, 2) := by decide +kernel
theorem dX1_digestFrom_5 : decode cX1_digestFrom 5 = .ok (.iload 5, 2) := by decide +kernel
theorem dX1_digestFrom_7 : decode cX1_digestFrom 7 = .ok (.aload_n 0, 1) := by decide +kernel
theorem dX1_digestFrom_8 : decode cX1_digestFrom 8 = .ok (.getfield 31, 3) := by decide +kernel
theorem dX1_digestFrom_11 : decode cX1_digestFrom 11 = .ok (.if_icmp .ge 24, 3) := by decide +kernel
theorem dX1_digestFrom_14 : decode cX1_digestFrom 14 = .ok (.ldc2_w 172, 3) := by decide +kernel
theorem dX1_digestFrom_17 : decode cX1_digestFrom 17 = .ok (.lload_n 3, 1) := by decide +kernel
theorem dX1_digestFrom_18 : decode cX1_digestFrom 18 = .ok (.lmul, 1) := by decide +kernel
theorem dX1_digestFrom_19 : decode cX1_digestFrom 19 = .ok (.aload_n 0, 1) := by decide +kernel
theorem dX1_digestFrom_20 : decode cX1_digestFrom 20 = .ok (.getfield 27, 3) := by decide +kernel
theorem dX1_digestFrom_23 : decode cX1_digestFrom 23 = .ok (.iload 5, 2) := by decide +kernel
theorem dX1_digestFrom_25 : decode cX1_digestFrom 25 = .ok (.iaload, 1) := by decide +kernel
theorem dX1_digestFrom_26 : decode cX1_digestFrom 26 = .ok (.i2l, 1) := by decide +kernel
theorem dX1_digestFrom_27 : decode cX1_digestFrom 27 = .ok (.ladd, 1) := by decide +kernel
theorem dX1_digestFrom_28 : decode cX1_digestFrom 28 = .ok (.lstore_n 3, 1) := by decide +kernel
theorem dX1_digestFrom_29 : decode cX1_digestFrom 29 = .ok (.iinc 5 1, 3) := by decide +kernel
theorem dX1_digestFrom_32 : decode cX1_digestFrom 32 = .ok (.goto (-27), 3) := by decide +kernel
theorem dX1_digestFrom_35 : decode cX1_digestFrom 35 = .ok (.iconst 0, 1) := by decide +kernel
theorem dX1_digestFrom_36 : decode cX1_digestFrom 36 = .ok (.istore 5, 2) := by decide +kernel
theorem dX1_digestFrom_38 : decode cX1_digestFrom 38 = .ok (.iload 5, 2) := by decide +kernel
theorem dX1_digestFrom_40 : decode cX1_digestFrom 40 = .ok (.aload_n 0, 1) := by decide +kernel
theorem dX1_digestFrom_41 : decode cX1_digestFrom 41 = .ok (.getfield 41, 3) := by decide +kernel
theorem dX1_digestFrom_44 : decode cX1_digestFrom 44 = .ok (.if_icmp .ge 40, 3) := by decide +kernel
theorem dX1_digestFrom_47 : decode cX1_digestFrom 47 = .ok (.iconst 0, 1) := by decide +kernel
theorem dX1_digestFrom_48 : decode cX1_digestFrom 48 = .ok (.istore 6, 2) := by decide +kernel
theorem dX1_digestFrom_50 : decode cX1_digestFrom 50 = .ok (.iload 6, 2) := by decide +kernel
theorem dX1_digestFrom_52 : decode cX1_digestFrom 52 = .ok (.iconst 5, 1) := by decide +kernel
theorem dX1_digestFrom_53 : decode cX1_digestFrom 53 = .ok (.if_icmp .ge 25, 3) := by decide +kernel
theorem dX1_digestFrom_56 : decode cX1_digestFrom 56 = .ok (.ldc2_w 172, 3) := by decide +kernel
theorem dX1_digestFrom_59 : decode cX1_digestFrom 59 = .ok (.lload_n 3, 1) := by decide +kernel
theorem dX1_digestFrom_60 : decode cX1_digestFrom 60 = .ok (.lmul, 1) := by decide +kernel
theorem dX1_digestFrom_61 : decode cX1_digestFrom 61 = .ok (.aload_n 0, 1) := by decide +kernel
theorem dX1_digestFrom_62 : decode cX1_digestFrom 62 = .ok (.iload 5, 2) := by decide +kernel
theorem dX1_digestFrom_64 : decode cX1_digestFrom 64 = .ok (.iload 6, 2) := by decide +kernel
theorem dX1_digestFrom_66 : decode cX1_digestFrom 66 = .ok (.invokevirtual 174, 3) := by decide +kernel
theorem dX1_digestFrom_69 : decode cX1_digestFrom 69 = .ok (.i2l, 1) := by decide +kernel
theorem dX1_digestFrom_70 : decode cX1_digestFrom 70 = .ok (.ladd, 1) := by decide +kernel
theorem dX1_digestFrom_71 : decode cX1_digestFrom 71 = .ok (.lstore_n 3, 1) := by decide +kernel
theorem dX1_digestFrom_72 : decode cX1_digestFrom 72 = .ok (.iinc 6 1, 3) := by decide +kernel
theorem dX1_digestFrom_75 : decode cX1_digestFrom 75 = .ok (.goto (-25), 3) := by decide +kernel
theorem dX1_digestFrom_78 : decode cX1_digestFrom 78 = .ok (.iinc 5 1, 3) := by decide +kernel
theorem dX1_digestFrom_81 : decode cX1_digestFrom 81 = .ok (.goto (-43), 3) := by decide +kernel
theorem dX1_digestFrom_84 : decode cX1_digestFrom 84 = .ok (.iconst 0, 1) := by decide +kernel
theorem dX1_digestFrom_85 : decode cX1_digestFrom 85 = .ok (.istore 5, 2) := by decide +kernel
theorem dX1_digestFrom_87 : decode cX1_digestFrom 87 = .ok (.iload 5, 2) := by decide +kernel
theorem dX1_digestFrom_89 : decode cX1_digestFrom 89 = .ok (.aload_n 0, 1) := by decide +kernel
theorem dX1_digestFrom_90 : decode cX1_digestFrom 90 = .ok (.getfield 50, 3) := by decide +kernel
theorem dX1_digestFrom_93 : decode cX1_digestFrom 93 = .ok (.if_icmp .ge 80, 3) := by decide +kernel
theorem dX1_digestFrom_96 : decode cX1_digestFrom 96 = .ok (.iconst 0, 1) := by decide +kernel
theorem dX1_digestFrom_97 : decode cX1_digestFrom 97 = .ok (.istore 6, 2) := by decide +kernel
theorem dX1_digestFrom_99 : decode cX1_digestFrom 99 = .ok (.iload 6, 2) := by decide +kernel
theorem dX1_digestFrom_101 : decode cX1_digestFrom 101 = .ok (.iconst 5, 1) := by decide +kernel
theorem dX1_digestFrom_102 : decode cX1_digestFrom 102 = .ok (.if_icmp .ge 29, 3) := by decide +kernel
theorem dX1_digestFrom_105 : decode cX1_digestFrom 105 = .ok (.ldc2_w 172, 3) := by decide +kernel
theorem dX1_digestFrom_108 : decode cX1_digestFrom 108 = .ok (.lload_n 3, 1) := by decide +kernel
theorem dX1_digestFrom_109 : decode cX1_digestFrom 109 = .ok (.lmul, 1) := by decide +kernel
theorem dX1_digestFrom_110 : decode cX1_digestFrom 110 = .ok (.aload_n 0, 1) := by decide +kernel
theorem dX1_digestFrom_111 : decode cX1_digestFrom 111 = .ok (.getfield 46, 3) := by decide +kernel
theorem dX1_digestFrom_114 : decode cX1_digestFrom 114 = .ok (.iload 5, 2) := by decide +kernel
theorem dX1_digestFrom_116 : decode cX1_digestFrom 116 = .ok (.aaload, 1) := by decide +kernel
theorem dX1_digestFrom_117 : decode cX1_digestFrom 117 = .ok (.iload 6, 2) := by decide +kernel
theorem dX1_digestFrom_119 : decode cX1_digestFrom 119 = .ok (.invokevirtual 177, 3) := by decide +kernel
theorem dX1_digestFrom_122 : decode cX1_digestFrom 122 = .ok (.i2l, 1) := by decide +kernel
theorem dX1_digestFrom_123 : decode cX1_digestFrom 123 = .ok (.ladd, 1) := by decide +kernel
theorem dX1_digestFrom_124 : decode cX1_digestFrom 124 = .ok (.lstore_n 3, 1) := by decide +kernel
theorem dX1_digestFrom_125 : decode cX1_digestFrom 125 = .ok (.iinc 6 1, 3) := by decide +kernel
theorem dX1_digestFrom_128 : decode cX1_digestFrom 128 = .ok (.goto (-29), 3) := by decide +kernel
theorem dX1_digestFrom_131 : decode cX1_digestFrom 131 = .ok (.iconst 0, 1) := by decide +kernel
theorem dX1_digestFrom_132 : decode cX1_digestFrom 132 = .ok (.istore 6, 2) := by decide +kernel
theorem dX1_digestFrom_134 : decode cX1_digestFrom 134 = .ok (.iload 6, 2) := by decide +kernel
theorem dX1_digestFrom_136 : decode cX1_digestFrom 136 = .ok (.iconst 5, 1) := by decide +kernel
theorem dX1_digestFrom_137 : decode cX1_digestFrom 137 = .ok (.if_icmp .ge 30, 3) := by decide +kernel
theorem dX1_digestFrom_140 : decode cX1_digestFrom 140 = .ok (.ldc2_w 172, 3) := by decide +kernel
theorem dX1_digestFrom_143 : decode cX1_digestFrom 143 = .ok (.lload_n 3, 1) := by decide +kernel
theorem dX1_digestFrom_144 : decode cX1_digestFrom 144 = .ok (.lmul, 1) := by decide +kernel
theorem dX1_digestFrom_145 : decode cX1_digestFrom 145 = .ok (.aload_n 0, 1) := by decide +kernel
theorem dX1_digestFrom_146 : decode cX1_digestFrom 146 = .ok (.getfield 46, 3) := by decide +kernel
theorem dX1_digestFrom_149 : decode cX1_digestFrom 149 = .ok (.iload 5, 2) := by decide +kernel
theorem dX1_digestFrom_151 : decode cX1_digestFrom 151 = .ok (.aaload, 1) := by decide +kernel
theorem dX1_digestFrom_152 : decode cX1_digestFrom 152 = .ok (.getfield 180, 3) := by decide +kernel
theorem dX1_digestFrom_155 : decode cX1_digestFrom 155 = .ok (.iload 6, 2) := by decide +kernel
theorem dX1_digestFrom_157 : decode cX1_digestFrom 157 = .ok (.iaload, 1) := by decide +kernel
theorem dX1_digestFrom_158 : decode cX1_digestFrom 158 = .ok (.i2l, 1) := by decide +kernel
theorem dX1_digestFrom_159 : decode cX1_digestFrom 159 = .ok (.ladd, 1) := by decide +kernel
theorem dX1_digestFrom_160 : decode cX1_digestFrom 160 = .ok (.lstore_n 3, 1) := by decide +kernel
theorem dX1_digestFrom_161 : decode cX1_digestFrom 161 = .ok (.iinc 6 1, 3) := by decide +kernel
theorem dX1_digestFrom_164 : decode cX1_digestFrom 164 = .ok (.goto (-30), 3) := by decide +kernel
theorem dX1_digestFrom_167 : decode cX1_digestFrom 167 = .ok (.iinc 5 1, 3) := by decide +kernel
theorem dX1_digestFrom_170 : decode cX1_digestFrom 170 = .ok (.goto (-83), 3) := by decide +kernel
theorem dX1_digestFrom_173 : decode cX1_digestFrom 173 = .ok (.ldc2_w 172, 3) := by decide +kernel
theorem dX1_digestFrom_176 : decode cX1_digestFrom 176 = .ok (.lload_n 3, 1) := by decide +kernel
theorem dX1_digestFrom_177 : decode cX1_digestFrom 177 = .ok (.lmul, 1) := by decide +kernel
theorem dX1_digestFrom_178 : decode cX1_digestFrom 178 = .ok (.aload_n 0, 1) := by decide +kernel
theorem dX1_digestFrom_179 : decode cX1_digestFrom 179 = .ok (.getfield 23, 3) := by decide +kernel
theorem dX1_digestFrom_182 : decode cX1_digestFrom 182 = .ok (.getfield 106, 3) := by decide +kernel
theorem dX1_digestFrom_185 : decode cX1_digestFrom 185 = .ok (.i2l, 1) := by decide +kernel
theorem dX1_digestFrom_186 : decode cX1_digestFrom 186 = .ok (.ladd, 1) := by decide +kernel
theorem dX1_digestFrom_187 : decode cX1_digestFrom 187 = .ok (.lstore_n 3, 1) := by decide +kernel
theorem dX1_digestFrom_188 : decode cX1_digestFrom 188 = .ok (.ldc2_w 172, 3) := by decide +kernel
theorem dX1_digestFrom_191 : decode cX1_digestFrom 191 = .ok (.lload_n 3, 1) := by decide +kernel
theorem dX1_digestFrom_192 : decode cX1_digestFrom 192 = .ok (.lmul, 1) := by decide +kernel
theorem dX1_digestFrom_193 : decode cX1_digestFrom 193 = .ok (.aload_n 0, 1) := by decide +kernel
theorem dX1_digestFrom_194 : decode cX1_digestFrom 194 = .ok (.getfield 23, 3) := by decide +kernel
theorem dX1_digestFrom_197 : decode cX1_digestFrom 197 = .ok (.getfield 109, 3) := by decide +kernel
theorem dX1_digestFrom_200 : decode cX1_digestFrom 200 = .ok (.i2l, 1) := by decide +kernel
theorem dX1_digestFrom_201 : decode cX1_digestFrom 201 = .ok (.ladd, 1) := by decide +kernel
theorem dX1_digestFrom_202 : decode cX1_digestFrom 202 = .ok (.lstore_n 3, 1) := by decide +kernel
theorem dX1_digestFrom_203 : decode cX1_digestFrom 203 = .ok (.ldc2_w 172, 3) := by decide +kernel
theorem dX1_digestFrom_206 : decode cX1_digestFrom 206 = .ok (.lload_n 3, 1) := by decide +kernel
theorem dX1_digestFrom_207 : decode cX1_digestFrom 207 = .ok (.lmul, 1) := by decide +kernel
theorem dX1_digestFrom_208 : decode cX1_digestFrom 208 = .ok (.aload_n 0, 1) := by decide +kernel
theorem dX1_digestFrom_209 : decode cX1_digestFrom 209 = .ok (.getfield 23, 3) := by decide +kernel
theorem dX1_digestFrom_212 : decode cX1_digestFrom 212 = .ok (.getfield 112, 3) := by decide +kernel
theorem dX1_digestFrom_215 : decode cX1_digestFrom 215 = .ok (.i2l, 1) := by decide +kernel
theorem dX1_digestFrom_216 : decode cX1_digestFrom 216 = .ok (.ladd, 1) := by decide +kernel
theorem dX1_digestFrom_217 : decode cX1_digestFrom 217 = .ok (.lreturn, 1) := by decide +kernel
theorem dX2_init_0 : decode cX2_init 0 = .ok (.aload_n 0, 1) := by decide +kernel
theorem dX2_init_1 : decode cX2_init 1 = .ok (.invokespecial 3, 3) := by decide +kernel
theorem dX2_init_4 : decode cX2_init 4 = .ok (.aload_n 0, 1) := by decide +kernel
theorem dX2_init_5 : decode cX2_init 5 = .ok (.iconst 0, 1) := by decide +kernel
theorem dX2_init_6 : decode cX2_init 6 = .ok (.putfield 9, 3) := by decide +kernel
theorem dX2_init_9 : decode cX2_init 9 = .ok (.aload_n 0, 1) := by decide +kernel
theorem dX2_init_10 : decode cX2_init 10 = .ok (.aload_n 1, 1) := by decide +kernel
theorem dX2_init_11 : decode cX2_init 11 = .ok (.putfield 15, 3) := by decide +kernel
theorem dX2_init_14 : decode cX2_init 14 = .ok (.return_, 1) := by decide +kernel
theorem dX2_ruling_0 : decode cX2_ruling 0 = .ok (.iload_n 1, 1) := by decide +kernel
theorem dX2_ruling_1 : decode cX2_ruling 1 = .ok (.iconst 1, 1) := by decide +kernel
theorem dX2_ruling_2 : decode cX2_ruling 2 = .ok (.if_icmp .ne 12, 3) := by decide +kernel
theorem dX2_ruling_5 : decode cX2_ruling 5 = .ok (.aload_n 0, 1) := by decide +kernel
theorem dX2_ruling_6 : decode cX2_ruling 6 = .ok (.iload_n 2, 1) := by decide +kernel
theorem dX2_ruling_7 : decode cX2_ruling 7 = .ok (.aload_n 3, 1) := by decide +kernel
theorem dX2_ruling_8 : decode cX2_ruling 8 = .ok (.invokevirtual 19, 3) := by decide +kernel
theorem dX2_ruling_11 : decode cX2_ruling 11 = .ok (.goto 10, 3) := by decide +kernel
theorem dX2_ruling_14 : decode cX2_ruling 14 = .ok (.aload_n 0, 1) := by decide +kernel
theorem dX2_ruling_15 : decode cX2_ruling 15 = .ok (.iload_n 1, 1) := by decide +kernel
theorem dX2_ruling_16 : decode cX2_ruling 16 = .ok (.iload_n 2, 1) := by decide +kernel
theorem dX2_ruling_17 : decode cX2_ruling 17 = .ok (.aload_n 3, 1) := by decide +kernel
theorem dX2_ruling_18 : decode cX2_ruling 18 = .ok (.invokevirtual 23, 3) := by decide +kernel
theorem dX2_ruling_21 : decode cX2_ruling 21 = .ok (.ireturn, 1) := by decide +kernel
theorem dX2_ofTheMore_0 : decode cX2_ofTheMore 0 = .ok (.iconst 0, 1) := by decide +kernel
theorem dX2_ofTheMore_1 : decode cX2_ofTheMore 1 = .ok (.istore 4, 2) := by decide +kernel
theorem dX2_ofTheMore_3 : decode cX2_ofTheMore 3 = .ok (.iconst 0, 1) := by decide +kernel
theorem dX2_ofTheMore_4 : decode cX2_ofTheMore 4 = .ok (.istore 5, 2) := by decide +kernel
theorem dX2_ofTheMore_6 : decode cX2_ofTheMore 6 = .ok (.iconst 0, 1) := by decide +kernel
theorem dX2_ofTheMore_7 : decode cX2_ofTheMore 7 = .ok (.istore 6, 2) := by decide +kernel
theorem dX2_ofTheMore_9 : decode cX2_ofTheMore 9 = .ok (.iload 6, 2) := by decide +kernel
theorem dX2_ofTheMore_11 : decode cX2_ofTheMore 11 = .ok (.aload_n 0, 1) := by decide +kernel
theorem dX2_ofTheMore_12 : decode cX2_ofTheMore 12 = .ok (.getfield 15, 3) := by decide +kernel
theorem dX2_ofTheMore_15 : decode cX2_ofTheMore 15 = .ok (.getfield 27, 3) := by decide +kernel
theorem dX2_ofTheMore_18 : decode cX2_ofTheMore 18 = .ok (.if_icmp .ge 85, 3) := by decide +kernel
theorem dX2_ofTheMore_21 : decode cX2_ofTheMore 21 = .ok (.aload_n 3, 1) := by decide +kernel
theorem dX2_ofTheMore_22 : decode cX2_ofTheMore 22 = .ok (.iload 6, 2) := by decide +kernel
theorem dX2_ofTheMore_24 : decode cX2_ofTheMore 24 = .ok (.aaload, 1) := by decide +kernel
theorem dX2_ofTheMore_25 : decode cX2_ofTheMore 25 = .ok (.invokevirtual 32, 3) := by decide +kernel
theorem dX2_ofTheMore_28 : decode cX2_ofTheMore 28 = .ok (.ifCond .ne 6, 3) := by decide +kernel
theorem dX2_ofTheMore_31 : decode cX2_ofTheMore 31 = .ok (.goto 66, 3) := by decide +kernel
theorem dX2_ofTheMore_34 : decode cX2_ofTheMore 34 = .ok (.iload_n 1, 1) := by decide +kernel
theorem dX2_ofTheMore_35 : decode cX2_ofTheMore 35 = .ok (.ifCond .ne 7, 3) := by decide +kernel
theorem dX2_ofTheMore_38 : decode cX2_ofTheMore 38 = .ok (.iconst 1, 1) := by decide +kernel
theorem dX2_ofTheMore_39 : decode cX2_ofTheMore 39 = .ok (.goto 14, 3) := by decide +kernel
theorem dX2_ofTheMore_42 : decode cX2_ofTheMore 42 = .ok (.aload_n 0, 1) := by decide +kernel
theorem dX2_ofTheMore_43 : decode cX2_ofTheMore 43 = .ok (.getfield 15, 3) := by decide +kernel
theorem dX2_ofTheMore_46 : decode cX2_ofTheMore 46 = .ok (.iload 6, 2) := by decide +kernel
theorem dX2_ofTheMore_48 : decode cX2_ofTheMore 48 = .ok (.invokevirtual 38, 3) := by decide +kernel
theorem dX2_ofTheMore_51 : decode cX2_ofTheMore 51 = .ok (.iconst 1, 1) := by decide +kernel
theorem dX2_ofTheMore_52 : decode cX2_ofTheMore 52 = .ok (.iadd, 1) := by decide +kernel
theorem dX2_ofTheMore_53 : decode cX2_ofTheMore 53 = .ok (.istore 7, 2) := by decide +kernel
theorem dX2_ofTheMore_55 : decode cX2_ofTheMore 55 = .ok (.aload_n 0, 1) := by decide +kernel
theorem dX2_ofTheMore_56 : decode cX2_ofTheMore 56 = .ok (.getfield 15, 3) := by decide +kernel
theorem dX2_ofTheMore_59 : decode cX2_ofTheMore 59 = .ok (.getfield 42, 3) := by decide +kernel
theorem dX2_ofTheMore_62 : decode cX2_ofTheMore 62 = .ok (.aload_n 3, 1) := by decide +kernel
theorem dX2_ofTheMore_63 : decode cX2_ofTheMore 63 = .ok (.iload 6, 2) := by decide +kernel
theorem dX2_ofTheMore_65 : decode cX2_ofTheMore 65 = .ok (.aaload, 1) := by decide +kernel
theorem dX2_ofTheMore_66 : decode cX2_ofTheMore 66 = .ok (.getfield 46, 3) := by decide +kernel
theorem dX2_ofTheMore_69 : decode cX2_ofTheMore 69 = .ok (.getfield 50, 3) := by decide +kernel
theorem dX2_ofTheMore_72 : decode cX2_ofTheMore 72 = .ok (.iload_n 2, 1) := by decide +kernel
theorem dX2_ofTheMore_73 : decode cX2_ofTheMore 73 = .ok (.invokevirtual 55, 3) := by decide +kernel
theorem dX2_ofTheMore_76 : decode cX2_ofTheMore 76 = .ok (.iconst 1, 1) := by decide +kernel
theorem dX2_ofTheMore_77 : decode cX2_ofTheMore 77 = .ok (.if_icmp .ne 13, 3) := by decide +kernel
theorem dX2_ofTheMore_80 : decode cX2_ofTheMore 80 = .ok (.iload 4, 2) := by decide +kernel
theorem dX2_ofTheMore_82 : decode cX2_ofTheMore 82 = .ok (.iload 7, 2) := by decide +kernel
theorem dX2_ofTheMore_84 : decode cX2_ofTheMore 84 = .ok (.iadd, 1) := by decide +kernel
theorem dX2_ofTheMore_85 : decode cX2_ofTheMore 85 = .ok (.istore 4, 2) := by decide +kernel
theorem dX2_ofTheMore_87 : decode cX2_ofTheMore 87 = .ok (.goto 10, 3) := by decide +kernel
theorem dX2_ofTheMore_90 : decode cX2_ofTheMore 90 = .ok (.iload 5, 2) := by decide +kernel
theorem dX2_ofTheMore_92 : decode cX2_ofTheMore 92 = .ok (.iload 7, 2) := by decide +kernel
theorem dX2_ofTheMore_94 : decode cX2_ofTheMore 94 = .ok (.iadd, 1) := by decide +kernel
theorem dX2_ofTheMore_95 : decode cX2_ofTheMore 95 = .ok (.istore 5, 2) := by decide +kernel
theorem dX2_ofTheMore_97 : decode cX2_ofTheMore 97 = .ok (.iinc 6 1, 3) := by decide +kernel
theorem dX2_ofTheMore_100 : decode cX2_ofTheMore 100 = .ok (.goto (-91), 3) := by decide +kernel
theorem dX2_ofTheMore_103 : decode cX2_ofTheMore 103 = .ok (.aload_n 0, 1) := by decide +kernel
theorem dX2_ofTheMore_104 : decode cX2_ofTheMore 104 = .ok (.iload 4, 2) := by decide +kernel
theorem dX2_ofTheMore_106 : decode cX2_ofTheMore 106 = .ok (.putfield 9, 3) := by decide +kernel
theorem dX2_ofTheMore_109 : decode cX2_ofTheMore 109 = .ok (.iload 4, 2) := by decide +kernel
theorem dX2_ofTheMore_111 : decode cX2_ofTheMore 111 = .ok (.iload 5, 2) := by decide +kernel
theorem dX2_ofTheMore_113 : decode cX2_ofTheMore 113 = .ok (.if_icmp .ne 8, 3) := by decide +kernel
theorem dX2_ofTheMore_116 : decode cX2_ofTheMore 116 = .ok (.bipush (-9), 2) := by decide +kernel
theorem dX2_ofTheMore_118 : decode cX2_ofTheMore 118 = .ok (.goto 15, 3) := by decide +kernel
theorem dX2_ofTheMore_121 : decode cX2_ofTheMore 121 = .ok (.iload 4, 2) := by decide +kernel
theorem dX2_ofTheMore_123 : decode cX2_ofTheMore 123 = .ok (.iload 5, 2) := by decide +kernel
theorem dX2_ofTheMore_125 : decode cX2_ofTheMore 125 = .ok (.if_icmp .le 7, 3) := by decide +kernel
theorem dX2_ofTheMore_128 : decode cX2_ofTheMore 128 = .ok (.iconst 1, 1) := by decide +kernel
theorem dX2_ofTheMore_129 : decode cX2_ofTheMore 129 = .ok (.goto 4, 3) := by decide +kernel
theorem dX2_ofTheMore_132 : decode cX2_ofTheMore 132 = .ok (.iconst 0, 1) := by decide +kernel
theorem dX2_ofTheMore_133 : decode cX2_ofTheMore 133 = .ok (.ireturn, 1) := by decide +kernel
theorem dX2_ofTheLater_0 : decode cX2_ofTheLater 0 = .ok (.bipush (-9), 2) := by decide +kernel
theorem dX2_ofTheLater_2 : decode cX2_ofTheLater 2 = .ok (.istore_n 3, 1) := by decide +kernel
theorem dX2_ofTheLater_3 : decode cX2_ofTheLater 3 = .ok (.iconst 0, 1) := by decide +kernel
theorem dX2_ofTheLater_4 : decode cX2_ofTheLater 4 = .ok (.istore 4, 2) := by decide +kernel
theorem dX2_ofTheLater_6 : decode cX2_ofTheLater 6 = .ok (.iload 4, 2) := by decide +kernel
theorem dX2_ofTheLater_8 : decode cX2_ofTheLater 8 = .ok (.aload_n 0, 1) := by decide +kernel
theorem dX2_ofTheLater_9 : decode cX2_ofTheLater 9 = .ok (.getfield 15, 3) := by decide +kernel
theorem dX2_ofTheLater_12 : decode cX2_ofTheLater 12 = .ok (.getfield 27, 3) := by decide +kernel
theorem dX2_ofTheLater_15 : decode cX2_ofTheLater 15 = .ok (.if_icmp .ge 47, 3) := by decide +kernel
theorem dX2_ofTheLater_18 : decode cX2_ofTheLater 18 = .ok (.aload_n 2, 1) := by decide +kernel
theorem dX2_ofTheLater_19 : decode cX2_ofTheLater 19 = .ok (.iload 4, 2) := by decide +kernel
theorem dX2_ofTheLater_21 : decode cX2_ofTheLater 21 = .ok (.aaload, 1) := by decide +kernel
theorem dX2_ofTheLater_22 : decode cX2_ofTheLater 22 = .ok (.invokevirtual 32, 3) := by decide +kernel
theorem dX2_ofTheLater_25 : decode cX2_ofTheLater 25 = .ok (.ifCond .ne 6, 3) := by decide +kernel
theorem dX2_ofTheLater_28 : decode cX2_ofTheLater 28 = .ok (.goto 28, 3) := by decide +kernel
theorem dX2_ofTheLater_31 : decode cX2_ofTheLater 31 = .ok (.iload_n 3, 1) := by decide +kernel
theorem dX2_ofTheLater_32 : decode cX2_ofTheLater 32 = .ok (.bipush (-9), 2) := by decide +kernel
theorem dX2_ofTheLater_34 : decode cX2_ofTheLater 34 = .ok (.if_icmp .eq 19, 3) := by decide +kernel
theorem dX2_ofTheLater_37 : decode cX2_ofTheLater 37 = .ok (.aload_n 2, 1) := by decide +kernel
theorem dX2_ofTheLater_38 : decode cX2_ofTheLater 38 = .ok (.iload 4, 2) := by decide +kernel
theorem dX2_ofTheLater_40 : decode cX2_ofTheLater 40 = .ok (.aaload, 1) := by decide +kernel
theorem dX2_ofTheLater_41 : decode cX2_ofTheLater 41 = .ok (.getfield 61, 3) := by decide +kernel
theorem dX2_ofTheLater_44 : decode cX2_ofTheLater 44 = .ok (.aload_n 2, 1) := by decide +kernel
theorem dX2_ofTheLater_45 : decode cX2_ofTheLater 45 = .ok (.iload_n 3, 1) := by decide +kernel
theorem dX2_ofTheLater_46 : decode cX2_ofTheLater 46 = .ok (.aaload, 1) := by decide +kernel
theorem dX2_ofTheLater_47 : decode cX2_ofTheLater 47 = .ok (.getfield 61, 3) := by decide +kernel
theorem dX2_ofTheLater_50 : decode cX2_ofTheLater 50 = .ok (.if_icmp .le 6, 3) := by decide +kernel
theorem dX2_ofTheLater_53 : decode cX2_ofTheLater 53 = .ok (.iload 4, 2) := by decide +kernel
theorem dX2_ofTheLater_55 : decode cX2_ofTheLater 55 = .ok (.istore_n 3, 1) := by decide +kernel
theorem dX2_ofTheLater_56 : decode cX2_ofTheLater 56 = .ok (.iinc 4 1, 3) := by decide +kernel
theorem dX2_ofTheLater_59 : decode cX2_ofTheLater 59 = .ok (.goto (-53), 3) := by decide +kernel
theorem dX2_ofTheLater_62 : decode cX2_ofTheLater 62 = .ok (.aload_n 0, 1) := by decide +kernel
theorem dX2_ofTheLater_63 : decode cX2_ofTheLater 63 = .ok (.iload_n 3, 1) := by decide +kernel
theorem dX2_ofTheLater_64 : decode cX2_ofTheLater 64 = .ok (.putfield 9, 3) := by decide +kernel
theorem dX2_ofTheLater_67 : decode cX2_ofTheLater 67 = .ok (.iload_n 3, 1) := by decide +kernel
theorem dX2_ofTheLater_68 : decode cX2_ofTheLater 68 = .ok (.bipush (-9), 2) := by decide +kernel
theorem dX2_ofTheLater_70 : decode cX2_ofTheLater 70 = .ok (.if_icmp .ne 8, 3) := by decide +kernel
theorem dX2_ofTheLater_73 : decode cX2_ofTheLater 73 = .ok (.bipush (-9), 2) := by decide +kernel
theorem dX2_ofTheLater_75 : decode cX2_ofTheLater 75 = .ok (.goto 23, 3) := by decide +kernel
theorem dX2_ofTheLater_78 : decode cX2_ofTheLater 78 = .ok (.aload_n 0, 1) := by decide +kernel
theorem dX2_ofTheLater_79 : decode cX2_ofTheLater 79 = .ok (.getfield 15, 3) := by decide +kernel
theorem dX2_ofTheLater_82 : decode cX2_ofTheLater 82 = .ok (.getfield 42, 3) := by decide +kernel
theorem dX2_ofTheLater_85 : decode cX2_ofTheLater 85 = .ok (.aload_n 2, 1) := by decide +kernel
theorem dX2_ofTheLater_86 : decode cX2_ofTheLater 86 = .ok (.iload_n 3, 1) := by decide +kernel
theorem dX2_ofTheLater_87 : decode cX2_ofTheLater 87 = .ok (.aaload, 1) := by decide +kernel
theorem dX2_ofTheLater_88 : decode cX2_ofTheLater 88 = .ok (.getfield 46, 3) := by decide +kernel
theorem dX2_ofTheLater_91 : decode cX2_ofTheLater 91 = .ok (.getfield 50, 3) := by decide +kernel
theorem dX2_ofTheLater_94 : decode cX2_ofTheLater 94 = .ok (.iload_n 1, 1) := by decide +kernel
theorem dX2_ofTheLater_95 : decode cX2_ofTheLater 95 = .ok (.invokevirtual 55, 3) := by decide +kernel
theorem dX2_ofTheLater_98 : decode cX2_ofTheLater 98 = .ok (.ireturn, 1) := by decide +kernel
theorem dX3_init_0 : decode cX3_init 0 = .ok (.aload_n 0, 1) := by decide +kernel
theorem dX3_init_1 : decode cX3_init 1 = .ok (.invokespecial 3, 3) := by decide +kernel
theorem dX3_init_4 : decode cX3_init 4 = .ok (.aload_n 0, 1) := by decide +kernel
theorem dX3_init_5 : decode cX3_init 5 = .ok (.iconst 0, 1) := by decide +kernel
theorem dX3_init_6 : decode cX3_init 6 = .ok (.putfield 9, 3) := by decide +kernel
theorem dX3_init_9 : decode cX3_init 9 = .ok (.aload_n 0, 1) := by decide +kernel
theorem dX3_init_10 : decode cX3_init 10 = .ok (.iconst 0, 1) := by decide +kernel
theorem dX3_init_11 : decode cX3_init 11 = .ok (.putfield 15, 3) := by decide +kernel
theorem dX3_init_14 : decode cX3_init 14 = .ok (.aload_n 0, 1) := by decide +kernel
theorem dX3_init_15 : decode cX3_init 15 = .ok (.bipush (-9), 2) := by decide +kernel
theorem dX3_init_17 : decode cX3_init 17 = .ok (.putfield 18, 3) := by decide +kernel
theorem dX3_init_20 : decode cX3_init 20 = .ok (.aload_n 0, 1) := by decide +kernel
theorem dX3_init_21 : decode cX3_init 21 = .ok (.iconst 0, 1) := by decide +kernel
theorem dX3_init_22 : decode cX3_init 22 = .ok (.putfield 21, 3) := by decide +kernel
theorem dX3_init_25 : decode cX3_init 25 = .ok (.aload_n 0, 1) := by decide +kernel
theorem dX3_init_26 : decode cX3_init 26 = .ok (.bipush 9, 2) := by decide +kernel
theorem dX3_init_28 : decode cX3_init 28 = .ok (.newarray .int, 2) := by decide +kernel
theorem dX3_init_30 : decode cX3_init 30 = .ok (.putfield 24, 3) := by decide +kernel
theorem dX3_init_33 : decode cX3_init 33 = .ok (.aload_n 0, 1) := by decide +kernel
theorem dX3_init_34 : decode cX3_init 34 = .ok (.iconst 0, 1) := by decide +kernel
theorem dX3_init_35 : decode cX3_init 35 = .ok (.putfield 28, 3) := by decide +kernel
theorem dX3_init_38 : decode cX3_init 38 = .ok (.aload_n 0, 1) := by decide +kernel
theorem dX3_init_39 : decode cX3_init 39 = .ok (.new 31, 3) := by decide +kernel
theorem dX3_init_42 : decode cX3_init 42 = .ok (.dup, 1) := by decide +kernel
theorem dX3_init_43 : decode cX3_init 43 = .ok (.invokespecial 33, 3) := by decide +kernel
theorem dX3_init_46 : decode cX3_init 46 = .ok (.putfield 34, 3) := by decide +kernel
theorem dX3_init_49 : decode cX3_init 49 = .ok (.return_, 1) := by decide +kernel
theorem dX3_hasSpoken_0 : decode cX3_hasSpoken 0 = .ok (.aload_n 0, 1) := by decide +kernel
theorem dX3_hasSpoken_1 : decode cX3_hasSpoken 1 = .ok (.getfield 28, 3) := by decide +kernel
theorem dX3_hasSpoken_4 : decode cX3_hasSpoken 4 = .ok (.ifCond .le 7, 3) := by decide +kernel
theorem dX3_hasSpoken_7 : decode cX3_hasSpoken 7 = .ok (.iconst 1, 1) := by decide +kernel
theorem dX3_hasSpoken_8 : decode cX3_hasSpoken 8 = .ok (.goto 4, 3) := by decide +kernel
theorem dX3_hasSpoken_11 : decode cX3_hasSpoken 11 = .ok (.iconst 0, 1) := by decide +kernel
theorem dX3_hasSpoken_12 : decode cX3_hasSpoken 12 = .ok (.ireturn, 1) := by decide +kernel
theorem dX4_init_0 : decode cX4_init 0 = .ok (.aload_n 0, 1) := by decide +kernel
theorem dX4_init_1 : decode cX4_init 1 = .ok (.invokespecial 3, 3) := by decide +kernel
theorem dX4_init_4 : decode cX4_init 4 = .ok (.aload_n 0, 1) := by decide +kernel
theorem dX4_init_5 : decode cX4_init 5 = .ok (.iconst 0, 1) := by decide +kernel
theorem dX4_init_6 : decode cX4_init 6 = .ok (.putfield 9, 3) := by decide +kernel
theorem dX4_init_9 : decode cX4_init 9 = .ok (.aload_n 0, 1) := by decide +kernel
theorem dX4_init_10 : decode cX4_init 10 = .ok (.iconst 0, 1) := by decide +kernel
theorem dX4_init_11 : decode cX4_init 11 = .ok (.putfield 15, 3) := by decide +kernel
theorem dX4_init_14 : decode cX4_init 14 = .ok (.aload_n 0, 1) := by decide +kernel
theorem dX4_init_15 : decode cX4_init 15 = .ok (.iconst 0, 1) := by decide +kernel
theorem dX4_init_16 : decode cX4_init 16 = .ok (.putfield 19, 3) := by decide +kernel
theorem dX4_init_19 : decode cX4_init 19 = .ok (.aload_n 0, 1) := by decide +kernel
theorem dX4_init_20 : decode cX4_init 20 = .ok (.bipush (-9), 2) := by decide +kernel
theorem dX4_init_22 : decode cX4_init 22 = .ok (.putfield 22, 3) := by decide +kernel
theorem dX4_init_25 : decode cX4_init 25 = .ok (.aload_n 0, 1) := by decide +kernel
theorem dX4_init_26 : decode cX4_init 26 = .ok (.sipush 244, 3) := by decide +kernel
theorem dX4_init_29 : decode cX4_init 29 = .ok (.newarray .int, 2) := by decide +kernel
theorem dX4_init_31 : decode cX4_init 31 = .ok (.putfield 25, 3) := by decide +kernel
theorem dX4_init_34 : decode cX4_init 34 = .ok (.aload_n 0, 1) := by decide +kernel
theorem dX4_init_35 : decode cX4_init 35 = .ok (.iconst 0, 1) := by decide +kernel
theorem dX4_init_36 : decode cX4_init 36 = .ok (.putfield 29, 3) := by decide +kernel
theorem dX4_init_39 : decode cX4_init 39 = .ok (.aload_n 0, 1) := by decide +kernel
theorem dX4_init_40 : decode cX4_init 40 = .ok (.iconst 0, 1) := by decide +kernel
theorem dX4_init_41 : decode cX4_init 41 = .ok (.putfield 32, 3) := by decide +kernel
theorem dX4_init_44 : decode cX4_init 44 = .ok (.aload_n 0, 1) := by decide +kernel
theorem dX4_init_45 : decode cX4_init 45 = .ok (.iconst 0, 1) := by decide +kernel
theorem dX4_init_46 : decode cX4_init 46 = .ok (.putfield 35, 3) := by decide +kernel
theorem dX4_init_49 : decode cX4_init 49 = .ok (.return_, 1) := by decide +kernel
theorem dX4_learn_0 : decode cX4_learn 0 = .ok (.aload_n 0, 1) := by decide +kernel
theorem dX4_learn_1 : decode cX4_learn 1 = .ok (.aload_n 1, 1) := by decide +kernel
theorem dX4_learn_2 : decode cX4_learn 2 = .ok (.getfield 38, 3) := by decide +kernel
theorem dX4_learn_5 : decode cX4_learn 5 = .ok (.putfield 15, 3) := by decide +kernel
theorem dX4_learn_8 : decode cX4_learn 8 = .ok (.aload_n 0, 1) := by decide +kernel
theorem dX4_learn_9 : decode cX4_learn 9 = .ok (.aload_n 1, 1) := by decide +kernel
theorem dX4_learn_10 : decode cX4_learn 10 = .ok (.getfield 41, 3) := by decide +kernel
theorem dX4_learn_13 : decode cX4_learn 13 = .ok (.putfield 19, 3) := by decide +kernel
theorem dX4_learn_16 : decode cX4_learn 16 = .ok (.aload_n 0, 1) := by decide +kernel
theorem dX4_learn_17 : decode cX4_learn 17 = .ok (.aload_n 1, 1) := by decide +kernel
theorem dX4_learn_18 : decode cX4_learn 18 = .ok (.getfield 42, 3) := by decide +kernel
theorem dX4_learn_21 : decode cX4_learn 21 = .ok (.putfield 22, 3) := by decide +kernel
theorem dX4_learn_24 : decode cX4_learn 24 = .ok (.aload_n 0, 1) := by decide +kernel
theorem dX4_learn_25 : decode cX4_learn 25 = .ok (.iconst 0, 1) := by decide +kernel
theorem dX4_learn_26 : decode cX4_learn 26 = .ok (.putfield 29, 3) := by decide +kernel
theorem dX4_learn_29 : decode cX4_learn 29 = .ok (.aload_n 0, 1) := by decide +kernel
theorem dX4_learn_30 : decode cX4_learn 30 = .ok (.iconst 0, 1) := by decide +kernel
theorem dX4_learn_31 : decode cX4_learn 31 = .ok (.putfield 32, 3) := by decide +kernel
theorem dX4_learn_34 : decode cX4_learn 34 = .ok (.aload_n 0, 1) := by decide +kernel
theorem dX4_learn_35 : decode cX4_learn 35 = .ok (.iconst 0, 1) := by decide +kernel
theorem dX4_learn_36 : decode cX4_learn 36 = .ok (.putfield 35, 3) := by decide +kernel
theorem dX4_learn_39 : decode cX4_learn 39 = .ok (.iconst 0, 1) := by decide +kernel
theorem dX4_learn_40 : decode cX4_learn 40 = .ok (.istore_n 3, 1) := by decide +kernel
theorem dX4_learn_41 : decode cX4_learn 41 = .ok (.iload_n 3, 1) := by decide +kernel
theorem dX4_learn_42 : decode cX4_learn 42 = .ok (.sipush 244, 3) := by decide +kernel
theorem dX4_learn_45 : decode cX4_learn 45 = .ok (.if_icmp .ge 77, 3) := by decide +kernel
theorem dX4_learn_48 : decode cX4_learn 48 = .ok (.aload_n 1, 1) := by decide +kernel
theorem dX4_learn_49 : decode cX4_learn 49 = .ok (.getfield 43, 3) := by decide +kernel
theorem dX4_learn_52 : decode cX4_learn 52 = .ok (.iload_n 3, 1) := by decide +kernel
theorem dX4_learn_53 : decode cX4_learn 53 = .ok (.iaload, 1) := by decide +kernel
theorem dX4_learn_54 : decode cX4_learn 54 = .ok (.aload_n 1, 1) := by decide +kernel
theorem dX4_learn_55 : decode cX4_learn 55 = .ok (.getfield 46, 3) := by decide +kernel
theorem dX4_learn_58 : decode cX4_learn 58 = .ok (.if_icmp .eq 6, 3) := by decide +kernel
theorem dX4_learn_61 : decode cX4_learn 61 = .ok (.goto 55, 3) := by decide +kernel
theorem dX4_learn_64 : decode cX4_learn 64 = .ok (.aload_n 0, 1) := by decide +kernel
theorem dX4_learn_65 : decode cX4_learn 65 = .ok (.getfield 25, 3) := by decide +kernel
theorem dX4_learn_68 : decode cX4_learn 68 = .ok (.aload_n 0, 1) := by decide +kernel
theorem dX4_learn_69 : decode cX4_learn 69 = .ok (.getfield 29, 3) := by decide +kernel
theorem dX4_learn_72 : decode cX4_learn 72 = .ok (.iload_n 3, 1) := by decide +kernel
theorem dX4_learn_73 : decode cX4_learn 73 = .ok (.iastore, 1) := by decide +kernel
theorem dX4_learn_74 : decode cX4_learn 74 = .ok (.aload_n 0, 1) := by decide +kernel
theorem dX4_learn_75 : decode cX4_learn 75 = .ok (.dup, 1) := by decide +kernel
theorem dX4_learn_76 : decode cX4_learn 76 = .ok (.getfield 29, 3) := by decide +kernel
theorem dX4_learn_79 : decode cX4_learn 79 = .ok (.iconst 1, 1) := by decide +kernel
theorem dX4_learn_80 : decode cX4_learn 80 = .ok (.iadd, 1) := by decide +kernel
theorem dX4_learn_81 : decode cX4_learn 81 = .ok (.putfield 29, 3) := by decide +kernel
theorem dX4_learn_84 : decode cX4_learn 84 = .ok (.aload_n 0, 1) := by decide +kernel
theorem dX4_learn_85 : decode cX4_learn 85 = .ok (.dup, 1) := by decide +kernel
theorem dX4_learn_86 : decode cX4_learn 86 = .ok (.getfield 32, 3) := by decide +kernel
theorem dX4_learn_89 : decode cX4_learn 89 = .ok (.aload_n 2, 1) := by decide +kernel
theorem dX4_learn_90 : decode cX4_learn 90 = .ok (.getfield 49, 3) := by decide +kernel
theorem dX4_learn_93 : decode cX4_learn 93 = .ok (.iload_n 3, 1) := by decide +kernel
theorem dX4_learn_94 : decode cX4_learn 94 = .ok (.iaload, 1) := by decide +kernel
theorem dX4_learn_95 : decode cX4_learn 95 = .ok (.ior, 1) := by decide +kernel
theorem dX4_learn_96 : decode cX4_learn 96 = .ok (.putfield 32, 3) := by decide +kernel
theorem dX4_learn_99 : decode cX4_learn 99 = .ok (.aload_n 0, 1) := by decide +kernel
theorem dX4_learn_100 : decode cX4_learn 100 = .ok (.dup, 1) := by decide +kernel
theorem dX4_learn_101 : decode cX4_learn 101 = .ok (.getfield 35, 3) := by decide +kernel
theorem dX4_learn_104 : decode cX4_learn 104 = .ok (.aload_n 2, 1) := by decide +kernel
theorem dX4_learn_105 : decode cX4_learn 105 = .ok (.getfield 49, 3) := by decide +kernel
theorem dX4_learn_108 : decode cX4_learn 108 = .ok (.iload_n 3, 1) := by decide +kernel
theorem dX4_learn_109 : decode cX4_learn 109 = .ok (.iaload, 1) := by decide +kernel
theorem dX4_learn_110 : decode cX4_learn 110 = .ok (.iconst (-1), 1) := by decide +kernel
theorem dX4_learn_111 : decode cX4_learn 111 = .ok (.ixor, 1) := by decide +kernel
theorem dX4_learn_112 : decode cX4_learn 112 = .ok (.ior, 1) := by decide +kernel
theorem dX4_learn_113 : decode cX4_learn 113 = .ok (.putfield 35, 3) := by decide +kernel
theorem dX4_learn_116 : decode cX4_learn 116 = .ok (.iinc 3 1, 3) := by decide +kernel
theorem dX4_learn_119 : decode cX4_learn 119 = .ok (.goto (-78), 3) := by decide +kernel
theorem dX4_learn_122 : decode cX4_learn 122 = .ok (.aload_n 0, 1) := by decide +kernel
theorem dX4_learn_123 : decode cX4_learn 123 = .ok (.iconst 1, 1) := by decide +kernel
theorem dX4_learn_124 : decode cX4_learn 124 = .ok (.putfield 9, 3) := by decide +kernel
theorem dX4_learn_127 : decode cX4_learn 127 = .ok (.return_, 1) := by decide +kernel
theorem dX4_lastCheap_0 : decode cX4_lastCheap 0 = .ok (.aload_n 0, 1) := by decide +kernel
theorem dX4_lastCheap_1 : decode cX4_lastCheap 1 = .ok (.getfield 29, 3) := by decide +kernel
theorem dX4_lastCheap_4 : decode cX4_lastCheap 4 = .ok (.ifCond .le 17, 3) := by decide +kernel
theorem dX4_lastCheap_7 : decode cX4_lastCheap 7 = .ok (.aload_n 0, 1) := by decide +kernel
theorem dX4_lastCheap_8 : decode cX4_lastCheap 8 = .ok (.getfield 25, 3) := by decide +kernel
theorem dX4_lastCheap_11 : decode cX4_lastCheap 11 = .ok (.aload_n 0, 1) := by decide +kernel
theorem dX4_lastCheap_12 : decode cX4_lastCheap 12 = .ok (.getfield 29, 3) := by decide +kernel
theorem dX4_lastCheap_15 : decode cX4_lastCheap 15 = .ok (.iconst 1, 1) := by decide +kernel
theorem dX4_lastCheap_16 : decode cX4_lastCheap 16 = .ok (.isub, 1) := by decide +kernel
theorem dX4_lastCheap_17 : decode cX4_lastCheap 17 = .ok (.iaload, 1) := by decide +kernel
theorem dX4_lastCheap_18 : decode cX4_lastCheap 18 = .ok (.goto 5, 3) := by decide +kernel
theorem dX4_lastCheap_21 : decode cX4_lastCheap 21 = .ok (.bipush (-9), 2) := by decide +kernel
theorem dX4_lastCheap_23 : decode cX4_lastCheap 23 = .ok (.ireturn, 1) := by decide +kernel
theorem dX4_mayOwe_0 : decode cX4_mayOwe 0 = .ok (.aload_n 0, 1) := by decide +kernel
theorem dX4_mayOwe_1 : decode cX4_mayOwe 1 = .ok (.getfield 32, 3) := by decide +kernel
theorem dX4_mayOwe_4 : decode cX4_mayOwe 4 = .ok (.iload_n 1, 1) := by decide +kernel
theorem dX4_mayOwe_5 : decode cX4_mayOwe 5 = .ok (.iushr, 1) := by decide +kernel
theorem dX4_mayOwe_6 : decode cX4_mayOwe 6 = .ok (.iconst 1, 1) := by decide +kernel
theorem dX4_mayOwe_7 : decode cX4_mayOwe 7 = .ok (.iand, 1) := by decide +kernel
theorem dX4_mayOwe_8 : decode cX4_mayOwe 8 = .ok (.iconst 1, 1) := by decide +kernel
theorem dX4_mayOwe_9 : decode cX4_mayOwe 9 = .ok (.if_icmp .ne 7, 3) := by decide +kernel
theorem dX4_mayOwe_12 : decode cX4_mayOwe 12 = .ok (.iconst 1, 1) := by decide +kernel
theorem dX4_mayOwe_13 : decode cX4_mayOwe 13 = .ok (.goto 4, 3) := by decide +kernel
theorem dX4_mayOwe_16 : decode cX4_mayOwe 16 = .ok (.iconst 0, 1) := by decide +kernel
theorem dX4_mayOwe_17 : decode cX4_mayOwe 17 = .ok (.ireturn, 1) := by decide +kernel
theorem dX4_mayNotOwe_0 : decode cX4_mayNotOwe 0 = .ok (.aload_n 0, 1) := by decide +kernel
theorem dX4_mayNotOwe_1 : decode cX4_mayNotOwe 1 = .ok (.getfield 35, 3) := by decide +kernel
theorem dX4_mayNotOwe_4 : decode cX4_mayNotOwe 4 = .ok (.iload_n 1, 1) := by decide +kernel
theorem dX4_mayNotOwe_5 : decode cX4_mayNotOwe 5 = .ok (.iushr, 1) := by decide +kernel
theorem dX4_mayNotOwe_6 : decode cX4_mayNotOwe 6 = .ok (.iconst 1, 1) := by decide +kernel
theorem dX4_mayNotOwe_7 : decode cX4_mayNotOwe 7 = .ok (.iand, 1) := by decide +kernel
theorem dX4_mayNotOwe_8 : decode cX4_mayNotOwe 8 = .ok (.iconst 1, 1) := by decide +kernel
theorem dX4_mayNotOwe_9 : decode cX4_mayNotOwe 9 = .ok (.if_icmp .ne 7, 3) := by decide +kernel
theorem dX4_mayNotOwe_12 : decode cX4_mayNotOwe 12 = .ok (.iconst 1, 1) := by decide +kernel
theorem dX4_mayNotOwe_13 : decode cX4_mayNotOwe 13 = .ok (.goto 4, 3) := by decide +kernel
theorem dX4_mayNotOwe_16 : decode cX4_mayNotOwe 16 = .ok (.iconst 0, 1) := by decide +kernel
theorem dX4_mayNotOwe_17 : decode cX4_mayNotOwe 17 = .ok (.ireturn, 1) := by decide +kernel
theorem dX4_wouldSay_0 : decode cX4_wouldSay 0 = .ok (.aload_n 0, 1) := by decide +kernel
theorem dX4_wouldSay_1 : decode cX4_wouldSay 1 = .ok (.iload_n 1, 1) := by decide +kernel
theorem dX4_wouldSay_2 : decode cX4_wouldSay 2 = .ok (.invokevirtual 54, 3) := by decide +kernel
theorem dX4_wouldSay_5 : decode cX4_wouldSay 5 = .ok (.ifCond .ne 5, 3) := by decide +kernel
theorem dX4_wouldSay_8 : decode cX4_wouldSay 8 = .ok (.iconst 0, 1) := by decide +kernel
theorem dX4_wouldSay_9 : decode cX4_wouldSay 9 = .ok (.ireturn, 1) := by decide +kernel
theorem dX4_wouldSay_10 : decode cX4_wouldSay 10 = .ok (.aload_n 0, 1) := by decide +kernel
theorem dX4_wouldSay_11 : decode cX4_wouldSay 11 = .ok (.iload_n 1, 1) := by decide +kernel
theorem dX4_wouldSay_12 : decode cX4_wouldSay 12 = .ok (.invokevirtual 58, 3) := by decide +kernel
theorem dX4_wouldSay_15 : decode cX4_wouldSay 15 = .ok (.ifCond .eq 7, 3) := by decide +kernel
theorem dX4_wouldSay_18 : decode cX4_wouldSay 18 = .ok (.iconst 2, 1) := by decide +kernel
theorem dX4_wouldSay_19 : decode cX4_wouldSay 19 = .ok (.goto 4, 3) := by decide +kernel
theorem dX4_wouldSay_22 : decode cX4_wouldSay 22 = .ok (.iconst 1, 1) := by decide +kernel
theorem dX4_wouldSay_23 : decode cX4_wouldSay 23 = .ok (.ireturn, 1) := by decide +kernel
theorem dX5_init_0 : decode cX5_init 0 = .ok (.aload_n 0, 1) := by decide +kernel
theorem dX5_init_1 : decode cX5_init 1 = .ok (.invokespecial 3, 3) := by decide +kernel
theorem dX5_init_4 : decode cX5_init 4 = .ok (.aload_n 0, 1) := by decide +kernel
theorem dX5_init_5 : decode cX5_init 5 = .ok (.iconst 0, 1) := by decide +kernel
theorem dX5_init_6 : decode cX5_init 6 = .ok (.putfield 9, 3) := by decide +kernel
theorem dX5_init_9 : decode cX5_init 9 = .ok (.aload_n 0, 1) := by decide +kernel
theorem dX5_init_10 : decode cX5_init 10 = .ok (.iconst 0, 1) := by decide +kernel
theorem dX5_init_11 : decode cX5_init 11 = .ok (.putfield 15, 3) := by decide +kernel
theorem dX5_init_14 : decode cX5_init 14 = .ok (.aload_n 0, 1) := by decide +kernel
theorem dX5_init_15 : decode cX5_init 15 = .ok (.iconst 0, 1) := by decide +kernel
theorem dX5_init_16 : decode cX5_init 16 = .ok (.putfield 18, 3) := by decide +kernel
theorem dX5_init_19 : decode cX5_init 19 = .ok (.aload_n 0, 1) := by decide +kernel
theorem dX5_init_20 : decode cX5_init 20 = .ok (.iconst 0, 1) := by decide +kernel
theorem dX5_init_21 : decode cX5_init 21 = .ok (.putfield 21, 3) := by decide +kernel
theorem dX5_init_24 : decode cX5_init 24 = .ok (.return_, 1) := by decide +kernel
theorem dX5_figure_0 : decode cX5_figure 0 = .ok (.iload_n 1, 1) := by decide +kernel
theorem dX5_figure_1 : decode cX5_figure 1 = .ok (.lookupswitch 37 #[(0, 27), (1, 32)], 27) := by decide +kernel
theorem dX5_figure_28 : decode cX5_figure 28 = .ok (.aload_n 0, 1) := by decide +kernel
theorem dX5_figure_29 : decode cX5_figure 29 = .ok (.getfield 9, 3) := by decide +kernel
theorem dX5_figure_32 : decode cX5_figure 32 = .ok (.ireturn, 1) := by decide +kernel
theorem dX5_figure_33 : decode cX5_figure 33 = .ok (.aload_n 0, 1) := by decide +kernel
theorem dX5_figure_34 : decode cX5_figure 34 = .ok (.getfield 15, 3) := by decide +kernel
theorem dX5_figure_37 : decode cX5_figure 37 = .ok (.ireturn, 1) := by decide +kernel
theorem dX5_figure_38 : decode cX5_figure 38 = .ok (.aload_n 0, 1) := by decide +kernel
theorem dX5_figure_39 : decode cX5_figure 39 = .ok (.getfield 18, 3) := by decide +kernel
theorem dX5_figure_42 : decode cX5_figure 42 = .ok (.ireturn, 1) := by decide +kernel
theorem dX6_init_0 : decode cX6_init 0 = .ok (.aload_n 0, 1) := by decide +kernel
theorem dX6_init_1 : decode cX6_init 1 = .ok (.invokespecial 3, 3) := by decide +kernel
theorem dX6_init_4 : decode cX6_init 4 = .ok (.aload_n 0, 1) := by decide +kernel
theorem dX6_init_5 : decode cX6_init 5 = .ok (.bipush 40, 2) := by decide +kernel
theorem dX6_init_7 : decode cX6_init 7 = .ok (.anewarray 9, 3) := by decide +kernel
theorem dX6_init_10 : decode cX6_init 10 = .ok (.putfield 11, 3) := by decide +kernel
theorem dX6_init_13 : decode cX6_init 13 = .ok (.aload_n 0, 1) := by decide +kernel
theorem dX6_init_14 : decode cX6_init 14 = .ok (.iconst 0, 1) := by decide +kernel
theorem dX6_init_15 : decode cX6_init 15 = .ok (.putfield 17, 3) := by decide +kernel
theorem dX6_init_18 : decode cX6_init 18 = .ok (.aload_n 0, 1) := by decide +kernel
theorem dX6_init_19 : decode cX6_init 19 = .ok (.iconst 0, 1) := by decide +kernel
theorem dX6_init_20 : decode cX6_init 20 = .ok (.putfield 21, 3) := by decide +kernel
theorem dX6_init_23 : decode cX6_init 23 = .ok (.aload_n 0, 1) := by decide +kernel
theorem dX6_init_24 : decode cX6_init 24 = .ok (.iconst 0, 1) := by decide +kernel
theorem dX6_init_25 : decode cX6_init 25 = .ok (.putfield 24, 3) := by decide +kernel
theorem dX6_init_28 : decode cX6_init 28 = .ok (.aload_n 0, 1) := by decide +kernel
theorem dX6_init_29 : decode cX6_init 29 = .ok (.aload_n 1, 1) := by decide +kernel
theorem dX6_init_30 : decode cX6_init 30 = .ok (.putfield 27, 3) := by decide +kernel
theorem dX6_init_33 : decode cX6_init 33 = .ok (.iconst 0, 1) := by decide +kernel
theorem dX6_init_34 : decode cX6_init 34 = .ok (.istore_n 2, 1) := by decide +kernel
theorem dX6_init_35 : decode cX6_init 35 = .ok (.iload_n 2, 1) := by decide +kernel
theorem dX6_init_36 : decode cX6_init 36 = .ok (.bipush 40, 2) := by decide +kernel
theorem dX6_init_38 : decode cX6_init 38 = .ok (.if_icmp .ge 22, 3) := by decide +kernel
theorem dX6_init_41 : decode cX6_init 41 = .ok (.aload_n 0, 1) := by decide +kernel
theorem dX6_init_42 : decode cX6_init 42 = .ok (.getfield 11, 3) := by decide +kernel
theorem dX6_init_45 : decode cX6_init 45 = .ok (.iload_n 2, 1) := by decide +kernel
theorem dX6_init_46 : decode cX6_init 46 = .ok (.new 9, 3) := by decide +kernel
theorem dX6_init_49 : decode cX6_init 49 = .ok (.dup, 1) := by decide +kernel
theorem dX6_init_50 : decode cX6_init 50 = .ok (.invokespecial 31, 3) := by decide +kernel
theorem dX6_init_53 : decode cX6_init 53 = .ok (.aastore, 1) := by decide +kernel
theorem dX6_init_54 : decode cX6_init 54 = .ok (.iinc 2 1, 3) := by decide +kernel
theorem dX6_init_57 : decode cX6_init 57 = .ok (.goto (-22), 3) := by decide +kernel
theorem dX6_init_60 : decode cX6_init 60 = .ok (.return_, 1) := by decide +kernel
theorem dX6_takes_0 : decode cX6_takes 0 = .ok (.iload_n 2, 1) := by decide +kernel
theorem dX6_takes_1 : decode cX6_takes 1 = .ok (.tableswitch 86 1 5 #[35, 57, 63, 72, 78], 35) := by decide +kernel
theorem dX6_takes_36 : decode cX6_takes 36 = .ok (.aload_n 0, 1) := by decide +kernel
theorem dX6_takes_37 : decode cX6_takes 37 = .ok (.getfield 27, 3) := by decide +kernel
theorem dX6_takes_40 : decode cX6_takes 40 = .ok (.iload_n 3, 1) := by decide +kernel
theorem dX6_takes_41 : decode cX6_takes 41 = .ok (.invokevirtual 32, 3) := by decide +kernel
theorem dX6_takes_44 : decode cX6_takes 44 = .ok (.ifCond .eq 12, 3) := by decide +kernel
theorem dX6_takes_47 : decode cX6_takes 47 = .ok (.iload_n 3, 1) := by decide +kernel
theorem dX6_takes_48 : decode cX6_takes 48 = .ok (.iload_n 1, 1) := by decide +kernel
theorem dX6_takes_49 : decode cX6_takes 49 = .ok (.if_icmp .eq 7, 3) := by decide +kernel
theorem dX6_takes_52 : decode cX6_takes 52 = .ok (.iconst 1, 1) := by decide +kernel
theorem dX6_takes_53 : decode cX6_takes 53 = .ok (.goto 4, 3) := by decide +kernel
theorem dX6_takes_56 : decode cX6_takes 56 = .ok (.iconst 0, 1) := by decide +kernel
theorem dX6_takes_57 : decode cX6_takes 57 = .ok (.ireturn, 1) := by decide +kernel
theorem dX6_takes_58 : decode cX6_takes 58 = .ok (.iload_n 3, 1) := by decide +kernel
theorem dX6_takes_59 : decode cX6_takes 59 = .ok (.iconst 5, 1) := by decide +kernel
theorem dX6_takes_60 : decode cX6_takes 60 = .ok (.invokestatic 38, 3) := by decide +kernel
theorem dX6_takes_63 : decode cX6_takes 63 = .ok (.ireturn, 1) := by decide +kernel
theorem dX6_takes_64 : decode cX6_takes 64 = .ok (.aload_n 0, 1) := by decide +kernel
theorem dX6_takes_65 : decode cX6_takes 65 = .ok (.getfield 27, 3) := by decide +kernel
theorem dX6_takes_68 : decode cX6_takes 68 = .ok (.iload_n 3, 1) := by decide +kernel
theorem dX6_takes_69 : decode cX6_takes 69 = .ok (.invokevirtual 42, 3) := by decide +kernel
theorem dX6_takes_72 : decode cX6_takes 72 = .ok (.ireturn, 1) := by decide +kernel
theorem dX6_takes_73 : decode cX6_takes 73 = .ok (.iload_n 3, 1) := by decide +kernel
theorem dX6_takes_74 : decode cX6_takes 74 = .ok (.iconst 5, 1) := by decide +kernel
theorem dX6_takes_75 : decode cX6_takes 75 = .ok (.invokestatic 38, 3) := by decide +kernel
theorem dX6_takes_78 : decode cX6_takes 78 = .ok (.ireturn, 1) := by decide +kernel
theorem dX6_takes_79 : decode cX6_takes 79 = .ok (.iload_n 3, 1) := by decide +kernel
theorem dX6_takes_80 : decode cX6_takes 80 = .ok (.sipush 1000, 3) := by decide +kernel
theorem dX6_takes_83 : decode cX6_takes 83 = .ok (.invokestatic 38, 3) := by decide +kernel
theorem dX6_takes_86 : decode cX6_takes 86 = .ok (.ireturn, 1) := by decide +kernel
theorem dX6_takes_87 : decode cX6_takes 87 = .ok (.iconst 1, 1) := by decide +kernel
theorem dX6_takes_88 : decode cX6_takes 88 = .ok (.ireturn, 1) := by decide +kernel
