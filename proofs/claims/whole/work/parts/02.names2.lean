theorem dX6_addMove_0 : decode cX6_addMove 0 = .ok (.aload_n 0, 1) := by decide +kernel
theorem dX6_addMove_1 : decode cX6_addMove 1 = .ok (.getfield 11, 3) := by decide +kernel
theorem dX6_addMove_4 : decode cX6_addMove 4 = .ok (.aload_n 0, 1) := by decide +kernel
theorem dX6_addMove_5 : decode cX6_addMove 5 = .ok (.getfield 17, 3) := by decide +kernel
theorem dX6_addMove_8 : decode cX6_addMove 8 = .ok (.aaload, 1) := by decide +kernel
theorem dX6_addMove_9 : decode cX6_addMove 9 = .ok (.astore 4, 2) := by decide +kernel
theorem dX6_addMove_11 : decode cX6_addMove 11 = .ok (.aload 4, 2) := by decide +kernel
theorem dX6_addMove_13 : decode cX6_addMove 13 = .ok (.iload_n 2, 1) := by decide +kernel
theorem dX6_addMove_14 : decode cX6_addMove 14 = .ok (.putfield 45, 3) := by decide +kernel
theorem dX6_addMove_17 : decode cX6_addMove 17 = .ok (.aload 4, 2) := by decide +kernel
theorem dX6_addMove_19 : decode cX6_addMove 19 = .ok (.iload_n 1, 1) := by decide +kernel
theorem dX6_addMove_20 : decode cX6_addMove 20 = .ok (.putfield 48, 3) := by decide +kernel
theorem dX6_addMove_23 : decode cX6_addMove 23 = .ok (.aload 4, 2) := by decide +kernel
theorem dX6_addMove_25 : decode cX6_addMove 25 = .ok (.iload_n 2, 1) := by decide +kernel
theorem dX6_addMove_26 : decode cX6_addMove 26 = .ok (.ifCond .eq 9, 3) := by decide +kernel
theorem dX6_addMove_29 : decode cX6_addMove 29 = .ok (.iload_n 2, 1) := by decide +kernel
theorem dX6_addMove_30 : decode cX6_addMove 30 = .ok (.bipush 6, 2) := by decide +kernel
theorem dX6_addMove_32 : decode cX6_addMove 32 = .ok (.if_icmp .ne 7, 3) := by decide +kernel
theorem dX6_addMove_35 : decode cX6_addMove 35 = .ok (.iconst 0, 1) := by decide +kernel
theorem dX6_addMove_36 : decode cX6_addMove 36 = .ok (.goto 4, 3) := by decide +kernel
theorem dX6_addMove_39 : decode cX6_addMove 39 = .ok (.iload_n 3, 1) := by decide +kernel
theorem dX6_addMove_40 : decode cX6_addMove 40 = .ok (.putfield 51, 3) := by decide +kernel
theorem dX6_addMove_43 : decode cX6_addMove 43 = .ok (.aload_n 0, 1) := by decide +kernel
theorem dX6_addMove_44 : decode cX6_addMove 44 = .ok (.dup, 1) := by decide +kernel
theorem dX6_addMove_45 : decode cX6_addMove 45 = .ok (.getfield 17, 3) := by decide +kernel
theorem dX6_addMove_48 : decode cX6_addMove 48 = .ok (.iconst 1, 1) := by decide +kernel
theorem dX6_addMove_49 : decode cX6_addMove 49 = .ok (.iadd, 1) := by decide +kernel
theorem dX6_addMove_50 : decode cX6_addMove 50 = .ok (.putfield 17, 3) := by decide +kernel
theorem dX6_addMove_53 : decode cX6_addMove 53 = .ok (.aload_n 0, 1) := by decide +kernel
theorem dX6_addMove_54 : decode cX6_addMove 54 = .ok (.getfield 17, 3) := by decide +kernel
theorem dX6_addMove_57 : decode cX6_addMove 57 = .ok (.iconst 1, 1) := by decide +kernel
theorem dX6_addMove_58 : decode cX6_addMove 58 = .ok (.isub, 1) := by decide +kernel
theorem dX6_addMove_59 : decode cX6_addMove 59 = .ok (.ireturn, 1) := by decide +kernel
theorem dX6_objections_0 : decode cX6_objections 0 = .ok (.iconst 0, 1) := by decide +kernel
theorem dX6_objections_1 : decode cX6_objections 1 = .ok (.istore_n 1, 1) := by decide +kernel
theorem dX6_objections_2 : decode cX6_objections 2 = .ok (.iconst 0, 1) := by decide +kernel
theorem dX6_objections_3 : decode cX6_objections 3 = .ok (.istore_n 2, 1) := by decide +kernel
theorem dX6_objections_4 : decode cX6_objections 4 = .ok (.iload_n 2, 1) := by decide +kernel
theorem dX6_objections_5 : decode cX6_objections 5 = .ok (.aload_n 0, 1) := by decide +kernel
theorem dX6_objections_6 : decode cX6_objections 6 = .ok (.getfield 17, 3) := by decide +kernel
theorem dX6_objections_9 : decode cX6_objections 9 = .ok (.if_icmp .ge 25, 3) := by decide +kernel
theorem dX6_objections_12 : decode cX6_objections 12 = .ok (.aload_n 0, 1) := by decide +kernel
theorem dX6_objections_13 : decode cX6_objections 13 = .ok (.getfield 11, 3) := by decide +kernel
theorem dX6_objections_16 : decode cX6_objections 16 = .ok (.iload_n 2, 1) := by decide +kernel
theorem dX6_objections_17 : decode cX6_objections 17 = .ok (.aaload, 1) := by decide +kernel
theorem dX6_objections_18 : decode cX6_objections 18 = .ok (.getfield 45, 3) := by decide +kernel
theorem dX6_objections_21 : decode cX6_objections 21 = .ok (.iconst 1, 1) := by decide +kernel
theorem dX6_objections_22 : decode cX6_objections 22 = .ok (.if_icmp .ne 6, 3) := by decide +kernel
theorem dX6_objections_25 : decode cX6_objections 25 = .ok (.iinc 1 1, 3) := by decide +kernel
theorem dX6_objections_28 : decode cX6_objections 28 = .ok (.iinc 2 1, 3) := by decide +kernel
theorem dX6_objections_31 : decode cX6_objections 31 = .ok (.goto (-27), 3) := by decide +kernel
theorem dX6_objections_34 : decode cX6_objections 34 = .ok (.iload_n 1, 1) := by decide +kernel
theorem dX6_objections_35 : decode cX6_objections 35 = .ok (.ireturn, 1) := by decide +kernel
theorem dX6_markOf_0 : decode cX6_markOf 0 = .ok (.aload_n 0, 1) := by decide +kernel
theorem dX6_markOf_1 : decode cX6_markOf 1 = .ok (.getfield 27, 3) := by decide +kernel
theorem dX6_markOf_4 : decode cX6_markOf 4 = .ok (.getfield 54, 3) := by decide +kernel
theorem dX6_markOf_7 : decode cX6_markOf 7 = .ok (.aload_n 1, 1) := by decide +kernel
theorem dX6_markOf_8 : decode cX6_markOf 8 = .ok (.getfield 48, 3) := by decide +kernel
theorem dX6_markOf_11 : decode cX6_markOf 11 = .ok (.aaload, 1) := by decide +kernel
theorem dX6_markOf_12 : decode cX6_markOf 12 = .ok (.astore_n 3, 1) := by decide +kernel
theorem dX6_markOf_13 : decode cX6_markOf 13 = .ok (.aload_n 0, 1) := by decide +kernel
theorem dX6_markOf_14 : decode cX6_markOf 14 = .ok (.getfield 27, 3) := by decide +kernel
theorem dX6_markOf_17 : decode cX6_markOf 17 = .ok (.aload_n 1, 1) := by decide +kernel
theorem dX6_markOf_18 : decode cX6_markOf 18 = .ok (.getfield 48, 3) := by decide +kernel
theorem dX6_markOf_21 : decode cX6_markOf 21 = .ok (.invokevirtual 58, 3) := by decide +kernel
theorem dX6_markOf_24 : decode cX6_markOf 24 = .ok (.istore 4, 2) := by decide +kernel
theorem dX6_markOf_26 : decode cX6_markOf 26 = .ok (.aload_n 1, 1) := by decide +kernel
theorem dX6_markOf_27 : decode cX6_markOf 27 = .ok (.getfield 45, 3) := by decide +kernel
theorem dX6_markOf_30 : decode cX6_markOf 30 = .ok (.tableswitch 110 1 5 #[34, 52, 62, 87, 97], 34) := by decide +kernel
theorem dX6_markOf_64 : decode cX6_markOf 64 = .ok (.iload 4, 2) := by decide +kernel
theorem dX6_markOf_66 : decode cX6_markOf 66 = .ok (.aload_n 0, 1) := by decide +kernel
theorem dX6_markOf_67 : decode cX6_markOf 67 = .ok (.getfield 27, 3) := by decide +kernel
theorem dX6_markOf_70 : decode cX6_markOf 70 = .ok (.aload_n 1, 1) := by decide +kernel
theorem dX6_markOf_71 : decode cX6_markOf 71 = .ok (.getfield 51, 3) := by decide +kernel
theorem dX6_markOf_74 : decode cX6_markOf 74 = .ok (.invokevirtual 58, 3) := by decide +kernel
theorem dX6_markOf_77 : decode cX6_markOf 77 = .ok (.ixor, 1) := by decide +kernel
theorem dX6_markOf_78 : decode cX6_markOf 78 = .ok (.invokestatic 62, 3) := by decide +kernel
theorem dX6_markOf_81 : decode cX6_markOf 81 = .ok (.ireturn, 1) := by decide +kernel
theorem dX6_markOf_82 : decode cX6_markOf 82 = .ok (.iload 4, 2) := by decide +kernel
theorem dX6_markOf_84 : decode cX6_markOf 84 = .ok (.aload_n 1, 1) := by decide +kernel
theorem dX6_markOf_85 : decode cX6_markOf 85 = .ok (.getfield 51, 3) := by decide +kernel
theorem dX6_markOf_88 : decode cX6_markOf 88 = .ok (.iushr, 1) := by decide +kernel
theorem dX6_markOf_89 : decode cX6_markOf 89 = .ok (.iconst 1, 1) := by decide +kernel
theorem dX6_markOf_90 : decode cX6_markOf 90 = .ok (.iand, 1) := by decide +kernel
theorem dX6_markOf_91 : decode cX6_markOf 91 = .ok (.ireturn, 1) := by decide +kernel
theorem dX6_markOf_92 : decode cX6_markOf 92 = .ok (.aload_n 0, 1) := by decide +kernel
theorem dX6_markOf_93 : decode cX6_markOf 93 = .ok (.getfield 27, 3) := by decide +kernel
theorem dX6_markOf_96 : decode cX6_markOf 96 = .ok (.getfield 67, 3) := by decide +kernel
theorem dX6_markOf_99 : decode cX6_markOf 99 = .ok (.aload_n 2, 1) := by decide +kernel
theorem dX6_markOf_100 : decode cX6_markOf 100 = .ok (.aload_n 1, 1) := by decide +kernel
theorem dX6_markOf_101 : decode cX6_markOf 101 = .ok (.getfield 51, 3) := by decide +kernel
theorem dX6_markOf_104 : decode cX6_markOf 104 = .ok (.aaload, 1) := by decide +kernel
theorem dX6_markOf_105 : decode cX6_markOf 105 = .ok (.getfield 71, 3) := by decide +kernel
theorem dX6_markOf_108 : decode cX6_markOf 108 = .ok (.getfield 77, 3) := by decide +kernel
theorem dX6_markOf_111 : decode cX6_markOf 111 = .ok (.iload 4, 2) := by decide +kernel
theorem dX6_markOf_113 : decode cX6_markOf 113 = .ok (.invokevirtual 82, 3) := by decide +kernel
theorem dX6_markOf_116 : decode cX6_markOf 116 = .ok (.ireturn, 1) := by decide +kernel
theorem dX6_markOf_117 : decode cX6_markOf 117 = .ok (.iload 4, 2) := by decide +kernel
theorem dX6_markOf_119 : decode cX6_markOf 119 = .ok (.iconst 1, 1) := by decide +kernel
theorem dX6_markOf_120 : decode cX6_markOf 120 = .ok (.aload_n 1, 1) := by decide +kernel
theorem dX6_markOf_121 : decode cX6_markOf 121 = .ok (.getfield 51, 3) := by decide +kernel
theorem dX6_markOf_124 : decode cX6_markOf 124 = .ok (.ishl, 1) := by decide +kernel
theorem dX6_markOf_125 : decode cX6_markOf 125 = .ok (.ixor, 1) := by decide +kernel
theorem dX6_markOf_126 : decode cX6_markOf 126 = .ok (.ireturn, 1) := by decide +kernel
theorem dX6_markOf_127 : decode cX6_markOf 127 = .ok (.aload_n 0, 1) := by decide +kernel
theorem dX6_markOf_128 : decode cX6_markOf 128 = .ok (.aload_n 3, 1) := by decide +kernel
theorem dX6_markOf_129 : decode cX6_markOf 129 = .ok (.getfield 88, 3) := by decide +kernel
theorem dX6_markOf_132 : decode cX6_markOf 132 = .ok (.aload_n 1, 1) := by decide +kernel
theorem dX6_markOf_133 : decode cX6_markOf 133 = .ok (.getfield 51, 3) := by decide +kernel
theorem dX6_markOf_136 : decode cX6_markOf 136 = .ok (.invokevirtual 93, 3) := by decide +kernel
theorem dX6_markOf_139 : decode cX6_markOf 139 = .ok (.ireturn, 1) := by decide +kernel
theorem dX6_markOf_140 : decode cX6_markOf 140 = .ok (.aload_n 0, 1) := by decide +kernel
theorem dX6_markOf_141 : decode cX6_markOf 141 = .ok (.getfield 27, 3) := by decide +kernel
theorem dX6_markOf_144 : decode cX6_markOf 144 = .ok (.getfield 96, 3) := by decide +kernel
theorem dX6_markOf_147 : decode cX6_markOf 147 = .ok (.aload_n 0, 1) := by decide +kernel
theorem dX6_markOf_148 : decode cX6_markOf 148 = .ok (.getfield 27, 3) := by decide +kernel
theorem dX6_markOf_151 : decode cX6_markOf 151 = .ok (.aload_n 1, 1) := by decide +kernel
theorem dX6_markOf_152 : decode cX6_markOf 152 = .ok (.getfield 48, 3) := by decide +kernel
theorem dX6_markOf_155 : decode cX6_markOf 155 = .ok (.aload_n 2, 1) := by decide +kernel
theorem dX6_markOf_156 : decode cX6_markOf 156 = .ok (.aload_n 3, 1) := by decide +kernel
theorem dX6_markOf_157 : decode cX6_markOf 157 = .ok (.getfield 88, 3) := by decide +kernel
theorem dX6_markOf_160 : decode cX6_markOf 160 = .ok (.aaload, 1) := by decide +kernel
theorem dX6_markOf_161 : decode cX6_markOf 161 = .ok (.getfield 71, 3) := by decide +kernel
theorem dX6_markOf_164 : decode cX6_markOf 164 = .ok (.getfield 77, 3) := by decide +kernel
theorem dX6_markOf_167 : decode cX6_markOf 167 = .ok (.invokevirtual 100, 3) := by decide +kernel
theorem dX6_markOf_170 : decode cX6_markOf 170 = .ok (.invokevirtual 103, 3) := by decide +kernel
theorem dX6_markOf_173 : decode cX6_markOf 173 = .ok (.ireturn, 1) := by decide +kernel
theorem dX6_sayingsFrom_0 : decode cX6_sayingsFrom 0 = .ok (.iconst 0, 1) := by decide +kernel
theorem dX6_sayingsFrom_1 : decode cX6_sayingsFrom 1 = .ok (.istore_n 3, 1) := by decide +kernel
theorem dX6_sayingsFrom_2 : decode cX6_sayingsFrom 2 = .ok (.iconst 0, 1) := by decide +kernel
theorem dX6_sayingsFrom_3 : decode cX6_sayingsFrom 3 = .ok (.istore 4, 2) := by decide +kernel
theorem dX6_sayingsFrom_5 : decode cX6_sayingsFrom 5 = .ok (.iload 4, 2) := by decide +kernel
theorem dX6_sayingsFrom_7 : decode cX6_sayingsFrom 7 = .ok (.aload_n 0, 1) := by decide +kernel
theorem dX6_sayingsFrom_8 : decode cX6_sayingsFrom 8 = .ok (.getfield 27, 3) := by decide +kernel
theorem dX6_sayingsFrom_11 : decode cX6_sayingsFrom 11 = .ok (.getfield 108, 3) := by decide +kernel
theorem dX6_sayingsFrom_14 : decode cX6_sayingsFrom 14 = .ok (.if_icmp .ge 46, 3) := by decide +kernel
theorem dX6_sayingsFrom_17 : decode cX6_sayingsFrom 17 = .ok (.aload_n 0, 1) := by decide +kernel
theorem dX6_sayingsFrom_18 : decode cX6_sayingsFrom 18 = .ok (.getfield 27, 3) := by decide +kernel
theorem dX6_sayingsFrom_21 : decode cX6_sayingsFrom 21 = .ok (.getfield 54, 3) := by decide +kernel
theorem dX6_sayingsFrom_24 : decode cX6_sayingsFrom 24 = .ok (.iload 4, 2) := by decide +kernel
theorem dX6_sayingsFrom_26 : decode cX6_sayingsFrom 26 = .ok (.aaload, 1) := by decide +kernel
theorem dX6_sayingsFrom_27 : decode cX6_sayingsFrom 27 = .ok (.getfield 88, 3) := by decide +kernel
theorem dX6_sayingsFrom_30 : decode cX6_sayingsFrom 30 = .ok (.iload_n 1, 1) := by decide +kernel
theorem dX6_sayingsFrom_31 : decode cX6_sayingsFrom 31 = .ok (.if_icmp .ne 23, 3) := by decide +kernel
theorem dX6_sayingsFrom_34 : decode cX6_sayingsFrom 34 = .ok (.aload_n 0, 1) := by decide +kernel
theorem dX6_sayingsFrom_35 : decode cX6_sayingsFrom 35 = .ok (.getfield 27, 3) := by decide +kernel
theorem dX6_sayingsFrom_38 : decode cX6_sayingsFrom 38 = .ok (.getfield 54, 3) := by decide +kernel
theorem dX6_sayingsFrom_41 : decode cX6_sayingsFrom 41 = .ok (.iload 4, 2) := by decide +kernel
theorem dX6_sayingsFrom_43 : decode cX6_sayingsFrom 43 = .ok (.aaload, 1) := by decide +kernel
theorem dX6_sayingsFrom_44 : decode cX6_sayingsFrom 44 = .ok (.getfield 111, 3) := by decide +kernel
theorem dX6_sayingsFrom_47 : decode cX6_sayingsFrom 47 = .ok (.iload_n 2, 1) := by decide +kernel
theorem dX6_sayingsFrom_48 : decode cX6_sayingsFrom 48 = .ok (.if_icmp .lt 6, 3) := by decide +kernel
theorem dX6_sayingsFrom_51 : decode cX6_sayingsFrom 51 = .ok (.iinc 3 1, 3) := by decide +kernel
theorem dX6_sayingsFrom_54 : decode cX6_sayingsFrom 54 = .ok (.iinc 4 1, 3) := by decide +kernel
theorem dX6_sayingsFrom_57 : decode cX6_sayingsFrom 57 = .ok (.goto (-52), 3) := by decide +kernel
theorem dX6_sayingsFrom_60 : decode cX6_sayingsFrom 60 = .ok (.iload_n 3, 1) := by decide +kernel
theorem dX6_sayingsFrom_61 : decode cX6_sayingsFrom 61 = .ok (.ireturn, 1) := by decide +kernel
theorem dX6_readThrough_0 : decode cX6_readThrough 0 = .ok (.aload_n 0, 1) := by decide +kernel
theorem dX6_readThrough_1 : decode cX6_readThrough 1 = .ok (.iconst 0, 1) := by decide +kernel
theorem dX6_readThrough_2 : decode cX6_readThrough 2 = .ok (.putfield 21, 3) := by decide +kernel
theorem dX6_readThrough_5 : decode cX6_readThrough 5 = .ok (.aload_n 0, 1) := by decide +kernel
theorem dX6_readThrough_6 : decode cX6_readThrough 6 = .ok (.iconst 0, 1) := by decide +kernel
theorem dX6_readThrough_7 : decode cX6_readThrough 7 = .ok (.putfield 24, 3) := by decide +kernel
theorem dX6_readThrough_10 : decode cX6_readThrough 10 = .ok (.iconst 0, 1) := by decide +kernel
theorem dX6_readThrough_11 : decode cX6_readThrough 11 = .ok (.istore_n 2, 1) := by decide +kernel
theorem dX6_readThrough_12 : decode cX6_readThrough 12 = .ok (.iload_n 2, 1) := by decide +kernel
theorem dX6_readThrough_13 : decode cX6_readThrough 13 = .ok (.aload_n 0, 1) := by decide +kernel
theorem dX6_readThrough_14 : decode cX6_readThrough 14 = .ok (.getfield 17, 3) := by decide +kernel
theorem dX6_readThrough_17 : decode cX6_readThrough 17 = .ok (.if_icmp .ge 132, 3) := by decide +kernel
theorem dX6_readThrough_20 : decode cX6_readThrough 20 = .ok (.aload_n 0, 1) := by decide +kernel
theorem dX6_readThrough_21 : decode cX6_readThrough 21 = .ok (.getfield 11, 3) := by decide +kernel
theorem dX6_readThrough_24 : decode cX6_readThrough 24 = .ok (.iload_n 2, 1) := by decide +kernel
theorem dX6_readThrough_25 : decode cX6_readThrough 25 = .ok (.aaload, 1) := by decide +kernel
theorem dX6_readThrough_26 : decode cX6_readThrough 26 = .ok (.astore_n 3, 1) := by decide +kernel
theorem dX6_readThrough_27 : decode cX6_readThrough 27 = .ok (.aload_n 3, 1) := by decide +kernel
theorem dX6_readThrough_28 : decode cX6_readThrough 28 = .ok (.aload_n 3, 1) := by decide +kernel
theorem dX6_readThrough_29 : decode cX6_readThrough 29 = .ok (.getfield 45, 3) := by decide +kernel
theorem dX6_readThrough_32 : decode cX6_readThrough 32 = .ok (.iconst 1, 1) := by decide +kernel
theorem dX6_readThrough_33 : decode cX6_readThrough 33 = .ok (.if_icmp .ne 7, 3) := by decide +kernel
theorem dX6_readThrough_36 : decode cX6_readThrough 36 = .ok (.iconst 1, 1) := by decide +kernel
theorem dX6_readThrough_37 : decode cX6_readThrough 37 = .ok (.goto 4, 3) := by decide +kernel
theorem dX6_readThrough_40 : decode cX6_readThrough 40 = .ok (.iconst 0, 1) := by decide +kernel
theorem dX6_readThrough_41 : decode cX6_readThrough 41 = .ok (.putfield 114, 3) := by decide +kernel
theorem dX6_readThrough_44 : decode cX6_readThrough 44 = .ok (.aload_n 3, 1) := by decide +kernel
theorem dX6_readThrough_45 : decode cX6_readThrough 45 = .ok (.getfield 114, 3) := by decide +kernel
theorem dX6_readThrough_48 : decode cX6_readThrough 48 = .ok (.ifCond .eq 13, 3) := by decide +kernel
theorem dX6_readThrough_51 : decode cX6_readThrough 51 = .ok (.aload_n 0, 1) := by decide +kernel
theorem dX6_readThrough_52 : decode cX6_readThrough 52 = .ok (.dup, 1) := by decide +kernel
theorem dX6_readThrough_53 : decode cX6_readThrough 53 = .ok (.getfield 21, 3) := by decide +kernel
theorem dX6_readThrough_56 : decode cX6_readThrough 56 = .ok (.iconst 1, 1) := by decide +kernel
theorem dX6_readThrough_57 : decode cX6_readThrough 57 = .ok (.iadd, 1) := by decide +kernel
theorem dX6_readThrough_58 : decode cX6_readThrough 58 = .ok (.putfield 21, 3) := by decide +kernel
theorem dX6_readThrough_61 : decode cX6_readThrough 61 = .ok (.aload_n 3, 1) := by decide +kernel
theorem dX6_readThrough_62 : decode cX6_readThrough 62 = .ok (.getfield 45, 3) := by decide +kernel
theorem dX6_readThrough_65 : decode cX6_readThrough 65 = .ok (.iconst 2, 1) := by decide +kernel
theorem dX6_readThrough_66 : decode cX6_readThrough 66 = .ok (.if_icmp .ge 6, 3) := by decide +kernel
theorem dX6_readThrough_69 : decode cX6_readThrough 69 = .ok (.goto 74, 3) := by decide +kernel
theorem dX6_readThrough_72 : decode cX6_readThrough 72 = .ok (.aload_n 0, 1) := by decide +kernel
theorem dX6_readThrough_73 : decode cX6_readThrough 73 = .ok (.iload_n 2, 1) := by decide +kernel
theorem dX6_readThrough_74 : decode cX6_readThrough 74 = .ok (.aload_n 3, 1) := by decide +kernel
theorem dX6_readThrough_75 : decode cX6_readThrough 75 = .ok (.getfield 48, 3) := by decide +kernel
theorem dX6_readThrough_78 : decode cX6_readThrough 78 = .ok (.invokevirtual 118, 3) := by decide +kernel
theorem dX6_readThrough_81 : decode cX6_readThrough 81 = .ok (.istore 4, 2) := by decide +kernel
theorem dX6_readThrough_83 : decode cX6_readThrough 83 = .ok (.iload 4, 2) := by decide +kernel
theorem dX6_readThrough_85 : decode cX6_readThrough 85 = .ok (.bipush (-9), 2) := by decide +kernel
theorem dX6_readThrough_87 : decode cX6_readThrough 87 = .ok (.if_icmp .eq 46, 3) := by decide +kernel
theorem dX6_readThrough_90 : decode cX6_readThrough 90 = .ok (.aload_n 0, 1) := by decide +kernel
theorem dX6_readThrough_91 : decode cX6_readThrough 91 = .ok (.aload_n 3, 1) := by decide +kernel
theorem dX6_readThrough_92 : decode cX6_readThrough 92 = .ok (.aload_n 0, 1) := by decide +kernel
theorem dX6_readThrough_93 : decode cX6_readThrough 93 = .ok (.getfield 11, 3) := by decide +kernel
theorem dX6_readThrough_96 : decode cX6_readThrough 96 = .ok (.iload 4, 2) := by decide +kernel
theorem dX6_readThrough_98 : decode cX6_readThrough 98 = .ok (.aaload, 1) := by decide +kernel
theorem dX6_readThrough_99 : decode cX6_readThrough 99 = .ok (.getfield 51, 3) := by decide +kernel
theorem dX6_readThrough_102 : decode cX6_readThrough 102 = .ok (.aload_n 1, 1) := by decide +kernel
theorem dX6_readThrough_103 : decode cX6_readThrough 103 = .ok (.invokevirtual 121, 3) := by decide +kernel
theorem dX6_readThrough_106 : decode cX6_readThrough 106 = .ok (.ifCond .eq 27, 3) := by decide +kernel
theorem dX6_readThrough_109 : decode cX6_readThrough 109 = .ok (.aload_n 0, 1) := by decide +kernel
theorem dX6_readThrough_110 : decode cX6_readThrough 110 = .ok (.getfield 11, 3) := by decide +kernel
theorem dX6_readThrough_113 : decode cX6_readThrough 113 = .ok (.iload 4, 2) := by decide +kernel
theorem dX6_readThrough_115 : decode cX6_readThrough 115 = .ok (.aaload, 1) := by decide +kernel
theorem dX6_readThrough_116 : decode cX6_readThrough 116 = .ok (.iconst 0, 1) := by decide +kernel
theorem dX6_readThrough_117 : decode cX6_readThrough 117 = .ok (.putfield 114, 3) := by decide +kernel
theorem dX6_readThrough_120 : decode cX6_readThrough 120 = .ok (.aload_n 0, 1) := by decide +kernel
theorem dX6_readThrough_121 : decode cX6_readThrough 121 = .ok (.dup, 1) := by decide +kernel
theorem dX6_readThrough_122 : decode cX6_readThrough 122 = .ok (.getfield 21, 3) := by decide +kernel
theorem dX6_readThrough_125 : decode cX6_readThrough 125 = .ok (.iconst 1, 1) := by decide +kernel
theorem dX6_readThrough_126 : decode cX6_readThrough 126 = .ok (.isub, 1) := by decide +kernel
theorem dX6_readThrough_127 : decode cX6_readThrough 127 = .ok (.putfield 21, 3) := by decide +kernel
theorem dX6_readThrough_130 : decode cX6_readThrough 130 = .ok (.goto 13, 3) := by decide +kernel
theorem dX6_readThrough_133 : decode cX6_readThrough 133 = .ok (.aload_n 0, 1) := by decide +kernel
theorem dX6_readThrough_134 : decode cX6_readThrough 134 = .ok (.dup, 1) := by decide +kernel
theorem dX6_readThrough_135 : decode cX6_readThrough 135 = .ok (.getfield 24, 3) := by decide +kernel
theorem dX6_readThrough_138 : decode cX6_readThrough 138 = .ok (.iconst 1, 1) := by decide +kernel
theorem dX6_readThrough_139 : decode cX6_readThrough 139 = .ok (.iadd, 1) := by decide +kernel
theorem dX6_readThrough_140 : decode cX6_readThrough 140 = .ok (.putfield 24, 3) := by decide +kernel
theorem dX6_readThrough_143 : decode cX6_readThrough 143 = .ok (.iinc 2 1, 3) := by decide +kernel
theorem dX6_readThrough_146 : decode cX6_readThrough 146 = .ok (.goto (-134), 3) := by decide +kernel
theorem dX6_readThrough_149 : decode cX6_readThrough 149 = .ok (.return_, 1) := by decide +kernel
theorem dX6_lastOpen_0 : decode cX6_lastOpen 0 = .ok (.iload_n 1, 1) := by decide +kernel
theorem dX6_lastOpen_1 : decode cX6_lastOpen 1 = .ok (.iconst 1, 1) := by decide +kernel
theorem dX6_lastOpen_2 : decode cX6_lastOpen 2 = .ok (.isub, 1) := by decide +kernel
theorem dX6_lastOpen_3 : decode cX6_lastOpen 3 = .ok (.istore_n 3, 1) := by decide +kernel
theorem dX6_lastOpen_4 : decode cX6_lastOpen 4 = .ok (.iload_n 3, 1) := by decide +kernel
theorem dX6_lastOpen_5 : decode cX6_lastOpen 5 = .ok (.ifCond .lt 36, 3) := by decide +kernel
theorem dX6_lastOpen_8 : decode cX6_lastOpen 8 = .ok (.aload_n 0, 1) := by decide +kernel
theorem dX6_lastOpen_9 : decode cX6_lastOpen 9 = .ok (.getfield 11, 3) := by decide +kernel
theorem dX6_lastOpen_12 : decode cX6_lastOpen 12 = .ok (.iload_n 3, 1) := by decide +kernel
theorem dX6_lastOpen_13 : decode cX6_lastOpen 13 = .ok (.aaload, 1) := by decide +kernel
theorem dX6_lastOpen_14 : decode cX6_lastOpen 14 = .ok (.getfield 114, 3) := by decide +kernel
theorem dX6_lastOpen_17 : decode cX6_lastOpen 17 = .ok (.ifCond .eq 18, 3) := by decide +kernel
theorem dX6_lastOpen_20 : decode cX6_lastOpen 20 = .ok (.aload_n 0, 1) := by decide +kernel
theorem dX6_lastOpen_21 : decode cX6_lastOpen 21 = .ok (.getfield 11, 3) := by decide +kernel
theorem dX6_lastOpen_24 : decode cX6_lastOpen 24 = .ok (.iload_n 3, 1) := by decide +kernel
theorem dX6_lastOpen_25 : decode cX6_lastOpen 25 = .ok (.aaload, 1) := by decide +kernel
theorem dX6_lastOpen_26 : decode cX6_lastOpen 26 = .ok (.getfield 48, 3) := by decide +kernel
theorem dX6_lastOpen_29 : decode cX6_lastOpen 29 = .ok (.iload_n 2, 1) := by decide +kernel
theorem dX6_lastOpen_30 : decode cX6_lastOpen 30 = .ok (.if_icmp .ne 5, 3) := by decide +kernel
theorem dX6_lastOpen_33 : decode cX6_lastOpen 33 = .ok (.iload_n 3, 1) := by decide +kernel
theorem dX6_lastOpen_34 : decode cX6_lastOpen 34 = .ok (.ireturn, 1) := by decide +kernel
theorem dX6_lastOpen_35 : decode cX6_lastOpen 35 = .ok (.iinc 3 (-1), 3) := by decide +kernel
theorem dX6_lastOpen_38 : decode cX6_lastOpen 38 = .ok (.goto (-34), 3) := by decide +kernel
theorem dX6_lastOpen_41 : decode cX6_lastOpen 41 = .ok (.bipush (-9), 2) := by decide +kernel
theorem dX6_lastOpen_43 : decode cX6_lastOpen 43 = .ok (.ireturn, 1) := by decide +kernel
theorem dX6_closes_0 : decode cX6_closes 0 = .ok (.aload_n 0, 1) := by decide +kernel
theorem dX6_closes_1 : decode cX6_closes 1 = .ok (.getfield 27, 3) := by decide +kernel
theorem dX6_closes_4 : decode cX6_closes 4 = .ok (.getfield 54, 3) := by decide +kernel
theorem dX6_closes_7 : decode cX6_closes 7 = .ok (.aload_n 1, 1) := by decide +kernel
theorem dX6_closes_8 : decode cX6_closes 8 = .ok (.getfield 48, 3) := by decide +kernel
theorem dX6_closes_11 : decode cX6_closes 11 = .ok (.aaload, 1) := by decide +kernel
theorem dX6_closes_12 : decode cX6_closes 12 = .ok (.astore 4, 2) := by decide +kernel
theorem dX6_closes_14 : decode cX6_closes 14 = .ok (.aload_n 0, 1) := by decide +kernel
theorem dX6_closes_15 : decode cX6_closes 15 = .ok (.getfield 27, 3) := by decide +kernel
theorem dX6_closes_18 : decode cX6_closes 18 = .ok (.getfield 54, 3) := by decide +kernel
theorem dX6_closes_21 : decode cX6_closes 21 = .ok (.iload_n 2, 1) := by decide +kernel
theorem dX6_closes_22 : decode cX6_closes 22 = .ok (.aaload, 1) := by decide +kernel
theorem dX6_closes_23 : decode cX6_closes 23 = .ok (.astore 5, 2) := by decide +kernel
theorem dX6_closes_25 : decode cX6_closes 25 = .ok (.aload_n 0, 1) := by decide +kernel
theorem dX6_closes_26 : decode cX6_closes 26 = .ok (.getfield 27, 3) := by decide +kernel
theorem dX6_closes_29 : decode cX6_closes 29 = .ok (.aload_n 1, 1) := by decide +kernel
theorem dX6_closes_30 : decode cX6_closes 30 = .ok (.getfield 48, 3) := by decide +kernel
theorem dX6_closes_33 : decode cX6_closes 33 = .ok (.invokevirtual 58, 3) := by decide +kernel
theorem dX6_closes_36 : decode cX6_closes 36 = .ok (.istore 6, 2) := by decide +kernel
theorem dX6_closes_38 : decode cX6_closes 38 = .ok (.aload_n 0, 1) := by decide +kernel
theorem dX6_closes_39 : decode cX6_closes 39 = .ok (.getfield 27, 3) := by decide +kernel
theorem dX6_closes_42 : decode cX6_closes 42 = .ok (.iload_n 2, 1) := by decide +kernel
theorem dX6_closes_43 : decode cX6_closes 43 = .ok (.invokevirtual 58, 3) := by decide +kernel
theorem dX6_closes_46 : decode cX6_closes 46 = .ok (.istore 7, 2) := by decide +kernel
theorem dX6_closes_48 : decode cX6_closes 48 = .ok (.aload_n 1, 1) := by decide +kernel
theorem dX6_closes_49 : decode cX6_closes 49 = .ok (.getfield 45, 3) := by decide +kernel
theorem dX6_closes_52 : decode cX6_closes 52 = .ok (.tableswitch 174 2 5 #[32, 54, 92, 118], 32) := by decide +kernel
theorem dX6_closes_84 : decode cX6_closes 84 = .ok (.iload 6, 2) := by decide +kernel
theorem dX6_closes_86 : decode cX6_closes 86 = .ok (.iload 7, 2) := by decide +kernel
theorem dX6_closes_88 : decode cX6_closes 88 = .ok (.ixor, 1) := by decide +kernel
theorem dX6_closes_89 : decode cX6_closes 89 = .ok (.aload_n 1, 1) := by decide +kernel
theorem dX6_closes_90 : decode cX6_closes 90 = .ok (.getfield 51, 3) := by decide +kernel
theorem dX6_closes_93 : decode cX6_closes 93 = .ok (.iushr, 1) := by decide +kernel
theorem dX6_closes_94 : decode cX6_closes 94 = .ok (.iconst 1, 1) := by decide +kernel
theorem dX6_closes_95 : decode cX6_closes 95 = .ok (.iand, 1) := by decide +kernel
theorem dX6_closes_96 : decode cX6_closes 96 = .ok (.iconst 1, 1) := by decide +kernel
theorem dX6_closes_97 : decode cX6_closes 97 = .ok (.if_icmp .ne 7, 3) := by decide +kernel
theorem dX6_closes_100 : decode cX6_closes 100 = .ok (.iconst 1, 1) := by decide +kernel
theorem dX6_closes_101 : decode cX6_closes 101 = .ok (.goto 4, 3) := by decide +kernel
theorem dX6_closes_104 : decode cX6_closes 104 = .ok (.iconst 0, 1) := by decide +kernel
theorem dX6_closes_105 : decode cX6_closes 105 = .ok (.ireturn, 1) := by decide +kernel
theorem dX6_closes_106 : decode cX6_closes 106 = .ok (.aload_n 0, 1) := by decide +kernel
theorem dX6_closes_107 : decode cX6_closes 107 = .ok (.getfield 27, 3) := by decide +kernel
theorem dX6_closes_110 : decode cX6_closes 110 = .ok (.getfield 67, 3) := by decide +kernel
theorem dX6_closes_113 : decode cX6_closes 113 = .ok (.aload_n 3, 1) := by decide +kernel
theorem dX6_closes_114 : decode cX6_closes 114 = .ok (.aload_n 1, 1) := by decide +kernel
theorem dX6_closes_115 : decode cX6_closes 115 = .ok (.getfield 51, 3) := by decide +kernel
theorem dX6_closes_118 : decode cX6_closes 118 = .ok (.aaload, 1) := by decide +kernel
theorem dX6_closes_119 : decode cX6_closes 119 = .ok (.getfield 71, 3) := by decide +kernel
theorem dX6_closes_122 : decode cX6_closes 122 = .ok (.getfield 77, 3) := by decide +kernel
theorem dX6_closes_125 : decode cX6_closes 125 = .ok (.iload 7, 2) := by decide +kernel
theorem dX6_closes_127 : decode cX6_closes 127 = .ok (.invokevirtual 82, 3) := by decide +kernel
theorem dX6_closes_130 : decode cX6_closes 130 = .ok (.aload 5, 2) := by decide +kernel
theorem dX6_closes_132 : decode cX6_closes 132 = .ok (.getfield 125, 3) := by decide +kernel
theorem dX6_closes_135 : decode cX6_closes 135 = .ok (.if_icmp .ne 7, 3) := by decide +kernel
theorem dX6_closes_138 : decode cX6_closes 138 = .ok (.iconst 1, 1) := by decide +kernel
theorem dX6_closes_139 : decode cX6_closes 139 = .ok (.goto 4, 3) := by decide +kernel
theorem dX6_closes_142 : decode cX6_closes 142 = .ok (.iconst 0, 1) := by decide +kernel
theorem dX6_closes_143 : decode cX6_closes 143 = .ok (.ireturn, 1) := by decide +kernel
theorem dX6_closes_144 : decode cX6_closes 144 = .ok (.aload_n 0, 1) := by decide +kernel
theorem dX6_closes_145 : decode cX6_closes 145 = .ok (.aload 4, 2) := by decide +kernel
theorem dX6_closes_147 : decode cX6_closes 147 = .ok (.iload 6, 2) := by decide +kernel
theorem dX6_closes_149 : decode cX6_closes 149 = .ok (.iconst 1, 1) := by decide +kernel
theorem dX6_closes_150 : decode cX6_closes 150 = .ok (.aload_n 1, 1) := by decide +kernel
theorem dX6_closes_151 : decode cX6_closes 151 = .ok (.getfield 51, 3) := by decide +kernel
theorem dX6_closes_154 : decode cX6_closes 154 = .ok (.ishl, 1) := by decide +kernel
theorem dX6_closes_155 : decode cX6_closes 155 = .ok (.ixor, 1) := by decide +kernel
theorem dX6_closes_156 : decode cX6_closes 156 = .ok (.aload_n 3, 1) := by decide +kernel
theorem dX6_closes_157 : decode cX6_closes 157 = .ok (.aload 5, 2) := by decide +kernel
theorem dX6_closes_159 : decode cX6_closes 159 = .ok (.getfield 88, 3) := by decide +kernel
theorem dX6_closes_162 : decode cX6_closes 162 = .ok (.aaload, 1) := by decide +kernel
theorem dX6_closes_163 : decode cX6_closes 163 = .ok (.getfield 71, 3) := by decide +kernel
theorem dX6_closes_166 : decode cX6_closes 166 = .ok (.invokevirtual 128, 3) := by decide +kernel
theorem dX6_closes_169 : decode cX6_closes 169 = .ok (.ireturn, 1) := by decide +kernel
theorem dX6_closes_170 : decode cX6_closes 170 = .ok (.aload 4, 2) := by decide +kernel
theorem dX6_closes_172 : decode cX6_closes 172 = .ok (.getfield 88, 3) := by decide +kernel
theorem dX6_closes_175 : decode cX6_closes 175 = .ok (.aload 5, 2) := by decide +kernel
theorem dX6_closes_177 : decode cX6_closes 177 = .ok (.getfield 88, 3) := by decide +kernel
theorem dX6_closes_180 : decode cX6_closes 180 = .ok (.if_icmp .ne 44, 3) := by decide +kernel
theorem dX6_closes_183 : decode cX6_closes 183 = .ok (.aload 4, 2) := by decide +kernel
theorem dX6_closes_185 : decode cX6_closes 185 = .ok (.getfield 111, 3) := by decide +kernel
theorem dX6_closes_188 : decode cX6_closes 188 = .ok (.aload_n 1, 1) := by decide +kernel
theorem dX6_closes_189 : decode cX6_closes 189 = .ok (.getfield 51, 3) := by decide +kernel
theorem dX6_closes_192 : decode cX6_closes 192 = .ok (.if_icmp .ge 7, 3) := by decide +kernel
theorem dX6_closes_195 : decode cX6_closes 195 = .ok (.iconst 1, 1) := by decide +kernel
theorem dX6_closes_196 : decode cX6_closes 196 = .ok (.goto 4, 3) := by decide +kernel
theorem dX6_closes_199 : decode cX6_closes 199 = .ok (.iconst 0, 1) := by decide +kernel
theorem dX6_closes_200 : decode cX6_closes 200 = .ok (.aload 5, 2) := by decide +kernel
theorem dX6_closes_202 : decode cX6_closes 202 = .ok (.getfield 111, 3) := by decide +kernel
theorem dX6_closes_205 : decode cX6_closes 205 = .ok (.aload_n 1, 1) := by decide +kernel
theorem dX6_closes_206 : decode cX6_closes 206 = .ok (.getfield 51, 3) := by decide +kernel
theorem dX6_closes_209 : decode cX6_closes 209 = .ok (.if_icmp .ge 7, 3) := by decide +kernel
theorem dX6_closes_212 : decode cX6_closes 212 = .ok (.iconst 1, 1) := by decide +kernel
theorem dX6_closes_213 : decode cX6_closes 213 = .ok (.goto 4, 3) := by decide +kernel
theorem dX6_closes_216 : decode cX6_closes 216 = .ok (.iconst 0, 1) := by decide +kernel
theorem dX6_closes_217 : decode cX6_closes 217 = .ok (.if_icmp .eq 7, 3) := by decide +kernel
theorem dX6_closes_220 : decode cX6_closes 220 = .ok (.iconst 1, 1) := by decide +kernel
theorem dX6_closes_221 : decode cX6_closes 221 = .ok (.goto 4, 3) := by decide +kernel
theorem dX6_closes_224 : decode cX6_closes 224 = .ok (.iconst 0, 1) := by decide +kernel
theorem dX6_closes_225 : decode cX6_closes 225 = .ok (.ireturn, 1) := by decide +kernel
theorem dX6_closes_226 : decode cX6_closes 226 = .ok (.iconst 1, 1) := by decide +kernel
theorem dX6_closes_227 : decode cX6_closes 227 = .ok (.ireturn, 1) := by decide +kernel
theorem dX6_fitsSomeCheap_0 : decode cX6_fitsSomeCheap 0 = .ok (.iconst 0, 1) := by decide +kernel
theorem dX6_fitsSomeCheap_1 : decode cX6_fitsSomeCheap 1 = .ok (.istore 4, 2) := by decide +kernel
theorem dX6_fitsSomeCheap_3 : decode cX6_fitsSomeCheap 3 = .ok (.iload 4, 2) := by decide +kernel
theorem dX6_fitsSomeCheap_5 : decode cX6_fitsSomeCheap 5 = .ok (.aload_n 3, 1) := by decide +kernel
theorem dX6_fitsSomeCheap_6 : decode cX6_fitsSomeCheap 6 = .ok (.getfield 132, 3) := by decide +kernel
theorem dX6_fitsSomeCheap_9 : decode cX6_fitsSomeCheap 9 = .ok (.if_icmp .ge 40, 3) := by decide +kernel
theorem dX6_fitsSomeCheap_12 : decode cX6_fitsSomeCheap 12 = .ok (.aload_n 0, 1) := by decide +kernel
theorem dX6_fitsSomeCheap_13 : decode cX6_fitsSomeCheap 13 = .ok (.getfield 27, 3) := by decide +kernel
theorem dX6_fitsSomeCheap_16 : decode cX6_fitsSomeCheap 16 = .ok (.getfield 67, 3) := by decide +kernel
theorem dX6_fitsSomeCheap_19 : decode cX6_fitsSomeCheap 19 = .ok (.aload_n 3, 1) := by decide +kernel
theorem dX6_fitsSomeCheap_20 : decode cX6_fitsSomeCheap 20 = .ok (.getfield 135, 3) := by decide +kernel
theorem dX6_fitsSomeCheap_23 : decode cX6_fitsSomeCheap 23 = .ok (.iload 4, 2) := by decide +kernel
theorem dX6_fitsSomeCheap_25 : decode cX6_fitsSomeCheap 25 = .ok (.iaload, 1) := by decide +kernel
theorem dX6_fitsSomeCheap_26 : decode cX6_fitsSomeCheap 26 = .ok (.iload_n 2, 1) := by decide +kernel
theorem dX6_fitsSomeCheap_27 : decode cX6_fitsSomeCheap 27 = .ok (.aload_n 1, 1) := by decide +kernel
theorem dX6_fitsSomeCheap_28 : decode cX6_fitsSomeCheap 28 = .ok (.getfield 125, 3) := by decide +kernel
theorem dX6_fitsSomeCheap_31 : decode cX6_fitsSomeCheap 31 = .ok (.aload_n 1, 1) := by decide +kernel
theorem dX6_fitsSomeCheap_32 : decode cX6_fitsSomeCheap 32 = .ok (.getfield 139, 3) := by decide +kernel
theorem dX6_fitsSomeCheap_35 : decode cX6_fitsSomeCheap 35 = .ok (.invokevirtual 142, 3) := by decide +kernel
theorem dX6_fitsSomeCheap_38 : decode cX6_fitsSomeCheap 38 = .ok (.ifCond .eq 5, 3) := by decide +kernel
theorem dX6_fitsSomeCheap_41 : decode cX6_fitsSomeCheap 41 = .ok (.iconst 1, 1) := by decide +kernel
theorem dX6_fitsSomeCheap_42 : decode cX6_fitsSomeCheap 42 = .ok (.ireturn, 1) := by decide +kernel
theorem dX6_fitsSomeCheap_43 : decode cX6_fitsSomeCheap 43 = .ok (.iinc 4 1, 3) := by decide +kernel
theorem dX6_fitsSomeCheap_46 : decode cX6_fitsSomeCheap 46 = .ok (.goto (-43), 3) := by decide +kernel
theorem dX6_fitsSomeCheap_49 : decode cX6_fitsSomeCheap 49 = .ok (.iconst 0, 1) := by decide +kernel
theorem dX6_fitsSomeCheap_50 : decode cX6_fitsSomeCheap 50 = .ok (.ireturn, 1) := by decide +kernel
theorem dX6_digestFrom_0 : decode cX6_digestFrom 0 = .ok (.lload_n 1, 1) := by decide +kernel
theorem dX6_digestFrom_1 : decode cX6_digestFrom 1 = .ok (.lstore_n 3, 1) := by decide +kernel
theorem dX6_digestFrom_2 : decode cX6_digestFrom 2 = .ok (.iconst 0, 1) := by decide +kernel
theorem dX6_digestFrom_3 : decode cX6_digestFrom 3 = .ok (.istore 5, 2) := by decide +kernel
theorem dX6_digestFrom_5 : decode cX6_digestFrom 5 = .ok (.iload 5, 2) := by decide +kernel
theorem dX6_digestFrom_7 : decode cX6_digestFrom 7 = .ok (.aload_n 0, 1) := by decide +kernel
theorem dX6_digestFrom_8 : decode cX6_digestFrom 8 = .ok (.getfield 17, 3) := by decide +kernel
theorem dX6_digestFrom_11 : decode cX6_digestFrom 11 = .ok (.if_icmp .ge 44, 3) := by decide +kernel
theorem dX6_digestFrom_14 : decode cX6_digestFrom 14 = .ok (.iconst 0, 1) := by decide +kernel
theorem dX6_digestFrom_15 : decode cX6_digestFrom 15 = .ok (.istore 6, 2) := by decide +kernel
theorem dX6_digestFrom_17 : decode cX6_digestFrom 17 = .ok (.iload 6, 2) := by decide +kernel
theorem dX6_digestFrom_19 : decode cX6_digestFrom 19 = .ok (.iconst 3, 1) := by decide +kernel
theorem dX6_digestFrom_20 : decode cX6_digestFrom 20 = .ok (.if_icmp .ge 29, 3) := by decide +kernel
theorem dX6_digestFrom_23 : decode cX6_digestFrom 23 = .ok (.ldc2_w 146, 3) := by decide +kernel
theorem dX6_digestFrom_26 : decode cX6_digestFrom 26 = .ok (.lload_n 3, 1) := by decide +kernel
theorem dX6_digestFrom_27 : decode cX6_digestFrom 27 = .ok (.lmul, 1) := by decide +kernel
theorem dX6_digestFrom_28 : decode cX6_digestFrom 28 = .ok (.aload_n 0, 1) := by decide +kernel
theorem dX6_digestFrom_29 : decode cX6_digestFrom 29 = .ok (.getfield 11, 3) := by decide +kernel
theorem dX6_digestFrom_32 : decode cX6_digestFrom 32 = .ok (.iload 5, 2) := by decide +kernel
theorem dX6_digestFrom_34 : decode cX6_digestFrom 34 = .ok (.aaload, 1) := by decide +kernel
theorem dX6_digestFrom_35 : decode cX6_digestFrom 35 = .ok (.iload 6, 2) := by decide +kernel
theorem dX6_digestFrom_37 : decode cX6_digestFrom 37 = .ok (.invokevirtual 148, 3) := by decide +kernel
theorem dX6_digestFrom_40 : decode cX6_digestFrom 40 = .ok (.i2l, 1) := by decide +kernel
theorem dX6_digestFrom_41 : decode cX6_digestFrom 41 = .ok (.ladd, 1) := by decide +kernel
theorem dX6_digestFrom_42 : decode cX6_digestFrom 42 = .ok (.lstore_n 3, 1) := by decide +kernel
theorem dX6_digestFrom_43 : decode cX6_digestFrom 43 = .ok (.iinc 6 1, 3) := by decide +kernel
theorem dX6_digestFrom_46 : decode cX6_digestFrom 46 = .ok (.goto (-29), 3) := by decide +kernel
theorem dX6_digestFrom_49 : decode cX6_digestFrom 49 = .ok (.iinc 5 1, 3) := by decide +kernel
theorem dX6_digestFrom_52 : decode cX6_digestFrom 52 = .ok (.goto (-47), 3) := by decide +kernel
theorem dX6_digestFrom_55 : decode cX6_digestFrom 55 = .ok (.lload_n 3, 1) := by decide +kernel
theorem dX6_digestFrom_56 : decode cX6_digestFrom 56 = .ok (.lreturn, 1) := by decide +kernel
theorem dX7_init_0 : decode cX7_init 0 = .ok (.aload_n 0, 1) := by decide +kernel
theorem dX7_init_1 : decode cX7_init 1 = .ok (.invokespecial 3, 3) := by decide +kernel
theorem dX7_init_4 : decode cX7_init 4 = .ok (.aload_n 0, 1) := by decide +kernel
theorem dX7_init_5 : decode cX7_init 5 = .ok (.bipush 40, 2) := by decide +kernel
theorem dX7_init_7 : decode cX7_init 7 = .ok (.newarray .int, 2) := by decide +kernel
theorem dX7_init_9 : decode cX7_init 9 = .ok (.putfield 9, 3) := by decide +kernel
theorem dX7_init_12 : decode cX7_init 12 = .ok (.aload_n 0, 1) := by decide +kernel
theorem dX7_init_13 : decode cX7_init 13 = .ok (.iconst (-1), 1) := by decide +kernel
theorem dX7_init_14 : decode cX7_init 14 = .ok (.putfield 15, 3) := by decide +kernel
theorem dX7_init_17 : decode cX7_init 17 = .ok (.return_, 1) := by decide +kernel
theorem dX7_renew_0 : decode cX7_renew 0 = .ok (.aload_n 0, 1) := by decide +kernel
theorem dX7_renew_1 : decode cX7_renew 1 = .ok (.getfield 9, 3) := by decide +kernel
theorem dX7_renew_4 : decode cX7_renew 4 = .ok (.iconst 0, 1) := by decide +kernel
theorem dX7_renew_5 : decode cX7_renew 5 = .ok (.invokestatic 19, 3) := by decide +kernel
theorem dX7_renew_8 : decode cX7_renew 8 = .ok (.aload_n 0, 1) := by decide +kernel
theorem dX7_renew_9 : decode cX7_renew 9 = .ok (.iload_n 1, 1) := by decide +kernel
theorem dX7_renew_10 : decode cX7_renew 10 = .ok (.putfield 15, 3) := by decide +kernel
theorem dX7_renew_13 : decode cX7_renew 13 = .ok (.return_, 1) := by decide +kernel
theorem dX7_hasPlaces_0 : decode cX7_hasPlaces 0 = .ok (.iload_n 1, 1) := by decide +kernel
theorem dX7_hasPlaces_1 : decode cX7_hasPlaces 1 = .ok (.ifCond .lt 17, 3) := by decide +kernel
theorem dX7_hasPlaces_4 : decode cX7_hasPlaces 4 = .ok (.iload_n 1, 1) := by decide +kernel
theorem dX7_hasPlaces_5 : decode cX7_hasPlaces 5 = .ok (.aload_n 0, 1) := by decide +kernel
theorem dX7_hasPlaces_6 : decode cX7_hasPlaces 6 = .ok (.getfield 15, 3) := by decide +kernel
theorem dX7_hasPlaces_9 : decode cX7_hasPlaces 9 = .ok (.iload_n 2, 1) := by decide +kernel
theorem dX7_hasPlaces_10 : decode cX7_hasPlaces 10 = .ok (.isub, 1) := by decide +kernel
theorem dX7_hasPlaces_11 : decode cX7_hasPlaces 11 = .ok (.if_icmp .gt 7, 3) := by decide +kernel
theorem dX7_hasPlaces_14 : decode cX7_hasPlaces 14 = .ok (.iconst 1, 1) := by decide +kernel
theorem dX7_hasPlaces_15 : decode cX7_hasPlaces 15 = .ok (.goto 4, 3) := by decide +kernel
theorem dX7_hasPlaces_18 : decode cX7_hasPlaces 18 = .ok (.iconst 0, 1) := by decide +kernel
theorem dX7_hasPlaces_19 : decode cX7_hasPlaces 19 = .ok (.ireturn, 1) := by decide +kernel
theorem dX7_sum_0 : decode cX7_sum 0 = .ok (.lconst 0, 1) := by decide +kernel
theorem dX7_sum_1 : decode cX7_sum 1 = .ok (.lstore_n 1, 1) := by decide +kernel
theorem dX7_sum_2 : decode cX7_sum 2 = .ok (.iconst 0, 1) := by decide +kernel
theorem dX7_sum_3 : decode cX7_sum 3 = .ok (.istore_n 3, 1) := by decide +kernel
theorem dX7_sum_4 : decode cX7_sum 4 = .ok (.iload_n 3, 1) := by decide +kernel
theorem dX7_sum_5 : decode cX7_sum 5 = .ok (.aload_n 0, 1) := by decide +kernel
theorem dX7_sum_6 : decode cX7_sum 6 = .ok (.getfield 15, 3) := by decide +kernel
theorem dX7_sum_9 : decode cX7_sum 9 = .ok (.if_icmp .ge 19, 3) := by decide +kernel
theorem dX7_sum_12 : decode cX7_sum 12 = .ok (.lload_n 1, 1) := by decide +kernel
theorem dX7_sum_13 : decode cX7_sum 13 = .ok (.aload_n 0, 1) := by decide +kernel
theorem dX7_sum_14 : decode cX7_sum 14 = .ok (.getfield 9, 3) := by decide +kernel
theorem dX7_sum_17 : decode cX7_sum 17 = .ok (.iload_n 3, 1) := by decide +kernel
theorem dX7_sum_18 : decode cX7_sum 18 = .ok (.iaload, 1) := by decide +kernel
theorem dX7_sum_19 : decode cX7_sum 19 = .ok (.i2l, 1) := by decide +kernel
theorem dX7_sum_20 : decode cX7_sum 20 = .ok (.ladd, 1) := by decide +kernel
theorem dX7_sum_21 : decode cX7_sum 21 = .ok (.lstore_n 1, 1) := by decide +kernel
theorem dX7_sum_22 : decode cX7_sum 22 = .ok (.iinc 3 1, 3) := by decide +kernel
theorem dX7_sum_25 : decode cX7_sum 25 = .ok (.goto (-21), 3) := by decide +kernel
theorem dX7_sum_28 : decode cX7_sum 28 = .ok (.lload_n 1, 1) := by decide +kernel
theorem dX7_sum_29 : decode cX7_sum 29 = .ok (.lreturn, 1) := by decide +kernel
theorem dX7_digestFrom_0 : decode cX7_digestFrom 0 = .ok (.ldc2_w 25, 3) := by decide +kernel
theorem dX7_digestFrom_3 : decode cX7_digestFrom 3 = .ok (.lload_n 1, 1) := by decide +kernel
theorem dX7_digestFrom_4 : decode cX7_digestFrom 4 = .ok (.lmul, 1) := by decide +kernel
theorem dX7_digestFrom_5 : decode cX7_digestFrom 5 = .ok (.aload_n 0, 1) := by decide +kernel
theorem dX7_digestFrom_6 : decode cX7_digestFrom 6 = .ok (.getfield 15, 3) := by decide +kernel
theorem dX7_digestFrom_9 : decode cX7_digestFrom 9 = .ok (.i2l, 1) := by decide +kernel
theorem dX7_digestFrom_10 : decode cX7_digestFrom 10 = .ok (.ladd, 1) := by decide +kernel
theorem dX7_digestFrom_11 : decode cX7_digestFrom 11 = .ok (.lstore_n 3, 1) := by decide +kernel
theorem dX7_digestFrom_12 : decode cX7_digestFrom 12 = .ok (.iconst 0, 1) := by decide +kernel
theorem dX7_digestFrom_13 : decode cX7_digestFrom 13 = .ok (.istore 5, 2) := by decide +kernel
theorem dX7_digestFrom_15 : decode cX7_digestFrom 15 = .ok (.iload 5, 2) := by decide +kernel
theorem dX7_digestFrom_17 : decode cX7_digestFrom 17 = .ok (.aload_n 0, 1) := by decide +kernel
theorem dX7_digestFrom_18 : decode cX7_digestFrom 18 = .ok (.getfield 15, 3) := by decide +kernel
theorem dX7_digestFrom_21 : decode cX7_digestFrom 21 = .ok (.if_icmp .ge 24, 3) := by decide +kernel
theorem dX7_digestFrom_24 : decode cX7_digestFrom 24 = .ok (.ldc2_w 25, 3) := by decide +kernel
theorem dX7_digestFrom_27 : decode cX7_digestFrom 27 = .ok (.lload_n 3, 1) := by decide +kernel
theorem dX7_digestFrom_28 : decode cX7_digestFrom 28 = .ok (.lmul, 1) := by decide +kernel
theorem dX7_digestFrom_29 : decode cX7_digestFrom 29 = .ok (.aload_n 0, 1) := by decide +kernel
theorem dX7_digestFrom_30 : decode cX7_digestFrom 30 = .ok (.getfield 9, 3) := by decide +kernel
theorem dX7_digestFrom_33 : decode cX7_digestFrom 33 = .ok (.iload 5, 2) := by decide +kernel
theorem dX7_digestFrom_35 : decode cX7_digestFrom 35 = .ok (.iaload, 1) := by decide +kernel
theorem dX7_digestFrom_36 : decode cX7_digestFrom 36 = .ok (.i2l, 1) := by decide +kernel
theorem dX7_digestFrom_37 : decode cX7_digestFrom 37 = .ok (.ladd, 1) := by decide +kernel
theorem dX7_digestFrom_38 : decode cX7_digestFrom 38 = .ok (.lstore_n 3, 1) := by decide +kernel
theorem dX7_digestFrom_39 : decode cX7_digestFrom 39 = .ok (.iinc 5 1, 3) := by decide +kernel
theorem dX7_digestFrom_42 : decode cX7_digestFrom 42 = .ok (.goto (-27), 3) := by decide +kernel
theorem dX7_digestFrom_45 : decode cX7_digestFrom 45 = .ok (.lload_n 3, 1) := by decide +kernel
theorem dX7_digestFrom_46 : decode cX7_digestFrom 46 = .ok (.lreturn, 1) := by decide +kernel
theorem dX8_init_0 : decode cX8_init 0 = .ok (.aload_n 0, 1) := by decide +kernel
theorem dX8_init_1 : decode cX8_init 1 = .ok (.invokespecial 3, 3) := by decide +kernel
theorem dX8_init_4 : decode cX8_init 4 = .ok (.aload_n 0, 1) := by decide +kernel
theorem dX8_init_5 : decode cX8_init 5 = .ok (.sipush 244, 3) := by decide +kernel
theorem dX8_init_8 : decode cX8_init 8 = .ok (.newarray .int, 2) := by decide +kernel
theorem dX8_init_10 : decode cX8_init 10 = .ok (.putfield 9, 3) := by decide +kernel
theorem dX8_init_13 : decode cX8_init 13 = .ok (.aload_n 0, 1) := by decide +kernel
theorem dX8_init_14 : decode cX8_init 14 = .ok (.sipush 244, 3) := by decide +kernel
theorem dX8_init_17 : decode cX8_init 17 = .ok (.newarray .int, 2) := by decide +kernel
theorem dX8_init_19 : decode cX8_init 19 = .ok (.putfield 15, 3) := by decide +kernel
theorem dX8_init_22 : decode cX8_init 22 = .ok (.iconst 0, 1) := by decide +kernel
theorem dX8_init_23 : decode cX8_init 23 = .ok (.istore_n 1, 1) := by decide +kernel
theorem dX8_init_24 : decode cX8_init 24 = .ok (.iload_n 1, 1) := by decide +kernel
theorem dX8_init_25 : decode cX8_init 25 = .ok (.sipush 243, 3) := by decide +kernel
theorem dX8_init_28 : decode cX8_init 28 = .ok (.if_icmp .ge 87, 3) := by decide +kernel
theorem dX8_init_31 : decode cX8_init 31 = .ok (.aload_n 0, 1) := by decide +kernel
theorem dX8_init_32 : decode cX8_init 32 = .ok (.getfield 9, 3) := by decide +kernel
theorem dX8_init_35 : decode cX8_init 35 = .ok (.iload_n 1, 1) := by decide +kernel
theorem dX8_init_36 : decode cX8_init 36 = .ok (.iconst (-1), 1) := by decide +kernel
theorem dX8_init_37 : decode cX8_init 37 = .ok (.iastore, 1) := by decide +kernel
theorem dX8_init_38 : decode cX8_init 38 = .ok (.iconst 0, 1) := by decide +kernel
theorem dX8_init_39 : decode cX8_init 39 = .ok (.istore_n 2, 1) := by decide +kernel
theorem dX8_init_40 : decode cX8_init 40 = .ok (.iload_n 2, 1) := by decide +kernel
theorem dX8_init_41 : decode cX8_init 41 = .ok (.iconst 5, 1) := by decide +kernel
theorem dX8_init_42 : decode cX8_init 42 = .ok (.if_icmp .ge 67, 3) := by decide +kernel
theorem dX8_init_45 : decode cX8_init 45 = .ok (.iload_n 1, 1) := by decide +kernel
theorem dX8_init_46 : decode cX8_init 46 = .ok (.getstatic 18, 3) := by decide +kernel
theorem dX8_init_49 : decode cX8_init 49 = .ok (.iload_n 2, 1) := by decide +kernel
theorem dX8_init_50 : decode cX8_init 50 = .ok (.iaload, 1) := by decide +kernel
theorem dX8_init_51 : decode cX8_init 51 = .ok (.idiv, 1) := by decide +kernel
theorem dX8_init_52 : decode cX8_init 52 = .ok (.iconst 3, 1) := by decide +kernel
theorem dX8_init_53 : decode cX8_init 53 = .ok (.irem, 1) := by decide +kernel
theorem dX8_init_54 : decode cX8_init 54 = .ok (.istore_n 3, 1) := by decide +kernel
theorem dX8_init_55 : decode cX8_init 55 = .ok (.iload_n 3, 1) := by decide +kernel
theorem dX8_init_56 : decode cX8_init 56 = .ok (.ifCond .ne 6, 3) := by decide +kernel
theorem dX8_init_59 : decode cX8_init 59 = .ok (.goto 44, 3) := by decide +kernel
theorem dX8_init_62 : decode cX8_init 62 = .ok (.aload_n 0, 1) := by decide +kernel
theorem dX8_init_63 : decode cX8_init 63 = .ok (.getfield 9, 3) := by decide +kernel
theorem dX8_init_66 : decode cX8_init 66 = .ok (.iload_n 1, 1) := by decide +kernel
theorem dX8_init_67 : decode cX8_init 67 = .ok (.dup2, 1) := by decide +kernel
theorem dX8_init_68 : decode cX8_init 68 = .ok (.iaload, 1) := by decide +kernel
theorem dX8_init_69 : decode cX8_init 69 = .ok (.iload_n 3, 1) := by decide +kernel
theorem dX8_init_70 : decode cX8_init 70 = .ok (.iconst 1, 1) := by decide +kernel
theorem dX8_init_71 : decode cX8_init 71 = .ok (.if_icmp .ne 11, 3) := by decide +kernel
theorem dX8_init_74 : decode cX8_init 74 = .ok (.getstatic 21, 3) := by decide +kernel
theorem dX8_init_77 : decode cX8_init 77 = .ok (.iload_n 2, 1) := by decide +kernel
theorem dX8_init_78 : decode cX8_init 78 = .ok (.iaload, 1) := by decide +kernel
theorem dX8_init_79 : decode cX8_init 79 = .ok (.goto 10, 3) := by decide +kernel
theorem dX8_init_82 : decode cX8_init 82 = .ok (.getstatic 21, 3) := by decide +kernel
theorem dX8_init_85 : decode cX8_init 85 = .ok (.iload_n 2, 1) := by decide +kernel
theorem dX8_init_86 : decode cX8_init 86 = .ok (.iaload, 1) := by decide +kernel
theorem dX8_init_87 : decode cX8_init 87 = .ok (.iconst (-1), 1) := by decide +kernel
theorem dX8_init_88 : decode cX8_init 88 = .ok (.ixor, 1) := by decide +kernel
theorem dX8_init_89 : decode cX8_init 89 = .ok (.iand, 1) := by decide +kernel
theorem dX8_init_90 : decode cX8_init 90 = .ok (.iastore, 1) := by decide +kernel
theorem dX8_init_91 : decode cX8_init 91 = .ok (.aload_n 0, 1) := by decide +kernel
theorem dX8_init_92 : decode cX8_init 92 = .ok (.getfield 15, 3) := by decide +kernel
theorem dX8_init_95 : decode cX8_init 95 = .ok (.iload_n 1, 1) := by decide +kernel
theorem dX8_init_96 : decode cX8_init 96 = .ok (.dup2, 1) := by decide +kernel
theorem dX8_init_97 : decode cX8_init 97 = .ok (.iaload, 1) := by decide +kernel
theorem dX8_init_98 : decode cX8_init 98 = .ok (.iconst 1, 1) := by decide +kernel
theorem dX8_init_99 : decode cX8_init 99 = .ok (.iload_n 2, 1) := by decide +kernel
theorem dX8_init_100 : decode cX8_init 100 = .ok (.ishl, 1) := by decide +kernel
theorem dX8_init_101 : decode cX8_init 101 = .ok (.ior, 1) := by decide +kernel
theorem dX8_init_102 : decode cX8_init 102 = .ok (.iastore, 1) := by decide +kernel
theorem dX8_init_103 : decode cX8_init 103 = .ok (.iinc 2 1, 3) := by decide +kernel
theorem dX8_init_106 : decode cX8_init 106 = .ok (.goto (-66), 3) := by decide +kernel
theorem dX8_init_109 : decode cX8_init 109 = .ok (.iinc 1 1, 3) := by decide +kernel
theorem dX8_init_112 : decode cX8_init 112 = .ok (.goto (-88), 3) := by decide +kernel
theorem dX8_init_115 : decode cX8_init 115 = .ok (.return_, 1) := by decide +kernel
theorem dX8_verdict_0 : decode cX8_verdict 0 = .ok (.aload_n 0, 1) := by decide +kernel
theorem dX8_verdict_1 : decode cX8_verdict 1 = .ok (.getfield 9, 3) := by decide +kernel
theorem dX8_verdict_4 : decode cX8_verdict 4 = .ok (.iload_n 1, 1) := by decide +kernel
theorem dX8_verdict_5 : decode cX8_verdict 5 = .ok (.iaload, 1) := by decide +kernel
theorem dX8_verdict_6 : decode cX8_verdict 6 = .ok (.iload_n 2, 1) := by decide +kernel
theorem dX8_verdict_7 : decode cX8_verdict 7 = .ok (.iushr, 1) := by decide +kernel
theorem dX8_verdict_8 : decode cX8_verdict 8 = .ok (.iconst 1, 1) := by decide +kernel
theorem dX8_verdict_9 : decode cX8_verdict 9 = .ok (.iand, 1) := by decide +kernel
theorem dX8_verdict_10 : decode cX8_verdict 10 = .ok (.ireturn, 1) := by decide +kernel
theorem dX8_looksAt_0 : decode cX8_looksAt 0 = .ok (.iload_n 2, 1) := by decide +kernel
theorem dX8_looksAt_1 : decode cX8_looksAt 1 = .ok (.bipush (-9), 2) := by decide +kernel
theorem dX8_looksAt_3 : decode cX8_looksAt 3 = .ok (.if_icmp .eq 17, 3) := by decide +kernel
theorem dX8_looksAt_6 : decode cX8_looksAt 6 = .ok (.aload_n 0, 1) := by decide +kernel
theorem dX8_looksAt_7 : decode cX8_looksAt 7 = .ok (.getfield 15, 3) := by decide +kernel
theorem dX8_looksAt_10 : decode cX8_looksAt 10 = .ok (.iload_n 1, 1) := by decide +kernel
theorem dX8_looksAt_11 : decode cX8_looksAt 11 = .ok (.iaload, 1) := by decide +kernel
theorem dX8_looksAt_12 : decode cX8_looksAt 12 = .ok (.iload_n 2, 1) := by decide +kernel
theorem dX8_looksAt_13 : decode cX8_looksAt 13 = .ok (.iushr, 1) := by decide +kernel
theorem dX8_looksAt_14 : decode cX8_looksAt 14 = .ok (.iconst 1, 1) := by decide +kernel
theorem dX8_looksAt_15 : decode cX8_looksAt 15 = .ok (.iand, 1) := by decide +kernel
theorem dX8_looksAt_16 : decode cX8_looksAt 16 = .ok (.iconst 1, 1) := by decide +kernel
theorem dX8_looksAt_17 : decode cX8_looksAt 17 = .ok (.if_icmp .ne 7, 3) := by decide +kernel
theorem dX8_looksAt_20 : decode cX8_looksAt 20 = .ok (.iconst 1, 1) := by decide +kernel
theorem dX8_looksAt_21 : decode cX8_looksAt 21 = .ok (.goto 4, 3) := by decide +kernel
theorem dX8_looksAt_24 : decode cX8_looksAt 24 = .ok (.iconst 0, 1) := by decide +kernel
theorem dX8_looksAt_25 : decode cX8_looksAt 25 = .ok (.ireturn, 1) := by decide +kernel
theorem dX8_fitting_0 : decode cX8_fitting 0 = .ok (.aload_n 0, 1) := by decide +kernel
theorem dX8_fitting_1 : decode cX8_fitting 1 = .ok (.iload_n 1, 1) := by decide +kernel
theorem dX8_fitting_2 : decode cX8_fitting 2 = .ok (.iload_n 2, 1) := by decide +kernel
theorem dX8_fitting_3 : decode cX8_fitting 3 = .ok (.invokevirtual 24, 3) := by decide +kernel
theorem dX8_fitting_6 : decode cX8_fitting 6 = .ok (.iload_n 3, 1) := by decide +kernel
theorem dX8_fitting_7 : decode cX8_fitting 7 = .ok (.if_icmp .ne 17, 3) := by decide +kernel
theorem dX8_fitting_10 : decode cX8_fitting 10 = .ok (.aload_n 0, 1) := by decide +kernel
theorem dX8_fitting_11 : decode cX8_fitting 11 = .ok (.iload_n 1, 1) := by decide +kernel
theorem dX8_fitting_12 : decode cX8_fitting 12 = .ok (.iload 4, 2) := by decide +kernel
theorem dX8_fitting_14 : decode cX8_fitting 14 = .ok (.invokevirtual 28, 3) := by decide +kernel
theorem dX8_fitting_17 : decode cX8_fitting 17 = .ok (.ifCond .eq 7, 3) := by decide +kernel
theorem dX8_fitting_20 : decode cX8_fitting 20 = .ok (.iconst 1, 1) := by decide +kernel
theorem dX8_fitting_21 : decode cX8_fitting 21 = .ok (.goto 4, 3) := by decide +kernel
theorem dX8_fitting_24 : decode cX8_fitting 24 = .ok (.iconst 0, 1) := by decide +kernel
theorem dX8_fitting_25 : decode cX8_fitting 25 = .ok (.ireturn, 1) := by decide +kernel
theorem dX8_strain_0 : decode cX8_strain 0 = .ok (.aload_n 0, 1) := by decide +kernel
theorem dX8_strain_1 : decode cX8_strain 1 = .ok (.iload_n 1, 1) := by decide +kernel
theorem dX8_strain_2 : decode cX8_strain 2 = .ok (.iload 4, 2) := by decide +kernel
theorem dX8_strain_4 : decode cX8_strain 4 = .ok (.invokevirtual 28, 3) := by decide +kernel
theorem dX8_strain_7 : decode cX8_strain 7 = .ok (.ifCond .ne 7, 3) := by decide +kernel
theorem dX8_strain_10 : decode cX8_strain 10 = .ok (.sipush 513, 3) := by decide +kernel
theorem dX8_strain_13 : decode cX8_strain 13 = .ok (.ireturn, 1) := by decide +kernel
theorem dX8_strain_14 : decode cX8_strain 14 = .ok (.aload_n 0, 1) := by decide +kernel
theorem dX8_strain_15 : decode cX8_strain 15 = .ok (.iload_n 1, 1) := by decide +kernel
theorem dX8_strain_16 : decode cX8_strain 16 = .ok (.iload_n 2, 1) := by decide +kernel
theorem dX8_strain_17 : decode cX8_strain 17 = .ok (.invokevirtual 24, 3) := by decide +kernel
theorem dX8_strain_20 : decode cX8_strain 20 = .ok (.iload_n 3, 1) := by decide +kernel
theorem dX8_strain_21 : decode cX8_strain 21 = .ok (.if_icmp .ne 5, 3) := by decide +kernel
theorem dX8_strain_24 : decode cX8_strain 24 = .ok (.iconst 0, 1) := by decide +kernel
theorem dX8_strain_25 : decode cX8_strain 25 = .ok (.ireturn, 1) := by decide +kernel
theorem dX8_strain_26 : decode cX8_strain 26 = .ok (.iconst 0, 1) := by decide +kernel
theorem dX8_strain_27 : decode cX8_strain 27 = .ok (.istore 5, 2) := by decide +kernel
theorem dX8_strain_29 : decode cX8_strain 29 = .ok (.iload 5, 2) := by decide +kernel
theorem dX8_strain_31 : decode cX8_strain 31 = .ok (.iconst 5, 1) := by decide +kernel
theorem dX8_strain_32 : decode cX8_strain 32 = .ok (.if_icmp .ge 26, 3) := by decide +kernel
theorem dX8_strain_35 : decode cX8_strain 35 = .ok (.aload_n 0, 1) := by decide +kernel
theorem dX8_strain_36 : decode cX8_strain 36 = .ok (.iload_n 1, 1) := by decide +kernel
theorem dX8_strain_37 : decode cX8_strain 37 = .ok (.iload_n 2, 1) := by decide +kernel
theorem dX8_strain_38 : decode cX8_strain 38 = .ok (.iconst 1, 1) := by decide +kernel
theorem dX8_strain_39 : decode cX8_strain 39 = .ok (.iload 5, 2) := by decide +kernel
theorem dX8_strain_41 : decode cX8_strain 41 = .ok (.ishl, 1) := by decide +kernel
theorem dX8_strain_42 : decode cX8_strain 42 = .ok (.ixor, 1) := by decide +kernel
theorem dX8_strain_43 : decode cX8_strain 43 = .ok (.invokevirtual 24, 3) := by decide +kernel
theorem dX8_strain_46 : decode cX8_strain 46 = .ok (.iload_n 3, 1) := by decide +kernel
theorem dX8_strain_47 : decode cX8_strain 47 = .ok (.if_icmp .ne 5, 3) := by decide +kernel
theorem dX8_strain_50 : decode cX8_strain 50 = .ok (.iconst 1, 1) := by decide +kernel
theorem dX8_strain_51 : decode cX8_strain 51 = .ok (.ireturn, 1) := by decide +kernel
theorem dX8_strain_52 : decode cX8_strain 52 = .ok (.iinc 5 1, 3) := by decide +kernel
theorem dX8_strain_55 : decode cX8_strain 55 = .ok (.goto (-26), 3) := by decide +kernel
theorem dX8_strain_58 : decode cX8_strain 58 = .ok (.sipush 513, 3) := by decide +kernel
theorem dX8_strain_61 : decode cX8_strain 61 = .ok (.ireturn, 1) := by decide +kernel
theorem dX9_init_0 : decode cX9_init 0 = .ok (.aload_n 0, 1) := by decide +kernel
theorem dX9_init_1 : decode cX9_init 1 = .ok (.invokespecial 3, 3) := by decide +kernel
theorem dX9_init_4 : decode cX9_init 4 = .ok (.aload_n 0, 1) := by decide +kernel
theorem dX9_init_5 : decode cX9_init 5 = .ok (.iconst 0, 1) := by decide +kernel
theorem dX9_init_6 : decode cX9_init 6 = .ok (.putfield 9, 3) := by decide +kernel
theorem dX9_init_9 : decode cX9_init 9 = .ok (.aload_n 0, 1) := by decide +kernel
theorem dX9_init_10 : decode cX9_init 10 = .ok (.iconst 0, 1) := by decide +kernel
theorem dX9_init_11 : decode cX9_init 11 = .ok (.putfield 15, 3) := by decide +kernel
theorem dX9_init_14 : decode cX9_init 14 = .ok (.aload_n 0, 1) := by decide +kernel
theorem dX9_init_15 : decode cX9_init 15 = .ok (.iconst 0, 1) := by decide +kernel
theorem dX9_init_16 : decode cX9_init 16 = .ok (.putfield 18, 3) := by decide +kernel
theorem dX9_init_19 : decode cX9_init 19 = .ok (.aload_n 0, 1) := by decide +kernel
theorem dX9_init_20 : decode cX9_init 20 = .ok (.iconst 0, 1) := by decide +kernel
theorem dX9_init_21 : decode cX9_init 21 = .ok (.putfield 21, 3) := by decide +kernel
theorem dX9_init_24 : decode cX9_init 24 = .ok (.aload_n 0, 1) := by decide +kernel
theorem dX9_init_25 : decode cX9_init 25 = .ok (.bipush (-9), 2) := by decide +kernel
theorem dX9_init_27 : decode cX9_init 27 = .ok (.putfield 24, 3) := by decide +kernel
theorem dX9_init_30 : decode cX9_init 30 = .ok (.aload_n 0, 1) := by decide +kernel
theorem dX9_init_31 : decode cX9_init 31 = .ok (.iconst 5, 1) := by decide +kernel
theorem dX9_init_32 : decode cX9_init 32 = .ok (.newarray .int, 2) := by decide +kernel
theorem dX9_init_34 : decode cX9_init 34 = .ok (.putfield 27, 3) := by decide +kernel
theorem dX9_init_37 : decode cX9_init 37 = .ok (.aload_n 0, 1) := by decide +kernel
theorem dX9_init_38 : decode cX9_init 38 = .ok (.getfield 27, 3) := by decide +kernel
theorem dX9_init_41 : decode cX9_init 41 = .ok (.bipush (-9), 2) := by decide +kernel
theorem dX9_init_43 : decode cX9_init 43 = .ok (.invokestatic 31, 3) := by decide +kernel
theorem dX9_init_46 : decode cX9_init 46 = .ok (.return_, 1) := by decide +kernel
theorem dX9_figure_0 : decode cX9_figure 0 = .ok (.iload_n 1, 1) := by decide +kernel
theorem dX9_figure_1 : decode cX9_figure 1 = .ok (.tableswitch 51 0 3 #[31, 36, 41, 46], 31) := by decide +kernel
theorem dX9_figure_32 : decode cX9_figure 32 = .ok (.aload_n 0, 1) := by decide +kernel
theorem dX9_figure_33 : decode cX9_figure 33 = .ok (.getfield 9, 3) := by decide +kernel
theorem dX9_figure_36 : decode cX9_figure 36 = .ok (.ireturn, 1) := by decide +kernel
theorem dX9_figure_37 : decode cX9_figure 37 = .ok (.aload_n 0, 1) := by decide +kernel
theorem dX9_figure_38 : decode cX9_figure 38 = .ok (.getfield 15, 3) := by decide +kernel
theorem dX9_figure_41 : decode cX9_figure 41 = .ok (.ireturn, 1) := by decide +kernel
theorem dX9_figure_42 : decode cX9_figure 42 = .ok (.aload_n 0, 1) := by decide +kernel
theorem dX9_figure_43 : decode cX9_figure 43 = .ok (.getfield 18, 3) := by decide +kernel
theorem dX9_figure_46 : decode cX9_figure 46 = .ok (.ireturn, 1) := by decide +kernel
theorem dX9_figure_47 : decode cX9_figure 47 = .ok (.aload_n 0, 1) := by decide +kernel
theorem dX9_figure_48 : decode cX9_figure 48 = .ok (.getfield 21, 3) := by decide +kernel
theorem dX9_figure_51 : decode cX9_figure 51 = .ok (.ireturn, 1) := by decide +kernel
theorem dX9_figure_52 : decode cX9_figure 52 = .ok (.aload_n 0, 1) := by decide +kernel
theorem dX9_figure_53 : decode cX9_figure 53 = .ok (.getfield 24, 3) := by decide +kernel
theorem dX9_figure_56 : decode cX9_figure 56 = .ok (.ireturn, 1) := by decide +kernel
theorem dX9_copiesReading_0 : decode cX9_copiesReading 0 = .ok (.iconst 0, 1) := by decide +kernel
theorem dX9_copiesReading_1 : decode cX9_copiesReading 1 = .ok (.istore_n 2, 1) := by decide +kernel
theorem dX9_copiesReading_2 : decode cX9_copiesReading 2 = .ok (.iconst 0, 1) := by decide +kernel
theorem dX9_copiesReading_3 : decode cX9_copiesReading 3 = .ok (.istore_n 3, 1) := by decide +kernel
theorem dX9_copiesReading_4 : decode cX9_copiesReading 4 = .ok (.iload_n 3, 1) := by decide +kernel
theorem dX9_copiesReading_5 : decode cX9_copiesReading 5 = .ok (.iconst 5, 1) := by decide +kernel
theorem dX9_copiesReading_6 : decode cX9_copiesReading 6 = .ok (.if_icmp .ge 22, 3) := by decide +kernel
theorem dX9_copiesReading_9 : decode cX9_copiesReading 9 = .ok (.aload_n 0, 1) := by decide +kernel
theorem dX9_copiesReading_10 : decode cX9_copiesReading 10 = .ok (.getfield 27, 3) := by decide +kernel
theorem dX9_copiesReading_13 : decode cX9_copiesReading 13 = .ok (.iload_n 3, 1) := by decide +kernel
theorem dX9_copiesReading_14 : decode cX9_copiesReading 14 = .ok (.iaload, 1) := by decide +kernel
theorem dX9_copiesReading_15 : decode cX9_copiesReading 15 = .ok (.iload_n 1, 1) := by decide +kernel
theorem dX9_copiesReading_16 : decode cX9_copiesReading 16 = .ok (.if_icmp .ne 6, 3) := by decide +kernel
theorem dX9_copiesReading_19 : decode cX9_copiesReading 19 = .ok (.iinc 2 1, 3) := by decide +kernel
theorem dX9_copiesReading_22 : decode cX9_copiesReading 22 = .ok (.iinc 3 1, 3) := by decide +kernel
theorem dX9_copiesReading_25 : decode cX9_copiesReading 25 = .ok (.goto (-21), 3) := by decide +kernel
theorem dX9_copiesReading_28 : decode cX9_copiesReading 28 = .ok (.iload_n 2, 1) := by decide +kernel
theorem dX9_copiesReading_29 : decode cX9_copiesReading 29 = .ok (.ireturn, 1) := by decide +kernel
theorem dX10_init_0 : decode cX10_init 0 = .ok (.aload_n 0, 1) := by decide +kernel
theorem dX10_init_1 : decode cX10_init 1 = .ok (.invokespecial 3, 3) := by decide +kernel
theorem dX10_init_4 : decode cX10_init 4 = .ok (.aload_n 0, 1) := by decide +kernel
theorem dX10_init_5 : decode cX10_init 5 = .ok (.bipush 40, 2) := by decide +kernel
theorem dX10_init_7 : decode cX10_init 7 = .ok (.newarray .byte, 2) := by decide +kernel
theorem dX10_init_9 : decode cX10_init 9 = .ok (.putfield 9, 3) := by decide +kernel
theorem dX10_init_12 : decode cX10_init 12 = .ok (.aload_n 0, 1) := by decide +kernel
theorem dX10_init_13 : decode cX10_init 13 = .ok (.iconst (-1), 1) := by decide +kernel
theorem dX10_init_14 : decode cX10_init 14 = .ok (.putfield 15, 3) := by decide +kernel
theorem dX10_init_17 : decode cX10_init 17 = .ok (.aload_n 0, 1) := by decide +kernel
theorem dX10_init_18 : decode cX10_init 18 = .ok (.iconst 0, 1) := by decide +kernel
theorem dX10_init_19 : decode cX10_init 19 = .ok (.putfield 19, 3) := by decide +kernel
theorem dX10_init_22 : decode cX10_init 22 = .ok (.aload_n 0, 1) := by decide +kernel
theorem dX10_init_23 : decode cX10_init 23 = .ok (.iconst 0, 1) := by decide +kernel
theorem dX10_init_24 : decode cX10_init 24 = .ok (.putfield 22, 3) := by decide +kernel
theorem dX10_init_27 : decode cX10_init 27 = .ok (.return_, 1) := by decide +kernel
theorem dX10_renew_0 : decode cX10_renew 0 = .ok (.aload_n 0, 1) := by decide +kernel
theorem dX10_renew_1 : decode cX10_renew 1 = .ok (.getfield 9, 3) := by decide +kernel
theorem dX10_renew_4 : decode cX10_renew 4 = .ok (.bipush 32, 2) := by decide +kernel
theorem dX10_renew_6 : decode cX10_renew 6 = .ok (.invokestatic 25, 3) := by decide +kernel
theorem dX10_renew_9 : decode cX10_renew 9 = .ok (.aload_n 0, 1) := by decide +kernel
theorem dX10_renew_10 : decode cX10_renew 10 = .ok (.iload_n 1, 1) := by decide +kernel
theorem dX10_renew_11 : decode cX10_renew 11 = .ok (.putfield 15, 3) := by decide +kernel
theorem dX10_renew_14 : decode cX10_renew 14 = .ok (.return_, 1) := by decide +kernel
theorem dX10_readRule_0 : decode cX10_readRule 0 = .ok (.aload_n 0, 1) := by decide +kernel
theorem dX10_readRule_1 : decode cX10_readRule 1 = .ok (.iconst 0, 1) := by decide +kernel
theorem dX10_readRule_2 : decode cX10_readRule 2 = .ok (.putfield 22, 3) := by decide +kernel
theorem dX10_readRule_5 : decode cX10_readRule 5 = .ok (.aload_n 0, 1) := by decide +kernel
theorem dX10_readRule_6 : decode cX10_readRule 6 = .ok (.iconst 0, 1) := by decide +kernel
theorem dX10_readRule_7 : decode cX10_readRule 7 = .ok (.putfield 19, 3) := by decide +kernel
theorem dX10_readRule_10 : decode cX10_readRule 10 = .ok (.aload_n 0, 1) := by decide +kernel
theorem dX10_readRule_11 : decode cX10_readRule 11 = .ok (.invokevirtual 31, 3) := by decide +kernel
theorem dX10_readRule_14 : decode cX10_readRule 14 = .ok (.aload_n 0, 1) := by decide +kernel
theorem dX10_readRule_15 : decode cX10_readRule 15 = .ok (.invokevirtual 34, 3) := by decide +kernel
theorem dX10_readRule_18 : decode cX10_readRule 18 = .ok (.istore_n 1, 1) := by decide +kernel
theorem dX10_readRule_19 : decode cX10_readRule 19 = .ok (.iload_n 1, 1) := by decide +kernel
theorem dX10_readRule_20 : decode cX10_readRule 20 = .ok (.bipush 48, 2) := by decide +kernel
theorem dX10_readRule_22 : decode cX10_readRule 22 = .ok (.if_icmp .eq 9, 3) := by decide +kernel
theorem dX10_readRule_25 : decode cX10_readRule 25 = .ok (.iload_n 1, 1) := by decide +kernel
theorem dX10_readRule_26 : decode cX10_readRule 26 = .ok (.bipush 49, 2) := by decide +kernel
theorem dX10_readRule_28 : decode cX10_readRule 28 = .ok (.if_icmp .ne 33, 3) := by decide +kernel
theorem dX10_readRule_31 : decode cX10_readRule 31 = .ok (.aload_n 0, 1) := by decide +kernel
theorem dX10_readRule_32 : decode cX10_readRule 32 = .ok (.iload_n 1, 1) := by decide +kernel
theorem dX10_readRule_33 : decode cX10_readRule 33 = .ok (.bipush 48, 2) := by decide +kernel
theorem dX10_readRule_35 : decode cX10_readRule 35 = .ok (.if_icmp .ne 9, 3) := by decide +kernel
theorem dX10_readRule_38 : decode cX10_readRule 38 = .ok (.sipush 243, 3) := by decide +kernel
theorem dX10_readRule_41 : decode cX10_readRule 41 = .ok (.goto 4, 3) := by decide +kernel
theorem dX10_readRule_44 : decode cX10_readRule 44 = .ok (.iconst 0, 1) := by decide +kernel
theorem dX10_readRule_45 : decode cX10_readRule 45 = .ok (.putfield 19, 3) := by decide +kernel
theorem dX10_readRule_48 : decode cX10_readRule 48 = .ok (.aload_n 0, 1) := by decide +kernel
theorem dX10_readRule_49 : decode cX10_readRule 49 = .ok (.dup, 1) := by decide +kernel
theorem dX10_readRule_50 : decode cX10_readRule 50 = .ok (.getfield 22, 3) := by decide +kernel
theorem dX10_readRule_53 : decode cX10_readRule 53 = .ok (.iconst 1, 1) := by decide +kernel
theorem dX10_readRule_54 : decode cX10_readRule 54 = .ok (.iadd, 1) := by decide +kernel
theorem dX10_readRule_55 : decode cX10_readRule 55 = .ok (.putfield 22, 3) := by decide +kernel
theorem dX10_readRule_58 : decode cX10_readRule 58 = .ok (.goto 15, 3) := by decide +kernel
theorem dX10_readRule_61 : decode cX10_readRule 61 = .ok (.aload_n 0, 1) := by decide +kernel
theorem dX10_readRule_62 : decode cX10_readRule 62 = .ok (.invokevirtual 38, 3) := by decide +kernel
theorem dX10_readRule_65 : decode cX10_readRule 65 = .ok (.ifCond .ne 8, 3) := by decide +kernel
theorem dX10_readRule_68 : decode cX10_readRule 68 = .ok (.aload_n 0, 1) := by decide +kernel
theorem dX10_readRule_69 : decode cX10_readRule 69 = .ok (.getfield 22, 3) := by decide +kernel
theorem dX10_readRule_72 : decode cX10_readRule 72 = .ok (.ireturn, 1) := by decide +kernel
theorem dX10_readRule_73 : decode cX10_readRule 73 = .ok (.aload_n 0, 1) := by decide +kernel
theorem dX10_readRule_74 : decode cX10_readRule 74 = .ok (.invokevirtual 31, 3) := by decide +kernel
theorem dX10_readRule_77 : decode cX10_readRule 77 = .ok (.aload_n 0, 1) := by decide +kernel
theorem dX10_readRule_78 : decode cX10_readRule 78 = .ok (.getfield 22, 3) := by decide +kernel
theorem dX10_readRule_81 : decode cX10_readRule 81 = .ok (.aload_n 0, 1) := by decide +kernel
theorem dX10_readRule_82 : decode cX10_readRule 82 = .ok (.getfield 15, 3) := by decide +kernel
theorem dX10_readRule_85 : decode cX10_readRule 85 = .ok (.if_icmp .ge 10, 3) := by decide +kernel
theorem dX10_readRule_88 : decode cX10_readRule 88 = .ok (.aload_n 0, 1) := by decide +kernel
theorem dX10_readRule_89 : decode cX10_readRule 89 = .ok (.getfield 22, 3) := by decide +kernel
theorem dX10_readRule_92 : decode cX10_readRule 92 = .ok (.goto 5, 3) := by decide +kernel
theorem dX10_readRule_95 : decode cX10_readRule 95 = .ok (.bipush (-9), 2) := by decide +kernel
theorem dX10_readRule_97 : decode cX10_readRule 97 = .ok (.ireturn, 1) := by decide +kernel
theorem dX10_readLetters_0 : decode cX10_readLetters 0 = .ok (.iconst (-1), 1) := by decide +kernel
theorem dX10_readLetters_1 : decode cX10_readLetters 1 = .ok (.istore_n 1, 1) := by decide +kernel
theorem dX10_readLetters_2 : decode cX10_readLetters 2 = .ok (.iconst 1, 1) := by decide +kernel
theorem dX10_readLetters_3 : decode cX10_readLetters 3 = .ok (.istore_n 2, 1) := by decide +kernel
theorem dX10_readLetters_4 : decode cX10_readLetters 4 = .ok (.aload_n 0, 1) := by decide +kernel
theorem dX10_readLetters_5 : decode cX10_readLetters 5 = .ok (.invokevirtual 34, 3) := by decide +kernel
theorem dX10_readLetters_8 : decode cX10_readLetters 8 = .ok (.bipush 33, 2) := by decide +kernel
theorem dX10_readLetters_10 : decode cX10_readLetters 10 = .ok (.if_icmp .ne 15, 3) := by decide +kernel
theorem dX10_readLetters_13 : decode cX10_readLetters 13 = .ok (.iconst 2, 1) := by decide +kernel
theorem dX10_readLetters_14 : decode cX10_readLetters 14 = .ok (.istore_n 2, 1) := by decide +kernel
theorem dX10_readLetters_15 : decode cX10_readLetters 15 = .ok (.aload_n 0, 1) := by decide +kernel
theorem dX10_readLetters_16 : decode cX10_readLetters 16 = .ok (.dup, 1) := by decide +kernel
theorem dX10_readLetters_17 : decode cX10_readLetters 17 = .ok (.getfield 22, 3) := by decide +kernel
theorem dX10_readLetters_20 : decode cX10_readLetters 20 = .ok (.iconst 1, 1) := by decide +kernel
theorem dX10_readLetters_21 : decode cX10_readLetters 21 = .ok (.iadd, 1) := by decide +kernel
theorem dX10_readLetters_22 : decode cX10_readLetters 22 = .ok (.putfield 22, 3) := by decide +kernel
theorem dX10_readLetters_25 : decode cX10_readLetters 25 = .ok (.aload_n 0, 1) := by decide +kernel
theorem dX10_readLetters_26 : decode cX10_readLetters 26 = .ok (.invokevirtual 34, 3) := by decide +kernel
theorem dX10_readLetters_29 : decode cX10_readLetters 29 = .ok (.bipush 97, 2) := by decide +kernel
theorem dX10_readLetters_31 : decode cX10_readLetters 31 = .ok (.isub, 1) := by decide +kernel
theorem dX10_readLetters_32 : decode cX10_readLetters 32 = .ok (.istore_n 3, 1) := by decide +kernel
theorem dX10_readLetters_33 : decode cX10_readLetters 33 = .ok (.iload_n 3, 1) := by decide +kernel
theorem dX10_readLetters_34 : decode cX10_readLetters 34 = .ok (.iload_n 1, 1) := by decide +kernel
theorem dX10_readLetters_35 : decode cX10_readLetters 35 = .ok (.if_icmp .le 8, 3) := by decide +kernel
theorem dX10_readLetters_38 : decode cX10_readLetters 38 = .ok (.iload_n 3, 1) := by decide +kernel
theorem dX10_readLetters_39 : decode cX10_readLetters 39 = .ok (.iconst 5, 1) := by decide +kernel
theorem dX10_readLetters_40 : decode cX10_readLetters 40 = .ok (.if_icmp .lt 5, 3) := by decide +kernel
theorem dX10_readLetters_43 : decode cX10_readLetters 43 = .ok (.iconst 0, 1) := by decide +kernel
theorem dX10_readLetters_44 : decode cX10_readLetters 44 = .ok (.ireturn, 1) := by decide +kernel
theorem dX10_readLetters_45 : decode cX10_readLetters 45 = .ok (.aload_n 0, 1) := by decide +kernel
theorem dX10_readLetters_46 : decode cX10_readLetters 46 = .ok (.dup, 1) := by decide +kernel
theorem dX10_readLetters_47 : decode cX10_readLetters 47 = .ok (.getfield 19, 3) := by decide +kernel
theorem dX10_readLetters_50 : decode cX10_readLetters 50 = .ok (.iload_n 2, 1) := by decide +kernel
theorem dX10_readLetters_51 : decode cX10_readLetters 51 = .ok (.getstatic 42, 3) := by decide +kernel
theorem dX10_readLetters_54 : decode cX10_readLetters 54 = .ok (.iload_n 3, 1) := by decide +kernel
theorem dX10_readLetters_55 : decode cX10_readLetters 55 = .ok (.iaload, 1) := by decide +kernel
theorem dX10_readLetters_56 : decode cX10_readLetters 56 = .ok (.imul, 1) := by decide +kernel
theorem dX10_readLetters_57 : decode cX10_readLetters 57 = .ok (.iadd, 1) := by decide +kernel
theorem dX10_readLetters_58 : decode cX10_readLetters 58 = .ok (.putfield 19, 3) := by decide +kernel
theorem dX10_readLetters_61 : decode cX10_readLetters 61 = .ok (.iload_n 3, 1) := by decide +kernel
theorem dX10_readLetters_62 : decode cX10_readLetters 62 = .ok (.istore_n 1, 1) := by decide +kernel
theorem dX10_readLetters_63 : decode cX10_readLetters 63 = .ok (.aload_n 0, 1) := by decide +kernel
theorem dX10_readLetters_64 : decode cX10_readLetters 64 = .ok (.dup, 1) := by decide +kernel
theorem dX10_readLetters_65 : decode cX10_readLetters 65 = .ok (.getfield 22, 3) := by decide +kernel
theorem dX10_readLetters_68 : decode cX10_readLetters 68 = .ok (.iconst 1, 1) := by decide +kernel
theorem dX10_readLetters_69 : decode cX10_readLetters 69 = .ok (.iadd, 1) := by decide +kernel
theorem dX10_readLetters_70 : decode cX10_readLetters 70 = .ok (.putfield 22, 3) := by decide +kernel
theorem dX10_readLetters_73 : decode cX10_readLetters 73 = .ok (.aload_n 0, 1) := by decide +kernel
theorem dX10_readLetters_74 : decode cX10_readLetters 74 = .ok (.getfield 22, 3) := by decide +kernel
theorem dX10_readLetters_77 : decode cX10_readLetters 77 = .ok (.aload_n 0, 1) := by decide +kernel
theorem dX10_readLetters_78 : decode cX10_readLetters 78 = .ok (.getfield 15, 3) := by decide +kernel
theorem dX10_readLetters_81 : decode cX10_readLetters 81 = .ok (.if_icmp .ge 12, 3) := by decide +kernel
theorem dX10_readLetters_84 : decode cX10_readLetters 84 = .ok (.aload_n 0, 1) := by decide +kernel
theorem dX10_readLetters_85 : decode cX10_readLetters 85 = .ok (.invokevirtual 34, 3) := by decide +kernel
theorem dX10_readLetters_88 : decode cX10_readLetters 88 = .ok (.bipush 32, 2) := by decide +kernel
theorem dX10_readLetters_90 : decode cX10_readLetters 90 = .ok (.if_icmp .ne (-88), 3) := by decide +kernel
theorem dX10_readLetters_93 : decode cX10_readLetters 93 = .ok (.iconst 1, 1) := by decide +kernel
theorem dX10_readLetters_94 : decode cX10_readLetters 94 = .ok (.ireturn, 1) := by decide +kernel
theorem dX10_skipBlanks_0 : decode cX10_skipBlanks 0 = .ok (.aload_n 0, 1) := by decide +kernel
theorem dX10_skipBlanks_1 : decode cX10_skipBlanks 1 = .ok (.getfield 22, 3) := by decide +kernel
theorem dX10_skipBlanks_4 : decode cX10_skipBlanks 4 = .ok (.aload_n 0, 1) := by decide +kernel
theorem dX10_skipBlanks_5 : decode cX10_skipBlanks 5 = .ok (.getfield 15, 3) := by decide +kernel
theorem dX10_skipBlanks_8 : decode cX10_skipBlanks 8 = .ok (.if_icmp .ge 30, 3) := by decide +kernel
theorem dX10_skipBlanks_11 : decode cX10_skipBlanks 11 = .ok (.aload_n 0, 1) := by decide +kernel
theorem dX10_skipBlanks_12 : decode cX10_skipBlanks 12 = .ok (.getfield 9, 3) := by decide +kernel
theorem dX10_skipBlanks_15 : decode cX10_skipBlanks 15 = .ok (.aload_n 0, 1) := by decide +kernel
theorem dX10_skipBlanks_16 : decode cX10_skipBlanks 16 = .ok (.getfield 22, 3) := by decide +kernel
theorem dX10_skipBlanks_19 : decode cX10_skipBlanks 19 = .ok (.baload, 1) := by decide +kernel
theorem dX10_skipBlanks_20 : decode cX10_skipBlanks 20 = .ok (.bipush 32, 2) := by decide +kernel
theorem dX10_skipBlanks_22 : decode cX10_skipBlanks 22 = .ok (.if_icmp .ne 16, 3) := by decide +kernel
theorem dX10_skipBlanks_25 : decode cX10_skipBlanks 25 = .ok (.aload_n 0, 1) := by decide +kernel
theorem dX10_skipBlanks_26 : decode cX10_skipBlanks 26 = .ok (.dup, 1) := by decide +kernel
theorem dX10_skipBlanks_27 : decode cX10_skipBlanks 27 = .ok (.getfield 22, 3) := by decide +kernel
theorem dX10_skipBlanks_30 : decode cX10_skipBlanks 30 = .ok (.iconst 1, 1) := by decide +kernel
theorem dX10_skipBlanks_31 : decode cX10_skipBlanks 31 = .ok (.iadd, 1) := by decide +kernel
theorem dX10_skipBlanks_32 : decode cX10_skipBlanks 32 = .ok (.putfield 22, 3) := by decide +kernel
theorem dX10_skipBlanks_35 : decode cX10_skipBlanks 35 = .ok (.goto (-35), 3) := by decide +kernel
theorem dX10_skipBlanks_38 : decode cX10_skipBlanks 38 = .ok (.return_, 1) := by decide +kernel
theorem dX10_signHere_0 : decode cX10_signHere 0 = .ok (.aload_n 0, 1) := by decide +kernel
theorem dX10_signHere_1 : decode cX10_signHere 1 = .ok (.getfield 22, 3) := by decide +kernel
theorem dX10_signHere_4 : decode cX10_signHere 4 = .ok (.aload_n 0, 1) := by decide +kernel
theorem dX10_signHere_5 : decode cX10_signHere 5 = .ok (.getfield 15, 3) := by decide +kernel
theorem dX10_signHere_8 : decode cX10_signHere 8 = .ok (.if_icmp .ge 15, 3) := by decide +kernel
theorem dX10_signHere_11 : decode cX10_signHere 11 = .ok (.aload_n 0, 1) := by decide +kernel
theorem dX10_signHere_12 : decode cX10_signHere 12 = .ok (.getfield 9, 3) := by decide +kernel
theorem dX10_signHere_15 : decode cX10_signHere 15 = .ok (.aload_n 0, 1) := by decide +kernel
theorem dX10_signHere_16 : decode cX10_signHere 16 = .ok (.getfield 22, 3) := by decide +kernel
theorem dX10_signHere_19 : decode cX10_signHere 19 = .ok (.baload, 1) := by decide +kernel
theorem dX10_signHere_20 : decode cX10_signHere 20 = .ok (.goto 4, 3) := by decide +kernel
theorem dX10_signHere_23 : decode cX10_signHere 23 = .ok (.iconst 0, 1) := by decide +kernel
theorem dX10_signHere_24 : decode cX10_signHere 24 = .ok (.ireturn, 1) := by decide +kernel
theorem dX10_digestFrom_0 : decode cX10_digestFrom 0 = .ok (.ldc2_w 46, 3) := by decide +kernel
theorem dX10_digestFrom_3 : decode cX10_digestFrom 3 = .ok (.lload_n 1, 1) := by decide +kernel
theorem dX10_digestFrom_4 : decode cX10_digestFrom 4 = .ok (.lmul, 1) := by decide +kernel
theorem dX10_digestFrom_5 : decode cX10_digestFrom 5 = .ok (.aload_n 0, 1) := by decide +kernel
theorem dX10_digestFrom_6 : decode cX10_digestFrom 6 = .ok (.getfield 15, 3) := by decide +kernel
theorem dX10_digestFrom_9 : decode cX10_digestFrom 9 = .ok (.i2l, 1) := by decide +kernel
theorem dX10_digestFrom_10 : decode cX10_digestFrom 10 = .ok (.ladd, 1) := by decide +kernel
theorem dX10_digestFrom_11 : decode cX10_digestFrom 11 = .ok (.lstore_n 3, 1) := by decide +kernel
theorem dX10_digestFrom_12 : decode cX10_digestFrom 12 = .ok (.iconst 0, 1) := by decide +kernel
theorem dX10_digestFrom_13 : decode cX10_digestFrom 13 = .ok (.istore 5, 2) := by decide +kernel
theorem dX10_digestFrom_15 : decode cX10_digestFrom 15 = .ok (.iload 5, 2) := by decide +kernel
theorem dX10_digestFrom_17 : decode cX10_digestFrom 17 = .ok (.aload_n 0, 1) := by decide +kernel
theorem dX10_digestFrom_18 : decode cX10_digestFrom 18 = .ok (.getfield 15, 3) := by decide +kernel
theorem dX10_digestFrom_21 : decode cX10_digestFrom 21 = .ok (.if_icmp .ge 24, 3) := by decide +kernel
theorem dX10_digestFrom_24 : decode cX10_digestFrom 24 = .ok (.ldc2_w 46, 3) := by decide +kernel
theorem dX10_digestFrom_27 : decode cX10_digestFrom 27 = .ok (.lload_n 3, 1) := by decide +kernel
theorem dX10_digestFrom_28 : decode cX10_digestFrom 28 = .ok (.lmul, 1) := by decide +kernel
theorem dX10_digestFrom_29 : decode cX10_digestFrom 29 = .ok (.aload_n 0, 1) := by decide +kernel
theorem dX10_digestFrom_30 : decode cX10_digestFrom 30 = .ok (.getfield 9, 3) := by decide +kernel
theorem dX10_digestFrom_33 : decode cX10_digestFrom 33 = .ok (.iload 5, 2) := by decide +kernel
theorem dX10_digestFrom_35 : decode cX10_digestFrom 35 = .ok (.baload, 1) := by decide +kernel
theorem dX10_digestFrom_36 : decode cX10_digestFrom 36 = .ok (.i2l, 1) := by decide +kernel
theorem dX10_digestFrom_37 : decode cX10_digestFrom 37 = .ok (.ladd, 1) := by decide +kernel
theorem dX10_digestFrom_38 : decode cX10_digestFrom 38 = .ok (.lstore_n 3, 1) := by decide +kernel
theorem dX10_digestFrom_39 : decode cX10_digestFrom 39 = .ok (.iinc 5 1, 3) := by decide +kernel
theorem dX10_digestFrom_42 : decode cX10_digestFrom 42 = .ok (.goto (-27), 3) := by decide +kernel
theorem dX10_digestFrom_45 : decode cX10_digestFrom 45 = .ok (.lload_n 3, 1) := by decide +kernel
theorem dX10_digestFrom_46 : decode cX10_digestFrom 46 = .ok (.lreturn, 1) := by decide +kernel
theorem dX11_init_0 : decode cX11_init 0 = .ok (.aload_n 0, 1) := by decide +kernel
theorem dX11_init_1 : decode cX11_init 1 = .ok (.invokespecial 3, 3) := by decide +kernel
theorem dX11_init_4 : decode cX11_init 4 = .ok (.aload_n 0, 1) := by decide +kernel
theorem dX11_init_5 : decode cX11_init 5 = .ok (.bipush 6, 2) := by decide +kernel
theorem dX11_init_7 : decode cX11_init 7 = .ok (.anewarray 9, 3) := by decide +kernel
theorem dX11_init_10 : decode cX11_init 10 = .ok (.putfield 11, 3) := by decide +kernel
theorem dX11_init_13 : decode cX11_init 13 = .ok (.aload_n 0, 1) := by decide +kernel
theorem dX11_init_14 : decode cX11_init 14 = .ok (.iconst 4, 1) := by decide +kernel
theorem dX11_init_15 : decode cX11_init 15 = .ok (.anewarray 15, 3) := by decide +kernel
theorem dX11_init_18 : decode cX11_init 18 = .ok (.putfield 17, 3) := by decide +kernel
theorem dX11_init_21 : decode cX11_init 21 = .ok (.aload_n 0, 1) := by decide +kernel
theorem dX11_init_22 : decode cX11_init 22 = .ok (.new 21, 3) := by decide +kernel
theorem dX11_init_25 : decode cX11_init 25 = .ok (.dup, 1) := by decide +kernel
theorem dX11_init_26 : decode cX11_init 26 = .ok (.invokespecial 23, 3) := by decide +kernel
theorem dX11_init_29 : decode cX11_init 29 = .ok (.putfield 24, 3) := by decide +kernel
theorem dX11_init_32 : decode cX11_init 32 = .ok (.aload_n 0, 1) := by decide +kernel
theorem dX11_init_33 : decode cX11_init 33 = .ok (.new 28, 3) := by decide +kernel
theorem dX11_init_36 : decode cX11_init 36 = .ok (.dup, 1) := by decide +kernel
theorem dX11_init_37 : decode cX11_init 37 = .ok (.aload_n 0, 1) := by decide +kernel
theorem dX11_init_38 : decode cX11_init 38 = .ok (.getfield 24, 3) := by decide +kernel
theorem dX11_init_41 : decode cX11_init 41 = .ok (.invokespecial 30, 3) := by decide +kernel
theorem dX11_init_44 : decode cX11_init 44 = .ok (.putfield 33, 3) := by decide +kernel
theorem dX11_init_47 : decode cX11_init 47 = .ok (.aload_n 0, 1) := by decide +kernel
theorem dX11_init_48 : decode cX11_init 48 = .ok (.new 37, 3) := by decide +kernel
theorem dX11_init_51 : decode cX11_init 51 = .ok (.dup, 1) := by decide +kernel
theorem dX11_init_52 : decode cX11_init 52 = .ok (.aload_n 0, 1) := by decide +kernel
theorem dX11_init_53 : decode cX11_init 53 = .ok (.getfield 24, 3) := by decide +kernel
theorem dX11_init_56 : decode cX11_init 56 = .ok (.invokespecial 39, 3) := by decide +kernel
theorem dX11_init_59 : decode cX11_init 59 = .ok (.putfield 40, 3) := by decide +kernel
theorem dX11_init_62 : decode cX11_init 62 = .ok (.aload_n 0, 1) := by decide +kernel
theorem dX11_init_63 : decode cX11_init 63 = .ok (.bipush 6, 2) := by decide +kernel
theorem dX11_init_65 : decode cX11_init 65 = .ok (.newarray .int, 2) := by decide +kernel
theorem dX11_init_67 : decode cX11_init 67 = .ok (.putfield 44, 3) := by decide +kernel
theorem dX11_init_70 : decode cX11_init 70 = .ok (.aload_n 0, 1) := by decide +kernel
theorem dX11_init_71 : decode cX11_init 71 = .ok (.iconst 0, 1) := by decide +kernel
theorem dX11_init_72 : decode cX11_init 72 = .ok (.putfield 48, 3) := by decide +kernel
theorem dX11_init_75 : decode cX11_init 75 = .ok (.aload_n 0, 1) := by decide +kernel
theorem dX11_init_76 : decode cX11_init 76 = .ok (.iconst 0, 1) := by decide +kernel
theorem dX11_init_77 : decode cX11_init 77 = .ok (.putfield 52, 3) := by decide +kernel
theorem dX11_init_80 : decode cX11_init 80 = .ok (.aload_n 0, 1) := by decide +kernel
theorem dX11_init_81 : decode cX11_init 81 = .ok (.lconst 0, 1) := by decide +kernel
theorem dX11_init_82 : decode cX11_init 82 = .ok (.putfield 55, 3) := by decide +kernel
theorem dX11_init_85 : decode cX11_init 85 = .ok (.aload_n 0, 1) := by decide +kernel
theorem dX11_init_86 : decode cX11_init 86 = .ok (.lconst 1, 1) := by decide +kernel
theorem dX11_init_87 : decode cX11_init 87 = .ok (.putfield 59, 3) := by decide +kernel
theorem dX11_init_90 : decode cX11_init 90 = .ok (.iconst 0, 1) := by decide +kernel
theorem dX11_init_91 : decode cX11_init 91 = .ok (.istore_n 1, 1) := by decide +kernel
theorem dX11_init_92 : decode cX11_init 92 = .ok (.iload_n 1, 1) := by decide +kernel
theorem dX11_init_93 : decode cX11_init 93 = .ok (.bipush 6, 2) := by decide +kernel
theorem dX11_init_95 : decode cX11_init 95 = .ok (.if_icmp .ge 22, 3) := by decide +kernel
theorem dX11_init_98 : decode cX11_init 98 = .ok (.aload_n 0, 1) := by decide +kernel
theorem dX11_init_99 : decode cX11_init 99 = .ok (.getfield 11, 3) := by decide +kernel
theorem dX11_init_102 : decode cX11_init 102 = .ok (.iload_n 1, 1) := by decide +kernel
theorem dX11_init_103 : decode cX11_init 103 = .ok (.new 9, 3) := by decide +kernel
theorem dX11_init_106 : decode cX11_init 106 = .ok (.dup, 1) := by decide +kernel
theorem dX11_init_107 : decode cX11_init 107 = .ok (.invokespecial 62, 3) := by decide +kernel
theorem dX11_init_110 : decode cX11_init 110 = .ok (.aastore, 1) := by decide +kernel
theorem dX11_init_111 : decode cX11_init 111 = .ok (.iinc 1 1, 3) := by decide +kernel
theorem dX11_init_114 : decode cX11_init 114 = .ok (.goto (-22), 3) := by decide +kernel
theorem dX11_init_117 : decode cX11_init 117 = .ok (.iconst 0, 1) := by decide +kernel
theorem dX11_init_118 : decode cX11_init 118 = .ok (.istore_n 1, 1) := by decide +kernel
theorem dX11_init_119 : decode cX11_init 119 = .ok (.iload_n 1, 1) := by decide +kernel
theorem dX11_init_120 : decode cX11_init 120 = .ok (.iconst 4, 1) := by decide +kernel
theorem dX11_init_121 : decode cX11_init 121 = .ok (.if_icmp .ge 22, 3) := by decide +kernel
theorem dX11_init_124 : decode cX11_init 124 = .ok (.aload_n 0, 1) := by decide +kernel
theorem dX11_init_125 : decode cX11_init 125 = .ok (.getfield 17, 3) := by decide +kernel
theorem dX11_init_128 : decode cX11_init 128 = .ok (.iload_n 1, 1) := by decide +kernel
theorem dX11_init_129 : decode cX11_init 129 = .ok (.new 15, 3) := by decide +kernel
theorem dX11_init_132 : decode cX11_init 132 = .ok (.dup, 1) := by decide +kernel
theorem dX11_init_133 : decode cX11_init 133 = .ok (.invokespecial 63, 3) := by decide +kernel
theorem dX11_init_136 : decode cX11_init 136 = .ok (.aastore, 1) := by decide +kernel
theorem dX11_init_137 : decode cX11_init 137 = .ok (.iinc 1 1, 3) := by decide +kernel
theorem dX11_init_140 : decode cX11_init 140 = .ok (.goto (-21), 3) := by decide +kernel
theorem dX11_init_143 : decode cX11_init 143 = .ok (.return_, 1) := by decide +kernel
theorem dX11_row_0 : decode cX11_row 0 = .ok (.iload_n 1, 1) := by decide +kernel
theorem dX11_row_1 : decode cX11_row 1 = .ok (.bipush 6, 2) := by decide +kernel
theorem dX11_row_3 : decode cX11_row 3 = .ok (.invokestatic 64, 3) := by decide +kernel
theorem dX11_row_6 : decode cX11_row 6 = .ok (.ifCond .eq 9, 3) := by decide +kernel
theorem dX11_row_9 : decode cX11_row 9 = .ok (.iload_n 2, 1) := by decide +kernel
theorem dX11_row_10 : decode cX11_row 10 = .ok (.bipush 40, 2) := by decide +kernel
theorem dX11_row_12 : decode cX11_row 12 = .ok (.if_icmp .le 5, 3) := by decide +kernel
theorem dX11_row_15 : decode cX11_row 15 = .ok (.iconst (-1), 1) := by decide +kernel
theorem dX11_row_16 : decode cX11_row 16 = .ok (.ireturn, 1) := by decide +kernel
theorem dX11_row_17 : decode cX11_row 17 = .ok (.iload_n 2, 1) := by decide +kernel
theorem dX11_row_18 : decode cX11_row 18 = .ok (.ifCond .ge 9, 3) := by decide +kernel
theorem dX11_row_21 : decode cX11_row 21 = .ok (.aload_n 0, 1) := by decide +kernel
theorem dX11_row_22 : decode cX11_row 22 = .ok (.iconst 5, 1) := by decide +kernel
theorem dX11_row_23 : decode cX11_row 23 = .ok (.invokevirtual 68, 3) := by decide +kernel
theorem dX11_row_26 : decode cX11_row 26 = .ok (.ireturn, 1) := by decide +kernel
theorem dX11_row_27 : decode cX11_row 27 = .ok (.aload_n 0, 1) := by decide +kernel
theorem dX11_row_28 : decode cX11_row 28 = .ok (.getfield 11, 3) := by decide +kernel
theorem dX11_row_31 : decode cX11_row 31 = .ok (.iload_n 1, 1) := by decide +kernel
theorem dX11_row_32 : decode cX11_row 32 = .ok (.aaload, 1) := by decide +kernel
theorem dX11_row_33 : decode cX11_row 33 = .ok (.iload_n 2, 1) := by decide +kernel
theorem dX11_row_34 : decode cX11_row 34 = .ok (.invokevirtual 72, 3) := by decide +kernel
theorem dX11_row_37 : decode cX11_row 37 = .ok (.iload_n 2, 1) := by decide +kernel
theorem dX11_row_38 : decode cX11_row 38 = .ok (.ireturn, 1) := by decide +kernel
theorem dX11_lay_0 : decode cX11_lay 0 = .ok (.iload_n 1, 1) := by decide +kernel
theorem dX11_lay_1 : decode cX11_lay 1 = .ok (.bipush 6, 2) := by decide +kernel
theorem dX11_lay_3 : decode cX11_lay 3 = .ok (.invokestatic 64, 3) := by decide +kernel
theorem dX11_lay_6 : decode cX11_lay 6 = .ok (.ifCond .ne 5, 3) := by decide +kernel
theorem dX11_lay_9 : decode cX11_lay 9 = .ok (.iconst (-1), 1) := by decide +kernel
theorem dX11_lay_10 : decode cX11_lay 10 = .ok (.ireturn, 1) := by decide +kernel
theorem dX11_lay_11 : decode cX11_lay 11 = .ok (.aload_n 0, 1) := by decide +kernel
theorem dX11_lay_12 : decode cX11_lay 12 = .ok (.getfield 11, 3) := by decide +kernel
theorem dX11_lay_15 : decode cX11_lay 15 = .ok (.iload_n 1, 1) := by decide +kernel
theorem dX11_lay_16 : decode cX11_lay 16 = .ok (.aaload, 1) := by decide +kernel
theorem dX11_lay_17 : decode cX11_lay 17 = .ok (.astore 4, 2) := by decide +kernel
theorem dX11_lay_19 : decode cX11_lay 19 = .ok (.aload 4, 2) := by decide +kernel
theorem dX11_lay_21 : decode cX11_lay 21 = .ok (.getfield 76, 3) := by decide +kernel
theorem dX11_lay_24 : decode cX11_lay 24 = .ok (.iconst (-1), 1) := by decide +kernel
theorem dX11_lay_25 : decode cX11_lay 25 = .ok (.if_icmp .ne 9, 3) := by decide +kernel
theorem dX11_lay_28 : decode cX11_lay 28 = .ok (.aload_n 0, 1) := by decide +kernel
theorem dX11_lay_29 : decode cX11_lay 29 = .ok (.iconst 1, 1) := by decide +kernel
theorem dX11_lay_30 : decode cX11_lay 30 = .ok (.invokevirtual 68, 3) := by decide +kernel
theorem dX11_lay_33 : decode cX11_lay 33 = .ok (.ireturn, 1) := by decide +kernel
theorem dX11_lay_34 : decode cX11_lay 34 = .ok (.iload_n 2, 1) := by decide +kernel
theorem dX11_lay_35 : decode cX11_lay 35 = .ok (.aload 4, 2) := by decide +kernel
theorem dX11_lay_37 : decode cX11_lay 37 = .ok (.getfield 76, 3) := by decide +kernel
theorem dX11_lay_40 : decode cX11_lay 40 = .ok (.invokestatic 64, 3) := by decide +kernel
theorem dX11_lay_43 : decode cX11_lay 43 = .ok (.ifCond .ne 9, 3) := by decide +kernel
theorem dX11_lay_46 : decode cX11_lay 46 = .ok (.aload_n 0, 1) := by decide +kernel
theorem dX11_lay_47 : decode cX11_lay 47 = .ok (.iconst 2, 1) := by decide +kernel
theorem dX11_lay_48 : decode cX11_lay 48 = .ok (.invokevirtual 68, 3) := by decide +kernel
theorem dX11_lay_51 : decode cX11_lay 51 = .ok (.ireturn, 1) := by decide +kernel
theorem dX11_lay_52 : decode cX11_lay 52 = .ok (.aload 4, 2) := by decide +kernel
theorem dX11_lay_54 : decode cX11_lay 54 = .ok (.getfield 79, 3) := by decide +kernel
theorem dX11_lay_57 : decode cX11_lay 57 = .ok (.iload_n 2, 1) := by decide +kernel
theorem dX11_lay_58 : decode cX11_lay 58 = .ok (.iaload, 1) := by decide +kernel
theorem dX11_lay_59 : decode cX11_lay 59 = .ok (.istore 5, 2) := by decide +kernel
theorem dX11_lay_61 : decode cX11_lay 61 = .ok (.aload 4, 2) := by decide +kernel
theorem dX11_lay_63 : decode cX11_lay 63 = .ok (.getfield 79, 3) := by decide +kernel
theorem dX11_lay_66 : decode cX11_lay 66 = .ok (.iload_n 2, 1) := by decide +kernel
theorem dX11_lay_67 : decode cX11_lay 67 = .ok (.iload_n 3, 1) := by decide +kernel
theorem dX11_lay_68 : decode cX11_lay 68 = .ok (.iastore, 1) := by decide +kernel
theorem dX11_lay_69 : decode cX11_lay 69 = .ok (.aload_n 0, 1) := by decide +kernel
theorem dX11_lay_70 : decode cX11_lay 70 = .ok (.iload 5, 2) := by decide +kernel
theorem dX11_lay_72 : decode cX11_lay 72 = .ok (.iconst 1, 1) := by decide +kernel
theorem dX11_lay_73 : decode cX11_lay 73 = .ok (.invokevirtual 82, 3) := by decide +kernel
theorem dX11_lay_76 : decode cX11_lay 76 = .ok (.ireturn, 1) := by decide +kernel
theorem dX11_tear_0 : decode cX11_tear 0 = .ok (.iload_n 1, 1) := by decide +kernel
theorem dX11_tear_1 : decode cX11_tear 1 = .ok (.bipush 6, 2) := by decide +kernel
theorem dX11_tear_3 : decode cX11_tear 3 = .ok (.invokestatic 64, 3) := by decide +kernel
theorem dX11_tear_6 : decode cX11_tear 6 = .ok (.ifCond .ne 5, 3) := by decide +kernel
theorem dX11_tear_9 : decode cX11_tear 9 = .ok (.iconst (-1), 1) := by decide +kernel
theorem dX11_tear_10 : decode cX11_tear 10 = .ok (.ireturn, 1) := by decide +kernel
theorem dX11_tear_11 : decode cX11_tear 11 = .ok (.aload_n 0, 1) := by decide +kernel
theorem dX11_tear_12 : decode cX11_tear 12 = .ok (.getfield 11, 3) := by decide +kernel
theorem dX11_tear_15 : decode cX11_tear 15 = .ok (.iload_n 1, 1) := by decide +kernel
theorem dX11_tear_16 : decode cX11_tear 16 = .ok (.aaload, 1) := by decide +kernel
theorem dX11_tear_17 : decode cX11_tear 17 = .ok (.getfield 76, 3) := by decide +kernel
theorem dX11_tear_20 : decode cX11_tear 20 = .ok (.iconst (-1), 1) := by decide +kernel
theorem dX11_tear_21 : decode cX11_tear 21 = .ok (.if_icmp .ne 9, 3) := by decide +kernel
theorem dX11_tear_24 : decode cX11_tear 24 = .ok (.aload_n 0, 1) := by decide +kernel
theorem dX11_tear_25 : decode cX11_tear 25 = .ok (.iconst 1, 1) := by decide +kernel
theorem dX11_tear_26 : decode cX11_tear 26 = .ok (.invokevirtual 68, 3) := by decide +kernel
theorem dX11_tear_29 : decode cX11_tear 29 = .ok (.ireturn, 1) := by decide +kernel
theorem dX11_tear_30 : decode cX11_tear 30 = .ok (.aload_n 0, 1) := by decide +kernel
theorem dX11_tear_31 : decode cX11_tear 31 = .ok (.getfield 11, 3) := by decide +kernel
theorem dX11_tear_34 : decode cX11_tear 34 = .ok (.iload_n 1, 1) := by decide +kernel
theorem dX11_tear_35 : decode cX11_tear 35 = .ok (.aaload, 1) := by decide +kernel
theorem dX11_tear_36 : decode cX11_tear 36 = .ok (.iconst (-1), 1) := by decide +kernel
theorem dX11_tear_37 : decode cX11_tear 37 = .ok (.putfield 76, 3) := by decide +kernel
theorem dX11_tear_40 : decode cX11_tear 40 = .ok (.iconst 1, 1) := by decide +kernel
theorem dX11_tear_41 : decode cX11_tear 41 = .ok (.ireturn, 1) := by decide +kernel
theorem dX11_copy_0 : decode cX11_copy 0 = .ok (.iload_n 1, 1) := by decide +kernel
theorem dX11_copy_1 : decode cX11_copy 1 = .ok (.bipush 6, 2) := by decide +kernel
theorem dX11_copy_3 : decode cX11_copy 3 = .ok (.invokestatic 64, 3) := by decide +kernel
theorem dX11_copy_6 : decode cX11_copy 6 = .ok (.ifCond .eq 12, 3) := by decide +kernel
theorem dX11_copy_9 : decode cX11_copy 9 = .ok (.iload_n 3, 1) := by decide +kernel
theorem dX11_copy_10 : decode cX11_copy 10 = .ok (.bipush 6, 2) := by decide +kernel
theorem dX11_copy_12 : decode cX11_copy 12 = .ok (.invokestatic 64, 3) := by decide +kernel
theorem dX11_copy_15 : decode cX11_copy 15 = .ok (.ifCond .ne 5, 3) := by decide +kernel
theorem dX11_copy_18 : decode cX11_copy 18 = .ok (.iconst (-1), 1) := by decide +kernel
theorem dX11_copy_19 : decode cX11_copy 19 = .ok (.ireturn, 1) := by decide +kernel
theorem dX11_copy_20 : decode cX11_copy 20 = .ok (.iload 5, 2) := by decide +kernel
theorem dX11_copy_22 : decode cX11_copy 22 = .ok (.ifCond .ge 9, 3) := by decide +kernel
theorem dX11_copy_25 : decode cX11_copy 25 = .ok (.aload_n 0, 1) := by decide +kernel
theorem dX11_copy_26 : decode cX11_copy 26 = .ok (.iconst 5, 1) := by decide +kernel
theorem dX11_copy_27 : decode cX11_copy 27 = .ok (.invokevirtual 68, 3) := by decide +kernel
theorem dX11_copy_30 : decode cX11_copy 30 = .ok (.ireturn, 1) := by decide +kernel
theorem dX11_copy_31 : decode cX11_copy 31 = .ok (.aload_n 0, 1) := by decide +kernel
theorem dX11_copy_32 : decode cX11_copy 32 = .ok (.getfield 11, 3) := by decide +kernel
theorem dX11_copy_35 : decode cX11_copy 35 = .ok (.iload_n 1, 1) := by decide +kernel
theorem dX11_copy_36 : decode cX11_copy 36 = .ok (.aaload, 1) := by decide +kernel
theorem dX11_copy_37 : decode cX11_copy 37 = .ok (.astore 6, 2) := by decide +kernel
theorem dX11_copy_39 : decode cX11_copy 39 = .ok (.aload_n 0, 1) := by decide +kernel
theorem dX11_copy_40 : decode cX11_copy 40 = .ok (.getfield 11, 3) := by decide +kernel
theorem dX11_copy_43 : decode cX11_copy 43 = .ok (.iload_n 3, 1) := by decide +kernel
theorem dX11_copy_44 : decode cX11_copy 44 = .ok (.aaload, 1) := by decide +kernel
theorem dX11_copy_45 : decode cX11_copy 45 = .ok (.astore 7, 2) := by decide +kernel
theorem dX11_copy_47 : decode cX11_copy 47 = .ok (.aload 6, 2) := by decide +kernel
theorem dX11_copy_49 : decode cX11_copy 49 = .ok (.getfield 76, 3) := by decide +kernel
theorem dX11_copy_52 : decode cX11_copy 52 = .ok (.iconst (-1), 1) := by decide +kernel
theorem dX11_copy_53 : decode cX11_copy 53 = .ok (.if_icmp .eq 12, 3) := by decide +kernel
theorem dX11_copy_56 : decode cX11_copy 56 = .ok (.aload 7, 2) := by decide +kernel
theorem dX11_copy_58 : decode cX11_copy 58 = .ok (.getfield 76, 3) := by decide +kernel
theorem dX11_copy_61 : decode cX11_copy 61 = .ok (.iconst (-1), 1) := by decide +kernel
theorem dX11_copy_62 : decode cX11_copy 62 = .ok (.if_icmp .ne 9, 3) := by decide +kernel
theorem dX11_copy_65 : decode cX11_copy 65 = .ok (.aload_n 0, 1) := by decide +kernel
theorem dX11_copy_66 : decode cX11_copy 66 = .ok (.iconst 1, 1) := by decide +kernel
theorem dX11_copy_67 : decode cX11_copy 67 = .ok (.invokevirtual 68, 3) := by decide +kernel
theorem dX11_copy_70 : decode cX11_copy 70 = .ok (.ireturn, 1) := by decide +kernel
theorem dX11_copy_71 : decode cX11_copy 71 = .ok (.aload 6, 2) := by decide +kernel
theorem dX11_copy_73 : decode cX11_copy 73 = .ok (.iload_n 2, 1) := by decide +kernel
theorem dX11_copy_74 : decode cX11_copy 74 = .ok (.iload 5, 2) := by decide +kernel
theorem dX11_copy_76 : decode cX11_copy 76 = .ok (.invokevirtual 86, 3) := by decide +kernel
theorem dX11_copy_79 : decode cX11_copy 79 = .ok (.ifCond .eq 15, 3) := by decide +kernel
theorem dX11_copy_82 : decode cX11_copy 82 = .ok (.aload 7, 2) := by decide +kernel
theorem dX11_copy_84 : decode cX11_copy 84 = .ok (.iload 4, 2) := by decide +kernel
theorem dX11_copy_86 : decode cX11_copy 86 = .ok (.iload 5, 2) := by decide +kernel
theorem dX11_copy_88 : decode cX11_copy 88 = .ok (.invokevirtual 86, 3) := by decide +kernel
theorem dX11_copy_91 : decode cX11_copy 91 = .ok (.ifCond .ne 9, 3) := by decide +kernel
theorem dX11_copy_94 : decode cX11_copy 94 = .ok (.aload_n 0, 1) := by decide +kernel
theorem dX11_copy_95 : decode cX11_copy 95 = .ok (.iconst 2, 1) := by decide +kernel
theorem dX11_copy_96 : decode cX11_copy 96 = .ok (.invokevirtual 68, 3) := by decide +kernel
theorem dX11_copy_99 : decode cX11_copy 99 = .ok (.ireturn, 1) := by decide +kernel
theorem dX11_copy_100 : decode cX11_copy 100 = .ok (.aload 6, 2) := by decide +kernel
theorem dX11_copy_102 : decode cX11_copy 102 = .ok (.getfield 79, 3) := by decide +kernel
theorem dX11_copy_105 : decode cX11_copy 105 = .ok (.iload_n 2, 1) := by decide +kernel
theorem dX11_copy_106 : decode cX11_copy 106 = .ok (.aload 7, 2) := by decide +kernel
theorem dX11_copy_108 : decode cX11_copy 108 = .ok (.getfield 79, 3) := by decide +kernel
theorem dX11_copy_111 : decode cX11_copy 111 = .ok (.iload 4, 2) := by decide +kernel
theorem dX11_copy_113 : decode cX11_copy 113 = .ok (.iload 5, 2) := by decide +kernel
theorem dX11_copy_115 : decode cX11_copy 115 = .ok (.invokestatic 89, 3) := by decide +kernel
theorem dX11_copy_118 : decode cX11_copy 118 = .ok (.iconst 1, 1) := by decide +kernel
theorem dX11_copy_119 : decode cX11_copy 119 = .ok (.ireturn, 1) := by decide +kernel
theorem dX11_mean_0 : decode cX11_mean 0 = .ok (.iload_n 1, 1) := by decide +kernel
theorem dX11_mean_1 : decode cX11_mean 1 = .ok (.bipush 6, 2) := by decide +kernel
theorem dX11_mean_3 : decode cX11_mean 3 = .ok (.invokestatic 64, 3) := by decide +kernel
theorem dX11_mean_6 : decode cX11_mean 6 = .ok (.ifCond .ne 5, 3) := by decide +kernel
theorem dX11_mean_9 : decode cX11_mean 9 = .ok (.iconst (-1), 1) := by decide +kernel
theorem dX11_mean_10 : decode cX11_mean 10 = .ok (.ireturn, 1) := by decide +kernel
theorem dX11_mean_11 : decode cX11_mean 11 = .ok (.aload_n 0, 1) := by decide +kernel
theorem dX11_mean_12 : decode cX11_mean 12 = .ok (.getfield 11, 3) := by decide +kernel
theorem dX11_mean_15 : decode cX11_mean 15 = .ok (.iload_n 1, 1) := by decide +kernel
theorem dX11_mean_16 : decode cX11_mean 16 = .ok (.aaload, 1) := by decide +kernel
theorem dX11_mean_17 : decode cX11_mean 17 = .ok (.astore_n 2, 1) := by decide +kernel
theorem dX11_mean_18 : decode cX11_mean 18 = .ok (.aload_n 2, 1) := by decide +kernel
theorem dX11_mean_19 : decode cX11_mean 19 = .ok (.getfield 76, 3) := by decide +kernel
theorem dX11_mean_22 : decode cX11_mean 22 = .ok (.iconst (-1), 1) := by decide +kernel
theorem dX11_mean_23 : decode cX11_mean 23 = .ok (.if_icmp .ne 9, 3) := by decide +kernel
theorem dX11_mean_26 : decode cX11_mean 26 = .ok (.aload_n 0, 1) := by decide +kernel
theorem dX11_mean_27 : decode cX11_mean 27 = .ok (.iconst 1, 1) := by decide +kernel
theorem dX11_mean_28 : decode cX11_mean 28 = .ok (.invokevirtual 68, 3) := by decide +kernel
theorem dX11_mean_31 : decode cX11_mean 31 = .ok (.ireturn, 1) := by decide +kernel
theorem dX11_mean_32 : decode cX11_mean 32 = .ok (.aload_n 2, 1) := by decide +kernel
theorem dX11_mean_33 : decode cX11_mean 33 = .ok (.getfield 76, 3) := by decide +kernel
theorem dX11_mean_36 : decode cX11_mean 36 = .ok (.ifCond .ne 9, 3) := by decide +kernel
theorem dX11_mean_39 : decode cX11_mean 39 = .ok (.aload_n 0, 1) := by decide +kernel
theorem dX11_mean_40 : decode cX11_mean 40 = .ok (.iconst 4, 1) := by decide +kernel
theorem dX11_mean_41 : decode cX11_mean 41 = .ok (.invokevirtual 68, 3) := by decide +kernel
theorem dX11_mean_44 : decode cX11_mean 44 = .ok (.ireturn, 1) := by decide +kernel
theorem dX11_mean_45 : decode cX11_mean 45 = .ok (.aload_n 0, 1) := by decide +kernel
theorem dX11_mean_46 : decode cX11_mean 46 = .ok (.aload_n 2, 1) := by decide +kernel
theorem dX11_mean_47 : decode cX11_mean 47 = .ok (.invokevirtual 95, 3) := by decide +kernel
theorem dX11_mean_50 : decode cX11_mean 50 = .ok (.aload_n 2, 1) := by decide +kernel
theorem dX11_mean_51 : decode cX11_mean 51 = .ok (.getfield 76, 3) := by decide +kernel
theorem dX11_mean_54 : decode cX11_mean 54 = .ok (.i2l, 1) := by decide +kernel
theorem dX11_mean_55 : decode cX11_mean 55 = .ok (.ldiv, 1) := by decide +kernel
theorem dX11_mean_56 : decode cX11_mean 56 = .ok (.l2i, 1) := by decide +kernel
theorem dX11_mean_57 : decode cX11_mean 57 = .ok (.iconst 1, 1) := by decide +kernel
theorem dX11_mean_58 : decode cX11_mean 58 = .ok (.invokevirtual 82, 3) := by decide +kernel
theorem dX11_mean_61 : decode cX11_mean 61 = .ok (.ireturn, 1) := by decide +kernel
theorem dX11_text_0 : decode cX11_text 0 = .ok (.iload_n 1, 1) := by decide +kernel
theorem dX11_text_1 : decode cX11_text 1 = .ok (.iconst 4, 1) := by decide +kernel
theorem dX11_text_2 : decode cX11_text 2 = .ok (.invokestatic 64, 3) := by decide +kernel
theorem dX11_text_5 : decode cX11_text 5 = .ok (.ifCond .eq 9, 3) := by decide +kernel
theorem dX11_text_8 : decode cX11_text 8 = .ok (.iload_n 2, 1) := by decide +kernel
theorem dX11_text_9 : decode cX11_text 9 = .ok (.bipush 40, 2) := by decide +kernel
theorem dX11_text_11 : decode cX11_text 11 = .ok (.if_icmp .le 5, 3) := by decide +kernel
theorem dX11_text_14 : decode cX11_text 14 = .ok (.iconst (-1), 1) := by decide +kernel
theorem dX11_text_15 : decode cX11_text 15 = .ok (.ireturn, 1) := by decide +kernel
theorem dX11_text_16 : decode cX11_text 16 = .ok (.iload_n 2, 1) := by decide +kernel
theorem dX11_text_17 : decode cX11_text 17 = .ok (.ifCond .ge 9, 3) := by decide +kernel
theorem dX11_text_20 : decode cX11_text 20 = .ok (.aload_n 0, 1) := by decide +kernel
theorem dX11_text_21 : decode cX11_text 21 = .ok (.iconst 5, 1) := by decide +kernel
theorem dX11_text_22 : decode cX11_text 22 = .ok (.invokevirtual 68, 3) := by decide +kernel
theorem dX11_text_25 : decode cX11_text 25 = .ok (.ireturn, 1) := by decide +kernel
theorem dX11_text_26 : decode cX11_text 26 = .ok (.aload_n 0, 1) := by decide +kernel
theorem dX11_text_27 : decode cX11_text 27 = .ok (.getfield 17, 3) := by decide +kernel
theorem dX11_text_30 : decode cX11_text 30 = .ok (.iload_n 1, 1) := by decide +kernel
theorem dX11_text_31 : decode cX11_text 31 = .ok (.aaload, 1) := by decide +kernel
theorem dX11_text_32 : decode cX11_text 32 = .ok (.iload_n 2, 1) := by decide +kernel
theorem dX11_text_33 : decode cX11_text 33 = .ok (.invokevirtual 99, 3) := by decide +kernel
theorem dX11_text_36 : decode cX11_text 36 = .ok (.iload_n 2, 1) := by decide +kernel
theorem dX11_text_37 : decode cX11_text 37 = .ok (.ireturn, 1) := by decide +kernel
theorem dX11_put_0 : decode cX11_put 0 = .ok (.iload_n 1, 1) := by decide +kernel
theorem dX11_put_1 : decode cX11_put 1 = .ok (.iconst 4, 1) := by decide +kernel
theorem dX11_put_2 : decode cX11_put 2 = .ok (.invokestatic 64, 3) := by decide +kernel
theorem dX11_put_5 : decode cX11_put 5 = .ok (.ifCond .ne 5, 3) := by decide +kernel
theorem dX11_put_8 : decode cX11_put 8 = .ok (.iconst (-1), 1) := by decide +kernel
theorem dX11_put_9 : decode cX11_put 9 = .ok (.ireturn, 1) := by decide +kernel
theorem dX11_put_10 : decode cX11_put 10 = .ok (.aload_n 0, 1) := by decide +kernel
theorem dX11_put_11 : decode cX11_put 11 = .ok (.getfield 17, 3) := by decide +kernel
theorem dX11_put_14 : decode cX11_put 14 = .ok (.iload_n 1, 1) := by decide +kernel
theorem dX11_put_15 : decode cX11_put 15 = .ok (.aaload, 1) := by decide +kernel
theorem dX11_put_16 : decode cX11_put 16 = .ok (.astore 4, 2) := by decide +kernel
theorem dX11_put_18 : decode cX11_put 18 = .ok (.aload 4, 2) := by decide +kernel
theorem dX11_put_20 : decode cX11_put 20 = .ok (.getfield 100, 3) := by decide +kernel
theorem dX11_put_23 : decode cX11_put 23 = .ok (.iconst (-1), 1) := by decide +kernel
theorem dX11_put_24 : decode cX11_put 24 = .ok (.if_icmp .ne 9, 3) := by decide +kernel
theorem dX11_put_27 : decode cX11_put 27 = .ok (.aload_n 0, 1) := by decide +kernel
theorem dX11_put_28 : decode cX11_put 28 = .ok (.iconst 1, 1) := by decide +kernel
theorem dX11_put_29 : decode cX11_put 29 = .ok (.invokevirtual 68, 3) := by decide +kernel
theorem dX11_put_32 : decode cX11_put 32 = .ok (.ireturn, 1) := by decide +kernel
theorem dX11_put_33 : decode cX11_put 33 = .ok (.iload_n 2, 1) := by decide +kernel
theorem dX11_put_34 : decode cX11_put 34 = .ok (.aload 4, 2) := by decide +kernel
theorem dX11_put_36 : decode cX11_put 36 = .ok (.getfield 100, 3) := by decide +kernel
theorem dX11_put_39 : decode cX11_put 39 = .ok (.invokestatic 64, 3) := by decide +kernel
theorem dX11_put_42 : decode cX11_put 42 = .ok (.ifCond .ne 9, 3) := by decide +kernel
theorem dX11_put_45 : decode cX11_put 45 = .ok (.aload_n 0, 1) := by decide +kernel
theorem dX11_put_46 : decode cX11_put 46 = .ok (.iconst 2, 1) := by decide +kernel
theorem dX11_put_47 : decode cX11_put 47 = .ok (.invokevirtual 68, 3) := by decide +kernel
theorem dX11_put_50 : decode cX11_put 50 = .ok (.ireturn, 1) := by decide +kernel
theorem dX11_put_51 : decode cX11_put 51 = .ok (.aload 4, 2) := by decide +kernel
theorem dX11_put_53 : decode cX11_put 53 = .ok (.getfield 101, 3) := by decide +kernel
theorem dX11_put_56 : decode cX11_put 56 = .ok (.iload_n 2, 1) := by decide +kernel
theorem dX11_put_57 : decode cX11_put 57 = .ok (.baload, 1) := by decide +kernel
theorem dX11_put_58 : decode cX11_put 58 = .ok (.istore 5, 2) := by decide +kernel
theorem dX11_put_60 : decode cX11_put 60 = .ok (.aload 4, 2) := by decide +kernel
theorem dX11_put_62 : decode cX11_put 62 = .ok (.getfield 101, 3) := by decide +kernel
theorem dX11_put_65 : decode cX11_put 65 = .ok (.iload_n 2, 1) := by decide +kernel
theorem dX11_put_66 : decode cX11_put 66 = .ok (.iload_n 3, 1) := by decide +kernel
theorem dX11_put_67 : decode cX11_put 67 = .ok (.i2b, 1) := by decide +kernel
theorem dX11_put_68 : decode cX11_put 68 = .ok (.bastore, 1) := by decide +kernel
theorem dX11_put_69 : decode cX11_put 69 = .ok (.iload 5, 2) := by decide +kernel
theorem dX11_put_71 : decode cX11_put 71 = .ok (.sipush 1000, 3) := by decide +kernel
theorem dX11_put_74 : decode cX11_put 74 = .ok (.iadd, 1) := by decide +kernel
theorem dX11_put_75 : decode cX11_put 75 = .ok (.ireturn, 1) := by decide +kernel
theorem dX11_instance_0 : decode cX11_instance 0 = .ok (.iload_n 1, 1) := by decide +kernel
theorem dX11_instance_1 : decode cX11_instance 1 = .ok (.bipush 32, 2) := by decide +kernel
theorem dX11_instance_3 : decode cX11_instance 3 = .ok (.invokestatic 64, 3) := by decide +kernel
theorem dX11_instance_6 : decode cX11_instance 6 = .ok (.ifCond .ne 5, 3) := by decide +kernel
theorem dX11_instance_9 : decode cX11_instance 9 = .ok (.iconst (-1), 1) := by decide +kernel
theorem dX11_instance_10 : decode cX11_instance 10 = .ok (.ireturn, 1) := by decide +kernel
theorem dX11_instance_11 : decode cX11_instance 11 = .ok (.aload_n 0, 1) := by decide +kernel
theorem dX11_instance_12 : decode cX11_instance 12 = .ok (.getfield 24, 3) := by decide +kernel
theorem dX11_instance_15 : decode cX11_instance 15 = .ok (.getfield 105, 3) := by decide +kernel
theorem dX11_instance_18 : decode cX11_instance 18 = .ok (.bipush 12, 2) := by decide +kernel
theorem dX11_instance_20 : decode cX11_instance 20 = .ok (.if_icmp .ne 6, 3) := by decide +kernel
theorem dX11_instance_23 : decode cX11_instance 23 = .ok (.bipush (-2), 2) := by decide +kernel
theorem dX11_instance_25 : decode cX11_instance 25 = .ok (.ireturn, 1) := by decide +kernel
theorem dX11_instance_26 : decode cX11_instance 26 = .ok (.aload_n 0, 1) := by decide +kernel
theorem dX11_instance_27 : decode cX11_instance 27 = .ok (.getfield 24, 3) := by decide +kernel
theorem dX11_instance_30 : decode cX11_instance 30 = .ok (.iload_n 1, 1) := by decide +kernel
theorem dX11_instance_31 : decode cX11_instance 31 = .ok (.invokevirtual 108, 3) := by decide +kernel
theorem dX11_instance_34 : decode cX11_instance 34 = .ok (.ireturn, 1) := by decide +kernel
theorem dX11_master_0 : decode cX11_master 0 = .ok (.iload_n 1, 1) := by decide +kernel
theorem dX11_master_1 : decode cX11_master 1 = .ok (.sipush 1000, 3) := by decide +kernel
theorem dX11_master_4 : decode cX11_master 4 = .ok (.invokestatic 64, 3) := by decide +kernel
theorem dX11_master_7 : decode cX11_master 7 = .ok (.ifCond .eq 18, 3) := by decide +kernel
theorem dX11_master_10 : decode cX11_master 10 = .ok (.iload_n 2, 1) := by decide +kernel
theorem dX11_master_11 : decode cX11_master 11 = .ok (.sipush 1000, 3) := by decide +kernel
theorem dX11_master_14 : decode cX11_master 14 = .ok (.invokestatic 64, 3) := by decide +kernel
theorem dX11_master_17 : decode cX11_master 17 = .ok (.ifCond .eq 8, 3) := by decide +kernel
theorem dX11_master_20 : decode cX11_master 20 = .ok (.iload_n 2, 1) := by decide +kernel
theorem dX11_master_21 : decode cX11_master 21 = .ok (.iload_n 1, 1) := by decide +kernel
theorem dX11_master_22 : decode cX11_master 22 = .ok (.if_icmp .ge 5, 3) := by decide +kernel
theorem dX11_master_25 : decode cX11_master 25 = .ok (.iconst (-1), 1) := by decide +kernel
theorem dX11_master_26 : decode cX11_master 26 = .ok (.ireturn, 1) := by decide +kernel
theorem dX11_master_27 : decode cX11_master 27 = .ok (.iload_n 3, 1) := by decide +kernel
theorem dX11_master_28 : decode cX11_master 28 = .ok (.bipush (-9), 2) := by decide +kernel
theorem dX11_master_30 : decode cX11_master 30 = .ok (.if_icmp .eq 16, 3) := by decide +kernel
theorem dX11_master_33 : decode cX11_master 33 = .ok (.aload_n 0, 1) := by decide +kernel
theorem dX11_master_34 : decode cX11_master 34 = .ok (.getfield 24, 3) := by decide +kernel
theorem dX11_master_37 : decode cX11_master 37 = .ok (.iload_n 3, 1) := by decide +kernel
theorem dX11_master_38 : decode cX11_master 38 = .ok (.invokevirtual 111, 3) := by decide +kernel
theorem dX11_master_41 : decode cX11_master 41 = .ok (.ifCond .ne 5, 3) := by decide +kernel
theorem dX11_master_44 : decode cX11_master 44 = .ok (.iconst (-1), 1) := by decide +kernel
theorem dX11_master_45 : decode cX11_master 45 = .ok (.ireturn, 1) := by decide +kernel
theorem dX11_master_46 : decode cX11_master 46 = .ok (.aload_n 0, 1) := by decide +kernel
theorem dX11_master_47 : decode cX11_master 47 = .ok (.getfield 24, 3) := by decide +kernel
theorem dX11_master_50 : decode cX11_master 50 = .ok (.getfield 115, 3) := by decide +kernel
theorem dX11_master_53 : decode cX11_master 53 = .ok (.bipush 8, 2) := by decide +kernel
theorem dX11_master_55 : decode cX11_master 55 = .ok (.if_icmp .ne 6, 3) := by decide +kernel
theorem dX11_master_58 : decode cX11_master 58 = .ok (.bipush (-2), 2) := by decide +kernel
theorem dX11_master_60 : decode cX11_master 60 = .ok (.ireturn, 1) := by decide +kernel
theorem dX11_master_61 : decode cX11_master 61 = .ok (.aload_n 0, 1) := by decide +kernel
theorem dX11_master_62 : decode cX11_master 62 = .ok (.getfield 24, 3) := by decide +kernel
theorem dX11_master_65 : decode cX11_master 65 = .ok (.iload_n 1, 1) := by decide +kernel
theorem dX11_master_66 : decode cX11_master 66 = .ok (.iload_n 2, 1) := by decide +kernel
theorem dX11_master_67 : decode cX11_master 67 = .ok (.iload_n 3, 1) := by decide +kernel
theorem dX11_master_68 : decode cX11_master 68 = .ok (.invokevirtual 118, 3) := by decide +kernel
theorem dX11_master_71 : decode cX11_master 71 = .ok (.ireturn, 1) := by decide +kernel
theorem dX11_saying_0 : decode cX11_saying 0 = .ok (.aload_n 0, 1) := by decide +kernel
theorem dX11_saying_1 : decode cX11_saying 1 = .ok (.getfield 24, 3) := by decide +kernel
theorem dX11_saying_4 : decode cX11_saying 4 = .ok (.iload_n 1, 1) := by decide +kernel
theorem dX11_saying_5 : decode cX11_saying 5 = .ok (.iload_n 3, 1) := by decide +kernel
theorem dX11_saying_6 : decode cX11_saying 6 = .ok (.invokevirtual 122, 3) := by decide +kernel
theorem dX11_saying_9 : decode cX11_saying 9 = .ok (.ifCond .eq 14, 3) := by decide +kernel
theorem dX11_saying_12 : decode cX11_saying 12 = .ok (.aload_n 0, 1) := by decide +kernel
theorem dX11_saying_13 : decode cX11_saying 13 = .ok (.getfield 24, 3) := by decide +kernel
theorem dX11_saying_16 : decode cX11_saying 16 = .ok (.iload_n 2, 1) := by decide +kernel
theorem dX11_saying_17 : decode cX11_saying 17 = .ok (.invokevirtual 125, 3) := by decide +kernel
theorem dX11_saying_20 : decode cX11_saying 20 = .ok (.ifCond .ne 5, 3) := by decide +kernel
theorem dX11_saying_23 : decode cX11_saying 23 = .ok (.iconst (-1), 1) := by decide +kernel
theorem dX11_saying_24 : decode cX11_saying 24 = .ok (.ireturn, 1) := by decide +kernel
theorem dX11_saying_25 : decode cX11_saying 25 = .ok (.iload 4, 2) := by decide +kernel
theorem dX11_saying_27 : decode cX11_saying 27 = .ok (.iconst 2, 1) := by decide +kernel
theorem dX11_saying_28 : decode cX11_saying 28 = .ok (.invokestatic 64, 3) := by decide +kernel
theorem dX11_saying_31 : decode cX11_saying 31 = .ok (.ifCond .eq 19, 3) := by decide +kernel
theorem dX11_saying_34 : decode cX11_saying 34 = .ok (.iload 5, 2) := by decide +kernel
theorem dX11_saying_36 : decode cX11_saying 36 = .ok (.bipush (-9), 2) := by decide +kernel
theorem dX11_saying_38 : decode cX11_saying 38 = .ok (.if_icmp .eq 14, 3) := by decide +kernel
theorem dX11_saying_41 : decode cX11_saying 41 = .ok (.iload 5, 2) := by decide +kernel
theorem dX11_saying_43 : decode cX11_saying 43 = .ok (.iconst 5, 1) := by decide +kernel
theorem dX11_saying_44 : decode cX11_saying 44 = .ok (.invokestatic 64, 3) := by decide +kernel
theorem dX11_saying_47 : decode cX11_saying 47 = .ok (.ifCond .ne 5, 3) := by decide +kernel
theorem dX11_saying_50 : decode cX11_saying 50 = .ok (.iconst (-1), 1) := by decide +kernel
theorem dX11_saying_51 : decode cX11_saying 51 = .ok (.ireturn, 1) := by decide +kernel
theorem dX11_saying_52 : decode cX11_saying 52 = .ok (.aload_n 0, 1) := by decide +kernel
theorem dX11_saying_53 : decode cX11_saying 53 = .ok (.getfield 24, 3) := by decide +kernel
theorem dX11_saying_56 : decode cX11_saying 56 = .ok (.iload_n 1, 1) := by decide +kernel
theorem dX11_saying_57 : decode cX11_saying 57 = .ok (.iconst 1, 1) := by decide +kernel
theorem dX11_saying_58 : decode cX11_saying 58 = .ok (.invokevirtual 128, 3) := by decide +kernel
theorem dX11_saying_61 : decode cX11_saying 61 = .ok (.ifCond .ne 6, 3) := by decide +kernel
theorem dX11_saying_64 : decode cX11_saying 64 = .ok (.bipush (-2), 2) := by decide +kernel
theorem dX11_saying_66 : decode cX11_saying 66 = .ok (.ireturn, 1) := by decide +kernel
theorem dX11_saying_67 : decode cX11_saying 67 = .ok (.aload_n 0, 1) := by decide +kernel
theorem dX11_saying_68 : decode cX11_saying 68 = .ok (.getfield 24, 3) := by decide +kernel
theorem dX11_saying_71 : decode cX11_saying 71 = .ok (.iload_n 1, 1) := by decide +kernel
theorem dX11_saying_72 : decode cX11_saying 72 = .ok (.iload_n 2, 1) := by decide +kernel
theorem dX11_saying_73 : decode cX11_saying 73 = .ok (.iload_n 3, 1) := by decide +kernel
theorem dX11_saying_74 : decode cX11_saying 74 = .ok (.iload 4, 2) := by decide +kernel
theorem dX11_saying_76 : decode cX11_saying 76 = .ok (.iload 5, 2) := by decide +kernel
theorem dX11_saying_78 : decode cX11_saying 78 = .ok (.invokevirtual 131, 3) := by decide +kernel
theorem dX11_saying_81 : decode cX11_saying 81 = .ok (.ireturn, 1) := by decide +kernel
theorem dX11_sayings_0 : decode cX11_sayings 0 = .ok (.aload_n 0, 1) := by decide +kernel
theorem dX11_sayings_1 : decode cX11_sayings 1 = .ok (.getfield 24, 3) := by decide +kernel
theorem dX11_sayings_4 : decode cX11_sayings 4 = .ok (.iload_n 1, 1) := by decide +kernel
theorem dX11_sayings_5 : decode cX11_sayings 5 = .ok (.iload_n 2, 1) := by decide +kernel
theorem dX11_sayings_6 : decode cX11_sayings 6 = .ok (.invokevirtual 122, 3) := by decide +kernel
theorem dX11_sayings_9 : decode cX11_sayings 9 = .ok (.ifCond .eq 12, 3) := by decide +kernel
theorem dX11_sayings_12 : decode cX11_sayings 12 = .ok (.iload_n 3, 1) := by decide +kernel
theorem dX11_sayings_13 : decode cX11_sayings 13 = .ok (.bipush 6, 2) := by decide +kernel
theorem dX11_sayings_15 : decode cX11_sayings 15 = .ok (.invokestatic 64, 3) := by decide +kernel
theorem dX11_sayings_18 : decode cX11_sayings 18 = .ok (.ifCond .ne 5, 3) := by decide +kernel
theorem dX11_sayings_21 : decode cX11_sayings 21 = .ok (.iconst (-1), 1) := by decide +kernel
theorem dX11_sayings_22 : decode cX11_sayings 22 = .ok (.ireturn, 1) := by decide +kernel
theorem dX11_sayings_23 : decode cX11_sayings 23 = .ok (.aload_n 0, 1) := by decide +kernel
theorem dX11_sayings_24 : decode cX11_sayings 24 = .ok (.getfield 11, 3) := by decide +kernel
theorem dX11_sayings_27 : decode cX11_sayings 27 = .ok (.iload_n 3, 1) := by decide +kernel
theorem dX11_sayings_28 : decode cX11_sayings 28 = .ok (.aaload, 1) := by decide +kernel
theorem dX11_sayings_29 : decode cX11_sayings 29 = .ok (.astore 4, 2) := by decide +kernel
theorem dX11_sayings_31 : decode cX11_sayings 31 = .ok (.aload 4, 2) := by decide +kernel
theorem dX11_sayings_33 : decode cX11_sayings 33 = .ok (.getfield 76, 3) := by decide +kernel
theorem dX11_sayings_36 : decode cX11_sayings 36 = .ok (.iconst (-1), 1) := by decide +kernel
theorem dX11_sayings_37 : decode cX11_sayings 37 = .ok (.if_icmp .ne 9, 3) := by decide +kernel
theorem dX11_sayings_40 : decode cX11_sayings 40 = .ok (.aload_n 0, 1) := by decide +kernel
theorem dX11_sayings_41 : decode cX11_sayings 41 = .ok (.iconst 1, 1) := by decide +kernel
theorem dX11_sayings_42 : decode cX11_sayings 42 = .ok (.invokevirtual 68, 3) := by decide +kernel
theorem dX11_sayings_45 : decode cX11_sayings 45 = .ok (.ireturn, 1) := by decide +kernel
theorem dX11_sayings_46 : decode cX11_sayings 46 = .ok (.iconst 0, 1) := by decide +kernel
theorem dX11_sayings_47 : decode cX11_sayings 47 = .ok (.istore 5, 2) := by decide +kernel
theorem dX11_sayings_49 : decode cX11_sayings 49 = .ok (.iload 5, 2) := by decide +kernel
theorem dX11_sayings_51 : decode cX11_sayings 51 = .ok (.aload 4, 2) := by decide +kernel
theorem dX11_sayings_53 : decode cX11_sayings 53 = .ok (.getfield 76, 3) := by decide +kernel
theorem dX11_sayings_56 : decode cX11_sayings 56 = .ok (.if_icmp .ge 48, 3) := by decide +kernel
theorem dX11_sayings_59 : decode cX11_sayings 59 = .ok (.aload 4, 2) := by decide +kernel
theorem dX11_sayings_61 : decode cX11_sayings 61 = .ok (.getfield 79, 3) := by decide +kernel
theorem dX11_sayings_64 : decode cX11_sayings 64 = .ok (.iload 5, 2) := by decide +kernel
theorem dX11_sayings_66 : decode cX11_sayings 66 = .ok (.iaload, 1) := by decide +kernel
theorem dX11_sayings_67 : decode cX11_sayings 67 = .ok (.istore 6, 2) := by decide +kernel
theorem dX11_sayings_69 : decode cX11_sayings 69 = .ok (.iload 6, 2) := by decide +kernel
theorem dX11_sayings_71 : decode cX11_sayings 71 = .ok (.iload 6, 2) := by decide +kernel
theorem dX11_sayings_73 : decode cX11_sayings 73 = .ok (.i2b, 1) := by decide +kernel
theorem dX11_sayings_74 : decode cX11_sayings 74 = .ok (.if_icmp .ne 18, 3) := by decide +kernel
theorem dX11_sayings_77 : decode cX11_sayings 77 = .ok (.aload_n 0, 1) := by decide +kernel
theorem dX11_sayings_78 : decode cX11_sayings 78 = .ok (.getfield 24, 3) := by decide +kernel
theorem dX11_sayings_81 : decode cX11_sayings 81 = .ok (.iload 6, 2) := by decide +kernel
theorem dX11_sayings_83 : decode cX11_sayings 83 = .ok (.bipush 15, 2) := by decide +kernel
theorem dX11_sayings_85 : decode cX11_sayings 85 = .ok (.iand, 1) := by decide +kernel
theorem dX11_sayings_86 : decode cX11_sayings 86 = .ok (.invokevirtual 125, 3) := by decide +kernel
theorem dX11_sayings_89 : decode cX11_sayings 89 = .ok (.ifCond .ne 9, 3) := by decide +kernel
theorem dX11_sayings_92 : decode cX11_sayings 92 = .ok (.aload_n 0, 1) := by decide +kernel
theorem dX11_sayings_93 : decode cX11_sayings 93 = .ok (.iconst 3, 1) := by decide +kernel
theorem dX11_sayings_94 : decode cX11_sayings 94 = .ok (.invokevirtual 68, 3) := by decide +kernel
theorem dX11_sayings_97 : decode cX11_sayings 97 = .ok (.ireturn, 1) := by decide +kernel
theorem dX11_sayings_98 : decode cX11_sayings 98 = .ok (.iinc 5 1, 3) := by decide +kernel
theorem dX11_sayings_101 : decode cX11_sayings 101 = .ok (.goto (-52), 3) := by decide +kernel
theorem dX11_sayings_104 : decode cX11_sayings 104 = .ok (.aload_n 0, 1) := by decide +kernel
theorem dX11_sayings_105 : decode cX11_sayings 105 = .ok (.getfield 24, 3) := by decide +kernel
theorem dX11_sayings_108 : decode cX11_sayings 108 = .ok (.iload_n 1, 1) := by decide +kernel
theorem dX11_sayings_109 : decode cX11_sayings 109 = .ok (.aload 4, 2) := by decide +kernel
theorem dX11_sayings_111 : decode cX11_sayings 111 = .ok (.getfield 76, 3) := by decide +kernel
theorem dX11_sayings_114 : decode cX11_sayings 114 = .ok (.invokevirtual 128, 3) := by decide +kernel
theorem dX11_sayings_117 : decode cX11_sayings 117 = .ok (.ifCond .ne 6, 3) := by decide +kernel
theorem dX11_sayings_120 : decode cX11_sayings 120 = .ok (.bipush (-2), 2) := by decide +kernel
theorem dX11_sayings_122 : decode cX11_sayings 122 = .ok (.ireturn, 1) := by decide +kernel
theorem dX11_sayings_123 : decode cX11_sayings 123 = .ok (.iconst 0, 1) := by decide +kernel
theorem dX11_sayings_124 : decode cX11_sayings 124 = .ok (.istore 5, 2) := by decide +kernel
theorem dX11_sayings_126 : decode cX11_sayings 126 = .ok (.iload 5, 2) := by decide +kernel
theorem dX11_sayings_128 : decode cX11_sayings 128 = .ok (.aload 4, 2) := by decide +kernel
theorem dX11_sayings_130 : decode cX11_sayings 130 = .ok (.getfield 76, 3) := by decide +kernel
theorem dX11_sayings_133 : decode cX11_sayings 133 = .ok (.if_icmp .ge 42, 3) := by decide +kernel
theorem dX11_sayings_136 : decode cX11_sayings 136 = .ok (.aload 4, 2) := by decide +kernel
theorem dX11_sayings_138 : decode cX11_sayings 138 = .ok (.getfield 79, 3) := by decide +kernel
theorem dX11_sayings_141 : decode cX11_sayings 141 = .ok (.iload 5, 2) := by decide +kernel
theorem dX11_sayings_143 : decode cX11_sayings 143 = .ok (.iaload, 1) := by decide +kernel
theorem dX11_sayings_144 : decode cX11_sayings 144 = .ok (.istore 6, 2) := by decide +kernel
theorem dX11_sayings_146 : decode cX11_sayings 146 = .ok (.aload_n 0, 1) := by decide +kernel
theorem dX11_sayings_147 : decode cX11_sayings 147 = .ok (.getfield 24, 3) := by decide +kernel
theorem dX11_sayings_150 : decode cX11_sayings 150 = .ok (.iload_n 1, 1) := by decide +kernel
theorem dX11_sayings_151 : decode cX11_sayings 151 = .ok (.iload 6, 2) := by decide +kernel
theorem dX11_sayings_153 : decode cX11_sayings 153 = .ok (.bipush 15, 2) := by decide +kernel
theorem dX11_sayings_155 : decode cX11_sayings 155 = .ok (.iand, 1) := by decide +kernel
theorem dX11_sayings_156 : decode cX11_sayings 156 = .ok (.iload_n 2, 1) := by decide +kernel
theorem dX11_sayings_157 : decode cX11_sayings 157 = .ok (.iload 6, 2) := by decide +kernel
theorem dX11_sayings_159 : decode cX11_sayings 159 = .ok (.iconst 4, 1) := by decide +kernel
theorem dX11_sayings_160 : decode cX11_sayings 160 = .ok (.ishr, 1) := by decide +kernel
theorem dX11_sayings_161 : decode cX11_sayings 161 = .ok (.iconst 1, 1) := by decide +kernel
theorem dX11_sayings_162 : decode cX11_sayings 162 = .ok (.iand, 1) := by decide +kernel
theorem dX11_sayings_163 : decode cX11_sayings 163 = .ok (.bipush (-9), 2) := by decide +kernel
theorem dX11_sayings_165 : decode cX11_sayings 165 = .ok (.invokevirtual 131, 3) := by decide +kernel
theorem dX11_sayings_168 : decode cX11_sayings 168 = .ok (.pop, 1) := by decide +kernel
theorem dX11_sayings_169 : decode cX11_sayings 169 = .ok (.iinc 5 1, 3) := by decide +kernel
theorem dX11_sayings_172 : decode cX11_sayings 172 = .ok (.goto (-46), 3) := by decide +kernel
theorem dX11_sayings_175 : decode cX11_sayings 175 = .ok (.aload 4, 2) := by decide +kernel
theorem dX11_sayings_177 : decode cX11_sayings 177 = .ok (.getfield 76, 3) := by decide +kernel
theorem dX11_sayings_180 : decode cX11_sayings 180 = .ok (.ireturn, 1) := by decide +kernel
theorem dX11_told_0 : decode cX11_told 0 = .ok (.aload_n 0, 1) := by decide +kernel
theorem dX11_told_1 : decode cX11_told 1 = .ok (.getfield 24, 3) := by decide +kernel
theorem dX11_told_4 : decode cX11_told 4 = .ok (.iload_n 1, 1) := by decide +kernel
theorem dX11_told_5 : decode cX11_told 5 = .ok (.invokevirtual 135, 3) := by decide +kernel
theorem dX11_told_8 : decode cX11_told 8 = .ok (.ifCond .eq 11, 3) := by decide +kernel
theorem dX11_told_11 : decode cX11_told 11 = .ok (.iload_n 2, 1) := by decide +kernel
theorem dX11_told_12 : decode cX11_told 12 = .ok (.iconst 5, 1) := by decide +kernel
theorem dX11_told_13 : decode cX11_told 13 = .ok (.invokestatic 64, 3) := by decide +kernel
theorem dX11_told_16 : decode cX11_told 16 = .ok (.ifCond .ne 5, 3) := by decide +kernel
theorem dX11_told_19 : decode cX11_told 19 = .ok (.iconst (-1), 1) := by decide +kernel
theorem dX11_told_20 : decode cX11_told 20 = .ok (.ireturn, 1) := by decide +kernel
theorem dX11_told_21 : decode cX11_told 21 = .ok (.aload_n 0, 1) := by decide +kernel
theorem dX11_told_22 : decode cX11_told 22 = .ok (.aload_n 0, 1) := by decide +kernel
theorem dX11_told_23 : decode cX11_told 23 = .ok (.getfield 24, 3) := by decide +kernel
theorem dX11_told_26 : decode cX11_told 26 = .ok (.getfield 138, 3) := by decide +kernel
theorem dX11_told_29 : decode cX11_told 29 = .ok (.iload_n 1, 1) := by decide +kernel
theorem dX11_told_30 : decode cX11_told 30 = .ok (.aaload, 1) := by decide +kernel
theorem dX11_told_31 : decode cX11_told 31 = .ok (.iload_n 2, 1) := by decide +kernel
theorem dX11_told_32 : decode cX11_told 32 = .ok (.invokevirtual 142, 3) := by decide +kernel
theorem dX11_told_35 : decode cX11_told 35 = .ok (.iconst 1, 1) := by decide +kernel
theorem dX11_told_36 : decode cX11_told 36 = .ok (.invokevirtual 82, 3) := by decide +kernel
theorem dX11_told_39 : decode cX11_told 39 = .ok (.ireturn, 1) := by decide +kernel
theorem dX11_traits_0 : decode cX11_traits 0 = .ok (.aload_n 0, 1) := by decide +kernel
theorem dX11_traits_1 : decode cX11_traits 1 = .ok (.getfield 24, 3) := by decide +kernel
theorem dX11_traits_4 : decode cX11_traits 4 = .ok (.iload_n 1, 1) := by decide +kernel
theorem dX11_traits_5 : decode cX11_traits 5 = .ok (.invokevirtual 125, 3) := by decide +kernel
theorem dX11_traits_8 : decode cX11_traits 8 = .ok (.ifCond .eq 15, 3) := by decide +kernel
theorem dX11_traits_11 : decode cX11_traits 11 = .ok (.aload_n 0, 1) := by decide +kernel
theorem dX11_traits_12 : decode cX11_traits 12 = .ok (.getfield 24, 3) := by decide +kernel
theorem dX11_traits_15 : decode cX11_traits 15 = .ok (.getfield 147, 3) := by decide +kernel
theorem dX11_traits_18 : decode cX11_traits 18 = .ok (.iload_n 1, 1) := by decide +kernel
theorem dX11_traits_19 : decode cX11_traits 19 = .ok (.iaload, 1) := by decide +kernel
theorem dX11_traits_20 : decode cX11_traits 20 = .ok (.goto 4, 3) := by decide +kernel
theorem dX11_traits_23 : decode cX11_traits 23 = .ok (.iconst (-1), 1) := by decide +kernel
theorem dX11_traits_24 : decode cX11_traits 24 = .ok (.ireturn, 1) := by decide +kernel
theorem dX11_life_0 : decode cX11_life 0 = .ok (.aload_n 0, 1) := by decide +kernel
theorem dX11_life_1 : decode cX11_life 1 = .ok (.getfield 24, 3) := by decide +kernel
theorem dX11_life_4 : decode cX11_life 4 = .ok (.iload_n 1, 1) := by decide +kernel
theorem dX11_life_5 : decode cX11_life 5 = .ok (.invokevirtual 111, 3) := by decide +kernel
theorem dX11_life_8 : decode cX11_life 8 = .ok (.ifCond .eq 11, 3) := by decide +kernel
theorem dX11_life_11 : decode cX11_life 11 = .ok (.iload_n 2, 1) := by decide +kernel
theorem dX11_life_12 : decode cX11_life 12 = .ok (.iconst 5, 1) := by decide +kernel
theorem dX11_life_13 : decode cX11_life 13 = .ok (.invokestatic 64, 3) := by decide +kernel
theorem dX11_life_16 : decode cX11_life 16 = .ok (.ifCond .ne 5, 3) := by decide +kernel
theorem dX11_life_19 : decode cX11_life 19 = .ok (.iconst (-1), 1) := by decide +kernel
theorem dX11_life_20 : decode cX11_life 20 = .ok (.ireturn, 1) := by decide +kernel
theorem dX11_life_21 : decode cX11_life 21 = .ok (.aload_n 0, 1) := by decide +kernel
theorem dX11_life_22 : decode cX11_life 22 = .ok (.aload_n 0, 1) := by decide +kernel
theorem dX11_life_23 : decode cX11_life 23 = .ok (.getfield 24, 3) := by decide +kernel
theorem dX11_life_26 : decode cX11_life 26 = .ok (.iload_n 1, 1) := by decide +kernel
theorem dX11_life_27 : decode cX11_life 27 = .ok (.iload_n 2, 1) := by decide +kernel
theorem dX11_life_28 : decode cX11_life 28 = .ok (.invokevirtual 150, 3) := by decide +kernel
theorem dX11_life_31 : decode cX11_life 31 = .ok (.iconst 1, 1) := by decide +kernel
theorem dX11_life_32 : decode cX11_life 32 = .ok (.invokevirtual 82, 3) := by decide +kernel
theorem dX11_life_35 : decode cX11_life 35 = .ok (.ireturn, 1) := by decide +kernel
theorem dX11_fault_0 : decode cX11_fault 0 = .ok (.iload_n 1, 1) := by decide +kernel
theorem dX11_fault_1 : decode cX11_fault 1 = .ok (.iconst 4, 1) := by decide +kernel
theorem dX11_fault_2 : decode cX11_fault 2 = .ok (.invokestatic 64, 3) := by decide +kernel
theorem dX11_fault_5 : decode cX11_fault 5 = .ok (.ifCond .ne 5, 3) := by decide +kernel
theorem dX11_fault_8 : decode cX11_fault 8 = .ok (.iconst (-1), 1) := by decide +kernel
theorem dX11_fault_9 : decode cX11_fault 9 = .ok (.ireturn, 1) := by decide +kernel
theorem dX11_fault_10 : decode cX11_fault 10 = .ok (.aload_n 0, 1) := by decide +kernel
theorem dX11_fault_11 : decode cX11_fault 11 = .ok (.getfield 17, 3) := by decide +kernel
theorem dX11_fault_14 : decode cX11_fault 14 = .ok (.iload_n 1, 1) := by decide +kernel
theorem dX11_fault_15 : decode cX11_fault 15 = .ok (.aaload, 1) := by decide +kernel
theorem dX11_fault_16 : decode cX11_fault 16 = .ok (.getfield 100, 3) := by decide +kernel
theorem dX11_fault_19 : decode cX11_fault 19 = .ok (.iconst (-1), 1) := by decide +kernel
theorem dX11_fault_20 : decode cX11_fault 20 = .ok (.if_icmp .ne 9, 3) := by decide +kernel
theorem dX11_fault_23 : decode cX11_fault 23 = .ok (.aload_n 0, 1) := by decide +kernel
theorem dX11_fault_24 : decode cX11_fault 24 = .ok (.iconst 1, 1) := by decide +kernel
theorem dX11_fault_25 : decode cX11_fault 25 = .ok (.invokevirtual 68, 3) := by decide +kernel
theorem dX11_fault_28 : decode cX11_fault 28 = .ok (.ireturn, 1) := by decide +kernel
theorem dX11_fault_29 : decode cX11_fault 29 = .ok (.aload_n 0, 1) := by decide +kernel
theorem dX11_fault_30 : decode cX11_fault 30 = .ok (.getfield 17, 3) := by decide +kernel
theorem dX11_fault_33 : decode cX11_fault 33 = .ok (.iload_n 1, 1) := by decide +kernel
theorem dX11_fault_34 : decode cX11_fault 34 = .ok (.aaload, 1) := by decide +kernel
theorem dX11_fault_35 : decode cX11_fault 35 = .ok (.invokevirtual 153, 3) := by decide +kernel
theorem dX11_fault_38 : decode cX11_fault 38 = .ok (.ireturn, 1) := by decide +kernel
theorem dX11_rule_0 : decode cX11_rule 0 = .ok (.iload_n 1, 1) := by decide +kernel
theorem dX11_rule_1 : decode cX11_rule 1 = .ok (.iconst 4, 1) := by decide +kernel
theorem dX11_rule_2 : decode cX11_rule 2 = .ok (.invokestatic 64, 3) := by decide +kernel
theorem dX11_rule_5 : decode cX11_rule 5 = .ok (.ifCond .ne 5, 3) := by decide +kernel
theorem dX11_rule_8 : decode cX11_rule 8 = .ok (.iconst (-1), 1) := by decide +kernel
theorem dX11_rule_9 : decode cX11_rule 9 = .ok (.ireturn, 1) := by decide +kernel
theorem dX11_rule_10 : decode cX11_rule 10 = .ok (.aload_n 0, 1) := by decide +kernel
theorem dX11_rule_11 : decode cX11_rule 11 = .ok (.getfield 17, 3) := by decide +kernel
theorem dX11_rule_14 : decode cX11_rule 14 = .ok (.iload_n 1, 1) := by decide +kernel
theorem dX11_rule_15 : decode cX11_rule 15 = .ok (.aaload, 1) := by decide +kernel
theorem dX11_rule_16 : decode cX11_rule 16 = .ok (.astore_n 2, 1) := by decide +kernel
theorem dX11_rule_17 : decode cX11_rule 17 = .ok (.aload_n 2, 1) := by decide +kernel
theorem dX11_rule_18 : decode cX11_rule 18 = .ok (.getfield 100, 3) := by decide +kernel
theorem dX11_rule_21 : decode cX11_rule 21 = .ok (.iconst (-1), 1) := by decide +kernel
theorem dX11_rule_22 : decode cX11_rule 22 = .ok (.if_icmp .ne 9, 3) := by decide +kernel
theorem dX11_rule_25 : decode cX11_rule 25 = .ok (.aload_n 0, 1) := by decide +kernel
theorem dX11_rule_26 : decode cX11_rule 26 = .ok (.iconst 1, 1) := by decide +kernel
theorem dX11_rule_27 : decode cX11_rule 27 = .ok (.invokevirtual 68, 3) := by decide +kernel
theorem dX11_rule_30 : decode cX11_rule 30 = .ok (.ireturn, 1) := by decide +kernel
theorem dX11_rule_31 : decode cX11_rule 31 = .ok (.aload_n 2, 1) := by decide +kernel
theorem dX11_rule_32 : decode cX11_rule 32 = .ok (.invokevirtual 153, 3) := by decide +kernel
theorem dX11_rule_35 : decode cX11_rule 35 = .ok (.bipush (-9), 2) := by decide +kernel
theorem dX11_rule_37 : decode cX11_rule 37 = .ok (.if_icmp .ne 10, 3) := by decide +kernel
theorem dX11_rule_40 : decode cX11_rule 40 = .ok (.aload_n 2, 1) := by decide +kernel
theorem dX11_rule_41 : decode cX11_rule 41 = .ok (.getfield 157, 3) := by decide +kernel
theorem dX11_rule_44 : decode cX11_rule 44 = .ok (.goto 5, 3) := by decide +kernel
theorem dX11_rule_47 : decode cX11_rule 47 = .ok (.bipush (-4), 2) := by decide +kernel
theorem dX11_rule_49 : decode cX11_rule 49 = .ok (.ireturn, 1) := by decide +kernel
theorem dX11_answers_0 : decode cX11_answers 0 = .ok (.iload_n 1, 1) := by decide +kernel
theorem dX11_answers_1 : decode cX11_answers 1 = .ok (.sipush 244, 3) := by decide +kernel
theorem dX11_answers_4 : decode cX11_answers 4 = .ok (.invokestatic 64, 3) := by decide +kernel
theorem dX11_answers_7 : decode cX11_answers 7 = .ok (.ifCond .eq 12, 3) := by decide +kernel
theorem dX11_answers_10 : decode cX11_answers 10 = .ok (.iload_n 2, 1) := by decide +kernel
theorem dX11_answers_11 : decode cX11_answers 11 = .ok (.bipush 32, 2) := by decide +kernel
theorem dX11_answers_13 : decode cX11_answers 13 = .ok (.invokestatic 64, 3) := by decide +kernel
theorem dX11_answers_16 : decode cX11_answers 16 = .ok (.ifCond .ne 5, 3) := by decide +kernel
theorem dX11_answers_19 : decode cX11_answers 19 = .ok (.iconst (-1), 1) := by decide +kernel
theorem dX11_answers_20 : decode cX11_answers 20 = .ok (.ireturn, 1) := by decide +kernel
theorem dX11_answers_21 : decode cX11_answers 21 = .ok (.aload_n 0, 1) := by decide +kernel
theorem dX11_answers_22 : decode cX11_answers 22 = .ok (.getfield 24, 3) := by decide +kernel
theorem dX11_answers_25 : decode cX11_answers 25 = .ok (.getfield 160, 3) := by decide +kernel
theorem dX11_answers_28 : decode cX11_answers 28 = .ok (.iload_n 1, 1) := by decide +kernel
theorem dX11_answers_29 : decode cX11_answers 29 = .ok (.iload_n 2, 1) := by decide +kernel
theorem dX11_answers_30 : decode cX11_answers 30 = .ok (.invokevirtual 164, 3) := by decide +kernel
theorem dX11_answers_33 : decode cX11_answers 33 = .ok (.ireturn, 1) := by decide +kernel
theorem dX11_fits_0 : decode cX11_fits 0 = .ok (.aload_n 0, 1) := by decide +kernel
theorem dX11_fits_1 : decode cX11_fits 1 = .ok (.getfield 24, 3) := by decide +kernel
theorem dX11_fits_4 : decode cX11_fits 4 = .ok (.iload_n 1, 1) := by decide +kernel
theorem dX11_fits_5 : decode cX11_fits 5 = .ok (.invokevirtual 135, 3) := by decide +kernel
theorem dX11_fits_8 : decode cX11_fits 8 = .ok (.ifCond .eq 13, 3) := by decide +kernel
