theorem dX12_plain_2 : decode cX12_plain 2 = .ok (.invokevirtual 157, 3) := by decide +kernel
theorem dX12_plain_5 : decode cX12_plain 5 = .ok (.ifCond .ne 5, 3) := by decide +kernel
theorem dX12_plain_8 : decode cX12_plain 8 = .ok (.iconst (-1), 1) := by decide +kernel
theorem dX12_plain_9 : decode cX12_plain 9 = .ok (.ireturn, 1) := by decide +kernel
theorem dX12_plain_10 : decode cX12_plain 10 = .ok (.iconst 0, 1) := by decide +kernel
theorem dX12_plain_11 : decode cX12_plain 11 = .ok (.istore_n 2, 1) := by decide +kernel
theorem dX12_plain_12 : decode cX12_plain 12 = .ok (.iconst 0, 1) := by decide +kernel
theorem dX12_plain_13 : decode cX12_plain 13 = .ok (.istore_n 3, 1) := by decide +kernel
theorem dX12_plain_14 : decode cX12_plain 14 = .ok (.iload_n 3, 1) := by decide +kernel
theorem dX12_plain_15 : decode cX12_plain 15 = .ok (.aload_n 0, 1) := by decide +kernel
theorem dX12_plain_16 : decode cX12_plain 16 = .ok (.getfield 128, 3) := by decide +kernel
theorem dX12_plain_19 : decode cX12_plain 19 = .ok (.if_icmp .ge 42, 3) := by decide +kernel
theorem dX12_plain_22 : decode cX12_plain 22 = .ok (.iload_n 2, 1) := by decide +kernel
theorem dX12_plain_23 : decode cX12_plain 23 = .ok (.aload_n 0, 1) := by decide +kernel
theorem dX12_plain_24 : decode cX12_plain 24 = .ok (.iload_n 3, 1) := by decide +kernel
theorem dX12_plain_25 : decode cX12_plain 25 = .ok (.invokevirtual 150, 3) := by decide +kernel
theorem dX12_plain_28 : decode cX12_plain 28 = .ok (.ifCond .le 24, 3) := by decide +kernel
theorem dX12_plain_31 : decode cX12_plain 31 = .ok (.iconst 1, 1) := by decide +kernel
theorem dX12_plain_32 : decode cX12_plain 32 = .ok (.aload_n 0, 1) := by decide +kernel
theorem dX12_plain_33 : decode cX12_plain 33 = .ok (.iload_n 3, 1) := by decide +kernel
theorem dX12_plain_34 : decode cX12_plain 34 = .ok (.aload_n 0, 1) := by decide +kernel
theorem dX12_plain_35 : decode cX12_plain 35 = .ok (.getfield 32, 3) := by decide +kernel
theorem dX12_plain_38 : decode cX12_plain 38 = .ok (.aload_n 0, 1) := by decide +kernel
theorem dX12_plain_39 : decode cX12_plain 39 = .ok (.getfield 47, 3) := by decide +kernel
theorem dX12_plain_42 : decode cX12_plain 42 = .ok (.iload_n 1, 1) := by decide +kernel
theorem dX12_plain_43 : decode cX12_plain 43 = .ok (.iaload, 1) := by decide +kernel
theorem dX12_plain_44 : decode cX12_plain 44 = .ok (.iaload, 1) := by decide +kernel
theorem dX12_plain_45 : decode cX12_plain 45 = .ok (.invokevirtual 246, 3) := by decide +kernel
theorem dX12_plain_48 : decode cX12_plain 48 = .ok (.ishl, 1) := by decide +kernel
theorem dX12_plain_49 : decode cX12_plain 49 = .ok (.goto 4, 3) := by decide +kernel
theorem dX12_plain_52 : decode cX12_plain 52 = .ok (.iconst 0, 1) := by decide +kernel
theorem dX12_plain_53 : decode cX12_plain 53 = .ok (.ior, 1) := by decide +kernel
theorem dX12_plain_54 : decode cX12_plain 54 = .ok (.istore_n 2, 1) := by decide +kernel
theorem dX12_plain_55 : decode cX12_plain 55 = .ok (.iinc 3 1, 3) := by decide +kernel
theorem dX12_plain_58 : decode cX12_plain 58 = .ok (.goto (-44), 3) := by decide +kernel
theorem dX12_plain_61 : decode cX12_plain 61 = .ok (.iload_n 2, 1) := by decide +kernel
theorem dX12_plain_62 : decode cX12_plain 62 = .ok (.iconst 1, 1) := by decide +kernel
theorem dX12_plain_63 : decode cX12_plain 63 = .ok (.if_icmp .eq 8, 3) := by decide +kernel
theorem dX12_plain_66 : decode cX12_plain 66 = .ok (.iload_n 2, 1) := by decide +kernel
theorem dX12_plain_67 : decode cX12_plain 67 = .ok (.iconst 2, 1) := by decide +kernel
theorem dX12_plain_68 : decode cX12_plain 68 = .ok (.if_icmp .ne 7, 3) := by decide +kernel
theorem dX12_plain_71 : decode cX12_plain 71 = .ok (.iconst 1, 1) := by decide +kernel
theorem dX12_plain_72 : decode cX12_plain 72 = .ok (.goto 4, 3) := by decide +kernel
theorem dX12_plain_75 : decode cX12_plain 75 = .ok (.iconst 0, 1) := by decide +kernel
theorem dX12_plain_76 : decode cX12_plain 76 = .ok (.ireturn, 1) := by decide +kernel
theorem dX12_leastIn_0 : decode cX12_leastIn 0 = .ok (.ldc 218, 2) := by decide +kernel
theorem dX12_leastIn_2 : decode cX12_leastIn 2 = .ok (.istore 4, 2) := by decide +kernel
theorem dX12_leastIn_4 : decode cX12_leastIn 4 = .ok (.iconst 0, 1) := by decide +kernel
theorem dX12_leastIn_5 : decode cX12_leastIn 5 = .ok (.istore 5, 2) := by decide +kernel
theorem dX12_leastIn_7 : decode cX12_leastIn 7 = .ok (.iload 5, 2) := by decide +kernel
theorem dX12_leastIn_9 : decode cX12_leastIn 9 = .ok (.sipush 244, 3) := by decide +kernel
theorem dX12_leastIn_12 : decode cX12_leastIn 12 = .ok (.if_icmp .ge 101, 3) := by decide +kernel
theorem dX12_leastIn_15 : decode cX12_leastIn 15 = .ok (.iconst 0, 1) := by decide +kernel
theorem dX12_leastIn_16 : decode cX12_leastIn 16 = .ok (.istore 6, 2) := by decide +kernel
theorem dX12_leastIn_18 : decode cX12_leastIn 18 = .ok (.iconst 0, 1) := by decide +kernel
theorem dX12_leastIn_19 : decode cX12_leastIn 19 = .ok (.istore 7, 2) := by decide +kernel
theorem dX12_leastIn_21 : decode cX12_leastIn 21 = .ok (.iconst 0, 1) := by decide +kernel
theorem dX12_leastIn_22 : decode cX12_leastIn 22 = .ok (.istore 8, 2) := by decide +kernel
theorem dX12_leastIn_24 : decode cX12_leastIn 24 = .ok (.iload 8, 2) := by decide +kernel
theorem dX12_leastIn_26 : decode cX12_leastIn 26 = .ok (.aload_n 0, 1) := by decide +kernel
theorem dX12_leastIn_27 : decode cX12_leastIn 27 = .ok (.getfield 131, 3) := by decide +kernel
theorem dX12_leastIn_30 : decode cX12_leastIn 30 = .ok (.if_icmp .ge 61, 3) := by decide +kernel
theorem dX12_leastIn_33 : decode cX12_leastIn 33 = .ok (.aload_n 0, 1) := by decide +kernel
theorem dX12_leastIn_34 : decode cX12_leastIn 34 = .ok (.getfield 44, 3) := by decide +kernel
theorem dX12_leastIn_37 : decode cX12_leastIn 37 = .ok (.iload 8, 2) := by decide +kernel
theorem dX12_leastIn_39 : decode cX12_leastIn 39 = .ok (.iaload, 1) := by decide +kernel
theorem dX12_leastIn_40 : decode cX12_leastIn 40 = .ok (.iload_n 1, 1) := by decide +kernel
theorem dX12_leastIn_41 : decode cX12_leastIn 41 = .ok (.if_icmp .ne 44, 3) := by decide +kernel
theorem dX12_leastIn_44 : decode cX12_leastIn 44 = .ok (.iload 6, 2) := by decide +kernel
theorem dX12_leastIn_46 : decode cX12_leastIn 46 = .ok (.aload_n 0, 1) := by decide +kernel
theorem dX12_leastIn_47 : decode cX12_leastIn 47 = .ok (.getfield 50, 3) := by decide +kernel
theorem dX12_leastIn_50 : decode cX12_leastIn 50 = .ok (.iload 8, 2) := by decide +kernel
theorem dX12_leastIn_52 : decode cX12_leastIn 52 = .ok (.iaload, 1) := by decide +kernel
theorem dX12_leastIn_53 : decode cX12_leastIn 53 = .ok (.iload_n 2, 1) := by decide +kernel
theorem dX12_leastIn_54 : decode cX12_leastIn 54 = .ok (.iload_n 3, 1) := by decide +kernel
theorem dX12_leastIn_55 : decode cX12_leastIn 55 = .ok (.invokestatic 97, 3) := by decide +kernel
theorem dX12_leastIn_58 : decode cX12_leastIn 58 = .ok (.ifCond .eq 20, 3) := by decide +kernel
theorem dX12_leastIn_61 : decode cX12_leastIn 61 = .ok (.aload_n 0, 1) := by decide +kernel
theorem dX12_leastIn_62 : decode cX12_leastIn 62 = .ok (.getfield 65, 3) := by decide +kernel
theorem dX12_leastIn_65 : decode cX12_leastIn 65 = .ok (.sipush 244, 3) := by decide +kernel
theorem dX12_leastIn_68 : decode cX12_leastIn 68 = .ok (.iload 7, 2) := by decide +kernel
theorem dX12_leastIn_70 : decode cX12_leastIn 70 = .ok (.imul, 1) := by decide +kernel
theorem dX12_leastIn_71 : decode cX12_leastIn 71 = .ok (.iload 5, 2) := by decide +kernel
theorem dX12_leastIn_73 : decode cX12_leastIn 73 = .ok (.iadd, 1) := by decide +kernel
theorem dX12_leastIn_74 : decode cX12_leastIn 74 = .ok (.iaload, 1) := by decide +kernel
theorem dX12_leastIn_75 : decode cX12_leastIn 75 = .ok (.goto 4, 3) := by decide +kernel
theorem dX12_leastIn_78 : decode cX12_leastIn 78 = .ok (.iconst 0, 1) := by decide +kernel
theorem dX12_leastIn_79 : decode cX12_leastIn 79 = .ok (.iadd, 1) := by decide +kernel
theorem dX12_leastIn_80 : decode cX12_leastIn 80 = .ok (.istore 6, 2) := by decide +kernel
theorem dX12_leastIn_82 : decode cX12_leastIn 82 = .ok (.iinc 7 1, 3) := by decide +kernel
theorem dX12_leastIn_85 : decode cX12_leastIn 85 = .ok (.iinc 8 1, 3) := by decide +kernel
theorem dX12_leastIn_88 : decode cX12_leastIn 88 = .ok (.goto (-64), 3) := by decide +kernel
theorem dX12_leastIn_91 : decode cX12_leastIn 91 = .ok (.iload 6, 2) := by decide +kernel
theorem dX12_leastIn_93 : decode cX12_leastIn 93 = .ok (.iload 4, 2) := by decide +kernel
theorem dX12_leastIn_95 : decode cX12_leastIn 95 = .ok (.if_icmp .ge 8, 3) := by decide +kernel
theorem dX12_leastIn_98 : decode cX12_leastIn 98 = .ok (.iload 6, 2) := by decide +kernel
theorem dX12_leastIn_100 : decode cX12_leastIn 100 = .ok (.goto 5, 3) := by decide +kernel
theorem dX12_leastIn_103 : decode cX12_leastIn 103 = .ok (.iload 4, 2) := by decide +kernel
theorem dX12_leastIn_105 : decode cX12_leastIn 105 = .ok (.istore 4, 2) := by decide +kernel
theorem dX12_leastIn_107 : decode cX12_leastIn 107 = .ok (.iinc 5 1, 3) := by decide +kernel
theorem dX12_leastIn_110 : decode cX12_leastIn 110 = .ok (.goto (-103), 3) := by decide +kernel
theorem dX12_leastIn_113 : decode cX12_leastIn 113 = .ok (.iload 4, 2) := by decide +kernel
theorem dX12_leastIn_115 : decode cX12_leastIn 115 = .ok (.ireturn, 1) := by decide +kernel
theorem dX12_isSaid_0 : decode cX12_isSaid 0 = .ok (.iconst 0, 1) := by decide +kernel
theorem dX12_isSaid_1 : decode cX12_isSaid 1 = .ok (.istore_n 3, 1) := by decide +kernel
theorem dX12_isSaid_2 : decode cX12_isSaid 2 = .ok (.iconst 0, 1) := by decide +kernel
theorem dX12_isSaid_3 : decode cX12_isSaid 3 = .ok (.istore 4, 2) := by decide +kernel
theorem dX12_isSaid_5 : decode cX12_isSaid 5 = .ok (.iload 4, 2) := by decide +kernel
theorem dX12_isSaid_7 : decode cX12_isSaid 7 = .ok (.aload_n 0, 1) := by decide +kernel
theorem dX12_isSaid_8 : decode cX12_isSaid 8 = .ok (.getfield 131, 3) := by decide +kernel
theorem dX12_isSaid_11 : decode cX12_isSaid 11 = .ok (.if_icmp .ge 41, 3) := by decide +kernel
theorem dX12_isSaid_14 : decode cX12_isSaid 14 = .ok (.iload_n 3, 1) := by decide +kernel
theorem dX12_isSaid_15 : decode cX12_isSaid 15 = .ok (.ifCond .ne 25, 3) := by decide +kernel
theorem dX12_isSaid_18 : decode cX12_isSaid 18 = .ok (.aload_n 0, 1) := by decide +kernel
theorem dX12_isSaid_19 : decode cX12_isSaid 19 = .ok (.getfield 44, 3) := by decide +kernel
theorem dX12_isSaid_22 : decode cX12_isSaid 22 = .ok (.iload 4, 2) := by decide +kernel
theorem dX12_isSaid_24 : decode cX12_isSaid 24 = .ok (.iaload, 1) := by decide +kernel
theorem dX12_isSaid_25 : decode cX12_isSaid 25 = .ok (.iload_n 1, 1) := by decide +kernel
theorem dX12_isSaid_26 : decode cX12_isSaid 26 = .ok (.if_icmp .ne 18, 3) := by decide +kernel
theorem dX12_isSaid_29 : decode cX12_isSaid 29 = .ok (.aload_n 0, 1) := by decide +kernel
theorem dX12_isSaid_30 : decode cX12_isSaid 30 = .ok (.getfield 50, 3) := by decide +kernel
theorem dX12_isSaid_33 : decode cX12_isSaid 33 = .ok (.iload 4, 2) := by decide +kernel
theorem dX12_isSaid_35 : decode cX12_isSaid 35 = .ok (.iaload, 1) := by decide +kernel
theorem dX12_isSaid_36 : decode cX12_isSaid 36 = .ok (.iload_n 2, 1) := by decide +kernel
theorem dX12_isSaid_37 : decode cX12_isSaid 37 = .ok (.if_icmp .ne 7, 3) := by decide +kernel
theorem dX12_isSaid_40 : decode cX12_isSaid 40 = .ok (.iconst 1, 1) := by decide +kernel
theorem dX12_isSaid_41 : decode cX12_isSaid 41 = .ok (.goto 4, 3) := by decide +kernel
theorem dX12_isSaid_44 : decode cX12_isSaid 44 = .ok (.iconst 0, 1) := by decide +kernel
theorem dX12_isSaid_45 : decode cX12_isSaid 45 = .ok (.istore_n 3, 1) := by decide +kernel
theorem dX12_isSaid_46 : decode cX12_isSaid 46 = .ok (.iinc 4 1, 3) := by decide +kernel
theorem dX12_isSaid_49 : decode cX12_isSaid 49 = .ok (.goto (-44), 3) := by decide +kernel
theorem dX12_isSaid_52 : decode cX12_isSaid 52 = .ok (.iload_n 3, 1) := by decide +kernel
theorem dX12_isSaid_53 : decode cX12_isSaid 53 = .ok (.ireturn, 1) := by decide +kernel
theorem dX12_changed_0 : decode cX12_changed 0 = .ok (.aload_n 0, 1) := by decide +kernel
theorem dX12_changed_1 : decode cX12_changed 1 = .ok (.iload_n 1, 1) := by decide +kernel
theorem dX12_changed_2 : decode cX12_changed 2 = .ok (.invokevirtual 137, 3) := by decide +kernel
theorem dX12_changed_5 : decode cX12_changed 5 = .ok (.ifCond .ne 5, 3) := by decide +kernel
theorem dX12_changed_8 : decode cX12_changed 8 = .ok (.iconst (-1), 1) := by decide +kernel
theorem dX12_changed_9 : decode cX12_changed 9 = .ok (.ireturn, 1) := by decide +kernel
theorem dX12_changed_10 : decode cX12_changed 10 = .ok (.aload_n 0, 1) := by decide +kernel
theorem dX12_changed_11 : decode cX12_changed 11 = .ok (.iload_n 1, 1) := by decide +kernel
theorem dX12_changed_12 : decode cX12_changed 12 = .ok (.invokevirtual 208, 3) := by decide +kernel
theorem dX12_changed_15 : decode cX12_changed 15 = .ok (.aload_n 0, 1) := by decide +kernel
theorem dX12_changed_16 : decode cX12_changed 16 = .ok (.iload_n 1, 1) := by decide +kernel
theorem dX12_changed_17 : decode cX12_changed 17 = .ok (.iconst 0, 1) := by decide +kernel
theorem dX12_changed_18 : decode cX12_changed 18 = .ok (.sipush 999, 3) := by decide +kernel
theorem dX12_changed_21 : decode cX12_changed 21 = .ok (.invokevirtual 249, 3) := by decide +kernel
theorem dX12_changed_24 : decode cX12_changed 24 = .ok (.istore_n 2, 1) := by decide +kernel
theorem dX12_changed_25 : decode cX12_changed 25 = .ok (.aload_n 0, 1) := by decide +kernel
theorem dX12_changed_26 : decode cX12_changed 26 = .ok (.getfield 35, 3) := by decide +kernel
theorem dX12_changed_29 : decode cX12_changed 29 = .ok (.iload_n 1, 1) := by decide +kernel
theorem dX12_changed_30 : decode cX12_changed 30 = .ok (.iaload, 1) := by decide +kernel
theorem dX12_changed_31 : decode cX12_changed 31 = .ok (.istore_n 3, 1) := by decide +kernel
theorem dX12_changed_32 : decode cX12_changed 32 = .ok (.iload_n 2, 1) := by decide +kernel
theorem dX12_changed_33 : decode cX12_changed 33 = .ok (.istore 4, 2) := by decide +kernel
theorem dX12_changed_35 : decode cX12_changed 35 = .ok (.aload_n 0, 1) := by decide +kernel
theorem dX12_changed_36 : decode cX12_changed 36 = .ok (.getfield 35, 3) := by decide +kernel
theorem dX12_changed_39 : decode cX12_changed 39 = .ok (.iload_n 1, 1) := by decide +kernel
theorem dX12_changed_40 : decode cX12_changed 40 = .ok (.iaload, 1) := by decide +kernel
theorem dX12_changed_41 : decode cX12_changed 41 = .ok (.iconst 1, 1) := by decide +kernel
theorem dX12_changed_42 : decode cX12_changed 42 = .ok (.iadd, 1) := by decide +kernel
theorem dX12_changed_43 : decode cX12_changed 43 = .ok (.istore 5, 2) := by decide +kernel
theorem dX12_changed_45 : decode cX12_changed 45 = .ok (.iload 5, 2) := by decide +kernel
theorem dX12_changed_47 : decode cX12_changed 47 = .ok (.aload_n 0, 1) := by decide +kernel
theorem dX12_changed_48 : decode cX12_changed 48 = .ok (.getfield 38, 3) := by decide +kernel
theorem dX12_changed_51 : decode cX12_changed 51 = .ok (.iload_n 1, 1) := by decide +kernel
theorem dX12_changed_52 : decode cX12_changed 52 = .ok (.iaload, 1) := by decide +kernel
theorem dX12_changed_53 : decode cX12_changed 53 = .ok (.if_icmp .gt 74, 3) := by decide +kernel
theorem dX12_changed_56 : decode cX12_changed 56 = .ok (.aload_n 0, 1) := by decide +kernel
theorem dX12_changed_57 : decode cX12_changed 57 = .ok (.iload_n 1, 1) := by decide +kernel
theorem dX12_changed_58 : decode cX12_changed 58 = .ok (.iload 5, 2) := by decide +kernel
theorem dX12_changed_60 : decode cX12_changed 60 = .ok (.iconst 1, 1) := by decide +kernel
theorem dX12_changed_61 : decode cX12_changed 61 = .ok (.isub, 1) := by decide +kernel
theorem dX12_changed_62 : decode cX12_changed 62 = .ok (.invokevirtual 253, 3) := by decide +kernel
theorem dX12_changed_65 : decode cX12_changed 65 = .ok (.ifCond .eq 56, 3) := by decide +kernel
theorem dX12_changed_68 : decode cX12_changed 68 = .ok (.aload_n 0, 1) := by decide +kernel
theorem dX12_changed_69 : decode cX12_changed 69 = .ok (.iload_n 1, 1) := by decide +kernel
theorem dX12_changed_70 : decode cX12_changed 70 = .ok (.iconst 0, 1) := by decide +kernel
theorem dX12_changed_71 : decode cX12_changed 71 = .ok (.iload 5, 2) := by decide +kernel
theorem dX12_changed_73 : decode cX12_changed 73 = .ok (.iconst 1, 1) := by decide +kernel
theorem dX12_changed_74 : decode cX12_changed 74 = .ok (.isub, 1) := by decide +kernel
theorem dX12_changed_75 : decode cX12_changed 75 = .ok (.invokevirtual 249, 3) := by decide +kernel
theorem dX12_changed_78 : decode cX12_changed 78 = .ok (.aload_n 0, 1) := by decide +kernel
theorem dX12_changed_79 : decode cX12_changed 79 = .ok (.iload_n 1, 1) := by decide +kernel
theorem dX12_changed_80 : decode cX12_changed 80 = .ok (.iload 5, 2) := by decide +kernel
theorem dX12_changed_82 : decode cX12_changed 82 = .ok (.sipush 999, 3) := by decide +kernel
theorem dX12_changed_85 : decode cX12_changed 85 = .ok (.invokevirtual 249, 3) := by decide +kernel
theorem dX12_changed_88 : decode cX12_changed 88 = .ok (.iadd, 1) := by decide +kernel
theorem dX12_changed_89 : decode cX12_changed 89 = .ok (.istore 6, 2) := by decide +kernel
theorem dX12_changed_91 : decode cX12_changed 91 = .ok (.iload 6, 2) := by decide +kernel
theorem dX12_changed_93 : decode cX12_changed 93 = .ok (.iload 4, 2) := by decide +kernel
theorem dX12_changed_95 : decode cX12_changed 95 = .ok (.if_icmp .ge 8, 3) := by decide +kernel
theorem dX12_changed_98 : decode cX12_changed 98 = .ok (.iload 5, 2) := by decide +kernel
theorem dX12_changed_100 : decode cX12_changed 100 = .ok (.goto 4, 3) := by decide +kernel
theorem dX12_changed_103 : decode cX12_changed 103 = .ok (.iload_n 3, 1) := by decide +kernel
theorem dX12_changed_104 : decode cX12_changed 104 = .ok (.istore_n 3, 1) := by decide +kernel
theorem dX12_changed_105 : decode cX12_changed 105 = .ok (.iload 6, 2) := by decide +kernel
theorem dX12_changed_107 : decode cX12_changed 107 = .ok (.iload 4, 2) := by decide +kernel
theorem dX12_changed_109 : decode cX12_changed 109 = .ok (.if_icmp .ge 8, 3) := by decide +kernel
theorem dX12_changed_112 : decode cX12_changed 112 = .ok (.iload 6, 2) := by decide +kernel
theorem dX12_changed_114 : decode cX12_changed 114 = .ok (.goto 5, 3) := by decide +kernel
theorem dX12_changed_117 : decode cX12_changed 117 = .ok (.iload 4, 2) := by decide +kernel
theorem dX12_changed_119 : decode cX12_changed 119 = .ok (.istore 4, 2) := by decide +kernel
theorem dX12_changed_121 : decode cX12_changed 121 = .ok (.iinc 5 1, 3) := by decide +kernel
theorem dX12_changed_124 : decode cX12_changed 124 = .ok (.goto (-79), 3) := by decide +kernel
theorem dX12_changed_127 : decode cX12_changed 127 = .ok (.aload_n 0, 1) := by decide +kernel
theorem dX12_changed_128 : decode cX12_changed 128 = .ok (.iload_n 2, 1) := by decide +kernel
theorem dX12_changed_129 : decode cX12_changed 129 = .ok (.iload 4, 2) := by decide +kernel
theorem dX12_changed_131 : decode cX12_changed 131 = .ok (.isub, 1) := by decide +kernel
theorem dX12_changed_132 : decode cX12_changed 132 = .ok (.iload_n 3, 1) := by decide +kernel
theorem dX12_changed_133 : decode cX12_changed 133 = .ok (.invokevirtual 119, 3) := by decide +kernel
theorem dX12_changed_136 : decode cX12_changed 136 = .ok (.ireturn, 1) := by decide +kernel
theorem dX12_parts_0 : decode cX12_parts 0 = .ok (.aload_n 0, 1) := by decide +kernel
theorem dX12_parts_1 : decode cX12_parts 1 = .ok (.iload_n 1, 1) := by decide +kernel
theorem dX12_parts_2 : decode cX12_parts 2 = .ok (.invokevirtual 144, 3) := by decide +kernel
theorem dX12_parts_5 : decode cX12_parts 5 = .ok (.ifCond .eq 11, 3) := by decide +kernel
theorem dX12_parts_8 : decode cX12_parts 8 = .ok (.aload_n 0, 1) := by decide +kernel
theorem dX12_parts_9 : decode cX12_parts 9 = .ok (.iload_n 2, 1) := by decide +kernel
theorem dX12_parts_10 : decode cX12_parts 10 = .ok (.invokevirtual 144, 3) := by decide +kernel
theorem dX12_parts_13 : decode cX12_parts 13 = .ok (.ifCond .ne 5, 3) := by decide +kernel
theorem dX12_parts_16 : decode cX12_parts 16 = .ok (.iconst (-1), 1) := by decide +kernel
theorem dX12_parts_17 : decode cX12_parts 17 = .ok (.ireturn, 1) := by decide +kernel
theorem dX12_parts_18 : decode cX12_parts 18 = .ok (.aload_n 0, 1) := by decide +kernel
theorem dX12_parts_19 : decode cX12_parts 19 = .ok (.getfield 32, 3) := by decide +kernel
theorem dX12_parts_22 : decode cX12_parts 22 = .ok (.iload_n 1, 1) := by decide +kernel
theorem dX12_parts_23 : decode cX12_parts 23 = .ok (.iaload, 1) := by decide +kernel
theorem dX12_parts_24 : decode cX12_parts 24 = .ok (.aload_n 0, 1) := by decide +kernel
theorem dX12_parts_25 : decode cX12_parts 25 = .ok (.getfield 32, 3) := by decide +kernel
theorem dX12_parts_28 : decode cX12_parts 28 = .ok (.iload_n 2, 1) := by decide +kernel
theorem dX12_parts_29 : decode cX12_parts 29 = .ok (.iaload, 1) := by decide +kernel
theorem dX12_parts_30 : decode cX12_parts 30 = .ok (.ixor, 1) := by decide +kernel
theorem dX12_parts_31 : decode cX12_parts 31 = .ok (.istore_n 3, 1) := by decide +kernel
theorem dX12_parts_32 : decode cX12_parts 32 = .ok (.bipush (-9), 2) := by decide +kernel
theorem dX12_parts_34 : decode cX12_parts 34 = .ok (.istore 4, 2) := by decide +kernel
theorem dX12_parts_36 : decode cX12_parts 36 = .ok (.iconst 4, 1) := by decide +kernel
theorem dX12_parts_37 : decode cX12_parts 37 = .ok (.istore 5, 2) := by decide +kernel
theorem dX12_parts_39 : decode cX12_parts 39 = .ok (.iload 5, 2) := by decide +kernel
theorem dX12_parts_41 : decode cX12_parts 41 = .ok (.ifCond .lt 27, 3) := by decide +kernel
theorem dX12_parts_44 : decode cX12_parts 44 = .ok (.iload_n 3, 1) := by decide +kernel
theorem dX12_parts_45 : decode cX12_parts 45 = .ok (.iload 5, 2) := by decide +kernel
theorem dX12_parts_47 : decode cX12_parts 47 = .ok (.invokestatic 187, 3) := by decide +kernel
theorem dX12_parts_50 : decode cX12_parts 50 = .ok (.ifCond .eq 8, 3) := by decide +kernel
theorem dX12_parts_53 : decode cX12_parts 53 = .ok (.iload 5, 2) := by decide +kernel
theorem dX12_parts_55 : decode cX12_parts 55 = .ok (.goto 5, 3) := by decide +kernel
theorem dX12_parts_58 : decode cX12_parts 58 = .ok (.iload 4, 2) := by decide +kernel
theorem dX12_parts_60 : decode cX12_parts 60 = .ok (.istore 4, 2) := by decide +kernel
theorem dX12_parts_62 : decode cX12_parts 62 = .ok (.iinc 5 (-1), 3) := by decide +kernel
theorem dX12_parts_65 : decode cX12_parts 65 = .ok (.goto (-26), 3) := by decide +kernel
theorem dX12_parts_68 : decode cX12_parts 68 = .ok (.aload_n 0, 1) := by decide +kernel
theorem dX12_parts_69 : decode cX12_parts 69 = .ok (.iload 4, 2) := by decide +kernel
theorem dX12_parts_71 : decode cX12_parts 71 = .ok (.iload_n 3, 1) := by decide +kernel
theorem dX12_parts_72 : decode cX12_parts 72 = .ok (.invokestatic 256, 3) := by decide +kernel
theorem dX12_parts_75 : decode cX12_parts 75 = .ok (.invokevirtual 119, 3) := by decide +kernel
theorem dX12_parts_78 : decode cX12_parts 78 = .ok (.ireturn, 1) := by decide +kernel
theorem dX12_bits_0 : decode cX12_bits 0 = .ok (.iconst 0, 1) := by decide +kernel
theorem dX12_bits_1 : decode cX12_bits 1 = .ok (.istore_n 1, 1) := by decide +kernel
theorem dX12_bits_2 : decode cX12_bits 2 = .ok (.iconst 0, 1) := by decide +kernel
theorem dX12_bits_3 : decode cX12_bits 3 = .ok (.istore_n 2, 1) := by decide +kernel
theorem dX12_bits_4 : decode cX12_bits 4 = .ok (.iload_n 2, 1) := by decide +kernel
theorem dX12_bits_5 : decode cX12_bits 5 = .ok (.bipush 8, 2) := by decide +kernel
theorem dX12_bits_7 : decode cX12_bits 7 = .ok (.if_icmp .ge 17, 3) := by decide +kernel
theorem dX12_bits_10 : decode cX12_bits 10 = .ok (.iload_n 1, 1) := by decide +kernel
theorem dX12_bits_11 : decode cX12_bits 11 = .ok (.iload_n 0, 1) := by decide +kernel
theorem dX12_bits_12 : decode cX12_bits 12 = .ok (.iload_n 2, 1) := by decide +kernel
theorem dX12_bits_13 : decode cX12_bits 13 = .ok (.ishr, 1) := by decide +kernel
theorem dX12_bits_14 : decode cX12_bits 14 = .ok (.iconst 1, 1) := by decide +kernel
theorem dX12_bits_15 : decode cX12_bits 15 = .ok (.iand, 1) := by decide +kernel
theorem dX12_bits_16 : decode cX12_bits 16 = .ok (.iadd, 1) := by decide +kernel
theorem dX12_bits_17 : decode cX12_bits 17 = .ok (.istore_n 1, 1) := by decide +kernel
theorem dX12_bits_18 : decode cX12_bits 18 = .ok (.iinc 2 1, 3) := by decide +kernel
theorem dX12_bits_21 : decode cX12_bits 21 = .ok (.goto (-17), 3) := by decide +kernel
theorem dX12_bits_24 : decode cX12_bits 24 = .ok (.iload_n 1, 1) := by decide +kernel
theorem dX12_bits_25 : decode cX12_bits 25 = .ok (.ireturn, 1) := by decide +kernel
theorem dX12_met_0 : decode cX12_met 0 = .ok (.aload_n 0, 1) := by decide +kernel
theorem dX12_met_1 : decode cX12_met 1 = .ok (.iload_n 1, 1) := by decide +kernel
theorem dX12_met_2 : decode cX12_met 2 = .ok (.invokevirtual 137, 3) := by decide +kernel
theorem dX12_met_5 : decode cX12_met 5 = .ok (.ifCond .eq 11, 3) := by decide +kernel
theorem dX12_met_8 : decode cX12_met 8 = .ok (.aload_n 0, 1) := by decide +kernel
theorem dX12_met_9 : decode cX12_met 9 = .ok (.iload_n 2, 1) := by decide +kernel
theorem dX12_met_10 : decode cX12_met 10 = .ok (.invokevirtual 137, 3) := by decide +kernel
theorem dX12_met_13 : decode cX12_met 13 = .ok (.ifCond .ne 5, 3) := by decide +kernel
theorem dX12_met_16 : decode cX12_met 16 = .ok (.iconst (-1), 1) := by decide +kernel
theorem dX12_met_17 : decode cX12_met 17 = .ok (.ireturn, 1) := by decide +kernel
theorem dX12_met_18 : decode cX12_met 18 = .ok (.aload_n 0, 1) := by decide +kernel
theorem dX12_met_19 : decode cX12_met 19 = .ok (.getfield 35, 3) := by decide +kernel
theorem dX12_met_22 : decode cX12_met 22 = .ok (.iload_n 1, 1) := by decide +kernel
theorem dX12_met_23 : decode cX12_met 23 = .ok (.iaload, 1) := by decide +kernel
theorem dX12_met_24 : decode cX12_met 24 = .ok (.aload_n 0, 1) := by decide +kernel
theorem dX12_met_25 : decode cX12_met 25 = .ok (.getfield 35, 3) := by decide +kernel
theorem dX12_met_28 : decode cX12_met 28 = .ok (.iload_n 2, 1) := by decide +kernel
theorem dX12_met_29 : decode cX12_met 29 = .ok (.iaload, 1) := by decide +kernel
theorem dX12_met_30 : decode cX12_met 30 = .ok (.if_icmp .le 12, 3) := by decide +kernel
theorem dX12_met_33 : decode cX12_met 33 = .ok (.aload_n 0, 1) := by decide +kernel
theorem dX12_met_34 : decode cX12_met 34 = .ok (.getfield 35, 3) := by decide +kernel
theorem dX12_met_37 : decode cX12_met 37 = .ok (.iload_n 1, 1) := by decide +kernel
theorem dX12_met_38 : decode cX12_met 38 = .ok (.iaload, 1) := by decide +kernel
theorem dX12_met_39 : decode cX12_met 39 = .ok (.goto 9, 3) := by decide +kernel
theorem dX12_met_42 : decode cX12_met 42 = .ok (.aload_n 0, 1) := by decide +kernel
theorem dX12_met_43 : decode cX12_met 43 = .ok (.getfield 35, 3) := by decide +kernel
theorem dX12_met_46 : decode cX12_met 46 = .ok (.iload_n 2, 1) := by decide +kernel
theorem dX12_met_47 : decode cX12_met 47 = .ok (.iaload, 1) := by decide +kernel
theorem dX12_met_48 : decode cX12_met 48 = .ok (.bipush 15, 2) := by decide +kernel
theorem dX12_met_50 : decode cX12_met 50 = .ok (.iadd, 1) := by decide +kernel
theorem dX12_met_51 : decode cX12_met 51 = .ok (.istore_n 3, 1) := by decide +kernel
theorem dX12_met_52 : decode cX12_met 52 = .ok (.aload_n 0, 1) := by decide +kernel
theorem dX12_met_53 : decode cX12_met 53 = .ok (.getfield 38, 3) := by decide +kernel
theorem dX12_met_56 : decode cX12_met 56 = .ok (.iload_n 1, 1) := by decide +kernel
theorem dX12_met_57 : decode cX12_met 57 = .ok (.iaload, 1) := by decide +kernel
theorem dX12_met_58 : decode cX12_met 58 = .ok (.aload_n 0, 1) := by decide +kernel
theorem dX12_met_59 : decode cX12_met 59 = .ok (.getfield 38, 3) := by decide +kernel
theorem dX12_met_62 : decode cX12_met 62 = .ok (.iload_n 2, 1) := by decide +kernel
theorem dX12_met_63 : decode cX12_met 63 = .ok (.iaload, 1) := by decide +kernel
theorem dX12_met_64 : decode cX12_met 64 = .ok (.if_icmp .ge 12, 3) := by decide +kernel
theorem dX12_met_67 : decode cX12_met 67 = .ok (.aload_n 0, 1) := by decide +kernel
theorem dX12_met_68 : decode cX12_met 68 = .ok (.getfield 38, 3) := by decide +kernel
theorem dX12_met_71 : decode cX12_met 71 = .ok (.iload_n 1, 1) := by decide +kernel
theorem dX12_met_72 : decode cX12_met 72 = .ok (.iaload, 1) := by decide +kernel
theorem dX12_met_73 : decode cX12_met 73 = .ok (.goto 9, 3) := by decide +kernel
theorem dX12_met_76 : decode cX12_met 76 = .ok (.aload_n 0, 1) := by decide +kernel
theorem dX12_met_77 : decode cX12_met 77 = .ok (.getfield 38, 3) := by decide +kernel
theorem dX12_met_80 : decode cX12_met 80 = .ok (.iload_n 2, 1) := by decide +kernel
theorem dX12_met_81 : decode cX12_met 81 = .ok (.iaload, 1) := by decide +kernel
theorem dX12_met_82 : decode cX12_met 82 = .ok (.istore 4, 2) := by decide +kernel
theorem dX12_met_84 : decode cX12_met 84 = .ok (.iload 4, 2) := by decide +kernel
theorem dX12_met_86 : decode cX12_met 86 = .ok (.iload_n 3, 1) := by decide +kernel
theorem dX12_met_87 : decode cX12_met 87 = .ok (.if_icmp .ge 7, 3) := by decide +kernel
theorem dX12_met_90 : decode cX12_met 90 = .ok (.iconst 0, 1) := by decide +kernel
theorem dX12_met_91 : decode cX12_met 91 = .ok (.goto 9, 3) := by decide +kernel
theorem dX12_met_94 : decode cX12_met 94 = .ok (.iload 4, 2) := by decide +kernel
theorem dX12_met_96 : decode cX12_met 96 = .ok (.iload_n 3, 1) := by decide +kernel
theorem dX12_met_97 : decode cX12_met 97 = .ok (.isub, 1) := by decide +kernel
theorem dX12_met_98 : decode cX12_met 98 = .ok (.iconst 1, 1) := by decide +kernel
theorem dX12_met_99 : decode cX12_met 99 = .ok (.iadd, 1) := by decide +kernel
theorem dX12_met_100 : decode cX12_met 100 = .ok (.ireturn, 1) := by decide +kernel
theorem dX12_can_0 : decode cX12_can 0 = .ok (.iload_n 1, 1) := by decide +kernel
theorem dX12_can_1 : decode cX12_can 1 = .ok (.iconst 1, 1) := by decide +kernel
theorem dX12_can_2 : decode cX12_can 2 = .ok (.if_icmp .lt 13, 3) := by decide +kernel
theorem dX12_can_5 : decode cX12_can 5 = .ok (.iload_n 1, 1) := by decide +kernel
theorem dX12_can_6 : decode cX12_can 6 = .ok (.iconst 1, 1) := by decide +kernel
theorem dX12_can_7 : decode cX12_can 7 = .ok (.aload_n 0, 1) := by decide +kernel
theorem dX12_can_8 : decode cX12_can 8 = .ok (.getfield 128, 3) := by decide +kernel
theorem dX12_can_11 : decode cX12_can 11 = .ok (.ishl, 1) := by decide +kernel
theorem dX12_can_12 : decode cX12_can 12 = .ok (.if_icmp .lt 5, 3) := by decide +kernel
theorem dX12_can_15 : decode cX12_can 15 = .ok (.iconst (-1), 1) := by decide +kernel
theorem dX12_can_16 : decode cX12_can 16 = .ok (.ireturn, 1) := by decide +kernel
theorem dX12_can_17 : decode cX12_can 17 = .ok (.ldc 218, 2) := by decide +kernel
theorem dX12_can_19 : decode cX12_can 19 = .ok (.istore_n 2, 1) := by decide +kernel
theorem dX12_can_20 : decode cX12_can 20 = .ok (.bipush (-9), 2) := by decide +kernel
theorem dX12_can_22 : decode cX12_can 22 = .ok (.istore_n 3, 1) := by decide +kernel
theorem dX12_can_23 : decode cX12_can 23 = .ok (.iconst 0, 1) := by decide +kernel
theorem dX12_can_24 : decode cX12_can 24 = .ok (.istore 4, 2) := by decide +kernel
theorem dX12_can_26 : decode cX12_can 26 = .ok (.iload 4, 2) := by decide +kernel
theorem dX12_can_28 : decode cX12_can 28 = .ok (.aload_n 0, 1) := by decide +kernel
theorem dX12_can_29 : decode cX12_can 29 = .ok (.getfield 131, 3) := by decide +kernel
theorem dX12_can_32 : decode cX12_can 32 = .ok (.if_icmp .ge 69, 3) := by decide +kernel
theorem dX12_can_35 : decode cX12_can 35 = .ok (.iload_n 1, 1) := by decide +kernel
theorem dX12_can_36 : decode cX12_can 36 = .ok (.aload_n 0, 1) := by decide +kernel
theorem dX12_can_37 : decode cX12_can 37 = .ok (.getfield 44, 3) := by decide +kernel
theorem dX12_can_40 : decode cX12_can 40 = .ok (.iload 4, 2) := by decide +kernel
theorem dX12_can_42 : decode cX12_can 42 = .ok (.iaload, 1) := by decide +kernel
theorem dX12_can_43 : decode cX12_can 43 = .ok (.invokestatic 187, 3) := by decide +kernel
theorem dX12_can_46 : decode cX12_can 46 = .ok (.ifCond .eq 49, 3) := by decide +kernel
theorem dX12_can_49 : decode cX12_can 49 = .ok (.aload_n 0, 1) := by decide +kernel
theorem dX12_can_50 : decode cX12_can 50 = .ok (.getfield 50, 3) := by decide +kernel
theorem dX12_can_53 : decode cX12_can 53 = .ok (.iload 4, 2) := by decide +kernel
theorem dX12_can_55 : decode cX12_can 55 = .ok (.iaload, 1) := by decide +kernel
theorem dX12_can_56 : decode cX12_can 56 = .ok (.iload_n 2, 1) := by decide +kernel
theorem dX12_can_57 : decode cX12_can 57 = .ok (.if_icmp .ge 13, 3) := by decide +kernel
theorem dX12_can_60 : decode cX12_can 60 = .ok (.aload_n 0, 1) := by decide +kernel
theorem dX12_can_61 : decode cX12_can 61 = .ok (.getfield 50, 3) := by decide +kernel
theorem dX12_can_64 : decode cX12_can 64 = .ok (.iload 4, 2) := by decide +kernel
theorem dX12_can_66 : decode cX12_can 66 = .ok (.iaload, 1) := by decide +kernel
theorem dX12_can_67 : decode cX12_can 67 = .ok (.goto 4, 3) := by decide +kernel
theorem dX12_can_70 : decode cX12_can 70 = .ok (.iload_n 2, 1) := by decide +kernel
theorem dX12_can_71 : decode cX12_can 71 = .ok (.istore_n 2, 1) := by decide +kernel
theorem dX12_can_72 : decode cX12_can 72 = .ok (.aload_n 0, 1) := by decide +kernel
theorem dX12_can_73 : decode cX12_can 73 = .ok (.getfield 50, 3) := by decide +kernel
theorem dX12_can_76 : decode cX12_can 76 = .ok (.iload 4, 2) := by decide +kernel
theorem dX12_can_78 : decode cX12_can 78 = .ok (.iaload, 1) := by decide +kernel
theorem dX12_can_79 : decode cX12_can 79 = .ok (.iload_n 3, 1) := by decide +kernel
theorem dX12_can_80 : decode cX12_can 80 = .ok (.if_icmp .le 13, 3) := by decide +kernel
theorem dX12_can_83 : decode cX12_can 83 = .ok (.aload_n 0, 1) := by decide +kernel
theorem dX12_can_84 : decode cX12_can 84 = .ok (.getfield 50, 3) := by decide +kernel
theorem dX12_can_87 : decode cX12_can 87 = .ok (.iload 4, 2) := by decide +kernel
theorem dX12_can_89 : decode cX12_can 89 = .ok (.iaload, 1) := by decide +kernel
theorem dX12_can_90 : decode cX12_can 90 = .ok (.goto 4, 3) := by decide +kernel
theorem dX12_can_93 : decode cX12_can 93 = .ok (.iload_n 3, 1) := by decide +kernel
theorem dX12_can_94 : decode cX12_can 94 = .ok (.istore_n 3, 1) := by decide +kernel
theorem dX12_can_95 : decode cX12_can 95 = .ok (.iinc 4 1, 3) := by decide +kernel
theorem dX12_can_98 : decode cX12_can 98 = .ok (.goto (-72), 3) := by decide +kernel
theorem dX12_can_101 : decode cX12_can 101 = .ok (.iload_n 3, 1) := by decide +kernel
theorem dX12_can_102 : decode cX12_can 102 = .ok (.ifCond .ge 7, 3) := by decide +kernel
theorem dX12_can_105 : decode cX12_can 105 = .ok (.iconst 0, 1) := by decide +kernel
theorem dX12_can_106 : decode cX12_can 106 = .ok (.goto 6, 3) := by decide +kernel
theorem dX12_can_109 : decode cX12_can 109 = .ok (.iload_n 3, 1) := by decide +kernel
theorem dX12_can_110 : decode cX12_can 110 = .ok (.iload_n 2, 1) := by decide +kernel
theorem dX12_can_111 : decode cX12_can 111 = .ok (.isub, 1) := by decide +kernel
theorem dX12_can_112 : decode cX12_can 112 = .ok (.istore 4, 2) := by decide +kernel
theorem dX12_can_114 : decode cX12_can 114 = .ok (.aload_n 0, 1) := by decide +kernel
theorem dX12_can_115 : decode cX12_can 115 = .ok (.iload 4, 2) := by decide +kernel
theorem dX12_can_117 : decode cX12_can 117 = .ok (.iload 4, 2) := by decide +kernel
theorem dX12_can_119 : decode cX12_can 119 = .ok (.bipush 70, 2) := by decide +kernel
theorem dX12_can_121 : decode cX12_can 121 = .ok (.if_icmp .gt 7, 3) := by decide +kernel
theorem dX12_can_124 : decode cX12_can 124 = .ok (.iconst 1, 1) := by decide +kernel
theorem dX12_can_125 : decode cX12_can 125 = .ok (.goto 4, 3) := by decide +kernel
theorem dX12_can_128 : decode cX12_can 128 = .ok (.iconst 0, 1) := by decide +kernel
theorem dX12_can_129 : decode cX12_can 129 = .ok (.invokevirtual 119, 3) := by decide +kernel
theorem dX12_can_132 : decode cX12_can 132 = .ok (.ireturn, 1) := by decide +kernel
theorem dX12_reads_0 : decode cX12_reads 0 = .ok (.iload_n 1, 1) := by decide +kernel
theorem dX12_reads_1 : decode cX12_reads 1 = .ok (.iconst 0, 1) := by decide +kernel
theorem dX12_reads_2 : decode cX12_reads 2 = .ok (.iconst 4, 1) := by decide +kernel
theorem dX12_reads_3 : decode cX12_reads 3 = .ok (.invokestatic 97, 3) := by decide +kernel
theorem dX12_reads_6 : decode cX12_reads 6 = .ok (.ifCond .eq 26, 3) := by decide +kernel
theorem dX12_reads_9 : decode cX12_reads 9 = .ok (.aload_n 0, 1) := by decide +kernel
theorem dX12_reads_10 : decode cX12_reads 10 = .ok (.iload_n 2, 1) := by decide +kernel
theorem dX12_reads_11 : decode cX12_reads 11 = .ok (.invokevirtual 157, 3) := by decide +kernel
theorem dX12_reads_14 : decode cX12_reads 14 = .ok (.ifCond .eq 18, 3) := by decide +kernel
theorem dX12_reads_17 : decode cX12_reads 17 = .ok (.iload_n 3, 1) := by decide +kernel
theorem dX12_reads_18 : decode cX12_reads 18 = .ok (.bipush (-9), 2) := by decide +kernel
theorem dX12_reads_20 : decode cX12_reads 20 = .ok (.if_icmp .eq 14, 3) := by decide +kernel
theorem dX12_reads_23 : decode cX12_reads 23 = .ok (.iload_n 3, 1) := by decide +kernel
theorem dX12_reads_24 : decode cX12_reads 24 = .ok (.iconst 0, 1) := by decide +kernel
theorem dX12_reads_25 : decode cX12_reads 25 = .ok (.iconst 1, 1) := by decide +kernel
theorem dX12_reads_26 : decode cX12_reads 26 = .ok (.invokestatic 97, 3) := by decide +kernel
theorem dX12_reads_29 : decode cX12_reads 29 = .ok (.ifCond .ne 5, 3) := by decide +kernel
theorem dX12_reads_32 : decode cX12_reads 32 = .ok (.iconst (-1), 1) := by decide +kernel
theorem dX12_reads_33 : decode cX12_reads 33 = .ok (.ireturn, 1) := by decide +kernel
theorem dX12_reads_34 : decode cX12_reads 34 = .ok (.aload_n 0, 1) := by decide +kernel
theorem dX12_reads_35 : decode cX12_reads 35 = .ok (.getfield 59, 3) := by decide +kernel
theorem dX12_reads_38 : decode cX12_reads 38 = .ok (.iconst 5, 1) := by decide +kernel
theorem dX12_reads_39 : decode cX12_reads 39 = .ok (.iload_n 2, 1) := by decide +kernel
theorem dX12_reads_40 : decode cX12_reads 40 = .ok (.imul, 1) := by decide +kernel
theorem dX12_reads_41 : decode cX12_reads 41 = .ok (.iload_n 1, 1) := by decide +kernel
theorem dX12_reads_42 : decode cX12_reads 42 = .ok (.iadd, 1) := by decide +kernel
theorem dX12_reads_43 : decode cX12_reads 43 = .ok (.iaload, 1) := by decide +kernel
theorem dX12_reads_44 : decode cX12_reads 44 = .ok (.istore 4, 2) := by decide +kernel
theorem dX12_reads_46 : decode cX12_reads 46 = .ok (.aload_n 0, 1) := by decide +kernel
theorem dX12_reads_47 : decode cX12_reads 47 = .ok (.getfield 59, 3) := by decide +kernel
theorem dX12_reads_50 : decode cX12_reads 50 = .ok (.iconst 5, 1) := by decide +kernel
theorem dX12_reads_51 : decode cX12_reads 51 = .ok (.iload_n 2, 1) := by decide +kernel
theorem dX12_reads_52 : decode cX12_reads 52 = .ok (.imul, 1) := by decide +kernel
theorem dX12_reads_53 : decode cX12_reads 53 = .ok (.iload_n 1, 1) := by decide +kernel
theorem dX12_reads_54 : decode cX12_reads 54 = .ok (.iadd, 1) := by decide +kernel
theorem dX12_reads_55 : decode cX12_reads 55 = .ok (.iload_n 3, 1) := by decide +kernel
theorem dX12_reads_56 : decode cX12_reads 56 = .ok (.iastore, 1) := by decide +kernel
theorem dX12_reads_57 : decode cX12_reads 57 = .ok (.iload 4, 2) := by decide +kernel
theorem dX12_reads_59 : decode cX12_reads 59 = .ok (.ireturn, 1) := by decide +kernel
theorem dX12_reading_0 : decode cX12_reading 0 = .ok (.aload_n 0, 1) := by decide +kernel
theorem dX12_reading_1 : decode cX12_reading 1 = .ok (.iload_n 1, 1) := by decide +kernel
theorem dX12_reading_2 : decode cX12_reading 2 = .ok (.invokevirtual 157, 3) := by decide +kernel
theorem dX12_reading_5 : decode cX12_reading 5 = .ok (.ifCond .ne 5, 3) := by decide +kernel
theorem dX12_reading_8 : decode cX12_reading 8 = .ok (.iconst (-1), 1) := by decide +kernel
theorem dX12_reading_9 : decode cX12_reading 9 = .ok (.ireturn, 1) := by decide +kernel
theorem dX12_reading_10 : decode cX12_reading 10 = .ok (.iconst 0, 1) := by decide +kernel
theorem dX12_reading_11 : decode cX12_reading 11 = .ok (.istore_n 2, 1) := by decide +kernel
theorem dX12_reading_12 : decode cX12_reading 12 = .ok (.iconst 0, 1) := by decide +kernel
theorem dX12_reading_13 : decode cX12_reading 13 = .ok (.istore_n 3, 1) := by decide +kernel
theorem dX12_reading_14 : decode cX12_reading 14 = .ok (.iconst 0, 1) := by decide +kernel
theorem dX12_reading_15 : decode cX12_reading 15 = .ok (.istore 4, 2) := by decide +kernel
theorem dX12_reading_17 : decode cX12_reading 17 = .ok (.iload 4, 2) := by decide +kernel
theorem dX12_reading_19 : decode cX12_reading 19 = .ok (.iconst 5, 1) := by decide +kernel
theorem dX12_reading_20 : decode cX12_reading 20 = .ok (.if_icmp .ge 54, 3) := by decide +kernel
theorem dX12_reading_23 : decode cX12_reading 23 = .ok (.iload_n 2, 1) := by decide +kernel
theorem dX12_reading_24 : decode cX12_reading 24 = .ok (.aload_n 0, 1) := by decide +kernel
theorem dX12_reading_25 : decode cX12_reading 25 = .ok (.getfield 59, 3) := by decide +kernel
theorem dX12_reading_28 : decode cX12_reading 28 = .ok (.iconst 5, 1) := by decide +kernel
theorem dX12_reading_29 : decode cX12_reading 29 = .ok (.iload_n 1, 1) := by decide +kernel
theorem dX12_reading_30 : decode cX12_reading 30 = .ok (.imul, 1) := by decide +kernel
theorem dX12_reading_31 : decode cX12_reading 31 = .ok (.iload 4, 2) := by decide +kernel
theorem dX12_reading_33 : decode cX12_reading 33 = .ok (.iadd, 1) := by decide +kernel
theorem dX12_reading_34 : decode cX12_reading 34 = .ok (.iaload, 1) := by decide +kernel
theorem dX12_reading_35 : decode cX12_reading 35 = .ok (.ifCond .lt 7, 3) := by decide +kernel
theorem dX12_reading_38 : decode cX12_reading 38 = .ok (.iconst 1, 1) := by decide +kernel
theorem dX12_reading_39 : decode cX12_reading 39 = .ok (.goto 4, 3) := by decide +kernel
theorem dX12_reading_42 : decode cX12_reading 42 = .ok (.iconst 0, 1) := by decide +kernel
theorem dX12_reading_43 : decode cX12_reading 43 = .ok (.iadd, 1) := by decide +kernel
theorem dX12_reading_44 : decode cX12_reading 44 = .ok (.istore_n 2, 1) := by decide +kernel
theorem dX12_reading_45 : decode cX12_reading 45 = .ok (.iload_n 3, 1) := by decide +kernel
theorem dX12_reading_46 : decode cX12_reading 46 = .ok (.aload_n 0, 1) := by decide +kernel
theorem dX12_reading_47 : decode cX12_reading 47 = .ok (.getfield 59, 3) := by decide +kernel
theorem dX12_reading_50 : decode cX12_reading 50 = .ok (.iconst 5, 1) := by decide +kernel
theorem dX12_reading_51 : decode cX12_reading 51 = .ok (.iload_n 1, 1) := by decide +kernel
theorem dX12_reading_52 : decode cX12_reading 52 = .ok (.imul, 1) := by decide +kernel
theorem dX12_reading_53 : decode cX12_reading 53 = .ok (.iload 4, 2) := by decide +kernel
theorem dX12_reading_55 : decode cX12_reading 55 = .ok (.iadd, 1) := by decide +kernel
theorem dX12_reading_56 : decode cX12_reading 56 = .ok (.iaload, 1) := by decide +kernel
theorem dX12_reading_57 : decode cX12_reading 57 = .ok (.iconst 1, 1) := by decide +kernel
theorem dX12_reading_58 : decode cX12_reading 58 = .ok (.if_icmp .ne 7, 3) := by decide +kernel
theorem dX12_reading_61 : decode cX12_reading 61 = .ok (.iconst 1, 1) := by decide +kernel
theorem dX12_reading_62 : decode cX12_reading 62 = .ok (.goto 4, 3) := by decide +kernel
theorem dX12_reading_65 : decode cX12_reading 65 = .ok (.iconst 0, 1) := by decide +kernel
theorem dX12_reading_66 : decode cX12_reading 66 = .ok (.iadd, 1) := by decide +kernel
theorem dX12_reading_67 : decode cX12_reading 67 = .ok (.istore_n 3, 1) := by decide +kernel
theorem dX12_reading_68 : decode cX12_reading 68 = .ok (.iinc 4 1, 3) := by decide +kernel
theorem dX12_reading_71 : decode cX12_reading 71 = .ok (.goto (-54), 3) := by decide +kernel
theorem dX12_reading_74 : decode cX12_reading 74 = .ok (.aload_n 0, 1) := by decide +kernel
theorem dX12_reading_75 : decode cX12_reading 75 = .ok (.iload_n 2, 1) := by decide +kernel
theorem dX12_reading_76 : decode cX12_reading 76 = .ok (.iconst 2, 1) := by decide +kernel
theorem dX12_reading_77 : decode cX12_reading 77 = .ok (.iload_n 3, 1) := by decide +kernel
theorem dX12_reading_78 : decode cX12_reading 78 = .ok (.imul, 1) := by decide +kernel
theorem dX12_reading_79 : decode cX12_reading 79 = .ok (.iload_n 2, 1) := by decide +kernel
theorem dX12_reading_80 : decode cX12_reading 80 = .ok (.if_icmp .ne 12, 3) := by decide +kernel
theorem dX12_reading_83 : decode cX12_reading 83 = .ok (.aload_n 0, 1) := by decide +kernel
theorem dX12_reading_84 : decode cX12_reading 84 = .ok (.getfield 53, 3) := by decide +kernel
theorem dX12_reading_87 : decode cX12_reading 87 = .ok (.iload_n 1, 1) := by decide +kernel
theorem dX12_reading_88 : decode cX12_reading 88 = .ok (.iaload, 1) := by decide +kernel
theorem dX12_reading_89 : decode cX12_reading 89 = .ok (.goto 15, 3) := by decide +kernel
theorem dX12_reading_92 : decode cX12_reading 92 = .ok (.iconst 2, 1) := by decide +kernel
theorem dX12_reading_93 : decode cX12_reading 93 = .ok (.iload_n 3, 1) := by decide +kernel
theorem dX12_reading_94 : decode cX12_reading 94 = .ok (.imul, 1) := by decide +kernel
theorem dX12_reading_95 : decode cX12_reading 95 = .ok (.iload_n 2, 1) := by decide +kernel
theorem dX12_reading_96 : decode cX12_reading 96 = .ok (.if_icmp .le 7, 3) := by decide +kernel
theorem dX12_reading_99 : decode cX12_reading 99 = .ok (.iconst 1, 1) := by decide +kernel
theorem dX12_reading_100 : decode cX12_reading 100 = .ok (.goto 4, 3) := by decide +kernel
theorem dX12_reading_103 : decode cX12_reading 103 = .ok (.iconst 0, 1) := by decide +kernel
theorem dX12_reading_104 : decode cX12_reading 104 = .ok (.invokevirtual 119, 3) := by decide +kernel
theorem dX12_reading_107 : decode cX12_reading 107 = .ok (.ireturn, 1) := by decide +kernel
theorem dX12_slip_0 : decode cX12_slip 0 = .ok (.iload_n 1, 1) := by decide +kernel
theorem dX12_slip_1 : decode cX12_slip 1 = .ok (.iconst 1, 1) := by decide +kernel
theorem dX12_slip_2 : decode cX12_slip 2 = .ok (.bipush 12, 2) := by decide +kernel
theorem dX12_slip_4 : decode cX12_slip 4 = .ok (.invokestatic 97, 3) := by decide +kernel
theorem dX12_slip_7 : decode cX12_slip 7 = .ok (.ifCond .eq 22, 3) := by decide +kernel
theorem dX12_slip_10 : decode cX12_slip 10 = .ok (.iload_n 2, 1) := by decide +kernel
theorem dX12_slip_11 : decode cX12_slip 11 = .ok (.iconst 2, 1) := by decide +kernel
theorem dX12_slip_12 : decode cX12_slip 12 = .ok (.bipush 9, 2) := by decide +kernel
theorem dX12_slip_14 : decode cX12_slip 14 = .ok (.invokestatic 97, 3) := by decide +kernel
theorem dX12_slip_17 : decode cX12_slip 17 = .ok (.ifCond .eq 12, 3) := by decide +kernel
theorem dX12_slip_20 : decode cX12_slip 20 = .ok (.iload_n 3, 1) := by decide +kernel
theorem dX12_slip_21 : decode cX12_slip 21 = .ok (.iconst 0, 1) := by decide +kernel
theorem dX12_slip_22 : decode cX12_slip 22 = .ok (.iload_n 1, 1) := by decide +kernel
theorem dX12_slip_23 : decode cX12_slip 23 = .ok (.invokestatic 97, 3) := by decide +kernel
theorem dX12_slip_26 : decode cX12_slip 26 = .ok (.ifCond .ne 5, 3) := by decide +kernel
theorem dX12_slip_29 : decode cX12_slip 29 = .ok (.iconst (-1), 1) := by decide +kernel
theorem dX12_slip_30 : decode cX12_slip 30 = .ok (.ireturn, 1) := by decide +kernel
theorem dX12_slip_31 : decode cX12_slip 31 = .ok (.lconst 1, 1) := by decide +kernel
theorem dX12_slip_32 : decode cX12_slip 32 = .ok (.lstore 4, 2) := by decide +kernel
theorem dX12_slip_34 : decode cX12_slip 34 = .ok (.lconst 0, 1) := by decide +kernel
theorem dX12_slip_35 : decode cX12_slip 35 = .ok (.lstore 6, 2) := by decide +kernel
theorem dX12_slip_37 : decode cX12_slip 37 = .ok (.iconst 0, 1) := by decide +kernel
theorem dX12_slip_38 : decode cX12_slip 38 = .ok (.istore 8, 2) := by decide +kernel
theorem dX12_slip_40 : decode cX12_slip 40 = .ok (.iload 8, 2) := by decide +kernel
theorem dX12_slip_42 : decode cX12_slip 42 = .ok (.iload_n 1, 1) := by decide +kernel
theorem dX12_slip_43 : decode cX12_slip 43 = .ok (.if_icmp .ge 16, 3) := by decide +kernel
theorem dX12_slip_46 : decode cX12_slip 46 = .ok (.lload 4, 2) := by decide +kernel
theorem dX12_slip_48 : decode cX12_slip 48 = .ok (.iload_n 2, 1) := by decide +kernel
theorem dX12_slip_49 : decode cX12_slip 49 = .ok (.i2l, 1) := by decide +kernel
theorem dX12_slip_50 : decode cX12_slip 50 = .ok (.lmul, 1) := by decide +kernel
theorem dX12_slip_51 : decode cX12_slip 51 = .ok (.lstore 4, 2) := by decide +kernel
theorem dX12_slip_53 : decode cX12_slip 53 = .ok (.iinc 8 1, 3) := by decide +kernel
theorem dX12_slip_56 : decode cX12_slip 56 = .ok (.goto (-16), 3) := by decide +kernel
theorem dX12_slip_59 : decode cX12_slip 59 = .ok (.lconst 1, 1) := by decide +kernel
theorem dX12_slip_60 : decode cX12_slip 60 = .ok (.lstore 8, 2) := by decide +kernel
theorem dX12_slip_62 : decode cX12_slip 62 = .ok (.iconst 0, 1) := by decide +kernel
theorem dX12_slip_63 : decode cX12_slip 63 = .ok (.istore 10, 2) := by decide +kernel
theorem dX12_slip_65 : decode cX12_slip 65 = .ok (.iload 10, 2) := by decide +kernel
theorem dX12_slip_67 : decode cX12_slip 67 = .ok (.iload_n 1, 1) := by decide +kernel
theorem dX12_slip_68 : decode cX12_slip 68 = .ok (.if_icmp .gt 73, 3) := by decide +kernel
theorem dX12_slip_71 : decode cX12_slip 71 = .ok (.lload 8, 2) := by decide +kernel
theorem dX12_slip_73 : decode cX12_slip 73 = .ok (.lstore 11, 2) := by decide +kernel
theorem dX12_slip_75 : decode cX12_slip 75 = .ok (.iconst 0, 1) := by decide +kernel
theorem dX12_slip_76 : decode cX12_slip 76 = .ok (.istore 13, 2) := by decide +kernel
theorem dX12_slip_78 : decode cX12_slip 78 = .ok (.iload 13, 2) := by decide +kernel
theorem dX12_slip_80 : decode cX12_slip 80 = .ok (.iload_n 1, 1) := by decide +kernel
theorem dX12_slip_81 : decode cX12_slip 81 = .ok (.iload 10, 2) := by decide +kernel
theorem dX12_slip_83 : decode cX12_slip 83 = .ok (.isub, 1) := by decide +kernel
theorem dX12_slip_84 : decode cX12_slip 84 = .ok (.if_icmp .ge 18, 3) := by decide +kernel
theorem dX12_slip_87 : decode cX12_slip 87 = .ok (.lload 11, 2) := by decide +kernel
theorem dX12_slip_89 : decode cX12_slip 89 = .ok (.iload_n 2, 1) := by decide +kernel
theorem dX12_slip_90 : decode cX12_slip 90 = .ok (.iconst 1, 1) := by decide +kernel
theorem dX12_slip_91 : decode cX12_slip 91 = .ok (.isub, 1) := by decide +kernel
theorem dX12_slip_92 : decode cX12_slip 92 = .ok (.i2l, 1) := by decide +kernel
theorem dX12_slip_93 : decode cX12_slip 93 = .ok (.lmul, 1) := by decide +kernel
theorem dX12_slip_94 : decode cX12_slip 94 = .ok (.lstore 11, 2) := by decide +kernel
theorem dX12_slip_96 : decode cX12_slip 96 = .ok (.iinc 13 1, 3) := by decide +kernel
theorem dX12_slip_99 : decode cX12_slip 99 = .ok (.goto (-21), 3) := by decide +kernel
theorem dX12_slip_102 : decode cX12_slip 102 = .ok (.lload 6, 2) := by decide +kernel
theorem dX12_slip_104 : decode cX12_slip 104 = .ok (.iload 10, 2) := by decide +kernel
theorem dX12_slip_106 : decode cX12_slip 106 = .ok (.iload_n 3, 1) := by decide +kernel
theorem dX12_slip_107 : decode cX12_slip 107 = .ok (.if_icmp .lt 8, 3) := by decide +kernel
theorem dX12_slip_110 : decode cX12_slip 110 = .ok (.lload 11, 2) := by decide +kernel
theorem dX12_slip_112 : decode cX12_slip 112 = .ok (.goto 4, 3) := by decide +kernel
theorem dX12_slip_115 : decode cX12_slip 115 = .ok (.lconst 0, 1) := by decide +kernel
theorem dX12_slip_116 : decode cX12_slip 116 = .ok (.ladd, 1) := by decide +kernel
theorem dX12_slip_117 : decode cX12_slip 117 = .ok (.lstore 6, 2) := by decide +kernel
theorem dX12_slip_119 : decode cX12_slip 119 = .ok (.lload 8, 2) := by decide +kernel
theorem dX12_slip_121 : decode cX12_slip 121 = .ok (.iload_n 1, 1) := by decide +kernel
theorem dX12_slip_122 : decode cX12_slip 122 = .ok (.iload 10, 2) := by decide +kernel
theorem dX12_slip_124 : decode cX12_slip 124 = .ok (.isub, 1) := by decide +kernel
theorem dX12_slip_125 : decode cX12_slip 125 = .ok (.i2l, 1) := by decide +kernel
theorem dX12_slip_126 : decode cX12_slip 126 = .ok (.lmul, 1) := by decide +kernel
theorem dX12_slip_127 : decode cX12_slip 127 = .ok (.iload 10, 2) := by decide +kernel
theorem dX12_slip_129 : decode cX12_slip 129 = .ok (.iconst 1, 1) := by decide +kernel
theorem dX12_slip_130 : decode cX12_slip 130 = .ok (.iadd, 1) := by decide +kernel
theorem dX12_slip_131 : decode cX12_slip 131 = .ok (.i2l, 1) := by decide +kernel
theorem dX12_slip_132 : decode cX12_slip 132 = .ok (.ldiv, 1) := by decide +kernel
theorem dX12_slip_133 : decode cX12_slip 133 = .ok (.lstore 8, 2) := by decide +kernel
theorem dX12_slip_135 : decode cX12_slip 135 = .ok (.iinc 10 1, 3) := by decide +kernel
theorem dX12_slip_138 : decode cX12_slip 138 = .ok (.goto (-73), 3) := by decide +kernel
theorem dX12_slip_141 : decode cX12_slip 141 = .ok (.lload 6, 2) := by decide +kernel
theorem dX12_slip_143 : decode cX12_slip 143 = .ok (.lstore 10, 2) := by decide +kernel
theorem dX12_slip_145 : decode cX12_slip 145 = .ok (.lload 4, 2) := by decide +kernel
theorem dX12_slip_147 : decode cX12_slip 147 = .ok (.lstore 12, 2) := by decide +kernel
theorem dX12_slip_149 : decode cX12_slip 149 = .ok (.lload 12, 2) := by decide +kernel
theorem dX12_slip_151 : decode cX12_slip 151 = .ok (.lconst 0, 1) := by decide +kernel
theorem dX12_slip_152 : decode cX12_slip 152 = .ok (.lcmp, 1) := by decide +kernel
theorem dX12_slip_153 : decode cX12_slip 153 = .ok (.ifCond .eq 21, 3) := by decide +kernel
theorem dX12_slip_156 : decode cX12_slip 156 = .ok (.lload 10, 2) := by decide +kernel
theorem dX12_slip_158 : decode cX12_slip 158 = .ok (.lload 12, 2) := by decide +kernel
theorem dX12_slip_160 : decode cX12_slip 160 = .ok (.lrem, 1) := by decide +kernel
theorem dX12_slip_161 : decode cX12_slip 161 = .ok (.lstore 14, 2) := by decide +kernel
theorem dX12_slip_163 : decode cX12_slip 163 = .ok (.lload 12, 2) := by decide +kernel
theorem dX12_slip_165 : decode cX12_slip 165 = .ok (.lstore 10, 2) := by decide +kernel
theorem dX12_slip_167 : decode cX12_slip 167 = .ok (.lload 14, 2) := by decide +kernel
theorem dX12_slip_169 : decode cX12_slip 169 = .ok (.lstore 12, 2) := by decide +kernel
theorem dX12_slip_171 : decode cX12_slip 171 = .ok (.goto (-22), 3) := by decide +kernel
theorem dX12_slip_174 : decode cX12_slip 174 = .ok (.aload_n 0, 1) := by decide +kernel
theorem dX12_slip_175 : decode cX12_slip 175 = .ok (.lload 6, 2) := by decide +kernel
theorem dX12_slip_177 : decode cX12_slip 177 = .ok (.lload 10, 2) := by decide +kernel
theorem dX12_slip_179 : decode cX12_slip 179 = .ok (.ldiv, 1) := by decide +kernel
theorem dX12_slip_180 : decode cX12_slip 180 = .ok (.putfield 259, 3) := by decide +kernel
theorem dX12_slip_183 : decode cX12_slip 183 = .ok (.aload_n 0, 1) := by decide +kernel
theorem dX12_slip_184 : decode cX12_slip 184 = .ok (.lload 4, 2) := by decide +kernel
theorem dX12_slip_186 : decode cX12_slip 186 = .ok (.lload 10, 2) := by decide +kernel
theorem dX12_slip_188 : decode cX12_slip 188 = .ok (.ldiv, 1) := by decide +kernel
theorem dX12_slip_189 : decode cX12_slip 189 = .ok (.putfield 13, 3) := by decide +kernel
theorem dX12_slip_192 : decode cX12_slip 192 = .ok (.iconst 1, 1) := by decide +kernel
theorem dX12_slip_193 : decode cX12_slip 193 = .ok (.ireturn, 1) := by decide +kernel
theorem dX12_runs_0 : decode cX12_runs 0 = .ok (.aload_n 0, 1) := by decide +kernel
theorem dX12_runs_1 : decode cX12_runs 1 = .ok (.iload_n 1, 1) := by decide +kernel
theorem dX12_runs_2 : decode cX12_runs 2 = .ok (.invokevirtual 157, 3) := by decide +kernel
theorem dX12_runs_5 : decode cX12_runs 5 = .ok (.ifCond .ne 5, 3) := by decide +kernel
theorem dX12_runs_8 : decode cX12_runs 8 = .ok (.iconst (-1), 1) := by decide +kernel
theorem dX12_runs_9 : decode cX12_runs 9 = .ok (.ireturn, 1) := by decide +kernel
theorem dX12_runs_10 : decode cX12_runs 10 = .ok (.aload_n 0, 1) := by decide +kernel
theorem dX12_runs_11 : decode cX12_runs 11 = .ok (.getfield 53, 3) := by decide +kernel
theorem dX12_runs_14 : decode cX12_runs 14 = .ok (.iload_n 1, 1) := by decide +kernel
theorem dX12_runs_15 : decode cX12_runs 15 = .ok (.iaload, 1) := by decide +kernel
theorem dX12_runs_16 : decode cX12_runs 16 = .ok (.istore_n 2, 1) := by decide +kernel
theorem dX12_runs_17 : decode cX12_runs 17 = .ok (.aload_n 0, 1) := by decide +kernel
theorem dX12_runs_18 : decode cX12_runs 18 = .ok (.getfield 53, 3) := by decide +kernel
theorem dX12_runs_21 : decode cX12_runs 21 = .ok (.iload_n 1, 1) := by decide +kernel
theorem dX12_runs_22 : decode cX12_runs 22 = .ok (.iconst 0, 1) := by decide +kernel
theorem dX12_runs_23 : decode cX12_runs 23 = .ok (.iastore, 1) := by decide +kernel
theorem dX12_runs_24 : decode cX12_runs 24 = .ok (.aload_n 0, 1) := by decide +kernel
theorem dX12_runs_25 : decode cX12_runs 25 = .ok (.aload_n 0, 1) := by decide +kernel
theorem dX12_runs_26 : decode cX12_runs 26 = .ok (.getfield 44, 3) := by decide +kernel
theorem dX12_runs_29 : decode cX12_runs 29 = .ok (.iload_n 1, 1) := by decide +kernel
theorem dX12_runs_30 : decode cX12_runs 30 = .ok (.iaload, 1) := by decide +kernel
theorem dX12_runs_31 : decode cX12_runs 31 = .ok (.invokevirtual 231, 3) := by decide +kernel
theorem dX12_runs_34 : decode cX12_runs 34 = .ok (.aload_n 0, 1) := by decide +kernel
theorem dX12_runs_35 : decode cX12_runs 35 = .ok (.getfield 225, 3) := by decide +kernel
theorem dX12_runs_38 : decode cX12_runs 38 = .ok (.istore_n 3, 1) := by decide +kernel
theorem dX12_runs_39 : decode cX12_runs 39 = .ok (.aload_n 0, 1) := by decide +kernel
theorem dX12_runs_40 : decode cX12_runs 40 = .ok (.getfield 53, 3) := by decide +kernel
theorem dX12_runs_43 : decode cX12_runs 43 = .ok (.iload_n 1, 1) := by decide +kernel
theorem dX12_runs_44 : decode cX12_runs 44 = .ok (.iconst 1, 1) := by decide +kernel
theorem dX12_runs_45 : decode cX12_runs 45 = .ok (.iastore, 1) := by decide +kernel
theorem dX12_runs_46 : decode cX12_runs 46 = .ok (.aload_n 0, 1) := by decide +kernel
theorem dX12_runs_47 : decode cX12_runs 47 = .ok (.aload_n 0, 1) := by decide +kernel
theorem dX12_runs_48 : decode cX12_runs 48 = .ok (.getfield 44, 3) := by decide +kernel
theorem dX12_runs_51 : decode cX12_runs 51 = .ok (.iload_n 1, 1) := by decide +kernel
theorem dX12_runs_52 : decode cX12_runs 52 = .ok (.iaload, 1) := by decide +kernel
theorem dX12_runs_53 : decode cX12_runs 53 = .ok (.invokevirtual 231, 3) := by decide +kernel
theorem dX12_runs_56 : decode cX12_runs 56 = .ok (.aload_n 0, 1) := by decide +kernel
theorem dX12_runs_57 : decode cX12_runs 57 = .ok (.getfield 225, 3) := by decide +kernel
theorem dX12_runs_60 : decode cX12_runs 60 = .ok (.istore 4, 2) := by decide +kernel
theorem dX12_runs_62 : decode cX12_runs 62 = .ok (.aload_n 0, 1) := by decide +kernel
theorem dX12_runs_63 : decode cX12_runs 63 = .ok (.getfield 53, 3) := by decide +kernel
theorem dX12_runs_66 : decode cX12_runs 66 = .ok (.iload_n 1, 1) := by decide +kernel
theorem dX12_runs_67 : decode cX12_runs 67 = .ok (.iload_n 2, 1) := by decide +kernel
theorem dX12_runs_68 : decode cX12_runs 68 = .ok (.iastore, 1) := by decide +kernel
theorem dX12_runs_69 : decode cX12_runs 69 = .ok (.aload_n 0, 1) := by decide +kernel
theorem dX12_runs_70 : decode cX12_runs 70 = .ok (.iload_n 3, 1) := by decide +kernel
theorem dX12_runs_71 : decode cX12_runs 71 = .ok (.iload 4, 2) := by decide +kernel
theorem dX12_runs_73 : decode cX12_runs 73 = .ok (.if_icmp .ge 10, 3) := by decide +kernel
theorem dX12_runs_76 : decode cX12_runs 76 = .ok (.iload 4, 2) := by decide +kernel
theorem dX12_runs_78 : decode cX12_runs 78 = .ok (.iload_n 3, 1) := by decide +kernel
theorem dX12_runs_79 : decode cX12_runs 79 = .ok (.isub, 1) := by decide +kernel
theorem dX12_runs_80 : decode cX12_runs 80 = .ok (.goto 7, 3) := by decide +kernel
theorem dX12_runs_83 : decode cX12_runs 83 = .ok (.iload_n 3, 1) := by decide +kernel
theorem dX12_runs_84 : decode cX12_runs 84 = .ok (.iload 4, 2) := by decide +kernel
theorem dX12_runs_86 : decode cX12_runs 86 = .ok (.isub, 1) := by decide +kernel
theorem dX12_runs_87 : decode cX12_runs 87 = .ok (.iload_n 3, 1) := by decide +kernel
theorem dX12_runs_88 : decode cX12_runs 88 = .ok (.iload 4, 2) := by decide +kernel
theorem dX12_runs_90 : decode cX12_runs 90 = .ok (.if_icmp .ne 7, 3) := by decide +kernel
theorem dX12_runs_93 : decode cX12_runs 93 = .ok (.iconst 2, 1) := by decide +kernel
theorem dX12_runs_94 : decode cX12_runs 94 = .ok (.goto 14, 3) := by decide +kernel
theorem dX12_runs_97 : decode cX12_runs 97 = .ok (.iload_n 3, 1) := by decide +kernel
theorem dX12_runs_98 : decode cX12_runs 98 = .ok (.iload 4, 2) := by decide +kernel
theorem dX12_runs_100 : decode cX12_runs 100 = .ok (.if_icmp .ge 7, 3) := by decide +kernel
theorem dX12_runs_103 : decode cX12_runs 103 = .ok (.iconst 0, 1) := by decide +kernel
theorem dX12_runs_104 : decode cX12_runs 104 = .ok (.goto 4, 3) := by decide +kernel
theorem dX12_runs_107 : decode cX12_runs 107 = .ok (.iconst 1, 1) := by decide +kernel
theorem dX12_runs_108 : decode cX12_runs 108 = .ok (.invokevirtual 119, 3) := by decide +kernel
theorem dX12_runs_111 : decode cX12_runs 111 = .ok (.ireturn, 1) := by decide +kernel
theorem dX12_isMove_0 : decode cX12_isMove 0 = .ok (.iload_n 2, 1) := by decide +kernel
theorem dX12_isMove_1 : decode cX12_isMove 1 = .ok (.tableswitch 84 0 6 #[43, 45, 64, 69, 64, 75, 43], 43) := by decide +kernel
theorem dX12_isMove_44 : decode cX12_isMove 44 = .ok (.iconst 1, 1) := by decide +kernel
theorem dX12_isMove_45 : decode cX12_isMove 45 = .ok (.ireturn, 1) := by decide +kernel
theorem dX12_isMove_46 : decode cX12_isMove 46 = .ok (.aload_n 0, 1) := by decide +kernel
theorem dX12_isMove_47 : decode cX12_isMove 47 = .ok (.iload_n 3, 1) := by decide +kernel
theorem dX12_isMove_48 : decode cX12_isMove 48 = .ok (.invokevirtual 157, 3) := by decide +kernel
theorem dX12_isMove_51 : decode cX12_isMove 51 = .ok (.ifCond .eq 12, 3) := by decide +kernel
theorem dX12_isMove_54 : decode cX12_isMove 54 = .ok (.iload_n 3, 1) := by decide +kernel
theorem dX12_isMove_55 : decode cX12_isMove 55 = .ok (.iload_n 1, 1) := by decide +kernel
theorem dX12_isMove_56 : decode cX12_isMove 56 = .ok (.if_icmp .eq 7, 3) := by decide +kernel
theorem dX12_isMove_59 : decode cX12_isMove 59 = .ok (.iconst 1, 1) := by decide +kernel
theorem dX12_isMove_60 : decode cX12_isMove 60 = .ok (.goto 4, 3) := by decide +kernel
theorem dX12_isMove_63 : decode cX12_isMove 63 = .ok (.iconst 0, 1) := by decide +kernel
theorem dX12_isMove_64 : decode cX12_isMove 64 = .ok (.ireturn, 1) := by decide +kernel
theorem dX12_isMove_65 : decode cX12_isMove 65 = .ok (.iload_n 3, 1) := by decide +kernel
theorem dX12_isMove_66 : decode cX12_isMove 66 = .ok (.invokestatic 147, 3) := by decide +kernel
theorem dX12_isMove_69 : decode cX12_isMove 69 = .ok (.ireturn, 1) := by decide +kernel
theorem dX12_isMove_70 : decode cX12_isMove 70 = .ok (.aload_n 0, 1) := by decide +kernel
theorem dX12_isMove_71 : decode cX12_isMove 71 = .ok (.iload_n 3, 1) := by decide +kernel
theorem dX12_isMove_72 : decode cX12_isMove 72 = .ok (.invokevirtual 137, 3) := by decide +kernel
theorem dX12_isMove_75 : decode cX12_isMove 75 = .ok (.ireturn, 1) := by decide +kernel
theorem dX12_isMove_76 : decode cX12_isMove 76 = .ok (.iload_n 3, 1) := by decide +kernel
theorem dX12_isMove_77 : decode cX12_isMove 77 = .ok (.iconst 0, 1) := by decide +kernel
theorem dX12_isMove_78 : decode cX12_isMove 78 = .ok (.sipush 999, 3) := by decide +kernel
theorem dX12_isMove_81 : decode cX12_isMove 81 = .ok (.invokestatic 97, 3) := by decide +kernel
theorem dX12_isMove_84 : decode cX12_isMove 84 = .ok (.ireturn, 1) := by decide +kernel
theorem dX12_isMove_85 : decode cX12_isMove 85 = .ok (.iconst 0, 1) := by decide +kernel
theorem dX12_isMove_86 : decode cX12_isMove 86 = .ok (.ireturn, 1) := by decide +kernel
theorem dX12_move_0 : decode cX12_move 0 = .ok (.aload_n 0, 1) := by decide +kernel
theorem dX12_move_1 : decode cX12_move 1 = .ok (.iload_n 1, 1) := by decide +kernel
theorem dX12_move_2 : decode cX12_move 2 = .ok (.invokevirtual 157, 3) := by decide +kernel
theorem dX12_move_5 : decode cX12_move 5 = .ok (.ifCond .eq 13, 3) := by decide +kernel
theorem dX12_move_8 : decode cX12_move 8 = .ok (.aload_n 0, 1) := by decide +kernel
theorem dX12_move_9 : decode cX12_move 9 = .ok (.iload_n 1, 1) := by decide +kernel
theorem dX12_move_10 : decode cX12_move 10 = .ok (.iload_n 2, 1) := by decide +kernel
theorem dX12_move_11 : decode cX12_move 11 = .ok (.iload_n 3, 1) := by decide +kernel
theorem dX12_move_12 : decode cX12_move 12 = .ok (.invokevirtual 262, 3) := by decide +kernel
theorem dX12_move_15 : decode cX12_move 15 = .ok (.ifCond .ne 5, 3) := by decide +kernel
theorem dX12_move_18 : decode cX12_move 18 = .ok (.iconst (-1), 1) := by decide +kernel
theorem dX12_move_19 : decode cX12_move 19 = .ok (.ireturn, 1) := by decide +kernel
theorem dX12_move_20 : decode cX12_move 20 = .ok (.aload_n 0, 1) := by decide +kernel
theorem dX12_move_21 : decode cX12_move 21 = .ok (.getfield 265, 3) := by decide +kernel
theorem dX12_move_24 : decode cX12_move 24 = .ok (.bipush 40, 2) := by decide +kernel
theorem dX12_move_26 : decode cX12_move 26 = .ok (.if_icmp .ne 6, 3) := by decide +kernel
theorem dX12_move_29 : decode cX12_move 29 = .ok (.bipush (-2), 2) := by decide +kernel
theorem dX12_move_31 : decode cX12_move 31 = .ok (.ireturn, 1) := by decide +kernel
theorem dX12_move_32 : decode cX12_move 32 = .ok (.aload_n 0, 1) := by decide +kernel
theorem dX12_move_33 : decode cX12_move 33 = .ok (.getfield 75, 3) := by decide +kernel
theorem dX12_move_36 : decode cX12_move 36 = .ok (.aload_n 0, 1) := by decide +kernel
theorem dX12_move_37 : decode cX12_move 37 = .ok (.getfield 265, 3) := by decide +kernel
theorem dX12_move_40 : decode cX12_move 40 = .ok (.iload_n 2, 1) := by decide +kernel
theorem dX12_move_41 : decode cX12_move 41 = .ok (.iastore, 1) := by decide +kernel
theorem dX12_move_42 : decode cX12_move 42 = .ok (.aload_n 0, 1) := by decide +kernel
theorem dX12_move_43 : decode cX12_move 43 = .ok (.getfield 78, 3) := by decide +kernel
theorem dX12_move_46 : decode cX12_move 46 = .ok (.aload_n 0, 1) := by decide +kernel
theorem dX12_move_47 : decode cX12_move 47 = .ok (.getfield 265, 3) := by decide +kernel
theorem dX12_move_50 : decode cX12_move 50 = .ok (.iload_n 1, 1) := by decide +kernel
theorem dX12_move_51 : decode cX12_move 51 = .ok (.iastore, 1) := by decide +kernel
theorem dX12_move_52 : decode cX12_move 52 = .ok (.aload_n 0, 1) := by decide +kernel
theorem dX12_move_53 : decode cX12_move 53 = .ok (.getfield 81, 3) := by decide +kernel
theorem dX12_move_56 : decode cX12_move 56 = .ok (.aload_n 0, 1) := by decide +kernel
theorem dX12_move_57 : decode cX12_move 57 = .ok (.getfield 265, 3) := by decide +kernel
theorem dX12_move_60 : decode cX12_move 60 = .ok (.iload_n 2, 1) := by decide +kernel
theorem dX12_move_61 : decode cX12_move 61 = .ok (.ifCond .eq 9, 3) := by decide +kernel
theorem dX12_move_64 : decode cX12_move 64 = .ok (.iload_n 2, 1) := by decide +kernel
theorem dX12_move_65 : decode cX12_move 65 = .ok (.bipush 6, 2) := by decide +kernel
theorem dX12_move_67 : decode cX12_move 67 = .ok (.if_icmp .ne 7, 3) := by decide +kernel
theorem dX12_move_70 : decode cX12_move 70 = .ok (.iconst 0, 1) := by decide +kernel
theorem dX12_move_71 : decode cX12_move 71 = .ok (.goto 4, 3) := by decide +kernel
theorem dX12_move_74 : decode cX12_move 74 = .ok (.iload_n 3, 1) := by decide +kernel
theorem dX12_move_75 : decode cX12_move 75 = .ok (.iastore, 1) := by decide +kernel
theorem dX12_move_76 : decode cX12_move 76 = .ok (.aload_n 0, 1) := by decide +kernel
theorem dX12_move_77 : decode cX12_move 77 = .ok (.dup, 1) := by decide +kernel
theorem dX12_move_78 : decode cX12_move 78 = .ok (.getfield 265, 3) := by decide +kernel
theorem dX12_move_81 : decode cX12_move 81 = .ok (.iconst 1, 1) := by decide +kernel
theorem dX12_move_82 : decode cX12_move 82 = .ok (.iadd, 1) := by decide +kernel
theorem dX12_move_83 : decode cX12_move 83 = .ok (.putfield 265, 3) := by decide +kernel
theorem dX12_move_86 : decode cX12_move 86 = .ok (.aload_n 0, 1) := by decide +kernel
theorem dX12_move_87 : decode cX12_move 87 = .ok (.getfield 265, 3) := by decide +kernel
theorem dX12_move_90 : decode cX12_move 90 = .ok (.iconst 1, 1) := by decide +kernel
theorem dX12_move_91 : decode cX12_move 91 = .ok (.isub, 1) := by decide +kernel
theorem dX12_move_92 : decode cX12_move 92 = .ok (.ireturn, 1) := by decide +kernel
theorem dX12_moveTells_0 : decode cX12_moveTells 0 = .ok (.iload_n 2, 1) := by decide +kernel
theorem dX12_moveTells_1 : decode cX12_moveTells 1 = .ok (.ifCond .ne 12, 3) := by decide +kernel
theorem dX12_moveTells_4 : decode cX12_moveTells 4 = .ok (.aload_n 0, 1) := by decide +kernel
theorem dX12_moveTells_5 : decode cX12_moveTells 5 = .ok (.getfield 75, 3) := by decide +kernel
theorem dX12_moveTells_8 : decode cX12_moveTells 8 = .ok (.iload_n 1, 1) := by decide +kernel
theorem dX12_moveTells_9 : decode cX12_moveTells 9 = .ok (.iaload, 1) := by decide +kernel
theorem dX12_moveTells_10 : decode cX12_moveTells 10 = .ok (.goto 23, 3) := by decide +kernel
theorem dX12_moveTells_13 : decode cX12_moveTells 13 = .ok (.iload_n 2, 1) := by decide +kernel
theorem dX12_moveTells_14 : decode cX12_moveTells 14 = .ok (.iconst 1, 1) := by decide +kernel
theorem dX12_moveTells_15 : decode cX12_moveTells 15 = .ok (.if_icmp .ne 12, 3) := by decide +kernel
theorem dX12_moveTells_18 : decode cX12_moveTells 18 = .ok (.aload_n 0, 1) := by decide +kernel
theorem dX12_moveTells_19 : decode cX12_moveTells 19 = .ok (.getfield 78, 3) := by decide +kernel
theorem dX12_moveTells_22 : decode cX12_moveTells 22 = .ok (.iload_n 1, 1) := by decide +kernel
theorem dX12_moveTells_23 : decode cX12_moveTells 23 = .ok (.iaload, 1) := by decide +kernel
theorem dX12_moveTells_24 : decode cX12_moveTells 24 = .ok (.goto 9, 3) := by decide +kernel
theorem dX12_moveTells_27 : decode cX12_moveTells 27 = .ok (.aload_n 0, 1) := by decide +kernel
theorem dX12_moveTells_28 : decode cX12_moveTells 28 = .ok (.getfield 81, 3) := by decide +kernel
theorem dX12_moveTells_31 : decode cX12_moveTells 31 = .ok (.iload_n 1, 1) := by decide +kernel
theorem dX12_moveTells_32 : decode cX12_moveTells 32 = .ok (.iaload, 1) := by decide +kernel
theorem dX12_moveTells_33 : decode cX12_moveTells 33 = .ok (.ireturn, 1) := by decide +kernel
theorem dX12_moved_0 : decode cX12_moved 0 = .ok (.iload_n 1, 1) := by decide +kernel
theorem dX12_moved_1 : decode cX12_moved 1 = .ok (.iconst 0, 1) := by decide +kernel
theorem dX12_moved_2 : decode cX12_moved 2 = .ok (.aload_n 0, 1) := by decide +kernel
theorem dX12_moved_3 : decode cX12_moved 3 = .ok (.getfield 265, 3) := by decide +kernel
theorem dX12_moved_6 : decode cX12_moved 6 = .ok (.iconst 1, 1) := by decide +kernel
theorem dX12_moved_7 : decode cX12_moved 7 = .ok (.isub, 1) := by decide +kernel
theorem dX12_moved_8 : decode cX12_moved 8 = .ok (.invokestatic 97, 3) := by decide +kernel
theorem dX12_moved_11 : decode cX12_moved 11 = .ok (.ifCond .eq 26, 3) := by decide +kernel
theorem dX12_moved_14 : decode cX12_moved 14 = .ok (.iload_n 2, 1) := by decide +kernel
theorem dX12_moved_15 : decode cX12_moved 15 = .ok (.iconst 0, 1) := by decide +kernel
theorem dX12_moved_16 : decode cX12_moved 16 = .ok (.iconst 2, 1) := by decide +kernel
theorem dX12_moved_17 : decode cX12_moved 17 = .ok (.invokestatic 97, 3) := by decide +kernel
theorem dX12_moved_20 : decode cX12_moved 20 = .ok (.ifCond .eq 17, 3) := by decide +kernel
theorem dX12_moved_23 : decode cX12_moved 23 = .ok (.aload_n 0, 1) := by decide +kernel
theorem dX12_moved_24 : decode cX12_moved 24 = .ok (.aload_n 0, 1) := by decide +kernel
theorem dX12_moved_25 : decode cX12_moved 25 = .ok (.iload_n 1, 1) := by decide +kernel
theorem dX12_moved_26 : decode cX12_moved 26 = .ok (.iload_n 2, 1) := by decide +kernel
theorem dX12_moved_27 : decode cX12_moved 27 = .ok (.invokevirtual 268, 3) := by decide +kernel
theorem dX12_moved_30 : decode cX12_moved 30 = .ok (.iconst 1, 1) := by decide +kernel
theorem dX12_moved_31 : decode cX12_moved 31 = .ok (.invokevirtual 119, 3) := by decide +kernel
theorem dX12_moved_34 : decode cX12_moved 34 = .ok (.goto 4, 3) := by decide +kernel
theorem dX12_moved_37 : decode cX12_moved 37 = .ok (.iconst (-1), 1) := by decide +kernel
theorem dX12_moved_38 : decode cX12_moved 38 = .ok (.ireturn, 1) := by decide +kernel
theorem dX12_mark_0 : decode cX12_mark 0 = .ok (.iload_n 1, 1) := by decide +kernel
theorem dX12_mark_1 : decode cX12_mark 1 = .ok (.iconst 0, 1) := by decide +kernel
theorem dX12_mark_2 : decode cX12_mark 2 = .ok (.aload_n 0, 1) := by decide +kernel
theorem dX12_mark_3 : decode cX12_mark 3 = .ok (.getfield 265, 3) := by decide +kernel
theorem dX12_mark_6 : decode cX12_mark 6 = .ok (.iconst 1, 1) := by decide +kernel
theorem dX12_mark_7 : decode cX12_mark 7 = .ok (.isub, 1) := by decide +kernel
theorem dX12_mark_8 : decode cX12_mark 8 = .ok (.invokestatic 97, 3) := by decide +kernel
theorem dX12_mark_11 : decode cX12_mark 11 = .ok (.ifCond .eq 13, 3) := by decide +kernel
theorem dX12_mark_14 : decode cX12_mark 14 = .ok (.iload_n 2, 1) := by decide +kernel
theorem dX12_mark_15 : decode cX12_mark 15 = .ok (.iconst 1, 1) := by decide +kernel
theorem dX12_mark_16 : decode cX12_mark 16 = .ok (.bipush 6, 2) := by decide +kernel
theorem dX12_mark_18 : decode cX12_mark 18 = .ok (.invokestatic 97, 3) := by decide +kernel
theorem dX12_mark_21 : decode cX12_mark 21 = .ok (.ifCond .ne 5, 3) := by decide +kernel
theorem dX12_mark_24 : decode cX12_mark 24 = .ok (.iconst (-1), 1) := by decide +kernel
theorem dX12_mark_25 : decode cX12_mark 25 = .ok (.ireturn, 1) := by decide +kernel
theorem dX12_mark_26 : decode cX12_mark 26 = .ok (.aload_n 0, 1) := by decide +kernel
theorem dX12_mark_27 : decode cX12_mark 27 = .ok (.getfield 75, 3) := by decide +kernel
theorem dX12_mark_30 : decode cX12_mark 30 = .ok (.iload_n 1, 1) := by decide +kernel
theorem dX12_mark_31 : decode cX12_mark 31 = .ok (.iaload, 1) := by decide +kernel
theorem dX12_mark_32 : decode cX12_mark 32 = .ok (.iload_n 2, 1) := by decide +kernel
theorem dX12_mark_33 : decode cX12_mark 33 = .ok (.if_icmp .eq 9, 3) := by decide +kernel
theorem dX12_mark_36 : decode cX12_mark 36 = .ok (.aload_n 0, 1) := by decide +kernel
theorem dX12_mark_37 : decode cX12_mark 37 = .ok (.iconst 3, 1) := by decide +kernel
theorem dX12_mark_38 : decode cX12_mark 38 = .ok (.invokevirtual 105, 3) := by decide +kernel
theorem dX12_mark_41 : decode cX12_mark 41 = .ok (.ireturn, 1) := by decide +kernel
theorem dX12_mark_42 : decode cX12_mark 42 = .ok (.aload_n 0, 1) := by decide +kernel
theorem dX12_mark_43 : decode cX12_mark 43 = .ok (.getfield 78, 3) := by decide +kernel
theorem dX12_mark_46 : decode cX12_mark 46 = .ok (.iload_n 1, 1) := by decide +kernel
theorem dX12_mark_47 : decode cX12_mark 47 = .ok (.iaload, 1) := by decide +kernel
theorem dX12_mark_48 : decode cX12_mark 48 = .ok (.istore_n 3, 1) := by decide +kernel
theorem dX12_mark_49 : decode cX12_mark 49 = .ok (.aload_n 0, 1) := by decide +kernel
theorem dX12_mark_50 : decode cX12_mark 50 = .ok (.getfield 81, 3) := by decide +kernel
theorem dX12_mark_53 : decode cX12_mark 53 = .ok (.iload_n 1, 1) := by decide +kernel
theorem dX12_mark_54 : decode cX12_mark 54 = .ok (.iaload, 1) := by decide +kernel
theorem dX12_mark_55 : decode cX12_mark 55 = .ok (.istore 4, 2) := by decide +kernel
theorem dX12_mark_57 : decode cX12_mark 57 = .ok (.aload_n 0, 1) := by decide +kernel
theorem dX12_mark_58 : decode cX12_mark 58 = .ok (.getfield 32, 3) := by decide +kernel
theorem dX12_mark_61 : decode cX12_mark 61 = .ok (.aload_n 0, 1) := by decide +kernel
theorem dX12_mark_62 : decode cX12_mark 62 = .ok (.getfield 47, 3) := by decide +kernel
theorem dX12_mark_65 : decode cX12_mark 65 = .ok (.iload_n 3, 1) := by decide +kernel
theorem dX12_mark_66 : decode cX12_mark 66 = .ok (.iaload, 1) := by decide +kernel
theorem dX12_mark_67 : decode cX12_mark 67 = .ok (.iaload, 1) := by decide +kernel
theorem dX12_mark_68 : decode cX12_mark 68 = .ok (.istore 5, 2) := by decide +kernel
theorem dX12_mark_70 : decode cX12_mark 70 = .ok (.iconst 0, 1) := by decide +kernel
theorem dX12_mark_71 : decode cX12_mark 71 = .ok (.istore 6, 2) := by decide +kernel
theorem dX12_mark_73 : decode cX12_mark 73 = .ok (.iload_n 2, 1) := by decide +kernel
theorem dX12_mark_74 : decode cX12_mark 74 = .ok (.tableswitch 152 1 5 #[34, 53, 69, 85, 93], 34) := by decide +kernel
theorem dX12_mark_108 : decode cX12_mark 108 = .ok (.iload 5, 2) := by decide +kernel
theorem dX12_mark_110 : decode cX12_mark 110 = .ok (.aload_n 0, 1) := by decide +kernel
theorem dX12_mark_111 : decode cX12_mark 111 = .ok (.getfield 32, 3) := by decide +kernel
theorem dX12_mark_114 : decode cX12_mark 114 = .ok (.aload_n 0, 1) := by decide +kernel
theorem dX12_mark_115 : decode cX12_mark 115 = .ok (.getfield 47, 3) := by decide +kernel
theorem dX12_mark_118 : decode cX12_mark 118 = .ok (.iload 4, 2) := by decide +kernel
theorem dX12_mark_120 : decode cX12_mark 120 = .ok (.iaload, 1) := by decide +kernel
theorem dX12_mark_121 : decode cX12_mark 121 = .ok (.iaload, 1) := by decide +kernel
theorem dX12_mark_122 : decode cX12_mark 122 = .ok (.ixor, 1) := by decide +kernel
theorem dX12_mark_123 : decode cX12_mark 123 = .ok (.invokestatic 256, 3) := by decide +kernel
theorem dX12_mark_126 : decode cX12_mark 126 = .ok (.ireturn, 1) := by decide +kernel
theorem dX12_mark_127 : decode cX12_mark 127 = .ok (.iload 5, 2) := by decide +kernel
theorem dX12_mark_129 : decode cX12_mark 129 = .ok (.iload 4, 2) := by decide +kernel
theorem dX12_mark_131 : decode cX12_mark 131 = .ok (.invokestatic 187, 3) := by decide +kernel
theorem dX12_mark_134 : decode cX12_mark 134 = .ok (.ifCond .eq 7, 3) := by decide +kernel
theorem dX12_mark_137 : decode cX12_mark 137 = .ok (.iconst 1, 1) := by decide +kernel
theorem dX12_mark_138 : decode cX12_mark 138 = .ok (.goto 4, 3) := by decide +kernel
theorem dX12_mark_141 : decode cX12_mark 141 = .ok (.iconst 0, 1) := by decide +kernel
theorem dX12_mark_142 : decode cX12_mark 142 = .ok (.ireturn, 1) := by decide +kernel
theorem dX12_mark_143 : decode cX12_mark 143 = .ok (.aload_n 0, 1) := by decide +kernel
theorem dX12_mark_144 : decode cX12_mark 144 = .ok (.iload 4, 2) := by decide +kernel
theorem dX12_mark_146 : decode cX12_mark 146 = .ok (.invokevirtual 231, 3) := by decide +kernel
theorem dX12_mark_149 : decode cX12_mark 149 = .ok (.aload_n 0, 1) := by decide +kernel
theorem dX12_mark_150 : decode cX12_mark 150 = .ok (.getfield 212, 3) := by decide +kernel
theorem dX12_mark_153 : decode cX12_mark 153 = .ok (.iload 5, 2) := by decide +kernel
theorem dX12_mark_155 : decode cX12_mark 155 = .ok (.invokestatic 193, 3) := by decide +kernel
theorem dX12_mark_158 : decode cX12_mark 158 = .ok (.ireturn, 1) := by decide +kernel
theorem dX12_mark_159 : decode cX12_mark 159 = .ok (.iload 5, 2) := by decide +kernel
theorem dX12_mark_161 : decode cX12_mark 161 = .ok (.iconst 1, 1) := by decide +kernel
theorem dX12_mark_162 : decode cX12_mark 162 = .ok (.iload 4, 2) := by decide +kernel
theorem dX12_mark_164 : decode cX12_mark 164 = .ok (.ishl, 1) := by decide +kernel
theorem dX12_mark_165 : decode cX12_mark 165 = .ok (.ixor, 1) := by decide +kernel
theorem dX12_mark_166 : decode cX12_mark 166 = .ok (.ireturn, 1) := by decide +kernel
theorem dX12_mark_167 : decode cX12_mark 167 = .ok (.iconst 0, 1) := by decide +kernel
theorem dX12_mark_168 : decode cX12_mark 168 = .ok (.istore 7, 2) := by decide +kernel
theorem dX12_mark_170 : decode cX12_mark 170 = .ok (.iload 7, 2) := by decide +kernel
theorem dX12_mark_172 : decode cX12_mark 172 = .ok (.aload_n 0, 1) := by decide +kernel
theorem dX12_mark_173 : decode cX12_mark 173 = .ok (.getfield 131, 3) := by decide +kernel
theorem dX12_mark_176 : decode cX12_mark 176 = .ok (.if_icmp .ge 47, 3) := by decide +kernel
theorem dX12_mark_179 : decode cX12_mark 179 = .ok (.iload 6, 2) := by decide +kernel
theorem dX12_mark_181 : decode cX12_mark 181 = .ok (.aload_n 0, 1) := by decide +kernel
theorem dX12_mark_182 : decode cX12_mark 182 = .ok (.getfield 44, 3) := by decide +kernel
theorem dX12_mark_185 : decode cX12_mark 185 = .ok (.iload 7, 2) := by decide +kernel
theorem dX12_mark_187 : decode cX12_mark 187 = .ok (.iaload, 1) := by decide +kernel
theorem dX12_mark_188 : decode cX12_mark 188 = .ok (.aload_n 0, 1) := by decide +kernel
theorem dX12_mark_189 : decode cX12_mark 189 = .ok (.getfield 44, 3) := by decide +kernel
theorem dX12_mark_192 : decode cX12_mark 192 = .ok (.iload_n 3, 1) := by decide +kernel
theorem dX12_mark_193 : decode cX12_mark 193 = .ok (.iaload, 1) := by decide +kernel
theorem dX12_mark_194 : decode cX12_mark 194 = .ok (.if_icmp .ne 19, 3) := by decide +kernel
theorem dX12_mark_197 : decode cX12_mark 197 = .ok (.aload_n 0, 1) := by decide +kernel
theorem dX12_mark_198 : decode cX12_mark 198 = .ok (.getfield 50, 3) := by decide +kernel
theorem dX12_mark_201 : decode cX12_mark 201 = .ok (.iload 7, 2) := by decide +kernel
theorem dX12_mark_203 : decode cX12_mark 203 = .ok (.iaload, 1) := by decide +kernel
theorem dX12_mark_204 : decode cX12_mark 204 = .ok (.iload 4, 2) := by decide +kernel
theorem dX12_mark_206 : decode cX12_mark 206 = .ok (.if_icmp .lt 7, 3) := by decide +kernel
theorem dX12_mark_209 : decode cX12_mark 209 = .ok (.iconst 1, 1) := by decide +kernel
theorem dX12_mark_210 : decode cX12_mark 210 = .ok (.goto 4, 3) := by decide +kernel
theorem dX12_mark_213 : decode cX12_mark 213 = .ok (.iconst 0, 1) := by decide +kernel
theorem dX12_mark_214 : decode cX12_mark 214 = .ok (.iadd, 1) := by decide +kernel
theorem dX12_mark_215 : decode cX12_mark 215 = .ok (.istore 6, 2) := by decide +kernel
theorem dX12_mark_217 : decode cX12_mark 217 = .ok (.iinc 7 1, 3) := by decide +kernel
theorem dX12_mark_220 : decode cX12_mark 220 = .ok (.goto (-50), 3) := by decide +kernel
theorem dX12_mark_223 : decode cX12_mark 223 = .ok (.iload 6, 2) := by decide +kernel
theorem dX12_mark_225 : decode cX12_mark 225 = .ok (.ireturn, 1) := by decide +kernel
theorem dX12_mark_226 : decode cX12_mark 226 = .ok (.aload_n 0, 1) := by decide +kernel
theorem dX12_mark_227 : decode cX12_mark 227 = .ok (.aload_n 0, 1) := by decide +kernel
theorem dX12_mark_228 : decode cX12_mark 228 = .ok (.getfield 44, 3) := by decide +kernel
theorem dX12_mark_231 : decode cX12_mark 231 = .ok (.iload_n 3, 1) := by decide +kernel
theorem dX12_mark_232 : decode cX12_mark 232 = .ok (.iaload, 1) := by decide +kernel
theorem dX12_mark_233 : decode cX12_mark 233 = .ok (.invokevirtual 231, 3) := by decide +kernel
theorem dX12_mark_236 : decode cX12_mark 236 = .ok (.aload_n 0, 1) := by decide +kernel
theorem dX12_mark_237 : decode cX12_mark 237 = .ok (.iload_n 3, 1) := by decide +kernel
theorem dX12_mark_238 : decode cX12_mark 238 = .ok (.aload_n 0, 1) := by decide +kernel
theorem dX12_mark_239 : decode cX12_mark 239 = .ok (.getfield 212, 3) := by decide +kernel
theorem dX12_mark_242 : decode cX12_mark 242 = .ok (.invokevirtual 202, 3) := by decide +kernel
theorem dX12_mark_245 : decode cX12_mark 245 = .ok (.ireturn, 1) := by decide +kernel
theorem dX12_doesAnswer_0 : decode cX12_doesAnswer 0 = .ok (.aload_n 0, 1) := by decide +kernel
theorem dX12_doesAnswer_1 : decode cX12_doesAnswer 1 = .ok (.getfield 78, 3) := by decide +kernel
theorem dX12_doesAnswer_4 : decode cX12_doesAnswer 4 = .ok (.iload_n 1, 1) := by decide +kernel
theorem dX12_doesAnswer_5 : decode cX12_doesAnswer 5 = .ok (.iaload, 1) := by decide +kernel
theorem dX12_doesAnswer_6 : decode cX12_doesAnswer 6 = .ok (.istore_n 3, 1) := by decide +kernel
theorem dX12_doesAnswer_7 : decode cX12_doesAnswer 7 = .ok (.aload_n 0, 1) := by decide +kernel
theorem dX12_doesAnswer_8 : decode cX12_doesAnswer 8 = .ok (.getfield 81, 3) := by decide +kernel
theorem dX12_doesAnswer_11 : decode cX12_doesAnswer 11 = .ok (.iload_n 1, 1) := by decide +kernel
theorem dX12_doesAnswer_12 : decode cX12_doesAnswer 12 = .ok (.iaload, 1) := by decide +kernel
theorem dX12_doesAnswer_13 : decode cX12_doesAnswer 13 = .ok (.istore 4, 2) := by decide +kernel
theorem dX12_doesAnswer_15 : decode cX12_doesAnswer 15 = .ok (.aload_n 0, 1) := by decide +kernel
theorem dX12_doesAnswer_16 : decode cX12_doesAnswer 16 = .ok (.getfield 75, 3) := by decide +kernel
theorem dX12_doesAnswer_19 : decode cX12_doesAnswer 19 = .ok (.iload_n 1, 1) := by decide +kernel
theorem dX12_doesAnswer_20 : decode cX12_doesAnswer 20 = .ok (.iaload, 1) := by decide +kernel
theorem dX12_doesAnswer_21 : decode cX12_doesAnswer 21 = .ok (.bipush 6, 2) := by decide +kernel
theorem dX12_doesAnswer_23 : decode cX12_doesAnswer 23 = .ok (.if_icmp .ne 7, 3) := by decide +kernel
theorem dX12_doesAnswer_26 : decode cX12_doesAnswer 26 = .ok (.iconst 1, 1) := by decide +kernel
theorem dX12_doesAnswer_27 : decode cX12_doesAnswer 27 = .ok (.goto 4, 3) := by decide +kernel
theorem dX12_doesAnswer_30 : decode cX12_doesAnswer 30 = .ok (.iconst 0, 1) := by decide +kernel
theorem dX12_doesAnswer_31 : decode cX12_doesAnswer 31 = .ok (.istore 5, 2) := by decide +kernel
theorem dX12_doesAnswer_33 : decode cX12_doesAnswer 33 = .ok (.aload_n 0, 1) := by decide +kernel
theorem dX12_doesAnswer_34 : decode cX12_doesAnswer 34 = .ok (.getfield 75, 3) := by decide +kernel
theorem dX12_doesAnswer_37 : decode cX12_doesAnswer 37 = .ok (.iload_n 1, 1) := by decide +kernel
theorem dX12_doesAnswer_38 : decode cX12_doesAnswer 38 = .ok (.iaload, 1) := by decide +kernel
theorem dX12_doesAnswer_39 : decode cX12_doesAnswer 39 = .ok (.iconst 2, 1) := by decide +kernel
theorem dX12_doesAnswer_40 : decode cX12_doesAnswer 40 = .ok (.if_icmp .ne 33, 3) := by decide +kernel
theorem dX12_doesAnswer_43 : decode cX12_doesAnswer 43 = .ok (.aload_n 0, 1) := by decide +kernel
theorem dX12_doesAnswer_44 : decode cX12_doesAnswer 44 = .ok (.getfield 32, 3) := by decide +kernel
theorem dX12_doesAnswer_47 : decode cX12_doesAnswer 47 = .ok (.aload_n 0, 1) := by decide +kernel
theorem dX12_doesAnswer_48 : decode cX12_doesAnswer 48 = .ok (.getfield 47, 3) := by decide +kernel
theorem dX12_doesAnswer_51 : decode cX12_doesAnswer 51 = .ok (.iload_n 3, 1) := by decide +kernel
theorem dX12_doesAnswer_52 : decode cX12_doesAnswer 52 = .ok (.iaload, 1) := by decide +kernel
theorem dX12_doesAnswer_53 : decode cX12_doesAnswer 53 = .ok (.iaload, 1) := by decide +kernel
theorem dX12_doesAnswer_54 : decode cX12_doesAnswer 54 = .ok (.aload_n 0, 1) := by decide +kernel
theorem dX12_doesAnswer_55 : decode cX12_doesAnswer 55 = .ok (.getfield 32, 3) := by decide +kernel
theorem dX12_doesAnswer_58 : decode cX12_doesAnswer 58 = .ok (.aload_n 0, 1) := by decide +kernel
theorem dX12_doesAnswer_59 : decode cX12_doesAnswer 59 = .ok (.getfield 47, 3) := by decide +kernel
theorem dX12_doesAnswer_62 : decode cX12_doesAnswer 62 = .ok (.iload_n 2, 1) := by decide +kernel
theorem dX12_doesAnswer_63 : decode cX12_doesAnswer 63 = .ok (.iaload, 1) := by decide +kernel
theorem dX12_doesAnswer_64 : decode cX12_doesAnswer 64 = .ok (.iaload, 1) := by decide +kernel
theorem dX12_doesAnswer_65 : decode cX12_doesAnswer 65 = .ok (.ixor, 1) := by decide +kernel
theorem dX12_doesAnswer_66 : decode cX12_doesAnswer 66 = .ok (.iload 4, 2) := by decide +kernel
theorem dX12_doesAnswer_68 : decode cX12_doesAnswer 68 = .ok (.invokestatic 187, 3) := by decide +kernel
theorem dX12_doesAnswer_71 : decode cX12_doesAnswer 71 = .ok (.istore 5, 2) := by decide +kernel
theorem dX12_doesAnswer_73 : decode cX12_doesAnswer 73 = .ok (.aload_n 0, 1) := by decide +kernel
theorem dX12_doesAnswer_74 : decode cX12_doesAnswer 74 = .ok (.getfield 75, 3) := by decide +kernel
theorem dX12_doesAnswer_77 : decode cX12_doesAnswer 77 = .ok (.iload_n 1, 1) := by decide +kernel
theorem dX12_doesAnswer_78 : decode cX12_doesAnswer 78 = .ok (.iaload, 1) := by decide +kernel
theorem dX12_doesAnswer_79 : decode cX12_doesAnswer 79 = .ok (.iconst 3, 1) := by decide +kernel
theorem dX12_doesAnswer_80 : decode cX12_doesAnswer 80 = .ok (.if_icmp .ne 43, 3) := by decide +kernel
theorem dX12_doesAnswer_83 : decode cX12_doesAnswer 83 = .ok (.aload_n 0, 1) := by decide +kernel
theorem dX12_doesAnswer_84 : decode cX12_doesAnswer 84 = .ok (.iload 4, 2) := by decide +kernel
theorem dX12_doesAnswer_86 : decode cX12_doesAnswer 86 = .ok (.invokevirtual 231, 3) := by decide +kernel
theorem dX12_doesAnswer_89 : decode cX12_doesAnswer 89 = .ok (.aload_n 0, 1) := by decide +kernel
theorem dX12_doesAnswer_90 : decode cX12_doesAnswer 90 = .ok (.getfield 212, 3) := by decide +kernel
theorem dX12_doesAnswer_93 : decode cX12_doesAnswer 93 = .ok (.aload_n 0, 1) := by decide +kernel
theorem dX12_doesAnswer_94 : decode cX12_doesAnswer 94 = .ok (.getfield 32, 3) := by decide +kernel
theorem dX12_doesAnswer_97 : decode cX12_doesAnswer 97 = .ok (.aload_n 0, 1) := by decide +kernel
theorem dX12_doesAnswer_98 : decode cX12_doesAnswer 98 = .ok (.getfield 47, 3) := by decide +kernel
theorem dX12_doesAnswer_101 : decode cX12_doesAnswer 101 = .ok (.iload_n 2, 1) := by decide +kernel
theorem dX12_doesAnswer_102 : decode cX12_doesAnswer 102 = .ok (.iaload, 1) := by decide +kernel
theorem dX12_doesAnswer_103 : decode cX12_doesAnswer 103 = .ok (.iaload, 1) := by decide +kernel
theorem dX12_doesAnswer_104 : decode cX12_doesAnswer 104 = .ok (.invokestatic 193, 3) := by decide +kernel
theorem dX12_doesAnswer_107 : decode cX12_doesAnswer 107 = .ok (.aload_n 0, 1) := by decide +kernel
theorem dX12_doesAnswer_108 : decode cX12_doesAnswer 108 = .ok (.getfield 53, 3) := by decide +kernel
theorem dX12_doesAnswer_111 : decode cX12_doesAnswer 111 = .ok (.iload_n 2, 1) := by decide +kernel
theorem dX12_doesAnswer_112 : decode cX12_doesAnswer 112 = .ok (.iaload, 1) := by decide +kernel
theorem dX12_doesAnswer_113 : decode cX12_doesAnswer 113 = .ok (.if_icmp .ne 7, 3) := by decide +kernel
theorem dX12_doesAnswer_116 : decode cX12_doesAnswer 116 = .ok (.iconst 1, 1) := by decide +kernel
theorem dX12_doesAnswer_117 : decode cX12_doesAnswer 117 = .ok (.goto 4, 3) := by decide +kernel
theorem dX12_doesAnswer_120 : decode cX12_doesAnswer 120 = .ok (.iconst 0, 1) := by decide +kernel
theorem dX12_doesAnswer_121 : decode cX12_doesAnswer 121 = .ok (.istore 5, 2) := by decide +kernel
theorem dX12_doesAnswer_123 : decode cX12_doesAnswer 123 = .ok (.aload_n 0, 1) := by decide +kernel
theorem dX12_doesAnswer_124 : decode cX12_doesAnswer 124 = .ok (.getfield 75, 3) := by decide +kernel
theorem dX12_doesAnswer_127 : decode cX12_doesAnswer 127 = .ok (.iload_n 1, 1) := by decide +kernel
theorem dX12_doesAnswer_128 : decode cX12_doesAnswer 128 = .ok (.iaload, 1) := by decide +kernel
theorem dX12_doesAnswer_129 : decode cX12_doesAnswer 129 = .ok (.iconst 4, 1) := by decide +kernel
theorem dX12_doesAnswer_130 : decode cX12_doesAnswer 130 = .ok (.if_icmp .ne 78, 3) := by decide +kernel
theorem dX12_doesAnswer_133 : decode cX12_doesAnswer 133 = .ok (.aload_n 0, 1) := by decide +kernel
theorem dX12_doesAnswer_134 : decode cX12_doesAnswer 134 = .ok (.aload_n 0, 1) := by decide +kernel
theorem dX12_doesAnswer_135 : decode cX12_doesAnswer 135 = .ok (.getfield 44, 3) := by decide +kernel
theorem dX12_doesAnswer_138 : decode cX12_doesAnswer 138 = .ok (.iload_n 2, 1) := by decide +kernel
theorem dX12_doesAnswer_139 : decode cX12_doesAnswer 139 = .ok (.iaload, 1) := by decide +kernel
theorem dX12_doesAnswer_140 : decode cX12_doesAnswer 140 = .ok (.invokevirtual 234, 3) := by decide +kernel
theorem dX12_doesAnswer_143 : decode cX12_doesAnswer 143 = .ok (.iconst 0, 1) := by decide +kernel
theorem dX12_doesAnswer_144 : decode cX12_doesAnswer 144 = .ok (.istore 6, 2) := by decide +kernel
theorem dX12_doesAnswer_146 : decode cX12_doesAnswer 146 = .ok (.iload 6, 2) := by decide +kernel
theorem dX12_doesAnswer_148 : decode cX12_doesAnswer 148 = .ok (.sipush 244, 3) := by decide +kernel
theorem dX12_doesAnswer_151 : decode cX12_doesAnswer 151 = .ok (.if_icmp .ge 57, 3) := by decide +kernel
theorem dX12_doesAnswer_154 : decode cX12_doesAnswer 154 = .ok (.iload 5, 2) := by decide +kernel
theorem dX12_doesAnswer_156 : decode cX12_doesAnswer 156 = .ok (.ifCond .ne 39, 3) := by decide +kernel
theorem dX12_doesAnswer_159 : decode cX12_doesAnswer 159 = .ok (.aload_n 0, 1) := by decide +kernel
theorem dX12_doesAnswer_160 : decode cX12_doesAnswer 160 = .ok (.getfield 68, 3) := by decide +kernel
theorem dX12_doesAnswer_163 : decode cX12_doesAnswer 163 = .ok (.iload 6, 2) := by decide +kernel
theorem dX12_doesAnswer_165 : decode cX12_doesAnswer 165 = .ok (.baload, 1) := by decide +kernel
theorem dX12_doesAnswer_166 : decode cX12_doesAnswer 166 = .ok (.ifCond .eq 33, 3) := by decide +kernel
theorem dX12_doesAnswer_169 : decode cX12_doesAnswer 169 = .ok (.aload_n 0, 1) := by decide +kernel
theorem dX12_doesAnswer_170 : decode cX12_doesAnswer 170 = .ok (.iload_n 3, 1) := by decide +kernel
theorem dX12_doesAnswer_171 : decode cX12_doesAnswer 171 = .ok (.aload_n 0, 1) := by decide +kernel
theorem dX12_doesAnswer_172 : decode cX12_doesAnswer 172 = .ok (.getfield 32, 3) := by decide +kernel
theorem dX12_doesAnswer_175 : decode cX12_doesAnswer 175 = .ok (.aload_n 0, 1) := by decide +kernel
theorem dX12_doesAnswer_176 : decode cX12_doesAnswer 176 = .ok (.getfield 47, 3) := by decide +kernel
theorem dX12_doesAnswer_179 : decode cX12_doesAnswer 179 = .ok (.iload_n 3, 1) := by decide +kernel
theorem dX12_doesAnswer_180 : decode cX12_doesAnswer 180 = .ok (.iaload, 1) := by decide +kernel
theorem dX12_doesAnswer_181 : decode cX12_doesAnswer 181 = .ok (.iaload, 1) := by decide +kernel
theorem dX12_doesAnswer_182 : decode cX12_doesAnswer 182 = .ok (.iconst 1, 1) := by decide +kernel
theorem dX12_doesAnswer_183 : decode cX12_doesAnswer 183 = .ok (.iload 4, 2) := by decide +kernel
theorem dX12_doesAnswer_185 : decode cX12_doesAnswer 185 = .ok (.ishl, 1) := by decide +kernel
theorem dX12_doesAnswer_186 : decode cX12_doesAnswer 186 = .ok (.ixor, 1) := by decide +kernel
theorem dX12_doesAnswer_187 : decode cX12_doesAnswer 187 = .ok (.iload 6, 2) := by decide +kernel
theorem dX12_doesAnswer_189 : decode cX12_doesAnswer 189 = .ok (.invokevirtual 196, 3) := by decide +kernel
theorem dX12_doesAnswer_192 : decode cX12_doesAnswer 192 = .ok (.ifCond .eq 7, 3) := by decide +kernel
theorem dX12_doesAnswer_195 : decode cX12_doesAnswer 195 = .ok (.iconst 1, 1) := by decide +kernel
theorem dX12_doesAnswer_196 : decode cX12_doesAnswer 196 = .ok (.goto 4, 3) := by decide +kernel
theorem dX12_doesAnswer_199 : decode cX12_doesAnswer 199 = .ok (.iconst 0, 1) := by decide +kernel
theorem dX12_doesAnswer_200 : decode cX12_doesAnswer 200 = .ok (.istore 5, 2) := by decide +kernel
theorem dX12_doesAnswer_202 : decode cX12_doesAnswer 202 = .ok (.iinc 6 1, 3) := by decide +kernel
theorem dX12_doesAnswer_205 : decode cX12_doesAnswer 205 = .ok (.goto (-59), 3) := by decide +kernel
theorem dX12_doesAnswer_208 : decode cX12_doesAnswer 208 = .ok (.aload_n 0, 1) := by decide +kernel
theorem dX12_doesAnswer_209 : decode cX12_doesAnswer 209 = .ok (.getfield 75, 3) := by decide +kernel
theorem dX12_doesAnswer_212 : decode cX12_doesAnswer 212 = .ok (.iload_n 1, 1) := by decide +kernel
theorem dX12_doesAnswer_213 : decode cX12_doesAnswer 213 = .ok (.iaload, 1) := by decide +kernel
theorem dX12_doesAnswer_214 : decode cX12_doesAnswer 214 = .ok (.iconst 5, 1) := by decide +kernel
theorem dX12_doesAnswer_215 : decode cX12_doesAnswer 215 = .ok (.if_icmp .ne 60, 3) := by decide +kernel
theorem dX12_doesAnswer_218 : decode cX12_doesAnswer 218 = .ok (.aload_n 0, 1) := by decide +kernel
theorem dX12_doesAnswer_219 : decode cX12_doesAnswer 219 = .ok (.getfield 44, 3) := by decide +kernel
theorem dX12_doesAnswer_222 : decode cX12_doesAnswer 222 = .ok (.iload_n 3, 1) := by decide +kernel
theorem dX12_doesAnswer_223 : decode cX12_doesAnswer 223 = .ok (.iaload, 1) := by decide +kernel
theorem dX12_doesAnswer_224 : decode cX12_doesAnswer 224 = .ok (.aload_n 0, 1) := by decide +kernel
theorem dX12_doesAnswer_225 : decode cX12_doesAnswer 225 = .ok (.getfield 44, 3) := by decide +kernel
theorem dX12_doesAnswer_228 : decode cX12_doesAnswer 228 = .ok (.iload_n 2, 1) := by decide +kernel
theorem dX12_doesAnswer_229 : decode cX12_doesAnswer 229 = .ok (.iaload, 1) := by decide +kernel
theorem dX12_doesAnswer_230 : decode cX12_doesAnswer 230 = .ok (.if_icmp .ne 42, 3) := by decide +kernel
theorem dX12_doesAnswer_233 : decode cX12_doesAnswer 233 = .ok (.aload_n 0, 1) := by decide +kernel
theorem dX12_doesAnswer_234 : decode cX12_doesAnswer 234 = .ok (.getfield 50, 3) := by decide +kernel
theorem dX12_doesAnswer_237 : decode cX12_doesAnswer 237 = .ok (.iload_n 3, 1) := by decide +kernel
theorem dX12_doesAnswer_238 : decode cX12_doesAnswer 238 = .ok (.iaload, 1) := by decide +kernel
theorem dX12_doesAnswer_239 : decode cX12_doesAnswer 239 = .ok (.iload 4, 2) := by decide +kernel
theorem dX12_doesAnswer_241 : decode cX12_doesAnswer 241 = .ok (.if_icmp .ge 7, 3) := by decide +kernel
theorem dX12_doesAnswer_244 : decode cX12_doesAnswer 244 = .ok (.iconst 1, 1) := by decide +kernel
theorem dX12_doesAnswer_245 : decode cX12_doesAnswer 245 = .ok (.goto 4, 3) := by decide +kernel
theorem dX12_doesAnswer_248 : decode cX12_doesAnswer 248 = .ok (.iconst 0, 1) := by decide +kernel
theorem dX12_doesAnswer_249 : decode cX12_doesAnswer 249 = .ok (.aload_n 0, 1) := by decide +kernel
theorem dX12_doesAnswer_250 : decode cX12_doesAnswer 250 = .ok (.getfield 50, 3) := by decide +kernel
theorem dX12_doesAnswer_253 : decode cX12_doesAnswer 253 = .ok (.iload_n 2, 1) := by decide +kernel
theorem dX12_doesAnswer_254 : decode cX12_doesAnswer 254 = .ok (.iaload, 1) := by decide +kernel
theorem dX12_doesAnswer_255 : decode cX12_doesAnswer 255 = .ok (.iload 4, 2) := by decide +kernel
theorem dX12_doesAnswer_257 : decode cX12_doesAnswer 257 = .ok (.if_icmp .ge 7, 3) := by decide +kernel
theorem dX12_doesAnswer_260 : decode cX12_doesAnswer 260 = .ok (.iconst 1, 1) := by decide +kernel
theorem dX12_doesAnswer_261 : decode cX12_doesAnswer 261 = .ok (.goto 4, 3) := by decide +kernel
theorem dX12_doesAnswer_264 : decode cX12_doesAnswer 264 = .ok (.iconst 0, 1) := by decide +kernel
theorem dX12_doesAnswer_265 : decode cX12_doesAnswer 265 = .ok (.if_icmp .eq 7, 3) := by decide +kernel
theorem dX12_doesAnswer_268 : decode cX12_doesAnswer 268 = .ok (.iconst 1, 1) := by decide +kernel
theorem dX12_doesAnswer_269 : decode cX12_doesAnswer 269 = .ok (.goto 4, 3) := by decide +kernel
theorem dX12_doesAnswer_272 : decode cX12_doesAnswer 272 = .ok (.iconst 0, 1) := by decide +kernel
theorem dX12_doesAnswer_273 : decode cX12_doesAnswer 273 = .ok (.istore 5, 2) := by decide +kernel
theorem dX12_doesAnswer_275 : decode cX12_doesAnswer 275 = .ok (.iload 5, 2) := by decide +kernel
theorem dX12_doesAnswer_277 : decode cX12_doesAnswer 277 = .ok (.ireturn, 1) := by decide +kernel
theorem dX12_follow_0 : decode cX12_follow 0 = .ok (.iconst 0, 1) := by decide +kernel
theorem dX12_follow_1 : decode cX12_follow 1 = .ok (.istore_n 1, 1) := by decide +kernel
theorem dX12_follow_2 : decode cX12_follow 2 = .ok (.iconst 0, 1) := by decide +kernel
theorem dX12_follow_3 : decode cX12_follow 3 = .ok (.istore_n 2, 1) := by decide +kernel
theorem dX12_follow_4 : decode cX12_follow 4 = .ok (.iconst 0, 1) := by decide +kernel
theorem dX12_follow_5 : decode cX12_follow 5 = .ok (.istore_n 3, 1) := by decide +kernel
theorem dX12_follow_6 : decode cX12_follow 6 = .ok (.iload_n 3, 1) := by decide +kernel
theorem dX12_follow_7 : decode cX12_follow 7 = .ok (.aload_n 0, 1) := by decide +kernel
theorem dX12_follow_8 : decode cX12_follow 8 = .ok (.getfield 265, 3) := by decide +kernel
theorem dX12_follow_11 : decode cX12_follow 11 = .ok (.if_icmp .ge 150, 3) := by decide +kernel
theorem dX12_follow_14 : decode cX12_follow 14 = .ok (.aload_n 0, 1) := by decide +kernel
theorem dX12_follow_15 : decode cX12_follow 15 = .ok (.getfield 84, 3) := by decide +kernel
theorem dX12_follow_18 : decode cX12_follow 18 = .ok (.iload_n 3, 1) := by decide +kernel
theorem dX12_follow_19 : decode cX12_follow 19 = .ok (.aload_n 0, 1) := by decide +kernel
theorem dX12_follow_20 : decode cX12_follow 20 = .ok (.getfield 75, 3) := by decide +kernel
theorem dX12_follow_23 : decode cX12_follow 23 = .ok (.iload_n 3, 1) := by decide +kernel
theorem dX12_follow_24 : decode cX12_follow 24 = .ok (.iaload, 1) := by decide +kernel
theorem dX12_follow_25 : decode cX12_follow 25 = .ok (.iconst 1, 1) := by decide +kernel
theorem dX12_follow_26 : decode cX12_follow 26 = .ok (.if_icmp .ne 7, 3) := by decide +kernel
theorem dX12_follow_29 : decode cX12_follow 29 = .ok (.iconst 1, 1) := by decide +kernel
theorem dX12_follow_30 : decode cX12_follow 30 = .ok (.goto 4, 3) := by decide +kernel
theorem dX12_follow_33 : decode cX12_follow 33 = .ok (.iconst 0, 1) := by decide +kernel
theorem dX12_follow_34 : decode cX12_follow 34 = .ok (.bastore, 1) := by decide +kernel
theorem dX12_follow_35 : decode cX12_follow 35 = .ok (.aload_n 0, 1) := by decide +kernel
theorem dX12_follow_36 : decode cX12_follow 36 = .ok (.getfield 84, 3) := by decide +kernel
theorem dX12_follow_39 : decode cX12_follow 39 = .ok (.iload_n 3, 1) := by decide +kernel
theorem dX12_follow_40 : decode cX12_follow 40 = .ok (.baload, 1) := by decide +kernel
theorem dX12_follow_41 : decode cX12_follow 41 = .ok (.ifCond .eq 9, 3) := by decide +kernel
theorem dX12_follow_44 : decode cX12_follow 44 = .ok (.iinc 2 1, 3) := by decide +kernel
theorem dX12_follow_47 : decode cX12_follow 47 = .ok (.goto 108, 3) := by decide +kernel
theorem dX12_follow_50 : decode cX12_follow 50 = .ok (.bipush (-9), 2) := by decide +kernel
theorem dX12_follow_52 : decode cX12_follow 52 = .ok (.istore 4, 2) := by decide +kernel
theorem dX12_follow_54 : decode cX12_follow 54 = .ok (.iconst 0, 1) := by decide +kernel
theorem dX12_follow_55 : decode cX12_follow 55 = .ok (.istore 5, 2) := by decide +kernel
theorem dX12_follow_57 : decode cX12_follow 57 = .ok (.iload 5, 2) := by decide +kernel
theorem dX12_follow_59 : decode cX12_follow 59 = .ok (.iload_n 3, 1) := by decide +kernel
theorem dX12_follow_60 : decode cX12_follow 60 = .ok (.if_icmp .ge 44, 3) := by decide +kernel
theorem dX12_follow_63 : decode cX12_follow 63 = .ok (.aload_n 0, 1) := by decide +kernel
theorem dX12_follow_64 : decode cX12_follow 64 = .ok (.getfield 84, 3) := by decide +kernel
theorem dX12_follow_67 : decode cX12_follow 67 = .ok (.iload 5, 2) := by decide +kernel
theorem dX12_follow_69 : decode cX12_follow 69 = .ok (.baload, 1) := by decide +kernel
theorem dX12_follow_70 : decode cX12_follow 70 = .ok (.ifCond .eq 24, 3) := by decide +kernel
theorem dX12_follow_73 : decode cX12_follow 73 = .ok (.aload_n 0, 1) := by decide +kernel
theorem dX12_follow_74 : decode cX12_follow 74 = .ok (.getfield 78, 3) := by decide +kernel
theorem dX12_follow_77 : decode cX12_follow 77 = .ok (.iload 5, 2) := by decide +kernel
theorem dX12_follow_79 : decode cX12_follow 79 = .ok (.iaload, 1) := by decide +kernel
theorem dX12_follow_80 : decode cX12_follow 80 = .ok (.aload_n 0, 1) := by decide +kernel
theorem dX12_follow_81 : decode cX12_follow 81 = .ok (.getfield 78, 3) := by decide +kernel
theorem dX12_follow_84 : decode cX12_follow 84 = .ok (.iload_n 3, 1) := by decide +kernel
theorem dX12_follow_85 : decode cX12_follow 85 = .ok (.iaload, 1) := by decide +kernel
theorem dX12_follow_86 : decode cX12_follow 86 = .ok (.if_icmp .ne 8, 3) := by decide +kernel
theorem dX12_follow_89 : decode cX12_follow 89 = .ok (.iload 5, 2) := by decide +kernel
theorem dX12_follow_91 : decode cX12_follow 91 = .ok (.goto 5, 3) := by decide +kernel
theorem dX12_follow_94 : decode cX12_follow 94 = .ok (.iload 4, 2) := by decide +kernel
theorem dX12_follow_96 : decode cX12_follow 96 = .ok (.istore 4, 2) := by decide +kernel
theorem dX12_follow_98 : decode cX12_follow 98 = .ok (.iinc 5 1, 3) := by decide +kernel
theorem dX12_follow_101 : decode cX12_follow 101 = .ok (.goto (-44), 3) := by decide +kernel
theorem dX12_follow_104 : decode cX12_follow 104 = .ok (.iload 4, 2) := by decide +kernel
theorem dX12_follow_106 : decode cX12_follow 106 = .ok (.ifCond .lt 32, 3) := by decide +kernel
theorem dX12_follow_109 : decode cX12_follow 109 = .ok (.aload_n 0, 1) := by decide +kernel
theorem dX12_follow_110 : decode cX12_follow 110 = .ok (.iload_n 3, 1) := by decide +kernel
theorem dX12_follow_111 : decode cX12_follow 111 = .ok (.aload_n 0, 1) := by decide +kernel
theorem dX12_follow_112 : decode cX12_follow 112 = .ok (.getfield 81, 3) := by decide +kernel
theorem dX12_follow_115 : decode cX12_follow 115 = .ok (.iload 4, 2) := by decide +kernel
theorem dX12_follow_117 : decode cX12_follow 117 = .ok (.iaload, 1) := by decide +kernel
theorem dX12_follow_118 : decode cX12_follow 118 = .ok (.invokevirtual 271, 3) := by decide +kernel
theorem dX12_follow_121 : decode cX12_follow 121 = .ok (.ifCond .eq 17, 3) := by decide +kernel
theorem dX12_follow_124 : decode cX12_follow 124 = .ok (.aload_n 0, 1) := by decide +kernel
theorem dX12_follow_125 : decode cX12_follow 125 = .ok (.getfield 84, 3) := by decide +kernel
theorem dX12_follow_128 : decode cX12_follow 128 = .ok (.iload 4, 2) := by decide +kernel
theorem dX12_follow_130 : decode cX12_follow 130 = .ok (.iconst 0, 1) := by decide +kernel
theorem dX12_follow_131 : decode cX12_follow 131 = .ok (.bastore, 1) := by decide +kernel
theorem dX12_follow_132 : decode cX12_follow 132 = .ok (.iinc 2 (-1), 3) := by decide +kernel
theorem dX12_follow_135 : decode cX12_follow 135 = .ok (.goto 20, 3) := by decide +kernel
theorem dX12_follow_138 : decode cX12_follow 138 = .ok (.iload_n 1, 1) := by decide +kernel
theorem dX12_follow_139 : decode cX12_follow 139 = .ok (.aload_n 0, 1) := by decide +kernel
theorem dX12_follow_140 : decode cX12_follow 140 = .ok (.getfield 75, 3) := by decide +kernel
theorem dX12_follow_143 : decode cX12_follow 143 = .ok (.iload_n 3, 1) := by decide +kernel
theorem dX12_follow_144 : decode cX12_follow 144 = .ok (.iaload, 1) := by decide +kernel
theorem dX12_follow_145 : decode cX12_follow 145 = .ok (.ifCond .ne 7, 3) := by decide +kernel
theorem dX12_follow_148 : decode cX12_follow 148 = .ok (.iconst 0, 1) := by decide +kernel
theorem dX12_follow_149 : decode cX12_follow 149 = .ok (.goto 4, 3) := by decide +kernel
theorem dX12_follow_152 : decode cX12_follow 152 = .ok (.iconst 1, 1) := by decide +kernel
theorem dX12_follow_153 : decode cX12_follow 153 = .ok (.iadd, 1) := by decide +kernel
theorem dX12_follow_154 : decode cX12_follow 154 = .ok (.istore_n 1, 1) := by decide +kernel
theorem dX12_follow_155 : decode cX12_follow 155 = .ok (.iinc 3 1, 3) := by decide +kernel
theorem dX12_follow_158 : decode cX12_follow 158 = .ok (.goto (-152), 3) := by decide +kernel
theorem dX12_follow_161 : decode cX12_follow 161 = .ok (.aload_n 0, 1) := by decide +kernel
theorem dX12_follow_162 : decode cX12_follow 162 = .ok (.iload_n 1, 1) := by decide +kernel
theorem dX12_follow_163 : decode cX12_follow 163 = .ok (.iload_n 2, 1) := by decide +kernel
theorem dX12_follow_164 : decode cX12_follow 164 = .ok (.invokevirtual 119, 3) := by decide +kernel
theorem dX12_follow_167 : decode cX12_follow 167 = .ok (.ireturn, 1) := by decide +kernel
theorem dX12_lawOf_0 : decode cX12_lawOf 0 = .ok (.iconst 0, 1) := by decide +kernel
theorem dX12_lawOf_1 : decode cX12_lawOf 1 = .ok (.istore_n 3, 1) := by decide +kernel
theorem dX12_lawOf_2 : decode cX12_lawOf 2 = .ok (.bipush (-9), 2) := by decide +kernel
theorem dX12_lawOf_4 : decode cX12_lawOf 4 = .ok (.istore 4, 2) := by decide +kernel
theorem dX12_lawOf_6 : decode cX12_lawOf 6 = .ok (.aload_n 0, 1) := by decide +kernel
theorem dX12_lawOf_7 : decode cX12_lawOf 7 = .ok (.iconst 0, 1) := by decide +kernel
theorem dX12_lawOf_8 : decode cX12_lawOf 8 = .ok (.putfield 274, 3) := by decide +kernel
theorem dX12_lawOf_11 : decode cX12_lawOf 11 = .ok (.iconst 0, 1) := by decide +kernel
theorem dX12_lawOf_12 : decode cX12_lawOf 12 = .ok (.istore 5, 2) := by decide +kernel
theorem dX12_lawOf_14 : decode cX12_lawOf 14 = .ok (.iload 5, 2) := by decide +kernel
theorem dX12_lawOf_16 : decode cX12_lawOf 16 = .ok (.aload_n 0, 1) := by decide +kernel
theorem dX12_lawOf_17 : decode cX12_lawOf 17 = .ok (.getfield 128, 3) := by decide +kernel
theorem dX12_lawOf_20 : decode cX12_lawOf 20 = .ok (.if_icmp .ge 112, 3) := by decide +kernel
theorem dX12_lawOf_23 : decode cX12_lawOf 23 = .ok (.aload_n 0, 1) := by decide +kernel
theorem dX12_lawOf_24 : decode cX12_lawOf 24 = .ok (.iload 5, 2) := by decide +kernel
theorem dX12_lawOf_26 : decode cX12_lawOf 26 = .ok (.invokevirtual 150, 3) := by decide +kernel
theorem dX12_lawOf_29 : decode cX12_lawOf 29 = .ok (.ifCond .ne 7, 3) := by decide +kernel
theorem dX12_lawOf_32 : decode cX12_lawOf 32 = .ok (.iconst 0, 1) := by decide +kernel
theorem dX12_lawOf_33 : decode cX12_lawOf 33 = .ok (.goto 20, 3) := by decide +kernel
theorem dX12_lawOf_36 : decode cX12_lawOf 36 = .ok (.iload_n 1, 1) := by decide +kernel
theorem dX12_lawOf_37 : decode cX12_lawOf 37 = .ok (.iconst 2, 1) := by decide +kernel
theorem dX12_lawOf_38 : decode cX12_lawOf 38 = .ok (.if_icmp .ne 14, 3) := by decide +kernel
theorem dX12_lawOf_41 : decode cX12_lawOf 41 = .ok (.aload_n 0, 1) := by decide +kernel
theorem dX12_lawOf_42 : decode cX12_lawOf 42 = .ok (.iload 5, 2) := by decide +kernel
theorem dX12_lawOf_44 : decode cX12_lawOf 44 = .ok (.invokevirtual 163, 3) := by decide +kernel
theorem dX12_lawOf_47 : decode cX12_lawOf 47 = .ok (.iconst 1, 1) := by decide +kernel
theorem dX12_lawOf_48 : decode cX12_lawOf 48 = .ok (.iadd, 1) := by decide +kernel
theorem dX12_lawOf_49 : decode cX12_lawOf 49 = .ok (.goto 4, 3) := by decide +kernel
theorem dX12_lawOf_52 : decode cX12_lawOf 52 = .ok (.iconst 1, 1) := by decide +kernel
theorem dX12_lawOf_53 : decode cX12_lawOf 53 = .ok (.istore 6, 2) := by decide +kernel
theorem dX12_lawOf_55 : decode cX12_lawOf 55 = .ok (.iload_n 3, 1) := by decide +kernel
theorem dX12_lawOf_56 : decode cX12_lawOf 56 = .ok (.iload 6, 2) := by decide +kernel
theorem dX12_lawOf_58 : decode cX12_lawOf 58 = .ok (.iadd, 1) := by decide +kernel
theorem dX12_lawOf_59 : decode cX12_lawOf 59 = .ok (.istore_n 3, 1) := by decide +kernel
theorem dX12_lawOf_60 : decode cX12_lawOf 60 = .ok (.aload_n 0, 1) := by decide +kernel
theorem dX12_lawOf_61 : decode cX12_lawOf 61 = .ok (.dup, 1) := by decide +kernel
theorem dX12_lawOf_62 : decode cX12_lawOf 62 = .ok (.getfield 274, 3) := by decide +kernel
theorem dX12_lawOf_65 : decode cX12_lawOf 65 = .ok (.aload_n 0, 1) := by decide +kernel
theorem dX12_lawOf_66 : decode cX12_lawOf 66 = .ok (.getfield 72, 3) := by decide +kernel
theorem dX12_lawOf_69 : decode cX12_lawOf 69 = .ok (.iload 5, 2) := by decide +kernel
theorem dX12_lawOf_71 : decode cX12_lawOf 71 = .ok (.iaload, 1) := by decide +kernel
theorem dX12_lawOf_72 : decode cX12_lawOf 72 = .ok (.iload_n 2, 1) := by decide +kernel
theorem dX12_lawOf_73 : decode cX12_lawOf 73 = .ok (.invokestatic 193, 3) := by decide +kernel
theorem dX12_lawOf_76 : decode cX12_lawOf 76 = .ok (.iconst 1, 1) := by decide +kernel
theorem dX12_lawOf_77 : decode cX12_lawOf 77 = .ok (.if_icmp .ne 8, 3) := by decide +kernel
theorem dX12_lawOf_80 : decode cX12_lawOf 80 = .ok (.iload 6, 2) := by decide +kernel
theorem dX12_lawOf_82 : decode cX12_lawOf 82 = .ok (.goto 4, 3) := by decide +kernel
theorem dX12_lawOf_85 : decode cX12_lawOf 85 = .ok (.iconst 0, 1) := by decide +kernel
theorem dX12_lawOf_86 : decode cX12_lawOf 86 = .ok (.iadd, 1) := by decide +kernel
theorem dX12_lawOf_87 : decode cX12_lawOf 87 = .ok (.putfield 274, 3) := by decide +kernel
theorem dX12_lawOf_90 : decode cX12_lawOf 90 = .ok (.iload 6, 2) := by decide +kernel
theorem dX12_lawOf_92 : decode cX12_lawOf 92 = .ok (.ifCond .le 30, 3) := by decide +kernel
theorem dX12_lawOf_95 : decode cX12_lawOf 95 = .ok (.iload 4, 2) := by decide +kernel
theorem dX12_lawOf_97 : decode cX12_lawOf 97 = .ok (.ifCond .lt 20, 3) := by decide +kernel
theorem dX12_lawOf_100 : decode cX12_lawOf 100 = .ok (.aload_n 0, 1) := by decide +kernel
theorem dX12_lawOf_101 : decode cX12_lawOf 101 = .ok (.getfield 38, 3) := by decide +kernel
theorem dX12_lawOf_104 : decode cX12_lawOf 104 = .ok (.iload 5, 2) := by decide +kernel
theorem dX12_lawOf_106 : decode cX12_lawOf 106 = .ok (.iaload, 1) := by decide +kernel
theorem dX12_lawOf_107 : decode cX12_lawOf 107 = .ok (.aload_n 0, 1) := by decide +kernel
theorem dX12_lawOf_108 : decode cX12_lawOf 108 = .ok (.getfield 38, 3) := by decide +kernel
theorem dX12_lawOf_111 : decode cX12_lawOf 111 = .ok (.iload 4, 2) := by decide +kernel
theorem dX12_lawOf_113 : decode cX12_lawOf 113 = .ok (.iaload, 1) := by decide +kernel
theorem dX12_lawOf_114 : decode cX12_lawOf 114 = .ok (.if_icmp .le 8, 3) := by decide +kernel
theorem dX12_lawOf_117 : decode cX12_lawOf 117 = .ok (.iload 5, 2) := by decide +kernel
theorem dX12_lawOf_119 : decode cX12_lawOf 119 = .ok (.goto 5, 3) := by decide +kernel
theorem dX12_lawOf_122 : decode cX12_lawOf 122 = .ok (.iload 4, 2) := by decide +kernel
theorem dX12_lawOf_124 : decode cX12_lawOf 124 = .ok (.istore 4, 2) := by decide +kernel
theorem dX12_lawOf_126 : decode cX12_lawOf 126 = .ok (.iinc 5 1, 3) := by decide +kernel
theorem dX12_lawOf_129 : decode cX12_lawOf 129 = .ok (.goto (-115), 3) := by decide +kernel
theorem dX12_lawOf_132 : decode cX12_lawOf 132 = .ok (.iload 4, 2) := by decide +kernel
theorem dX12_lawOf_134 : decode cX12_lawOf 134 = .ok (.ifCond .ge 6, 3) := by decide +kernel
theorem dX12_lawOf_137 : decode cX12_lawOf 137 = .ok (.bipush (-9), 2) := by decide +kernel
theorem dX12_lawOf_139 : decode cX12_lawOf 139 = .ok (.ireturn, 1) := by decide +kernel
theorem dX12_lawOf_140 : decode cX12_lawOf 140 = .ok (.iload_n 1, 1) := by decide +kernel
theorem dX12_lawOf_141 : decode cX12_lawOf 141 = .ok (.iconst 1, 1) := by decide +kernel
theorem dX12_lawOf_142 : decode cX12_lawOf 142 = .ok (.if_icmp .ne 21, 3) := by decide +kernel
theorem dX12_lawOf_145 : decode cX12_lawOf 145 = .ok (.aload_n 0, 1) := by decide +kernel
theorem dX12_lawOf_146 : decode cX12_lawOf 146 = .ok (.iload 4, 2) := by decide +kernel
theorem dX12_lawOf_148 : decode cX12_lawOf 148 = .ok (.putfield 274, 3) := by decide +kernel
theorem dX12_lawOf_151 : decode cX12_lawOf 151 = .ok (.aload_n 0, 1) := by decide +kernel
theorem dX12_lawOf_152 : decode cX12_lawOf 152 = .ok (.getfield 72, 3) := by decide +kernel
theorem dX12_lawOf_155 : decode cX12_lawOf 155 = .ok (.iload 4, 2) := by decide +kernel
theorem dX12_lawOf_157 : decode cX12_lawOf 157 = .ok (.iaload, 1) := by decide +kernel
theorem dX12_lawOf_158 : decode cX12_lawOf 158 = .ok (.iload_n 2, 1) := by decide +kernel
theorem dX12_lawOf_159 : decode cX12_lawOf 159 = .ok (.invokestatic 193, 3) := by decide +kernel
theorem dX12_lawOf_162 : decode cX12_lawOf 162 = .ok (.ireturn, 1) := by decide +kernel
theorem dX12_lawOf_163 : decode cX12_lawOf 163 = .ok (.iconst 2, 1) := by decide +kernel
theorem dX12_lawOf_164 : decode cX12_lawOf 164 = .ok (.aload_n 0, 1) := by decide +kernel
theorem dX12_lawOf_165 : decode cX12_lawOf 165 = .ok (.getfield 274, 3) := by decide +kernel
theorem dX12_lawOf_168 : decode cX12_lawOf 168 = .ok (.imul, 1) := by decide +kernel
theorem dX12_lawOf_169 : decode cX12_lawOf 169 = .ok (.iload_n 3, 1) := by decide +kernel
theorem dX12_lawOf_170 : decode cX12_lawOf 170 = .ok (.if_icmp .ne 8, 3) := by decide +kernel
theorem dX12_lawOf_173 : decode cX12_lawOf 173 = .ok (.bipush (-9), 2) := by decide +kernel
theorem dX12_lawOf_175 : decode cX12_lawOf 175 = .ok (.goto 18, 3) := by decide +kernel
theorem dX12_lawOf_178 : decode cX12_lawOf 178 = .ok (.iconst 2, 1) := by decide +kernel
theorem dX12_lawOf_179 : decode cX12_lawOf 179 = .ok (.aload_n 0, 1) := by decide +kernel
theorem dX12_lawOf_180 : decode cX12_lawOf 180 = .ok (.getfield 274, 3) := by decide +kernel
theorem dX12_lawOf_183 : decode cX12_lawOf 183 = .ok (.imul, 1) := by decide +kernel
theorem dX12_lawOf_184 : decode cX12_lawOf 184 = .ok (.iload_n 3, 1) := by decide +kernel
theorem dX12_lawOf_185 : decode cX12_lawOf 185 = .ok (.if_icmp .le 7, 3) := by decide +kernel
theorem dX12_lawOf_188 : decode cX12_lawOf 188 = .ok (.iconst 1, 1) := by decide +kernel
theorem dX12_lawOf_189 : decode cX12_lawOf 189 = .ok (.goto 4, 3) := by decide +kernel
theorem dX12_lawOf_192 : decode cX12_lawOf 192 = .ok (.iconst 0, 1) := by decide +kernel
theorem dX12_lawOf_193 : decode cX12_lawOf 193 = .ok (.ireturn, 1) := by decide +kernel
theorem dX12_isBy_0 : decode cX12_isBy 0 = .ok (.iload_n 0, 1) := by decide +kernel
theorem dX12_isBy_1 : decode cX12_isBy 1 = .ok (.iconst 0, 1) := by decide +kernel
theorem dX12_isBy_2 : decode cX12_isBy 2 = .ok (.iconst 2, 1) := by decide +kernel
theorem dX12_isBy_3 : decode cX12_isBy 3 = .ok (.invokestatic 97, 3) := by decide +kernel
theorem dX12_isBy_6 : decode cX12_isBy 6 = .ok (.ireturn, 1) := by decide +kernel
theorem dX12_law_0 : decode cX12_law 0 = .ok (.iload_n 1, 1) := by decide +kernel
theorem dX12_law_1 : decode cX12_law 1 = .ok (.invokestatic 277, 3) := by decide +kernel
theorem dX12_law_4 : decode cX12_law 4 = .ok (.ifCond .eq 10, 3) := by decide +kernel
theorem dX12_law_7 : decode cX12_law 7 = .ok (.iload_n 2, 1) := by decide +kernel
theorem dX12_law_8 : decode cX12_law 8 = .ok (.invokestatic 134, 3) := by decide +kernel
theorem dX12_law_11 : decode cX12_law 11 = .ok (.ifCond .ne 5, 3) := by decide +kernel
theorem dX12_law_14 : decode cX12_law 14 = .ok (.iconst (-1), 1) := by decide +kernel
theorem dX12_law_15 : decode cX12_law 15 = .ok (.ireturn, 1) := by decide +kernel
theorem dX12_law_16 : decode cX12_law 16 = .ok (.aload_n 0, 1) := by decide +kernel
theorem dX12_law_17 : decode cX12_law 17 = .ok (.invokevirtual 237, 3) := by decide +kernel
theorem dX12_law_20 : decode cX12_law 20 = .ok (.aload_n 0, 1) := by decide +kernel
theorem dX12_law_21 : decode cX12_law 21 = .ok (.iload_n 1, 1) := by decide +kernel
theorem dX12_law_22 : decode cX12_law 22 = .ok (.iload_n 2, 1) := by decide +kernel
theorem dX12_law_23 : decode cX12_law 23 = .ok (.invokevirtual 280, 3) := by decide +kernel
theorem dX12_law_26 : decode cX12_law 26 = .ok (.istore_n 3, 1) := by decide +kernel
theorem dX12_law_27 : decode cX12_law 27 = .ok (.iload_n 3, 1) := by decide +kernel
theorem dX12_law_28 : decode cX12_law 28 = .ok (.bipush (-9), 2) := by decide +kernel
theorem dX12_law_30 : decode cX12_law 30 = .ok (.if_icmp .ne 8, 3) := by decide +kernel
theorem dX12_law_33 : decode cX12_law 33 = .ok (.bipush (-9), 2) := by decide +kernel
theorem dX12_law_35 : decode cX12_law 35 = .ok (.goto 12, 3) := by decide +kernel
theorem dX12_law_38 : decode cX12_law 38 = .ok (.aload_n 0, 1) := by decide +kernel
theorem dX12_law_39 : decode cX12_law 39 = .ok (.aload_n 0, 1) := by decide +kernel
theorem dX12_law_40 : decode cX12_law 40 = .ok (.getfield 274, 3) := by decide +kernel
theorem dX12_law_43 : decode cX12_law 43 = .ok (.iload_n 3, 1) := by decide +kernel
theorem dX12_law_44 : decode cX12_law 44 = .ok (.invokevirtual 119, 3) := by decide +kernel
theorem dX12_law_47 : decode cX12_law 47 = .ok (.ireturn, 1) := by decide +kernel
theorem dX12_lawsPart_0 : decode cX12_lawsPart 0 = .ok (.iload_n 1, 1) := by decide +kernel
theorem dX12_lawsPart_1 : decode cX12_lawsPart 1 = .ok (.invokestatic 277, 3) := by decide +kernel
theorem dX12_lawsPart_4 : decode cX12_lawsPart 4 = .ok (.ifCond .eq 10, 3) := by decide +kernel
theorem dX12_lawsPart_7 : decode cX12_lawsPart 7 = .ok (.iload_n 2, 1) := by decide +kernel
theorem dX12_lawsPart_8 : decode cX12_lawsPart 8 = .ok (.invokestatic 277, 3) := by decide +kernel
theorem dX12_lawsPart_11 : decode cX12_lawsPart 11 = .ok (.ifCond .ne 5, 3) := by decide +kernel
theorem dX12_lawsPart_14 : decode cX12_lawsPart 14 = .ok (.iconst (-1), 1) := by decide +kernel
theorem dX12_lawsPart_15 : decode cX12_lawsPart 15 = .ok (.ireturn, 1) := by decide +kernel
theorem dX12_lawsPart_16 : decode cX12_lawsPart 16 = .ok (.aload_n 0, 1) := by decide +kernel
theorem dX12_lawsPart_17 : decode cX12_lawsPart 17 = .ok (.invokevirtual 237, 3) := by decide +kernel
theorem dX12_lawsPart_20 : decode cX12_lawsPart 20 = .ok (.iconst 0, 1) := by decide +kernel
theorem dX12_lawsPart_21 : decode cX12_lawsPart 21 = .ok (.istore_n 3, 1) := by decide +kernel
theorem dX12_lawsPart_22 : decode cX12_lawsPart 22 = .ok (.iconst 0, 1) := by decide +kernel
theorem dX12_lawsPart_23 : decode cX12_lawsPart 23 = .ok (.istore 4, 2) := by decide +kernel
theorem dX12_lawsPart_25 : decode cX12_lawsPart 25 = .ok (.iload 4, 2) := by decide +kernel
theorem dX12_lawsPart_27 : decode cX12_lawsPart 27 = .ok (.bipush 32, 2) := by decide +kernel
theorem dX12_lawsPart_29 : decode cX12_lawsPart 29 = .ok (.if_icmp .ge 34, 3) := by decide +kernel
theorem dX12_lawsPart_32 : decode cX12_lawsPart 32 = .ok (.iload_n 3, 1) := by decide +kernel
theorem dX12_lawsPart_33 : decode cX12_lawsPart 33 = .ok (.aload_n 0, 1) := by decide +kernel
theorem dX12_lawsPart_34 : decode cX12_lawsPart 34 = .ok (.iload_n 1, 1) := by decide +kernel
theorem dX12_lawsPart_35 : decode cX12_lawsPart 35 = .ok (.iload 4, 2) := by decide +kernel
theorem dX12_lawsPart_37 : decode cX12_lawsPart 37 = .ok (.invokevirtual 280, 3) := by decide +kernel
theorem dX12_lawsPart_40 : decode cX12_lawsPart 40 = .ok (.aload_n 0, 1) := by decide +kernel
theorem dX12_lawsPart_41 : decode cX12_lawsPart 41 = .ok (.iload_n 2, 1) := by decide +kernel
theorem dX12_lawsPart_42 : decode cX12_lawsPart 42 = .ok (.iload 4, 2) := by decide +kernel
theorem dX12_lawsPart_44 : decode cX12_lawsPart 44 = .ok (.invokevirtual 280, 3) := by decide +kernel
theorem dX12_lawsPart_47 : decode cX12_lawsPart 47 = .ok (.if_icmp .eq 7, 3) := by decide +kernel
theorem dX12_lawsPart_50 : decode cX12_lawsPart 50 = .ok (.iconst 1, 1) := by decide +kernel
theorem dX12_lawsPart_51 : decode cX12_lawsPart 51 = .ok (.goto 4, 3) := by decide +kernel
theorem dX12_lawsPart_54 : decode cX12_lawsPart 54 = .ok (.iconst 0, 1) := by decide +kernel
theorem dX12_lawsPart_55 : decode cX12_lawsPart 55 = .ok (.iadd, 1) := by decide +kernel
theorem dX12_lawsPart_56 : decode cX12_lawsPart 56 = .ok (.istore_n 3, 1) := by decide +kernel
theorem dX12_lawsPart_57 : decode cX12_lawsPart 57 = .ok (.iinc 4 1, 3) := by decide +kernel
theorem dX12_lawsPart_60 : decode cX12_lawsPart 60 = .ok (.goto (-35), 3) := by decide +kernel
theorem dX12_lawsPart_63 : decode cX12_lawsPart 63 = .ok (.iload_n 3, 1) := by decide +kernel
theorem dX12_lawsPart_64 : decode cX12_lawsPart 64 = .ok (.ireturn, 1) := by decide +kernel
theorem dX12_fresh_0 : decode cX12_fresh 0 = .ok (.aload_n 0, 1) := by decide +kernel
theorem dX12_fresh_1 : decode cX12_fresh 1 = .ok (.iload_n 1, 1) := by decide +kernel
theorem dX12_fresh_2 : decode cX12_fresh 2 = .ok (.invokevirtual 137, 3) := by decide +kernel
theorem dX12_fresh_5 : decode cX12_fresh 5 = .ok (.ifCond .eq 19, 3) := by decide +kernel
theorem dX12_fresh_8 : decode cX12_fresh 8 = .ok (.iload_n 2, 1) := by decide +kernel
theorem dX12_fresh_9 : decode cX12_fresh 9 = .ok (.invokestatic 134, 3) := by decide +kernel
theorem dX12_fresh_12 : decode cX12_fresh 12 = .ok (.ifCond .eq 12, 3) := by decide +kernel
theorem dX12_fresh_15 : decode cX12_fresh 15 = .ok (.aload_n 0, 1) := by decide +kernel
theorem dX12_fresh_16 : decode cX12_fresh 16 = .ok (.iload_n 1, 1) := by decide +kernel
theorem dX12_fresh_17 : decode cX12_fresh 17 = .ok (.iload_n 2, 1) := by decide +kernel
theorem dX12_fresh_18 : decode cX12_fresh 18 = .ok (.invokevirtual 246, 3) := by decide +kernel
theorem dX12_fresh_21 : decode cX12_fresh 21 = .ok (.goto 4, 3) := by decide +kernel
theorem dX12_fresh_24 : decode cX12_fresh 24 = .ok (.iconst (-1), 1) := by decide +kernel
theorem dX12_fresh_25 : decode cX12_fresh 25 = .ok (.ireturn, 1) := by decide +kernel
theorem dX12_next_0 : decode cX12_next 0 = .ok (.iconst 0, 1) := by decide +kernel
theorem dX12_next_1 : decode cX12_next 1 = .ok (.istore_n 1, 1) := by decide +kernel
theorem dX12_next_2 : decode cX12_next 2 = .ok (.iconst 0, 1) := by decide +kernel
theorem dX12_next_3 : decode cX12_next 3 = .ok (.istore_n 2, 1) := by decide +kernel
theorem dX12_next_4 : decode cX12_next 4 = .ok (.iload_n 2, 1) := by decide +kernel
theorem dX12_next_5 : decode cX12_next 5 = .ok (.bipush 32, 2) := by decide +kernel
theorem dX12_next_7 : decode cX12_next 7 = .ok (.if_icmp .ge 16, 3) := by decide +kernel
theorem dX12_next_10 : decode cX12_next 10 = .ok (.aload_n 0, 1) := by decide +kernel
theorem dX12_next_11 : decode cX12_next 11 = .ok (.getfield 87, 3) := by decide +kernel
theorem dX12_next_14 : decode cX12_next 14 = .ok (.iload_n 2, 1) := by decide +kernel
theorem dX12_next_15 : decode cX12_next 15 = .ok (.iconst 0, 1) := by decide +kernel
theorem dX12_next_16 : decode cX12_next 16 = .ok (.iastore, 1) := by decide +kernel
theorem dX12_next_17 : decode cX12_next 17 = .ok (.iinc 2 1, 3) := by decide +kernel
theorem dX12_next_20 : decode cX12_next 20 = .ok (.goto (-16), 3) := by decide +kernel
theorem dX12_next_23 : decode cX12_next 23 = .ok (.iconst 0, 1) := by decide +kernel
theorem dX12_next_24 : decode cX12_next 24 = .ok (.istore_n 2, 1) := by decide +kernel
theorem dX12_next_25 : decode cX12_next 25 = .ok (.iload_n 2, 1) := by decide +kernel
theorem dX12_next_26 : decode cX12_next 26 = .ok (.aload_n 0, 1) := by decide +kernel
theorem dX12_next_27 : decode cX12_next 27 = .ok (.getfield 128, 3) := by decide +kernel
theorem dX12_next_30 : decode cX12_next 30 = .ok (.if_icmp .ge 61, 3) := by decide +kernel
theorem dX12_next_33 : decode cX12_next 33 = .ok (.aload_n 0, 1) := by decide +kernel
theorem dX12_next_34 : decode cX12_next 34 = .ok (.iload_n 2, 1) := by decide +kernel
theorem dX12_next_35 : decode cX12_next 35 = .ok (.invokevirtual 150, 3) := by decide +kernel
theorem dX12_next_38 : decode cX12_next 38 = .ok (.ifCond .le 47, 3) := by decide +kernel
theorem dX12_next_41 : decode cX12_next 41 = .ok (.iconst 1, 1) := by decide +kernel
theorem dX12_next_42 : decode cX12_next 42 = .ok (.istore_n 1, 1) := by decide +kernel
theorem dX12_next_43 : decode cX12_next 43 = .ok (.aload_n 0, 1) := by decide +kernel
theorem dX12_next_44 : decode cX12_next 44 = .ok (.iload_n 2, 1) := by decide +kernel
theorem dX12_next_45 : decode cX12_next 45 = .ok (.invokevirtual 234, 3) := by decide +kernel
theorem dX12_next_48 : decode cX12_next 48 = .ok (.iconst 0, 1) := by decide +kernel
theorem dX12_next_49 : decode cX12_next 49 = .ok (.istore_n 3, 1) := by decide +kernel
theorem dX12_next_50 : decode cX12_next 50 = .ok (.iload_n 3, 1) := by decide +kernel
theorem dX12_next_51 : decode cX12_next 51 = .ok (.bipush 32, 2) := by decide +kernel
theorem dX12_next_53 : decode cX12_next 53 = .ok (.if_icmp .ge 32, 3) := by decide +kernel
theorem dX12_next_56 : decode cX12_next 56 = .ok (.aload_n 0, 1) := by decide +kernel
theorem dX12_next_57 : decode cX12_next 57 = .ok (.getfield 87, 3) := by decide +kernel
theorem dX12_next_60 : decode cX12_next 60 = .ok (.iload_n 3, 1) := by decide +kernel
theorem dX12_next_61 : decode cX12_next 61 = .ok (.dup2, 1) := by decide +kernel
theorem dX12_next_62 : decode cX12_next 62 = .ok (.iaload, 1) := by decide +kernel
theorem dX12_next_63 : decode cX12_next 63 = .ok (.aload_n 0, 1) := by decide +kernel
theorem dX12_next_64 : decode cX12_next 64 = .ok (.iload_n 3, 1) := by decide +kernel
theorem dX12_next_65 : decode cX12_next 65 = .ok (.invokevirtual 243, 3) := by decide +kernel
theorem dX12_next_68 : decode cX12_next 68 = .ok (.iconst 2, 1) := by decide +kernel
theorem dX12_next_69 : decode cX12_next 69 = .ok (.if_icmp .ne 7, 3) := by decide +kernel
theorem dX12_next_72 : decode cX12_next 72 = .ok (.iconst 1, 1) := by decide +kernel
theorem dX12_next_73 : decode cX12_next 73 = .ok (.goto 4, 3) := by decide +kernel
theorem dX12_next_76 : decode cX12_next 76 = .ok (.iconst 0, 1) := by decide +kernel
theorem dX12_next_77 : decode cX12_next 77 = .ok (.iadd, 1) := by decide +kernel
theorem dX12_next_78 : decode cX12_next 78 = .ok (.iastore, 1) := by decide +kernel
theorem dX12_next_79 : decode cX12_next 79 = .ok (.iinc 3 1, 3) := by decide +kernel
theorem dX12_next_82 : decode cX12_next 82 = .ok (.goto (-32), 3) := by decide +kernel
theorem dX12_next_85 : decode cX12_next 85 = .ok (.iinc 2 1, 3) := by decide +kernel
theorem dX12_next_88 : decode cX12_next 88 = .ok (.goto (-63), 3) := by decide +kernel
theorem dX12_next_91 : decode cX12_next 91 = .ok (.iconst 0, 1) := by decide +kernel
theorem dX12_next_92 : decode cX12_next 92 = .ok (.istore_n 2, 1) := by decide +kernel
theorem dX12_next_93 : decode cX12_next 93 = .ok (.iconst 1, 1) := by decide +kernel
theorem dX12_next_94 : decode cX12_next 94 = .ok (.istore_n 3, 1) := by decide +kernel
theorem dX12_next_95 : decode cX12_next 95 = .ok (.iload_n 3, 1) := by decide +kernel
theorem dX12_next_96 : decode cX12_next 96 = .ok (.bipush 32, 2) := by decide +kernel
theorem dX12_next_98 : decode cX12_next 98 = .ok (.if_icmp .ge 30, 3) := by decide +kernel
theorem dX12_next_101 : decode cX12_next 101 = .ok (.aload_n 0, 1) := by decide +kernel
theorem dX12_next_102 : decode cX12_next 102 = .ok (.getfield 87, 3) := by decide +kernel
theorem dX12_next_105 : decode cX12_next 105 = .ok (.iload_n 3, 1) := by decide +kernel
theorem dX12_next_106 : decode cX12_next 106 = .ok (.iaload, 1) := by decide +kernel
theorem dX12_next_107 : decode cX12_next 107 = .ok (.aload_n 0, 1) := by decide +kernel
theorem dX12_next_108 : decode cX12_next 108 = .ok (.getfield 87, 3) := by decide +kernel
theorem dX12_next_111 : decode cX12_next 111 = .ok (.iload_n 2, 1) := by decide +kernel
theorem dX12_next_112 : decode cX12_next 112 = .ok (.iaload, 1) := by decide +kernel
theorem dX12_next_113 : decode cX12_next 113 = .ok (.if_icmp .le 7, 3) := by decide +kernel
theorem dX12_next_116 : decode cX12_next 116 = .ok (.iload_n 3, 1) := by decide +kernel
theorem dX12_next_117 : decode cX12_next 117 = .ok (.goto 4, 3) := by decide +kernel
theorem dX12_next_120 : decode cX12_next 120 = .ok (.iload_n 2, 1) := by decide +kernel
theorem dX12_next_121 : decode cX12_next 121 = .ok (.istore_n 2, 1) := by decide +kernel
theorem dX12_next_122 : decode cX12_next 122 = .ok (.iinc 3 1, 3) := by decide +kernel
theorem dX12_next_125 : decode cX12_next 125 = .ok (.goto (-30), 3) := by decide +kernel
theorem dX12_next_128 : decode cX12_next 128 = .ok (.iload_n 1, 1) := by decide +kernel
theorem dX12_next_129 : decode cX12_next 129 = .ok (.ifCond .eq 17, 3) := by decide +kernel
theorem dX12_next_132 : decode cX12_next 132 = .ok (.aload_n 0, 1) := by decide +kernel
theorem dX12_next_133 : decode cX12_next 133 = .ok (.aload_n 0, 1) := by decide +kernel
theorem dX12_next_134 : decode cX12_next 134 = .ok (.getfield 87, 3) := by decide +kernel
theorem dX12_next_137 : decode cX12_next 137 = .ok (.iload_n 2, 1) := by decide +kernel
theorem dX12_next_138 : decode cX12_next 138 = .ok (.iaload, 1) := by decide +kernel
theorem dX12_next_139 : decode cX12_next 139 = .ok (.iload_n 2, 1) := by decide +kernel
theorem dX12_next_140 : decode cX12_next 140 = .ok (.invokevirtual 119, 3) := by decide +kernel
theorem dX12_next_143 : decode cX12_next 143 = .ok (.goto 5, 3) := by decide +kernel
theorem dX12_next_146 : decode cX12_next 146 = .ok (.bipush (-9), 2) := by decide +kernel
theorem dX12_next_148 : decode cX12_next 148 = .ok (.ireturn, 1) := by decide +kernel
theorem dX12_asked_0 : decode cX12_asked 0 = .ok (.aload_n 0, 1) := by decide +kernel
theorem dX12_asked_1 : decode cX12_asked 1 = .ok (.getfield 94, 3) := by decide +kernel
theorem dX12_asked_4 : decode cX12_asked 4 = .ok (.ireturn, 1) := by decide +kernel
theorem dX12_upper_0 : decode cX12_upper 0 = .ok (.aload_n 0, 1) := by decide +kernel
theorem dX12_upper_1 : decode cX12_upper 1 = .ok (.getfield 259, 3) := by decide +kernel
theorem dX12_upper_4 : decode cX12_upper 4 = .ok (.lreturn, 1) := by decide +kernel
theorem dX12_lower_0 : decode cX12_lower 0 = .ok (.aload_n 0, 1) := by decide +kernel
theorem dX12_lower_1 : decode cX12_lower 1 = .ok (.getfield 13, 3) := by decide +kernel
theorem dX12_lower_4 : decode cX12_lower 4 = .ok (.lreturn, 1) := by decide +kernel
theorem dX12_counts_0 : decode cX12_counts 0 = .ok (.iconst 0, 1) := by decide +kernel
theorem dX12_counts_1 : decode cX12_counts 1 = .ok (.istore_n 2, 1) := by decide +kernel
theorem dX12_counts_2 : decode cX12_counts 2 = .ok (.iload_n 1, 1) := by decide +kernel
theorem dX12_counts_3 : decode cX12_counts 3 = .ok (.tableswitch 126 0 5 #[37, 42, 47, 52, 57, 93], 37) := by decide +kernel
theorem dX12_counts_40 : decode cX12_counts 40 = .ok (.aload_n 0, 1) := by decide +kernel
theorem dX12_counts_41 : decode cX12_counts 41 = .ok (.getfield 125, 3) := by decide +kernel
theorem dX12_counts_44 : decode cX12_counts 44 = .ok (.ireturn, 1) := by decide +kernel
theorem dX12_counts_45 : decode cX12_counts 45 = .ok (.aload_n 0, 1) := by decide +kernel
theorem dX12_counts_46 : decode cX12_counts 46 = .ok (.getfield 128, 3) := by decide +kernel
theorem dX12_counts_49 : decode cX12_counts 49 = .ok (.ireturn, 1) := by decide +kernel
theorem dX12_counts_50 : decode cX12_counts 50 = .ok (.aload_n 0, 1) := by decide +kernel
theorem dX12_counts_51 : decode cX12_counts 51 = .ok (.getfield 131, 3) := by decide +kernel
theorem dX12_counts_54 : decode cX12_counts 54 = .ok (.ireturn, 1) := by decide +kernel
theorem dX12_counts_55 : decode cX12_counts 55 = .ok (.aload_n 0, 1) := by decide +kernel
theorem dX12_counts_56 : decode cX12_counts 56 = .ok (.getfield 265, 3) := by decide +kernel
theorem dX12_counts_59 : decode cX12_counts 59 = .ok (.ireturn, 1) := by decide +kernel
theorem dX12_counts_60 : decode cX12_counts 60 = .ok (.iconst 0, 1) := by decide +kernel
theorem dX12_counts_61 : decode cX12_counts 61 = .ok (.istore_n 3, 1) := by decide +kernel
theorem dX12_counts_62 : decode cX12_counts 62 = .ok (.iload_n 3, 1) := by decide +kernel
theorem dX12_counts_63 : decode cX12_counts 63 = .ok (.aload_n 0, 1) := by decide +kernel
theorem dX12_counts_64 : decode cX12_counts 64 = .ok (.getfield 265, 3) := by decide +kernel
theorem dX12_counts_67 : decode cX12_counts 67 = .ok (.if_icmp .ge 27, 3) := by decide +kernel
theorem dX12_counts_70 : decode cX12_counts 70 = .ok (.iload_n 2, 1) := by decide +kernel
theorem dX12_counts_71 : decode cX12_counts 71 = .ok (.aload_n 0, 1) := by decide +kernel
theorem dX12_counts_72 : decode cX12_counts 72 = .ok (.getfield 75, 3) := by decide +kernel
theorem dX12_counts_75 : decode cX12_counts 75 = .ok (.iload_n 3, 1) := by decide +kernel
theorem dX12_counts_76 : decode cX12_counts 76 = .ok (.iaload, 1) := by decide +kernel
theorem dX12_counts_77 : decode cX12_counts 77 = .ok (.iconst 1, 1) := by decide +kernel
theorem dX12_counts_78 : decode cX12_counts 78 = .ok (.if_icmp .ne 7, 3) := by decide +kernel
theorem dX12_counts_81 : decode cX12_counts 81 = .ok (.iconst 1, 1) := by decide +kernel
theorem dX12_counts_82 : decode cX12_counts 82 = .ok (.goto 4, 3) := by decide +kernel
theorem dX12_counts_85 : decode cX12_counts 85 = .ok (.iconst 0, 1) := by decide +kernel
theorem dX12_counts_86 : decode cX12_counts 86 = .ok (.iadd, 1) := by decide +kernel
theorem dX12_counts_87 : decode cX12_counts 87 = .ok (.istore_n 2, 1) := by decide +kernel
theorem dX12_counts_88 : decode cX12_counts 88 = .ok (.iinc 3 1, 3) := by decide +kernel
theorem dX12_counts_91 : decode cX12_counts 91 = .ok (.goto (-29), 3) := by decide +kernel
theorem dX12_counts_94 : decode cX12_counts 94 = .ok (.iload_n 2, 1) := by decide +kernel
theorem dX12_counts_95 : decode cX12_counts 95 = .ok (.ireturn, 1) := by decide +kernel
theorem dX12_counts_96 : decode cX12_counts 96 = .ok (.iconst 0, 1) := by decide +kernel
theorem dX12_counts_97 : decode cX12_counts 97 = .ok (.istore_n 3, 1) := by decide +kernel
theorem dX12_counts_98 : decode cX12_counts 98 = .ok (.iload_n 3, 1) := by decide +kernel
theorem dX12_counts_99 : decode cX12_counts 99 = .ok (.bipush 6, 2) := by decide +kernel
theorem dX12_counts_101 : decode cX12_counts 101 = .ok (.if_icmp .ge 26, 3) := by decide +kernel
theorem dX12_counts_104 : decode cX12_counts 104 = .ok (.iload_n 2, 1) := by decide +kernel
theorem dX12_counts_105 : decode cX12_counts 105 = .ok (.aload_n 0, 1) := by decide +kernel
theorem dX12_counts_106 : decode cX12_counts 106 = .ok (.getfield 17, 3) := by decide +kernel
theorem dX12_counts_109 : decode cX12_counts 109 = .ok (.iload_n 3, 1) := by decide +kernel
theorem dX12_counts_110 : decode cX12_counts 110 = .ok (.iaload, 1) := by decide +kernel
theorem dX12_counts_111 : decode cX12_counts 111 = .ok (.ifCond .lt 7, 3) := by decide +kernel
theorem dX12_counts_114 : decode cX12_counts 114 = .ok (.iconst 1, 1) := by decide +kernel
theorem dX12_counts_115 : decode cX12_counts 115 = .ok (.goto 4, 3) := by decide +kernel
theorem dX12_counts_118 : decode cX12_counts 118 = .ok (.iconst 0, 1) := by decide +kernel
theorem dX12_counts_119 : decode cX12_counts 119 = .ok (.iadd, 1) := by decide +kernel
theorem dX12_counts_120 : decode cX12_counts 120 = .ok (.istore_n 2, 1) := by decide +kernel
theorem dX12_counts_121 : decode cX12_counts 121 = .ok (.iinc 3 1, 3) := by decide +kernel
theorem dX12_counts_124 : decode cX12_counts 124 = .ok (.goto (-26), 3) := by decide +kernel
theorem dX12_counts_127 : decode cX12_counts 127 = .ok (.iload_n 2, 1) := by decide +kernel
theorem dX12_counts_128 : decode cX12_counts 128 = .ok (.ireturn, 1) := by decide +kernel
theorem dX12_counts_129 : decode cX12_counts 129 = .ok (.iconst 0, 1) := by decide +kernel
theorem dX12_counts_130 : decode cX12_counts 130 = .ok (.istore_n 3, 1) := by decide +kernel
theorem dX12_counts_131 : decode cX12_counts 131 = .ok (.iload_n 3, 1) := by decide +kernel
theorem dX12_counts_132 : decode cX12_counts 132 = .ok (.iconst 4, 1) := by decide +kernel
theorem dX12_counts_133 : decode cX12_counts 133 = .ok (.if_icmp .ge 26, 3) := by decide +kernel
theorem dX12_counts_136 : decode cX12_counts 136 = .ok (.iload_n 2, 1) := by decide +kernel
theorem dX12_counts_137 : decode cX12_counts 137 = .ok (.aload_n 0, 1) := by decide +kernel
theorem dX12_counts_138 : decode cX12_counts 138 = .ok (.getfield 26, 3) := by decide +kernel
theorem dX12_counts_141 : decode cX12_counts 141 = .ok (.iload_n 3, 1) := by decide +kernel
theorem dX12_counts_142 : decode cX12_counts 142 = .ok (.iaload, 1) := by decide +kernel
theorem dX12_counts_143 : decode cX12_counts 143 = .ok (.ifCond .lt 7, 3) := by decide +kernel
theorem dX12_counts_146 : decode cX12_counts 146 = .ok (.iconst 1, 1) := by decide +kernel
theorem dX12_counts_147 : decode cX12_counts 147 = .ok (.goto 4, 3) := by decide +kernel
theorem dX12_counts_150 : decode cX12_counts 150 = .ok (.iconst 0, 1) := by decide +kernel
theorem dX12_counts_151 : decode cX12_counts 151 = .ok (.iadd, 1) := by decide +kernel
theorem dX12_counts_152 : decode cX12_counts 152 = .ok (.istore_n 2, 1) := by decide +kernel
theorem dX12_counts_153 : decode cX12_counts 153 = .ok (.iinc 3 1, 3) := by decide +kernel
