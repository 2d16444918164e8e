theorem dX12_text_35 : decode cX12_text 35 = .ok (.bipush 40, 2) := by decide +kernel
theorem dX12_text_37 : decode cX12_text 37 = .ok (.if_icmp .ge 22, 3) := by decide +kernel
theorem dX12_text_40 : decode cX12_text 40 = .ok (.aload_n 0, 1) := by decide +kernel
theorem dX12_text_41 : decode cX12_text 41 = .ok (.getfield 29, 3) := by decide +kernel
theorem dX12_text_44 : decode cX12_text 44 = .ok (.bipush 40, 2) := by decide +kernel
theorem dX12_text_46 : decode cX12_text 46 = .ok (.iload_n 1, 1) := by decide +kernel
theorem dX12_text_47 : decode cX12_text 47 = .ok (.imul, 1) := by decide +kernel
theorem dX12_text_48 : decode cX12_text 48 = .ok (.iload_n 3, 1) := by decide +kernel
theorem dX12_text_49 : decode cX12_text 49 = .ok (.iadd, 1) := by decide +kernel
theorem dX12_text_50 : decode cX12_text 50 = .ok (.bipush 32, 2) := by decide +kernel
theorem dX12_text_52 : decode cX12_text 52 = .ok (.iastore, 1) := by decide +kernel
theorem dX12_text_53 : decode cX12_text 53 = .ok (.iinc 3 1, 3) := by decide +kernel
theorem dX12_text_56 : decode cX12_text 56 = .ok (.goto (-22), 3) := by decide +kernel
theorem dX12_text_59 : decode cX12_text 59 = .ok (.iload_n 2, 1) := by decide +kernel
theorem dX12_text_60 : decode cX12_text 60 = .ok (.ireturn, 1) := by decide +kernel
theorem dX12_put_0 : decode cX12_put 0 = .ok (.aload_n 0, 1) := by decide +kernel
theorem dX12_put_1 : decode cX12_put 1 = .ok (.iload_n 1, 1) := by decide +kernel
theorem dX12_put_2 : decode cX12_put 2 = .ok (.invokevirtual 122, 3) := by decide +kernel
theorem dX12_put_5 : decode cX12_put 5 = .ok (.istore 4, 2) := by decide +kernel
theorem dX12_put_7 : decode cX12_put 7 = .ok (.iload 4, 2) := by decide +kernel
theorem dX12_put_9 : decode cX12_put 9 = .ok (.ifCond .ge 6, 3) := by decide +kernel
theorem dX12_put_12 : decode cX12_put 12 = .ok (.iload 4, 2) := by decide +kernel
theorem dX12_put_14 : decode cX12_put 14 = .ok (.ireturn, 1) := by decide +kernel
theorem dX12_put_15 : decode cX12_put 15 = .ok (.iload_n 2, 1) := by decide +kernel
theorem dX12_put_16 : decode cX12_put 16 = .ok (.iconst 0, 1) := by decide +kernel
theorem dX12_put_17 : decode cX12_put 17 = .ok (.aload_n 0, 1) := by decide +kernel
theorem dX12_put_18 : decode cX12_put 18 = .ok (.getfield 26, 3) := by decide +kernel
theorem dX12_put_21 : decode cX12_put 21 = .ok (.iload_n 1, 1) := by decide +kernel
theorem dX12_put_22 : decode cX12_put 22 = .ok (.iaload, 1) := by decide +kernel
theorem dX12_put_23 : decode cX12_put 23 = .ok (.iconst 1, 1) := by decide +kernel
theorem dX12_put_24 : decode cX12_put 24 = .ok (.isub, 1) := by decide +kernel
theorem dX12_put_25 : decode cX12_put 25 = .ok (.invokestatic 97, 3) := by decide +kernel
theorem dX12_put_28 : decode cX12_put 28 = .ok (.ifCond .ne 9, 3) := by decide +kernel
theorem dX12_put_31 : decode cX12_put 31 = .ok (.aload_n 0, 1) := by decide +kernel
theorem dX12_put_32 : decode cX12_put 32 = .ok (.iconst 2, 1) := by decide +kernel
theorem dX12_put_33 : decode cX12_put 33 = .ok (.invokevirtual 105, 3) := by decide +kernel
theorem dX12_put_36 : decode cX12_put 36 = .ok (.ireturn, 1) := by decide +kernel
theorem dX12_put_37 : decode cX12_put 37 = .ok (.aload_n 0, 1) := by decide +kernel
theorem dX12_put_38 : decode cX12_put 38 = .ok (.getfield 29, 3) := by decide +kernel
theorem dX12_put_41 : decode cX12_put 41 = .ok (.bipush 40, 2) := by decide +kernel
theorem dX12_put_43 : decode cX12_put 43 = .ok (.iload_n 1, 1) := by decide +kernel
theorem dX12_put_44 : decode cX12_put 44 = .ok (.imul, 1) := by decide +kernel
theorem dX12_put_45 : decode cX12_put 45 = .ok (.iload_n 2, 1) := by decide +kernel
theorem dX12_put_46 : decode cX12_put 46 = .ok (.iadd, 1) := by decide +kernel
theorem dX12_put_47 : decode cX12_put 47 = .ok (.iaload, 1) := by decide +kernel
theorem dX12_put_48 : decode cX12_put 48 = .ok (.istore 5, 2) := by decide +kernel
theorem dX12_put_50 : decode cX12_put 50 = .ok (.aload_n 0, 1) := by decide +kernel
theorem dX12_put_51 : decode cX12_put 51 = .ok (.getfield 29, 3) := by decide +kernel
theorem dX12_put_54 : decode cX12_put 54 = .ok (.bipush 40, 2) := by decide +kernel
theorem dX12_put_56 : decode cX12_put 56 = .ok (.iload_n 1, 1) := by decide +kernel
theorem dX12_put_57 : decode cX12_put 57 = .ok (.imul, 1) := by decide +kernel
theorem dX12_put_58 : decode cX12_put 58 = .ok (.iload_n 2, 1) := by decide +kernel
theorem dX12_put_59 : decode cX12_put 59 = .ok (.iadd, 1) := by decide +kernel
theorem dX12_put_60 : decode cX12_put 60 = .ok (.iload_n 3, 1) := by decide +kernel
theorem dX12_put_61 : decode cX12_put 61 = .ok (.i2b, 1) := by decide +kernel
theorem dX12_put_62 : decode cX12_put 62 = .ok (.iastore, 1) := by decide +kernel
theorem dX12_put_63 : decode cX12_put 63 = .ok (.iload 5, 2) := by decide +kernel
theorem dX12_put_65 : decode cX12_put 65 = .ok (.sipush 1000, 3) := by decide +kernel
theorem dX12_put_68 : decode cX12_put 68 = .ok (.iadd, 1) := by decide +kernel
theorem dX12_put_69 : decode cX12_put 69 = .ok (.ireturn, 1) := by decide +kernel
theorem dX12_isCase_0 : decode cX12_isCase 0 = .ok (.iload_n 1, 1) := by decide +kernel
theorem dX12_isCase_1 : decode cX12_isCase 1 = .ok (.iconst 0, 1) := by decide +kernel
theorem dX12_isCase_2 : decode cX12_isCase 2 = .ok (.aload_n 0, 1) := by decide +kernel
theorem dX12_isCase_3 : decode cX12_isCase 3 = .ok (.getfield 125, 3) := by decide +kernel
theorem dX12_isCase_6 : decode cX12_isCase 6 = .ok (.iconst 1, 1) := by decide +kernel
theorem dX12_isCase_7 : decode cX12_isCase 7 = .ok (.isub, 1) := by decide +kernel
theorem dX12_isCase_8 : decode cX12_isCase 8 = .ok (.invokestatic 97, 3) := by decide +kernel
theorem dX12_isCase_11 : decode cX12_isCase 11 = .ok (.ireturn, 1) := by decide +kernel
theorem dX12_isMaster_0 : decode cX12_isMaster 0 = .ok (.iload_n 1, 1) := by decide +kernel
theorem dX12_isMaster_1 : decode cX12_isMaster 1 = .ok (.iconst 0, 1) := by decide +kernel
theorem dX12_isMaster_2 : decode cX12_isMaster 2 = .ok (.aload_n 0, 1) := by decide +kernel
theorem dX12_isMaster_3 : decode cX12_isMaster 3 = .ok (.getfield 128, 3) := by decide +kernel
theorem dX12_isMaster_6 : decode cX12_isMaster 6 = .ok (.iconst 1, 1) := by decide +kernel
theorem dX12_isMaster_7 : decode cX12_isMaster 7 = .ok (.isub, 1) := by decide +kernel
theorem dX12_isMaster_8 : decode cX12_isMaster 8 = .ok (.invokestatic 97, 3) := by decide +kernel
theorem dX12_isMaster_11 : decode cX12_isMaster 11 = .ok (.ireturn, 1) := by decide +kernel
theorem dX12_isSaying_0 : decode cX12_isSaying 0 = .ok (.iload_n 1, 1) := by decide +kernel
theorem dX12_isSaying_1 : decode cX12_isSaying 1 = .ok (.iconst 0, 1) := by decide +kernel
theorem dX12_isSaying_2 : decode cX12_isSaying 2 = .ok (.aload_n 0, 1) := by decide +kernel
theorem dX12_isSaying_3 : decode cX12_isSaying 3 = .ok (.getfield 131, 3) := by decide +kernel
theorem dX12_isSaying_6 : decode cX12_isSaying 6 = .ok (.iconst 1, 1) := by decide +kernel
theorem dX12_isSaying_7 : decode cX12_isSaying 7 = .ok (.isub, 1) := by decide +kernel
theorem dX12_isSaying_8 : decode cX12_isSaying 8 = .ok (.invokestatic 97, 3) := by decide +kernel
theorem dX12_isSaying_11 : decode cX12_isSaying 11 = .ok (.ireturn, 1) := by decide +kernel
theorem dX12_isTrait_0 : decode cX12_isTrait 0 = .ok (.iload_n 0, 1) := by decide +kernel
theorem dX12_isTrait_1 : decode cX12_isTrait 1 = .ok (.iconst 0, 1) := by decide +kernel
theorem dX12_isTrait_2 : decode cX12_isTrait 2 = .ok (.iconst 4, 1) := by decide +kernel
theorem dX12_isTrait_3 : decode cX12_isTrait 3 = .ok (.invokestatic 97, 3) := by decide +kernel
theorem dX12_isTrait_6 : decode cX12_isTrait 6 = .ok (.ireturn, 1) := by decide +kernel
theorem dX12_isSet_0 : decode cX12_isSet 0 = .ok (.iload_n 0, 1) := by decide +kernel
theorem dX12_isSet_1 : decode cX12_isSet 1 = .ok (.iconst 0, 1) := by decide +kernel
theorem dX12_isSet_2 : decode cX12_isSet 2 = .ok (.bipush 31, 2) := by decide +kernel
theorem dX12_isSet_4 : decode cX12_isSet 4 = .ok (.invokestatic 97, 3) := by decide +kernel
theorem dX12_isSet_7 : decode cX12_isSet 7 = .ok (.ireturn, 1) := by decide +kernel
theorem dX12_instance_0 : decode cX12_instance 0 = .ok (.iload_n 1, 1) := by decide +kernel
theorem dX12_instance_1 : decode cX12_instance 1 = .ok (.invokestatic 134, 3) := by decide +kernel
theorem dX12_instance_4 : decode cX12_instance 4 = .ok (.ifCond .ne 5, 3) := by decide +kernel
theorem dX12_instance_7 : decode cX12_instance 7 = .ok (.iconst (-1), 1) := by decide +kernel
theorem dX12_instance_8 : decode cX12_instance 8 = .ok (.ireturn, 1) := by decide +kernel
theorem dX12_instance_9 : decode cX12_instance 9 = .ok (.aload_n 0, 1) := by decide +kernel
theorem dX12_instance_10 : decode cX12_instance 10 = .ok (.getfield 125, 3) := by decide +kernel
theorem dX12_instance_13 : decode cX12_instance 13 = .ok (.bipush 12, 2) := by decide +kernel
theorem dX12_instance_15 : decode cX12_instance 15 = .ok (.if_icmp .ne 6, 3) := by decide +kernel
theorem dX12_instance_18 : decode cX12_instance 18 = .ok (.bipush (-2), 2) := by decide +kernel
theorem dX12_instance_20 : decode cX12_instance 20 = .ok (.ireturn, 1) := by decide +kernel
theorem dX12_instance_21 : decode cX12_instance 21 = .ok (.aload_n 0, 1) := by decide +kernel
theorem dX12_instance_22 : decode cX12_instance 22 = .ok (.getfield 32, 3) := by decide +kernel
theorem dX12_instance_25 : decode cX12_instance 25 = .ok (.aload_n 0, 1) := by decide +kernel
theorem dX12_instance_26 : decode cX12_instance 26 = .ok (.getfield 125, 3) := by decide +kernel
theorem dX12_instance_29 : decode cX12_instance 29 = .ok (.iload_n 1, 1) := by decide +kernel
theorem dX12_instance_30 : decode cX12_instance 30 = .ok (.iastore, 1) := by decide +kernel
theorem dX12_instance_31 : decode cX12_instance 31 = .ok (.aload_n 0, 1) := by decide +kernel
theorem dX12_instance_32 : decode cX12_instance 32 = .ok (.dup, 1) := by decide +kernel
theorem dX12_instance_33 : decode cX12_instance 33 = .ok (.getfield 125, 3) := by decide +kernel
theorem dX12_instance_36 : decode cX12_instance 36 = .ok (.iconst 1, 1) := by decide +kernel
theorem dX12_instance_37 : decode cX12_instance 37 = .ok (.iadd, 1) := by decide +kernel
theorem dX12_instance_38 : decode cX12_instance 38 = .ok (.putfield 125, 3) := by decide +kernel
theorem dX12_instance_41 : decode cX12_instance 41 = .ok (.aload_n 0, 1) := by decide +kernel
theorem dX12_instance_42 : decode cX12_instance 42 = .ok (.getfield 125, 3) := by decide +kernel
theorem dX12_instance_45 : decode cX12_instance 45 = .ok (.iconst 1, 1) := by decide +kernel
theorem dX12_instance_46 : decode cX12_instance 46 = .ok (.isub, 1) := by decide +kernel
theorem dX12_instance_47 : decode cX12_instance 47 = .ok (.ireturn, 1) := by decide +kernel
theorem dX12_master_0 : decode cX12_master 0 = .ok (.iload_n 1, 1) := by decide +kernel
theorem dX12_master_1 : decode cX12_master 1 = .ok (.iconst 0, 1) := by decide +kernel
theorem dX12_master_2 : decode cX12_master 2 = .ok (.sipush 999, 3) := by decide +kernel
theorem dX12_master_5 : decode cX12_master 5 = .ok (.invokestatic 97, 3) := by decide +kernel
theorem dX12_master_8 : decode cX12_master 8 = .ok (.ifCond .eq 28, 3) := by decide +kernel
theorem dX12_master_11 : decode cX12_master 11 = .ok (.iload_n 2, 1) := by decide +kernel
theorem dX12_master_12 : decode cX12_master 12 = .ok (.iload_n 1, 1) := by decide +kernel
theorem dX12_master_13 : decode cX12_master 13 = .ok (.sipush 999, 3) := by decide +kernel
theorem dX12_master_16 : decode cX12_master 16 = .ok (.invokestatic 97, 3) := by decide +kernel
theorem dX12_master_19 : decode cX12_master 19 = .ok (.ifCond .eq 17, 3) := by decide +kernel
theorem dX12_master_22 : decode cX12_master 22 = .ok (.iload_n 3, 1) := by decide +kernel
theorem dX12_master_23 : decode cX12_master 23 = .ok (.bipush (-9), 2) := by decide +kernel
theorem dX12_master_25 : decode cX12_master 25 = .ok (.if_icmp .eq 13, 3) := by decide +kernel
theorem dX12_master_28 : decode cX12_master 28 = .ok (.aload_n 0, 1) := by decide +kernel
theorem dX12_master_29 : decode cX12_master 29 = .ok (.iload_n 3, 1) := by decide +kernel
theorem dX12_master_30 : decode cX12_master 30 = .ok (.invokevirtual 137, 3) := by decide +kernel
theorem dX12_master_33 : decode cX12_master 33 = .ok (.ifCond .ne 5, 3) := by decide +kernel
theorem dX12_master_36 : decode cX12_master 36 = .ok (.iconst (-1), 1) := by decide +kernel
theorem dX12_master_37 : decode cX12_master 37 = .ok (.ireturn, 1) := by decide +kernel
theorem dX12_master_38 : decode cX12_master 38 = .ok (.aload_n 0, 1) := by decide +kernel
theorem dX12_master_39 : decode cX12_master 39 = .ok (.getfield 128, 3) := by decide +kernel
theorem dX12_master_42 : decode cX12_master 42 = .ok (.bipush 8, 2) := by decide +kernel
theorem dX12_master_44 : decode cX12_master 44 = .ok (.if_icmp .ne 6, 3) := by decide +kernel
theorem dX12_master_47 : decode cX12_master 47 = .ok (.bipush (-2), 2) := by decide +kernel
theorem dX12_master_49 : decode cX12_master 49 = .ok (.ireturn, 1) := by decide +kernel
theorem dX12_master_50 : decode cX12_master 50 = .ok (.aload_n 0, 1) := by decide +kernel
theorem dX12_master_51 : decode cX12_master 51 = .ok (.getfield 35, 3) := by decide +kernel
theorem dX12_master_54 : decode cX12_master 54 = .ok (.aload_n 0, 1) := by decide +kernel
theorem dX12_master_55 : decode cX12_master 55 = .ok (.getfield 128, 3) := by decide +kernel
theorem dX12_master_58 : decode cX12_master 58 = .ok (.iload_n 1, 1) := by decide +kernel
theorem dX12_master_59 : decode cX12_master 59 = .ok (.iastore, 1) := by decide +kernel
theorem dX12_master_60 : decode cX12_master 60 = .ok (.aload_n 0, 1) := by decide +kernel
theorem dX12_master_61 : decode cX12_master 61 = .ok (.getfield 38, 3) := by decide +kernel
theorem dX12_master_64 : decode cX12_master 64 = .ok (.aload_n 0, 1) := by decide +kernel
theorem dX12_master_65 : decode cX12_master 65 = .ok (.getfield 128, 3) := by decide +kernel
theorem dX12_master_68 : decode cX12_master 68 = .ok (.iload_n 2, 1) := by decide +kernel
theorem dX12_master_69 : decode cX12_master 69 = .ok (.iastore, 1) := by decide +kernel
theorem dX12_master_70 : decode cX12_master 70 = .ok (.aload_n 0, 1) := by decide +kernel
theorem dX12_master_71 : decode cX12_master 71 = .ok (.getfield 41, 3) := by decide +kernel
theorem dX12_master_74 : decode cX12_master 74 = .ok (.aload_n 0, 1) := by decide +kernel
theorem dX12_master_75 : decode cX12_master 75 = .ok (.getfield 128, 3) := by decide +kernel
theorem dX12_master_78 : decode cX12_master 78 = .ok (.iload_n 3, 1) := by decide +kernel
theorem dX12_master_79 : decode cX12_master 79 = .ok (.iastore, 1) := by decide +kernel
theorem dX12_master_80 : decode cX12_master 80 = .ok (.aload_n 0, 1) := by decide +kernel
theorem dX12_master_81 : decode cX12_master 81 = .ok (.dup, 1) := by decide +kernel
theorem dX12_master_82 : decode cX12_master 82 = .ok (.getfield 128, 3) := by decide +kernel
theorem dX12_master_85 : decode cX12_master 85 = .ok (.iconst 1, 1) := by decide +kernel
theorem dX12_master_86 : decode cX12_master 86 = .ok (.iadd, 1) := by decide +kernel
theorem dX12_master_87 : decode cX12_master 87 = .ok (.putfield 128, 3) := by decide +kernel
theorem dX12_master_90 : decode cX12_master 90 = .ok (.aload_n 0, 1) := by decide +kernel
theorem dX12_master_91 : decode cX12_master 91 = .ok (.getfield 128, 3) := by decide +kernel
theorem dX12_master_94 : decode cX12_master 94 = .ok (.iconst 1, 1) := by decide +kernel
theorem dX12_master_95 : decode cX12_master 95 = .ok (.isub, 1) := by decide +kernel
theorem dX12_master_96 : decode cX12_master 96 = .ok (.ireturn, 1) := by decide +kernel
theorem dX12_sayingsOf_0 : decode cX12_sayingsOf 0 = .ok (.iconst 0, 1) := by decide +kernel
theorem dX12_sayingsOf_1 : decode cX12_sayingsOf 1 = .ok (.istore_n 2, 1) := by decide +kernel
theorem dX12_sayingsOf_2 : decode cX12_sayingsOf 2 = .ok (.iconst 0, 1) := by decide +kernel
theorem dX12_sayingsOf_3 : decode cX12_sayingsOf 3 = .ok (.istore_n 3, 1) := by decide +kernel
theorem dX12_sayingsOf_4 : decode cX12_sayingsOf 4 = .ok (.iload_n 3, 1) := by decide +kernel
theorem dX12_sayingsOf_5 : decode cX12_sayingsOf 5 = .ok (.aload_n 0, 1) := by decide +kernel
theorem dX12_sayingsOf_6 : decode cX12_sayingsOf 6 = .ok (.getfield 131, 3) := by decide +kernel
theorem dX12_sayingsOf_9 : decode cX12_sayingsOf 9 = .ok (.if_icmp .ge 27, 3) := by decide +kernel
theorem dX12_sayingsOf_12 : decode cX12_sayingsOf 12 = .ok (.iload_n 2, 1) := by decide +kernel
theorem dX12_sayingsOf_13 : decode cX12_sayingsOf 13 = .ok (.aload_n 0, 1) := by decide +kernel
theorem dX12_sayingsOf_14 : decode cX12_sayingsOf 14 = .ok (.getfield 44, 3) := by decide +kernel
theorem dX12_sayingsOf_17 : decode cX12_sayingsOf 17 = .ok (.iload_n 3, 1) := by decide +kernel
theorem dX12_sayingsOf_18 : decode cX12_sayingsOf 18 = .ok (.iaload, 1) := by decide +kernel
theorem dX12_sayingsOf_19 : decode cX12_sayingsOf 19 = .ok (.iload_n 1, 1) := by decide +kernel
theorem dX12_sayingsOf_20 : decode cX12_sayingsOf 20 = .ok (.if_icmp .ne 7, 3) := by decide +kernel
theorem dX12_sayingsOf_23 : decode cX12_sayingsOf 23 = .ok (.iconst 1, 1) := by decide +kernel
theorem dX12_sayingsOf_24 : decode cX12_sayingsOf 24 = .ok (.goto 4, 3) := by decide +kernel
theorem dX12_sayingsOf_27 : decode cX12_sayingsOf 27 = .ok (.iconst 0, 1) := by decide +kernel
theorem dX12_sayingsOf_28 : decode cX12_sayingsOf 28 = .ok (.iadd, 1) := by decide +kernel
theorem dX12_sayingsOf_29 : decode cX12_sayingsOf 29 = .ok (.istore_n 2, 1) := by decide +kernel
theorem dX12_sayingsOf_30 : decode cX12_sayingsOf 30 = .ok (.iinc 3 1, 3) := by decide +kernel
theorem dX12_sayingsOf_33 : decode cX12_sayingsOf 33 = .ok (.goto (-29), 3) := by decide +kernel
theorem dX12_sayingsOf_36 : decode cX12_sayingsOf 36 = .ok (.iload_n 2, 1) := by decide +kernel
theorem dX12_sayingsOf_37 : decode cX12_sayingsOf 37 = .ok (.ireturn, 1) := by decide +kernel
theorem dX12_newSaying_0 : decode cX12_newSaying 0 = .ok (.aload_n 0, 1) := by decide +kernel
theorem dX12_newSaying_1 : decode cX12_newSaying 1 = .ok (.getfield 131, 3) := by decide +kernel
theorem dX12_newSaying_4 : decode cX12_newSaying 4 = .ok (.istore 6, 2) := by decide +kernel
theorem dX12_newSaying_6 : decode cX12_newSaying 6 = .ok (.aload_n 0, 1) := by decide +kernel
theorem dX12_newSaying_7 : decode cX12_newSaying 7 = .ok (.getfield 44, 3) := by decide +kernel
theorem dX12_newSaying_10 : decode cX12_newSaying 10 = .ok (.iload 6, 2) := by decide +kernel
theorem dX12_newSaying_12 : decode cX12_newSaying 12 = .ok (.iload_n 1, 1) := by decide +kernel
theorem dX12_newSaying_13 : decode cX12_newSaying 13 = .ok (.iastore, 1) := by decide +kernel
theorem dX12_newSaying_14 : decode cX12_newSaying 14 = .ok (.aload_n 0, 1) := by decide +kernel
theorem dX12_newSaying_15 : decode cX12_newSaying 15 = .ok (.getfield 47, 3) := by decide +kernel
theorem dX12_newSaying_18 : decode cX12_newSaying 18 = .ok (.iload 6, 2) := by decide +kernel
theorem dX12_newSaying_20 : decode cX12_newSaying 20 = .ok (.iload_n 2, 1) := by decide +kernel
theorem dX12_newSaying_21 : decode cX12_newSaying 21 = .ok (.iastore, 1) := by decide +kernel
theorem dX12_newSaying_22 : decode cX12_newSaying 22 = .ok (.aload_n 0, 1) := by decide +kernel
theorem dX12_newSaying_23 : decode cX12_newSaying 23 = .ok (.getfield 50, 3) := by decide +kernel
theorem dX12_newSaying_26 : decode cX12_newSaying 26 = .ok (.iload 6, 2) := by decide +kernel
theorem dX12_newSaying_28 : decode cX12_newSaying 28 = .ok (.iload_n 3, 1) := by decide +kernel
theorem dX12_newSaying_29 : decode cX12_newSaying 29 = .ok (.iastore, 1) := by decide +kernel
theorem dX12_newSaying_30 : decode cX12_newSaying 30 = .ok (.aload_n 0, 1) := by decide +kernel
theorem dX12_newSaying_31 : decode cX12_newSaying 31 = .ok (.getfield 53, 3) := by decide +kernel
theorem dX12_newSaying_34 : decode cX12_newSaying 34 = .ok (.iload 6, 2) := by decide +kernel
theorem dX12_newSaying_36 : decode cX12_newSaying 36 = .ok (.iload 4, 2) := by decide +kernel
theorem dX12_newSaying_38 : decode cX12_newSaying 38 = .ok (.iastore, 1) := by decide +kernel
theorem dX12_newSaying_39 : decode cX12_newSaying 39 = .ok (.aload_n 0, 1) := by decide +kernel
theorem dX12_newSaying_40 : decode cX12_newSaying 40 = .ok (.getfield 56, 3) := by decide +kernel
theorem dX12_newSaying_43 : decode cX12_newSaying 43 = .ok (.iload 6, 2) := by decide +kernel
theorem dX12_newSaying_45 : decode cX12_newSaying 45 = .ok (.iload 5, 2) := by decide +kernel
theorem dX12_newSaying_47 : decode cX12_newSaying 47 = .ok (.iastore, 1) := by decide +kernel
theorem dX12_newSaying_48 : decode cX12_newSaying 48 = .ok (.iconst 0, 1) := by decide +kernel
theorem dX12_newSaying_49 : decode cX12_newSaying 49 = .ok (.istore 7, 2) := by decide +kernel
theorem dX12_newSaying_51 : decode cX12_newSaying 51 = .ok (.iload 7, 2) := by decide +kernel
theorem dX12_newSaying_53 : decode cX12_newSaying 53 = .ok (.iconst 5, 1) := by decide +kernel
theorem dX12_newSaying_54 : decode cX12_newSaying 54 = .ok (.if_icmp .ge 23, 3) := by decide +kernel
theorem dX12_newSaying_57 : decode cX12_newSaying 57 = .ok (.aload_n 0, 1) := by decide +kernel
theorem dX12_newSaying_58 : decode cX12_newSaying 58 = .ok (.getfield 59, 3) := by decide +kernel
theorem dX12_newSaying_61 : decode cX12_newSaying 61 = .ok (.iconst 5, 1) := by decide +kernel
theorem dX12_newSaying_62 : decode cX12_newSaying 62 = .ok (.iload 6, 2) := by decide +kernel
theorem dX12_newSaying_64 : decode cX12_newSaying 64 = .ok (.imul, 1) := by decide +kernel
theorem dX12_newSaying_65 : decode cX12_newSaying 65 = .ok (.iload 7, 2) := by decide +kernel
theorem dX12_newSaying_67 : decode cX12_newSaying 67 = .ok (.iadd, 1) := by decide +kernel
theorem dX12_newSaying_68 : decode cX12_newSaying 68 = .ok (.bipush (-9), 2) := by decide +kernel
theorem dX12_newSaying_70 : decode cX12_newSaying 70 = .ok (.iastore, 1) := by decide +kernel
theorem dX12_newSaying_71 : decode cX12_newSaying 71 = .ok (.iinc 7 1, 3) := by decide +kernel
theorem dX12_newSaying_74 : decode cX12_newSaying 74 = .ok (.goto (-23), 3) := by decide +kernel
theorem dX12_newSaying_77 : decode cX12_newSaying 77 = .ok (.aload_n 0, 1) := by decide +kernel
theorem dX12_newSaying_78 : decode cX12_newSaying 78 = .ok (.dup, 1) := by decide +kernel
theorem dX12_newSaying_79 : decode cX12_newSaying 79 = .ok (.getfield 131, 3) := by decide +kernel
theorem dX12_newSaying_82 : decode cX12_newSaying 82 = .ok (.iconst 1, 1) := by decide +kernel
theorem dX12_newSaying_83 : decode cX12_newSaying 83 = .ok (.iadd, 1) := by decide +kernel
theorem dX12_newSaying_84 : decode cX12_newSaying 84 = .ok (.putfield 131, 3) := by decide +kernel
theorem dX12_newSaying_87 : decode cX12_newSaying 87 = .ok (.iload 6, 2) := by decide +kernel
theorem dX12_newSaying_89 : decode cX12_newSaying 89 = .ok (.ireturn, 1) := by decide +kernel
theorem dX12_isOf_0 : decode cX12_isOf 0 = .ok (.aload_n 0, 1) := by decide +kernel
theorem dX12_isOf_1 : decode cX12_isOf 1 = .ok (.iload_n 1, 1) := by decide +kernel
theorem dX12_isOf_2 : decode cX12_isOf 2 = .ok (.invokevirtual 137, 3) := by decide +kernel
theorem dX12_isOf_5 : decode cX12_isOf 5 = .ok (.ifCond .eq 26, 3) := by decide +kernel
theorem dX12_isOf_8 : decode cX12_isOf 8 = .ok (.iload_n 2, 1) := by decide +kernel
theorem dX12_isOf_9 : decode cX12_isOf 9 = .ok (.aload_n 0, 1) := by decide +kernel
theorem dX12_isOf_10 : decode cX12_isOf 10 = .ok (.getfield 35, 3) := by decide +kernel
theorem dX12_isOf_13 : decode cX12_isOf 13 = .ok (.iload_n 1, 1) := by decide +kernel
theorem dX12_isOf_14 : decode cX12_isOf 14 = .ok (.iaload, 1) := by decide +kernel
theorem dX12_isOf_15 : decode cX12_isOf 15 = .ok (.aload_n 0, 1) := by decide +kernel
theorem dX12_isOf_16 : decode cX12_isOf 16 = .ok (.getfield 38, 3) := by decide +kernel
theorem dX12_isOf_19 : decode cX12_isOf 19 = .ok (.iload_n 1, 1) := by decide +kernel
theorem dX12_isOf_20 : decode cX12_isOf 20 = .ok (.iaload, 1) := by decide +kernel
theorem dX12_isOf_21 : decode cX12_isOf 21 = .ok (.invokestatic 97, 3) := by decide +kernel
theorem dX12_isOf_24 : decode cX12_isOf 24 = .ok (.ifCond .eq 7, 3) := by decide +kernel
theorem dX12_isOf_27 : decode cX12_isOf 27 = .ok (.iconst 1, 1) := by decide +kernel
theorem dX12_isOf_28 : decode cX12_isOf 28 = .ok (.goto 4, 3) := by decide +kernel
theorem dX12_isOf_31 : decode cX12_isOf 31 = .ok (.iconst 0, 1) := by decide +kernel
theorem dX12_isOf_32 : decode cX12_isOf 32 = .ok (.ireturn, 1) := by decide +kernel
theorem dX12_saying_0 : decode cX12_saying 0 = .ok (.aload_n 0, 1) := by decide +kernel
theorem dX12_saying_1 : decode cX12_saying 1 = .ok (.iload_n 1, 1) := by decide +kernel
theorem dX12_saying_2 : decode cX12_saying 2 = .ok (.iload_n 3, 1) := by decide +kernel
theorem dX12_saying_3 : decode cX12_saying 3 = .ok (.invokevirtual 140, 3) := by decide +kernel
theorem dX12_saying_6 : decode cX12_saying 6 = .ok (.ifCond .eq 36, 3) := by decide +kernel
theorem dX12_saying_9 : decode cX12_saying 9 = .ok (.aload_n 0, 1) := by decide +kernel
theorem dX12_saying_10 : decode cX12_saying 10 = .ok (.iload_n 2, 1) := by decide +kernel
theorem dX12_saying_11 : decode cX12_saying 11 = .ok (.invokevirtual 144, 3) := by decide +kernel
theorem dX12_saying_14 : decode cX12_saying 14 = .ok (.ifCond .eq 28, 3) := by decide +kernel
theorem dX12_saying_17 : decode cX12_saying 17 = .ok (.iload 4, 2) := by decide +kernel
theorem dX12_saying_19 : decode cX12_saying 19 = .ok (.iconst 0, 1) := by decide +kernel
theorem dX12_saying_20 : decode cX12_saying 20 = .ok (.iconst 1, 1) := by decide +kernel
theorem dX12_saying_21 : decode cX12_saying 21 = .ok (.invokestatic 97, 3) := by decide +kernel
theorem dX12_saying_24 : decode cX12_saying 24 = .ok (.ifCond .eq 18, 3) := by decide +kernel
theorem dX12_saying_27 : decode cX12_saying 27 = .ok (.iload 5, 2) := by decide +kernel
theorem dX12_saying_29 : decode cX12_saying 29 = .ok (.bipush (-9), 2) := by decide +kernel
theorem dX12_saying_31 : decode cX12_saying 31 = .ok (.if_icmp .eq 13, 3) := by decide +kernel
theorem dX12_saying_34 : decode cX12_saying 34 = .ok (.iload 5, 2) := by decide +kernel
theorem dX12_saying_36 : decode cX12_saying 36 = .ok (.invokestatic 147, 3) := by decide +kernel
theorem dX12_saying_39 : decode cX12_saying 39 = .ok (.ifCond .ne 5, 3) := by decide +kernel
theorem dX12_saying_42 : decode cX12_saying 42 = .ok (.iconst (-1), 1) := by decide +kernel
theorem dX12_saying_43 : decode cX12_saying 43 = .ok (.ireturn, 1) := by decide +kernel
theorem dX12_saying_44 : decode cX12_saying 44 = .ok (.aload_n 0, 1) := by decide +kernel
theorem dX12_saying_45 : decode cX12_saying 45 = .ok (.getfield 131, 3) := by decide +kernel
theorem dX12_saying_48 : decode cX12_saying 48 = .ok (.bipush 24, 2) := by decide +kernel
theorem dX12_saying_50 : decode cX12_saying 50 = .ok (.if_icmp .eq 13, 3) := by decide +kernel
theorem dX12_saying_53 : decode cX12_saying 53 = .ok (.aload_n 0, 1) := by decide +kernel
theorem dX12_saying_54 : decode cX12_saying 54 = .ok (.iload_n 1, 1) := by decide +kernel
theorem dX12_saying_55 : decode cX12_saying 55 = .ok (.invokevirtual 150, 3) := by decide +kernel
theorem dX12_saying_58 : decode cX12_saying 58 = .ok (.bipush 9, 2) := by decide +kernel
theorem dX12_saying_60 : decode cX12_saying 60 = .ok (.if_icmp .ne 8, 3) := by decide +kernel
theorem dX12_saying_63 : decode cX12_saying 63 = .ok (.bipush (-2), 2) := by decide +kernel
theorem dX12_saying_65 : decode cX12_saying 65 = .ok (.goto 14, 3) := by decide +kernel
theorem dX12_saying_68 : decode cX12_saying 68 = .ok (.aload_n 0, 1) := by decide +kernel
theorem dX12_saying_69 : decode cX12_saying 69 = .ok (.iload_n 1, 1) := by decide +kernel
theorem dX12_saying_70 : decode cX12_saying 70 = .ok (.iload_n 2, 1) := by decide +kernel
theorem dX12_saying_71 : decode cX12_saying 71 = .ok (.iload_n 3, 1) := by decide +kernel
theorem dX12_saying_72 : decode cX12_saying 72 = .ok (.iload 4, 2) := by decide +kernel
theorem dX12_saying_74 : decode cX12_saying 74 = .ok (.iload 5, 2) := by decide +kernel
theorem dX12_saying_76 : decode cX12_saying 76 = .ok (.invokevirtual 153, 3) := by decide +kernel
theorem dX12_saying_79 : decode cX12_saying 79 = .ok (.ireturn, 1) := by decide +kernel
theorem dX12_sayings_0 : decode cX12_sayings 0 = .ok (.aload_n 0, 1) := by decide +kernel
theorem dX12_sayings_1 : decode cX12_sayings 1 = .ok (.iload_n 1, 1) := by decide +kernel
theorem dX12_sayings_2 : decode cX12_sayings 2 = .ok (.iload_n 2, 1) := by decide +kernel
theorem dX12_sayings_3 : decode cX12_sayings 3 = .ok (.invokevirtual 140, 3) := by decide +kernel
theorem dX12_sayings_6 : decode cX12_sayings 6 = .ok (.ifCond .ne 5, 3) := by decide +kernel
theorem dX12_sayings_9 : decode cX12_sayings 9 = .ok (.iconst (-1), 1) := by decide +kernel
theorem dX12_sayings_10 : decode cX12_sayings 10 = .ok (.ireturn, 1) := by decide +kernel
theorem dX12_sayings_11 : decode cX12_sayings 11 = .ok (.aload_n 0, 1) := by decide +kernel
theorem dX12_sayings_12 : decode cX12_sayings 12 = .ok (.iload_n 3, 1) := by decide +kernel
theorem dX12_sayings_13 : decode cX12_sayings 13 = .ok (.invokevirtual 112, 3) := by decide +kernel
theorem dX12_sayings_16 : decode cX12_sayings 16 = .ok (.istore 4, 2) := by decide +kernel
theorem dX12_sayings_18 : decode cX12_sayings 18 = .ok (.iload 4, 2) := by decide +kernel
theorem dX12_sayings_20 : decode cX12_sayings 20 = .ok (.ifCond .ge 6, 3) := by decide +kernel
theorem dX12_sayings_23 : decode cX12_sayings 23 = .ok (.iload 4, 2) := by decide +kernel
theorem dX12_sayings_25 : decode cX12_sayings 25 = .ok (.ireturn, 1) := by decide +kernel
theorem dX12_sayings_26 : decode cX12_sayings 26 = .ok (.iconst 1, 1) := by decide +kernel
theorem dX12_sayings_27 : decode cX12_sayings 27 = .ok (.istore 5, 2) := by decide +kernel
theorem dX12_sayings_29 : decode cX12_sayings 29 = .ok (.iconst 0, 1) := by decide +kernel
theorem dX12_sayings_30 : decode cX12_sayings 30 = .ok (.istore 6, 2) := by decide +kernel
theorem dX12_sayings_32 : decode cX12_sayings 32 = .ok (.iload 6, 2) := by decide +kernel
theorem dX12_sayings_34 : decode cX12_sayings 34 = .ok (.aload_n 0, 1) := by decide +kernel
theorem dX12_sayings_35 : decode cX12_sayings 35 = .ok (.getfield 17, 3) := by decide +kernel
theorem dX12_sayings_38 : decode cX12_sayings 38 = .ok (.iload_n 3, 1) := by decide +kernel
theorem dX12_sayings_39 : decode cX12_sayings 39 = .ok (.iaload, 1) := by decide +kernel
theorem dX12_sayings_40 : decode cX12_sayings 40 = .ok (.if_icmp .ge 55, 3) := by decide +kernel
theorem dX12_sayings_43 : decode cX12_sayings 43 = .ok (.iload 5, 2) := by decide +kernel
theorem dX12_sayings_45 : decode cX12_sayings 45 = .ok (.ifCond .eq 41, 3) := by decide +kernel
theorem dX12_sayings_48 : decode cX12_sayings 48 = .ok (.aload_n 0, 1) := by decide +kernel
theorem dX12_sayings_49 : decode cX12_sayings 49 = .ok (.iload_n 3, 1) := by decide +kernel
theorem dX12_sayings_50 : decode cX12_sayings 50 = .ok (.iload 6, 2) := by decide +kernel
theorem dX12_sayings_52 : decode cX12_sayings 52 = .ok (.invokevirtual 115, 3) := by decide +kernel
theorem dX12_sayings_55 : decode cX12_sayings 55 = .ok (.bipush (-128), 2) := by decide +kernel
theorem dX12_sayings_57 : decode cX12_sayings 57 = .ok (.bipush 127, 2) := by decide +kernel
theorem dX12_sayings_59 : decode cX12_sayings 59 = .ok (.invokestatic 97, 3) := by decide +kernel
theorem dX12_sayings_62 : decode cX12_sayings 62 = .ok (.ifCond .eq 24, 3) := by decide +kernel
theorem dX12_sayings_65 : decode cX12_sayings 65 = .ok (.aload_n 0, 1) := by decide +kernel
theorem dX12_sayings_66 : decode cX12_sayings 66 = .ok (.aload_n 0, 1) := by decide +kernel
theorem dX12_sayings_67 : decode cX12_sayings 67 = .ok (.iload_n 3, 1) := by decide +kernel
theorem dX12_sayings_68 : decode cX12_sayings 68 = .ok (.iload 6, 2) := by decide +kernel
theorem dX12_sayings_70 : decode cX12_sayings 70 = .ok (.invokevirtual 115, 3) := by decide +kernel
theorem dX12_sayings_73 : decode cX12_sayings 73 = .ok (.bipush 15, 2) := by decide +kernel
theorem dX12_sayings_75 : decode cX12_sayings 75 = .ok (.iand, 1) := by decide +kernel
theorem dX12_sayings_76 : decode cX12_sayings 76 = .ok (.invokevirtual 144, 3) := by decide +kernel
theorem dX12_sayings_79 : decode cX12_sayings 79 = .ok (.ifCond .eq 7, 3) := by decide +kernel
theorem dX12_sayings_82 : decode cX12_sayings 82 = .ok (.iconst 1, 1) := by decide +kernel
theorem dX12_sayings_83 : decode cX12_sayings 83 = .ok (.goto 4, 3) := by decide +kernel
theorem dX12_sayings_86 : decode cX12_sayings 86 = .ok (.iconst 0, 1) := by decide +kernel
theorem dX12_sayings_87 : decode cX12_sayings 87 = .ok (.istore 5, 2) := by decide +kernel
theorem dX12_sayings_89 : decode cX12_sayings 89 = .ok (.iinc 6 1, 3) := by decide +kernel
theorem dX12_sayings_92 : decode cX12_sayings 92 = .ok (.goto (-60), 3) := by decide +kernel
theorem dX12_sayings_95 : decode cX12_sayings 95 = .ok (.iload 5, 2) := by decide +kernel
theorem dX12_sayings_97 : decode cX12_sayings 97 = .ok (.ifCond .ne 9, 3) := by decide +kernel
theorem dX12_sayings_100 : decode cX12_sayings 100 = .ok (.aload_n 0, 1) := by decide +kernel
theorem dX12_sayings_101 : decode cX12_sayings 101 = .ok (.iconst 3, 1) := by decide +kernel
theorem dX12_sayings_102 : decode cX12_sayings 102 = .ok (.invokevirtual 105, 3) := by decide +kernel
theorem dX12_sayings_105 : decode cX12_sayings 105 = .ok (.ireturn, 1) := by decide +kernel
theorem dX12_sayings_106 : decode cX12_sayings 106 = .ok (.aload_n 0, 1) := by decide +kernel
theorem dX12_sayings_107 : decode cX12_sayings 107 = .ok (.getfield 131, 3) := by decide +kernel
theorem dX12_sayings_110 : decode cX12_sayings 110 = .ok (.aload_n 0, 1) := by decide +kernel
theorem dX12_sayings_111 : decode cX12_sayings 111 = .ok (.getfield 17, 3) := by decide +kernel
theorem dX12_sayings_114 : decode cX12_sayings 114 = .ok (.iload_n 3, 1) := by decide +kernel
theorem dX12_sayings_115 : decode cX12_sayings 115 = .ok (.iaload, 1) := by decide +kernel
theorem dX12_sayings_116 : decode cX12_sayings 116 = .ok (.iadd, 1) := by decide +kernel
theorem dX12_sayings_117 : decode cX12_sayings 117 = .ok (.bipush 24, 2) := by decide +kernel
theorem dX12_sayings_119 : decode cX12_sayings 119 = .ok (.if_icmp .gt 20, 3) := by decide +kernel
theorem dX12_sayings_122 : decode cX12_sayings 122 = .ok (.aload_n 0, 1) := by decide +kernel
theorem dX12_sayings_123 : decode cX12_sayings 123 = .ok (.iload_n 1, 1) := by decide +kernel
theorem dX12_sayings_124 : decode cX12_sayings 124 = .ok (.invokevirtual 150, 3) := by decide +kernel
theorem dX12_sayings_127 : decode cX12_sayings 127 = .ok (.aload_n 0, 1) := by decide +kernel
theorem dX12_sayings_128 : decode cX12_sayings 128 = .ok (.getfield 17, 3) := by decide +kernel
theorem dX12_sayings_131 : decode cX12_sayings 131 = .ok (.iload_n 3, 1) := by decide +kernel
theorem dX12_sayings_132 : decode cX12_sayings 132 = .ok (.iaload, 1) := by decide +kernel
theorem dX12_sayings_133 : decode cX12_sayings 133 = .ok (.iadd, 1) := by decide +kernel
theorem dX12_sayings_134 : decode cX12_sayings 134 = .ok (.bipush 9, 2) := by decide +kernel
theorem dX12_sayings_136 : decode cX12_sayings 136 = .ok (.if_icmp .le 6, 3) := by decide +kernel
theorem dX12_sayings_139 : decode cX12_sayings 139 = .ok (.bipush (-2), 2) := by decide +kernel
theorem dX12_sayings_141 : decode cX12_sayings 141 = .ok (.ireturn, 1) := by decide +kernel
theorem dX12_sayings_142 : decode cX12_sayings 142 = .ok (.iconst 0, 1) := by decide +kernel
theorem dX12_sayings_143 : decode cX12_sayings 143 = .ok (.istore 6, 2) := by decide +kernel
theorem dX12_sayings_145 : decode cX12_sayings 145 = .ok (.iload 6, 2) := by decide +kernel
theorem dX12_sayings_147 : decode cX12_sayings 147 = .ok (.aload_n 0, 1) := by decide +kernel
theorem dX12_sayings_148 : decode cX12_sayings 148 = .ok (.getfield 17, 3) := by decide +kernel
theorem dX12_sayings_151 : decode cX12_sayings 151 = .ok (.iload_n 3, 1) := by decide +kernel
theorem dX12_sayings_152 : decode cX12_sayings 152 = .ok (.iaload, 1) := by decide +kernel
theorem dX12_sayings_153 : decode cX12_sayings 153 = .ok (.if_icmp .ge 39, 3) := by decide +kernel
theorem dX12_sayings_156 : decode cX12_sayings 156 = .ok (.aload_n 0, 1) := by decide +kernel
theorem dX12_sayings_157 : decode cX12_sayings 157 = .ok (.iload_n 1, 1) := by decide +kernel
theorem dX12_sayings_158 : decode cX12_sayings 158 = .ok (.aload_n 0, 1) := by decide +kernel
theorem dX12_sayings_159 : decode cX12_sayings 159 = .ok (.iload_n 3, 1) := by decide +kernel
theorem dX12_sayings_160 : decode cX12_sayings 160 = .ok (.iload 6, 2) := by decide +kernel
theorem dX12_sayings_162 : decode cX12_sayings 162 = .ok (.invokevirtual 115, 3) := by decide +kernel
theorem dX12_sayings_165 : decode cX12_sayings 165 = .ok (.bipush 15, 2) := by decide +kernel
theorem dX12_sayings_167 : decode cX12_sayings 167 = .ok (.iand, 1) := by decide +kernel
theorem dX12_sayings_168 : decode cX12_sayings 168 = .ok (.iload_n 2, 1) := by decide +kernel
theorem dX12_sayings_169 : decode cX12_sayings 169 = .ok (.aload_n 0, 1) := by decide +kernel
theorem dX12_sayings_170 : decode cX12_sayings 170 = .ok (.iload_n 3, 1) := by decide +kernel
theorem dX12_sayings_171 : decode cX12_sayings 171 = .ok (.iload 6, 2) := by decide +kernel
theorem dX12_sayings_173 : decode cX12_sayings 173 = .ok (.invokevirtual 115, 3) := by decide +kernel
theorem dX12_sayings_176 : decode cX12_sayings 176 = .ok (.iconst 4, 1) := by decide +kernel
theorem dX12_sayings_177 : decode cX12_sayings 177 = .ok (.ishr, 1) := by decide +kernel
theorem dX12_sayings_178 : decode cX12_sayings 178 = .ok (.iconst 1, 1) := by decide +kernel
theorem dX12_sayings_179 : decode cX12_sayings 179 = .ok (.iand, 1) := by decide +kernel
theorem dX12_sayings_180 : decode cX12_sayings 180 = .ok (.bipush (-9), 2) := by decide +kernel
theorem dX12_sayings_182 : decode cX12_sayings 182 = .ok (.invokevirtual 153, 3) := by decide +kernel
theorem dX12_sayings_185 : decode cX12_sayings 185 = .ok (.pop, 1) := by decide +kernel
theorem dX12_sayings_186 : decode cX12_sayings 186 = .ok (.iinc 6 1, 3) := by decide +kernel
theorem dX12_sayings_189 : decode cX12_sayings 189 = .ok (.goto (-44), 3) := by decide +kernel
theorem dX12_sayings_192 : decode cX12_sayings 192 = .ok (.aload_n 0, 1) := by decide +kernel
theorem dX12_sayings_193 : decode cX12_sayings 193 = .ok (.getfield 17, 3) := by decide +kernel
theorem dX12_sayings_196 : decode cX12_sayings 196 = .ok (.iload_n 3, 1) := by decide +kernel
theorem dX12_sayings_197 : decode cX12_sayings 197 = .ok (.iaload, 1) := by decide +kernel
theorem dX12_sayings_198 : decode cX12_sayings 198 = .ok (.ireturn, 1) := by decide +kernel
theorem dX12_sayingTells_0 : decode cX12_sayingTells 0 = .ok (.iload_n 2, 1) := by decide +kernel
theorem dX12_sayingTells_1 : decode cX12_sayingTells 1 = .ok (.ifCond .ne 12, 3) := by decide +kernel
theorem dX12_sayingTells_4 : decode cX12_sayingTells 4 = .ok (.aload_n 0, 1) := by decide +kernel
theorem dX12_sayingTells_5 : decode cX12_sayingTells 5 = .ok (.getfield 44, 3) := by decide +kernel
theorem dX12_sayingTells_8 : decode cX12_sayingTells 8 = .ok (.iload_n 1, 1) := by decide +kernel
theorem dX12_sayingTells_9 : decode cX12_sayingTells 9 = .ok (.iaload, 1) := by decide +kernel
theorem dX12_sayingTells_10 : decode cX12_sayingTells 10 = .ok (.goto 51, 3) := by decide +kernel
theorem dX12_sayingTells_13 : decode cX12_sayingTells 13 = .ok (.iload_n 2, 1) := by decide +kernel
theorem dX12_sayingTells_14 : decode cX12_sayingTells 14 = .ok (.iconst 1, 1) := by decide +kernel
theorem dX12_sayingTells_15 : decode cX12_sayingTells 15 = .ok (.if_icmp .ne 12, 3) := by decide +kernel
theorem dX12_sayingTells_18 : decode cX12_sayingTells 18 = .ok (.aload_n 0, 1) := by decide +kernel
theorem dX12_sayingTells_19 : decode cX12_sayingTells 19 = .ok (.getfield 47, 3) := by decide +kernel
theorem dX12_sayingTells_22 : decode cX12_sayingTells 22 = .ok (.iload_n 1, 1) := by decide +kernel
theorem dX12_sayingTells_23 : decode cX12_sayingTells 23 = .ok (.iaload, 1) := by decide +kernel
theorem dX12_sayingTells_24 : decode cX12_sayingTells 24 = .ok (.goto 37, 3) := by decide +kernel
theorem dX12_sayingTells_27 : decode cX12_sayingTells 27 = .ok (.iload_n 2, 1) := by decide +kernel
theorem dX12_sayingTells_28 : decode cX12_sayingTells 28 = .ok (.iconst 2, 1) := by decide +kernel
theorem dX12_sayingTells_29 : decode cX12_sayingTells 29 = .ok (.if_icmp .ne 12, 3) := by decide +kernel
theorem dX12_sayingTells_32 : decode cX12_sayingTells 32 = .ok (.aload_n 0, 1) := by decide +kernel
theorem dX12_sayingTells_33 : decode cX12_sayingTells 33 = .ok (.getfield 50, 3) := by decide +kernel
theorem dX12_sayingTells_36 : decode cX12_sayingTells 36 = .ok (.iload_n 1, 1) := by decide +kernel
theorem dX12_sayingTells_37 : decode cX12_sayingTells 37 = .ok (.iaload, 1) := by decide +kernel
theorem dX12_sayingTells_38 : decode cX12_sayingTells 38 = .ok (.goto 23, 3) := by decide +kernel
theorem dX12_sayingTells_41 : decode cX12_sayingTells 41 = .ok (.iload_n 2, 1) := by decide +kernel
theorem dX12_sayingTells_42 : decode cX12_sayingTells 42 = .ok (.iconst 3, 1) := by decide +kernel
theorem dX12_sayingTells_43 : decode cX12_sayingTells 43 = .ok (.if_icmp .ne 12, 3) := by decide +kernel
theorem dX12_sayingTells_46 : decode cX12_sayingTells 46 = .ok (.aload_n 0, 1) := by decide +kernel
theorem dX12_sayingTells_47 : decode cX12_sayingTells 47 = .ok (.getfield 53, 3) := by decide +kernel
theorem dX12_sayingTells_50 : decode cX12_sayingTells 50 = .ok (.iload_n 1, 1) := by decide +kernel
theorem dX12_sayingTells_51 : decode cX12_sayingTells 51 = .ok (.iaload, 1) := by decide +kernel
theorem dX12_sayingTells_52 : decode cX12_sayingTells 52 = .ok (.goto 9, 3) := by decide +kernel
theorem dX12_sayingTells_55 : decode cX12_sayingTells 55 = .ok (.aload_n 0, 1) := by decide +kernel
theorem dX12_sayingTells_56 : decode cX12_sayingTells 56 = .ok (.getfield 56, 3) := by decide +kernel
theorem dX12_sayingTells_59 : decode cX12_sayingTells 59 = .ok (.iload_n 1, 1) := by decide +kernel
theorem dX12_sayingTells_60 : decode cX12_sayingTells 60 = .ok (.iaload, 1) := by decide +kernel
theorem dX12_sayingTells_61 : decode cX12_sayingTells 61 = .ok (.ireturn, 1) := by decide +kernel
theorem dX12_told_0 : decode cX12_told 0 = .ok (.aload_n 0, 1) := by decide +kernel
theorem dX12_told_1 : decode cX12_told 1 = .ok (.iload_n 1, 1) := by decide +kernel
theorem dX12_told_2 : decode cX12_told 2 = .ok (.invokevirtual 157, 3) := by decide +kernel
theorem dX12_told_5 : decode cX12_told 5 = .ok (.ifCond .eq 26, 3) := by decide +kernel
theorem dX12_told_8 : decode cX12_told 8 = .ok (.iload_n 2, 1) := by decide +kernel
theorem dX12_told_9 : decode cX12_told 9 = .ok (.iconst 0, 1) := by decide +kernel
theorem dX12_told_10 : decode cX12_told 10 = .ok (.iconst 4, 1) := by decide +kernel
theorem dX12_told_11 : decode cX12_told 11 = .ok (.invokestatic 97, 3) := by decide +kernel
theorem dX12_told_14 : decode cX12_told 14 = .ok (.ifCond .eq 17, 3) := by decide +kernel
theorem dX12_told_17 : decode cX12_told 17 = .ok (.aload_n 0, 1) := by decide +kernel
theorem dX12_told_18 : decode cX12_told 18 = .ok (.aload_n 0, 1) := by decide +kernel
theorem dX12_told_19 : decode cX12_told 19 = .ok (.iload_n 1, 1) := by decide +kernel
theorem dX12_told_20 : decode cX12_told 20 = .ok (.iload_n 2, 1) := by decide +kernel
theorem dX12_told_21 : decode cX12_told 21 = .ok (.invokevirtual 160, 3) := by decide +kernel
theorem dX12_told_24 : decode cX12_told 24 = .ok (.iconst 1, 1) := by decide +kernel
theorem dX12_told_25 : decode cX12_told 25 = .ok (.invokevirtual 119, 3) := by decide +kernel
theorem dX12_told_28 : decode cX12_told 28 = .ok (.goto 4, 3) := by decide +kernel
theorem dX12_told_31 : decode cX12_told 31 = .ok (.iconst (-1), 1) := by decide +kernel
theorem dX12_told_32 : decode cX12_told 32 = .ok (.ireturn, 1) := by decide +kernel
theorem dX12_traits_0 : decode cX12_traits 0 = .ok (.aload_n 0, 1) := by decide +kernel
theorem dX12_traits_1 : decode cX12_traits 1 = .ok (.iload_n 1, 1) := by decide +kernel
theorem dX12_traits_2 : decode cX12_traits 2 = .ok (.invokevirtual 144, 3) := by decide +kernel
theorem dX12_traits_5 : decode cX12_traits 5 = .ok (.ifCond .eq 12, 3) := by decide +kernel
theorem dX12_traits_8 : decode cX12_traits 8 = .ok (.aload_n 0, 1) := by decide +kernel
theorem dX12_traits_9 : decode cX12_traits 9 = .ok (.getfield 32, 3) := by decide +kernel
theorem dX12_traits_12 : decode cX12_traits 12 = .ok (.iload_n 1, 1) := by decide +kernel
theorem dX12_traits_13 : decode cX12_traits 13 = .ok (.iaload, 1) := by decide +kernel
theorem dX12_traits_14 : decode cX12_traits 14 = .ok (.goto 4, 3) := by decide +kernel
theorem dX12_traits_17 : decode cX12_traits 17 = .ok (.iconst (-1), 1) := by decide +kernel
theorem dX12_traits_18 : decode cX12_traits 18 = .ok (.ireturn, 1) := by decide +kernel
theorem dX12_pupils_0 : decode cX12_pupils 0 = .ok (.iconst 0, 1) := by decide +kernel
theorem dX12_pupils_1 : decode cX12_pupils 1 = .ok (.istore_n 2, 1) := by decide +kernel
theorem dX12_pupils_2 : decode cX12_pupils 2 = .ok (.iconst 0, 1) := by decide +kernel
theorem dX12_pupils_3 : decode cX12_pupils 3 = .ok (.istore_n 3, 1) := by decide +kernel
theorem dX12_pupils_4 : decode cX12_pupils 4 = .ok (.iload_n 3, 1) := by decide +kernel
theorem dX12_pupils_5 : decode cX12_pupils 5 = .ok (.aload_n 0, 1) := by decide +kernel
theorem dX12_pupils_6 : decode cX12_pupils 6 = .ok (.getfield 128, 3) := by decide +kernel
theorem dX12_pupils_9 : decode cX12_pupils 9 = .ok (.if_icmp .ge 70, 3) := by decide +kernel
theorem dX12_pupils_12 : decode cX12_pupils 12 = .ok (.iconst 0, 1) := by decide +kernel
theorem dX12_pupils_13 : decode cX12_pupils 13 = .ok (.istore 4, 2) := by decide +kernel
theorem dX12_pupils_15 : decode cX12_pupils 15 = .ok (.aload_n 0, 1) := by decide +kernel
theorem dX12_pupils_16 : decode cX12_pupils 16 = .ok (.getfield 41, 3) := by decide +kernel
theorem dX12_pupils_19 : decode cX12_pupils 19 = .ok (.iload_n 3, 1) := by decide +kernel
theorem dX12_pupils_20 : decode cX12_pupils 20 = .ok (.iaload, 1) := by decide +kernel
theorem dX12_pupils_21 : decode cX12_pupils 21 = .ok (.istore 5, 2) := by decide +kernel
theorem dX12_pupils_23 : decode cX12_pupils 23 = .ok (.iload 5, 2) := by decide +kernel
theorem dX12_pupils_25 : decode cX12_pupils 25 = .ok (.bipush (-9), 2) := by decide +kernel
theorem dX12_pupils_27 : decode cX12_pupils 27 = .ok (.if_icmp .eq 33, 3) := by decide +kernel
theorem dX12_pupils_30 : decode cX12_pupils 30 = .ok (.iload 4, 2) := by decide +kernel
theorem dX12_pupils_32 : decode cX12_pupils 32 = .ok (.ifCond .ne 9, 3) := by decide +kernel
theorem dX12_pupils_35 : decode cX12_pupils 35 = .ok (.iload 5, 2) := by decide +kernel
theorem dX12_pupils_37 : decode cX12_pupils 37 = .ok (.iload_n 1, 1) := by decide +kernel
theorem dX12_pupils_38 : decode cX12_pupils 38 = .ok (.if_icmp .ne 7, 3) := by decide +kernel
theorem dX12_pupils_41 : decode cX12_pupils 41 = .ok (.iconst 1, 1) := by decide +kernel
theorem dX12_pupils_42 : decode cX12_pupils 42 = .ok (.goto 4, 3) := by decide +kernel
theorem dX12_pupils_45 : decode cX12_pupils 45 = .ok (.iconst 0, 1) := by decide +kernel
theorem dX12_pupils_46 : decode cX12_pupils 46 = .ok (.istore 4, 2) := by decide +kernel
theorem dX12_pupils_48 : decode cX12_pupils 48 = .ok (.aload_n 0, 1) := by decide +kernel
theorem dX12_pupils_49 : decode cX12_pupils 49 = .ok (.getfield 41, 3) := by decide +kernel
theorem dX12_pupils_52 : decode cX12_pupils 52 = .ok (.iload 5, 2) := by decide +kernel
theorem dX12_pupils_54 : decode cX12_pupils 54 = .ok (.iaload, 1) := by decide +kernel
theorem dX12_pupils_55 : decode cX12_pupils 55 = .ok (.istore 5, 2) := by decide +kernel
theorem dX12_pupils_57 : decode cX12_pupils 57 = .ok (.goto (-34), 3) := by decide +kernel
theorem dX12_pupils_60 : decode cX12_pupils 60 = .ok (.iload_n 2, 1) := by decide +kernel
theorem dX12_pupils_61 : decode cX12_pupils 61 = .ok (.iload 4, 2) := by decide +kernel
theorem dX12_pupils_63 : decode cX12_pupils 63 = .ok (.ifCond .eq 7, 3) := by decide +kernel
theorem dX12_pupils_66 : decode cX12_pupils 66 = .ok (.iconst 1, 1) := by decide +kernel
theorem dX12_pupils_67 : decode cX12_pupils 67 = .ok (.goto 4, 3) := by decide +kernel
theorem dX12_pupils_70 : decode cX12_pupils 70 = .ok (.iconst 0, 1) := by decide +kernel
theorem dX12_pupils_71 : decode cX12_pupils 71 = .ok (.iadd, 1) := by decide +kernel
theorem dX12_pupils_72 : decode cX12_pupils 72 = .ok (.istore_n 2, 1) := by decide +kernel
theorem dX12_pupils_73 : decode cX12_pupils 73 = .ok (.iinc 3 1, 3) := by decide +kernel
theorem dX12_pupils_76 : decode cX12_pupils 76 = .ok (.goto (-72), 3) := by decide +kernel
theorem dX12_pupils_79 : decode cX12_pupils 79 = .ok (.iload_n 2, 1) := by decide +kernel
theorem dX12_pupils_80 : decode cX12_pupils 80 = .ok (.ireturn, 1) := by decide +kernel
theorem dX12_lifeTells_0 : decode cX12_lifeTells 0 = .ok (.iload_n 2, 1) := by decide +kernel
theorem dX12_lifeTells_1 : decode cX12_lifeTells 1 = .ok (.ifCond .ne 12, 3) := by decide +kernel
theorem dX12_lifeTells_4 : decode cX12_lifeTells 4 = .ok (.aload_n 0, 1) := by decide +kernel
theorem dX12_lifeTells_5 : decode cX12_lifeTells 5 = .ok (.getfield 35, 3) := by decide +kernel
theorem dX12_lifeTells_8 : decode cX12_lifeTells 8 = .ok (.iload_n 1, 1) := by decide +kernel
theorem dX12_lifeTells_9 : decode cX12_lifeTells 9 = .ok (.iaload, 1) := by decide +kernel
theorem dX12_lifeTells_10 : decode cX12_lifeTells 10 = .ok (.goto 49, 3) := by decide +kernel
theorem dX12_lifeTells_13 : decode cX12_lifeTells 13 = .ok (.iload_n 2, 1) := by decide +kernel
theorem dX12_lifeTells_14 : decode cX12_lifeTells 14 = .ok (.iconst 1, 1) := by decide +kernel
theorem dX12_lifeTells_15 : decode cX12_lifeTells 15 = .ok (.if_icmp .ne 12, 3) := by decide +kernel
theorem dX12_lifeTells_18 : decode cX12_lifeTells 18 = .ok (.aload_n 0, 1) := by decide +kernel
theorem dX12_lifeTells_19 : decode cX12_lifeTells 19 = .ok (.getfield 38, 3) := by decide +kernel
theorem dX12_lifeTells_22 : decode cX12_lifeTells 22 = .ok (.iload_n 1, 1) := by decide +kernel
theorem dX12_lifeTells_23 : decode cX12_lifeTells 23 = .ok (.iaload, 1) := by decide +kernel
theorem dX12_lifeTells_24 : decode cX12_lifeTells 24 = .ok (.goto 35, 3) := by decide +kernel
theorem dX12_lifeTells_27 : decode cX12_lifeTells 27 = .ok (.iload_n 2, 1) := by decide +kernel
theorem dX12_lifeTells_28 : decode cX12_lifeTells 28 = .ok (.iconst 2, 1) := by decide +kernel
theorem dX12_lifeTells_29 : decode cX12_lifeTells 29 = .ok (.if_icmp .ne 12, 3) := by decide +kernel
theorem dX12_lifeTells_32 : decode cX12_lifeTells 32 = .ok (.aload_n 0, 1) := by decide +kernel
theorem dX12_lifeTells_33 : decode cX12_lifeTells 33 = .ok (.getfield 41, 3) := by decide +kernel
theorem dX12_lifeTells_36 : decode cX12_lifeTells 36 = .ok (.iload_n 1, 1) := by decide +kernel
theorem dX12_lifeTells_37 : decode cX12_lifeTells 37 = .ok (.iaload, 1) := by decide +kernel
theorem dX12_lifeTells_38 : decode cX12_lifeTells 38 = .ok (.goto 21, 3) := by decide +kernel
theorem dX12_lifeTells_41 : decode cX12_lifeTells 41 = .ok (.iload_n 2, 1) := by decide +kernel
theorem dX12_lifeTells_42 : decode cX12_lifeTells 42 = .ok (.iconst 3, 1) := by decide +kernel
theorem dX12_lifeTells_43 : decode cX12_lifeTells 43 = .ok (.if_icmp .ne 11, 3) := by decide +kernel
theorem dX12_lifeTells_46 : decode cX12_lifeTells 46 = .ok (.aload_n 0, 1) := by decide +kernel
theorem dX12_lifeTells_47 : decode cX12_lifeTells 47 = .ok (.iload_n 1, 1) := by decide +kernel
theorem dX12_lifeTells_48 : decode cX12_lifeTells 48 = .ok (.invokevirtual 150, 3) := by decide +kernel
theorem dX12_lifeTells_51 : decode cX12_lifeTells 51 = .ok (.goto 8, 3) := by decide +kernel
theorem dX12_lifeTells_54 : decode cX12_lifeTells 54 = .ok (.aload_n 0, 1) := by decide +kernel
theorem dX12_lifeTells_55 : decode cX12_lifeTells 55 = .ok (.iload_n 1, 1) := by decide +kernel
theorem dX12_lifeTells_56 : decode cX12_lifeTells 56 = .ok (.invokevirtual 163, 3) := by decide +kernel
theorem dX12_lifeTells_59 : decode cX12_lifeTells 59 = .ok (.ireturn, 1) := by decide +kernel
theorem dX12_life_0 : decode cX12_life 0 = .ok (.aload_n 0, 1) := by decide +kernel
theorem dX12_life_1 : decode cX12_life 1 = .ok (.iload_n 1, 1) := by decide +kernel
theorem dX12_life_2 : decode cX12_life 2 = .ok (.invokevirtual 137, 3) := by decide +kernel
theorem dX12_life_5 : decode cX12_life 5 = .ok (.ifCond .eq 26, 3) := by decide +kernel
theorem dX12_life_8 : decode cX12_life 8 = .ok (.iload_n 2, 1) := by decide +kernel
theorem dX12_life_9 : decode cX12_life 9 = .ok (.iconst 0, 1) := by decide +kernel
theorem dX12_life_10 : decode cX12_life 10 = .ok (.iconst 4, 1) := by decide +kernel
theorem dX12_life_11 : decode cX12_life 11 = .ok (.invokestatic 97, 3) := by decide +kernel
theorem dX12_life_14 : decode cX12_life 14 = .ok (.ifCond .eq 17, 3) := by decide +kernel
theorem dX12_life_17 : decode cX12_life 17 = .ok (.aload_n 0, 1) := by decide +kernel
theorem dX12_life_18 : decode cX12_life 18 = .ok (.aload_n 0, 1) := by decide +kernel
theorem dX12_life_19 : decode cX12_life 19 = .ok (.iload_n 1, 1) := by decide +kernel
theorem dX12_life_20 : decode cX12_life 20 = .ok (.iload_n 2, 1) := by decide +kernel
theorem dX12_life_21 : decode cX12_life 21 = .ok (.invokevirtual 166, 3) := by decide +kernel
theorem dX12_life_24 : decode cX12_life 24 = .ok (.iconst 1, 1) := by decide +kernel
theorem dX12_life_25 : decode cX12_life 25 = .ok (.invokevirtual 119, 3) := by decide +kernel
theorem dX12_life_28 : decode cX12_life 28 = .ok (.goto 4, 3) := by decide +kernel
theorem dX12_life_31 : decode cX12_life 31 = .ok (.iconst (-1), 1) := by decide +kernel
theorem dX12_life_32 : decode cX12_life 32 = .ok (.ireturn, 1) := by decide +kernel
theorem dX12_byteAt_0 : decode cX12_byteAt 0 = .ok (.iload_n 2, 1) := by decide +kernel
theorem dX12_byteAt_1 : decode cX12_byteAt 1 = .ok (.aload_n 0, 1) := by decide +kernel
theorem dX12_byteAt_2 : decode cX12_byteAt 2 = .ok (.getfield 26, 3) := by decide +kernel
theorem dX12_byteAt_5 : decode cX12_byteAt 5 = .ok (.iload_n 1, 1) := by decide +kernel
theorem dX12_byteAt_6 : decode cX12_byteAt 6 = .ok (.iaload, 1) := by decide +kernel
theorem dX12_byteAt_7 : decode cX12_byteAt 7 = .ok (.if_icmp .ge 17, 3) := by decide +kernel
theorem dX12_byteAt_10 : decode cX12_byteAt 10 = .ok (.aload_n 0, 1) := by decide +kernel
theorem dX12_byteAt_11 : decode cX12_byteAt 11 = .ok (.getfield 29, 3) := by decide +kernel
theorem dX12_byteAt_14 : decode cX12_byteAt 14 = .ok (.bipush 40, 2) := by decide +kernel
theorem dX12_byteAt_16 : decode cX12_byteAt 16 = .ok (.iload_n 1, 1) := by decide +kernel
theorem dX12_byteAt_17 : decode cX12_byteAt 17 = .ok (.imul, 1) := by decide +kernel
theorem dX12_byteAt_18 : decode cX12_byteAt 18 = .ok (.iload_n 2, 1) := by decide +kernel
theorem dX12_byteAt_19 : decode cX12_byteAt 19 = .ok (.iadd, 1) := by decide +kernel
theorem dX12_byteAt_20 : decode cX12_byteAt 20 = .ok (.iaload, 1) := by decide +kernel
theorem dX12_byteAt_21 : decode cX12_byteAt 21 = .ok (.goto 5, 3) := by decide +kernel
theorem dX12_byteAt_24 : decode cX12_byteAt 24 = .ok (.bipush (-9), 2) := by decide +kernel
theorem dX12_byteAt_26 : decode cX12_byteAt 26 = .ok (.ireturn, 1) := by decide +kernel
theorem dX12_power_0 : decode cX12_power 0 = .ok (.iconst 1, 1) := by decide +kernel
theorem dX12_power_1 : decode cX12_power 1 = .ok (.istore_n 1, 1) := by decide +kernel
theorem dX12_power_2 : decode cX12_power 2 = .ok (.iconst 0, 1) := by decide +kernel
theorem dX12_power_3 : decode cX12_power 3 = .ok (.istore_n 2, 1) := by decide +kernel
theorem dX12_power_4 : decode cX12_power 4 = .ok (.iload_n 2, 1) := by decide +kernel
theorem dX12_power_5 : decode cX12_power 5 = .ok (.iload_n 0, 1) := by decide +kernel
theorem dX12_power_6 : decode cX12_power 6 = .ok (.if_icmp .ge 13, 3) := by decide +kernel
theorem dX12_power_9 : decode cX12_power 9 = .ok (.iload_n 1, 1) := by decide +kernel
theorem dX12_power_10 : decode cX12_power 10 = .ok (.iconst 3, 1) := by decide +kernel
theorem dX12_power_11 : decode cX12_power 11 = .ok (.imul, 1) := by decide +kernel
theorem dX12_power_12 : decode cX12_power 12 = .ok (.istore_n 1, 1) := by decide +kernel
theorem dX12_power_13 : decode cX12_power 13 = .ok (.iinc 2 1, 3) := by decide +kernel
theorem dX12_power_16 : decode cX12_power 16 = .ok (.goto (-12), 3) := by decide +kernel
theorem dX12_power_19 : decode cX12_power 19 = .ok (.iload_n 1, 1) := by decide +kernel
theorem dX12_power_20 : decode cX12_power 20 = .ok (.ireturn, 1) := by decide +kernel
theorem dX12_goesOn_0 : decode cX12_goesOn 0 = .ok (.iconst 0, 1) := by decide +kernel
theorem dX12_goesOn_1 : decode cX12_goesOn 1 = .ok (.istore_n 2, 1) := by decide +kernel
theorem dX12_goesOn_2 : decode cX12_goesOn 2 = .ok (.aload_n 0, 1) := by decide +kernel
theorem dX12_goesOn_3 : decode cX12_goesOn 3 = .ok (.iload_n 1, 1) := by decide +kernel
theorem dX12_goesOn_4 : decode cX12_goesOn 4 = .ok (.iload_n 2, 1) := by decide +kernel
theorem dX12_goesOn_5 : decode cX12_goesOn 5 = .ok (.invokevirtual 169, 3) := by decide +kernel
theorem dX12_goesOn_8 : decode cX12_goesOn 8 = .ok (.bipush 32, 2) := by decide +kernel
theorem dX12_goesOn_10 : decode cX12_goesOn 10 = .ok (.if_icmp .ne 9, 3) := by decide +kernel
theorem dX12_goesOn_13 : decode cX12_goesOn 13 = .ok (.iinc 2 1, 3) := by decide +kernel
theorem dX12_goesOn_16 : decode cX12_goesOn 16 = .ok (.goto (-14), 3) := by decide +kernel
theorem dX12_goesOn_19 : decode cX12_goesOn 19 = .ok (.iload_n 2, 1) := by decide +kernel
theorem dX12_goesOn_20 : decode cX12_goesOn 20 = .ok (.istore_n 3, 1) := by decide +kernel
theorem dX12_goesOn_21 : decode cX12_goesOn 21 = .ok (.aload_n 0, 1) := by decide +kernel
theorem dX12_goesOn_22 : decode cX12_goesOn 22 = .ok (.iconst 0, 1) := by decide +kernel
theorem dX12_goesOn_23 : decode cX12_goesOn 23 = .ok (.putfield 172, 3) := by decide +kernel
theorem dX12_goesOn_26 : decode cX12_goesOn 26 = .ok (.aload_n 0, 1) := by decide +kernel
theorem dX12_goesOn_27 : decode cX12_goesOn 27 = .ok (.iload_n 1, 1) := by decide +kernel
theorem dX12_goesOn_28 : decode cX12_goesOn 28 = .ok (.iload_n 2, 1) := by decide +kernel
theorem dX12_goesOn_29 : decode cX12_goesOn 29 = .ok (.invokevirtual 169, 3) := by decide +kernel
theorem dX12_goesOn_32 : decode cX12_goesOn 32 = .ok (.bipush 48, 2) := by decide +kernel
theorem dX12_goesOn_34 : decode cX12_goesOn 34 = .ok (.if_icmp .eq 14, 3) := by decide +kernel
theorem dX12_goesOn_37 : decode cX12_goesOn 37 = .ok (.aload_n 0, 1) := by decide +kernel
theorem dX12_goesOn_38 : decode cX12_goesOn 38 = .ok (.iload_n 1, 1) := by decide +kernel
theorem dX12_goesOn_39 : decode cX12_goesOn 39 = .ok (.iload_n 2, 1) := by decide +kernel
theorem dX12_goesOn_40 : decode cX12_goesOn 40 = .ok (.invokevirtual 169, 3) := by decide +kernel
theorem dX12_goesOn_43 : decode cX12_goesOn 43 = .ok (.bipush 49, 2) := by decide +kernel
theorem dX12_goesOn_45 : decode cX12_goesOn 45 = .ok (.if_icmp .ne 31, 3) := by decide +kernel
theorem dX12_goesOn_48 : decode cX12_goesOn 48 = .ok (.aload_n 0, 1) := by decide +kernel
theorem dX12_goesOn_49 : decode cX12_goesOn 49 = .ok (.aload_n 0, 1) := by decide +kernel
theorem dX12_goesOn_50 : decode cX12_goesOn 50 = .ok (.iload_n 1, 1) := by decide +kernel
theorem dX12_goesOn_51 : decode cX12_goesOn 51 = .ok (.iload_n 2, 1) := by decide +kernel
theorem dX12_goesOn_52 : decode cX12_goesOn 52 = .ok (.invokevirtual 169, 3) := by decide +kernel
theorem dX12_goesOn_55 : decode cX12_goesOn 55 = .ok (.bipush 48, 2) := by decide +kernel
theorem dX12_goesOn_57 : decode cX12_goesOn 57 = .ok (.if_icmp .ne 9, 3) := by decide +kernel
theorem dX12_goesOn_60 : decode cX12_goesOn 60 = .ok (.sipush 243, 3) := by decide +kernel
theorem dX12_goesOn_63 : decode cX12_goesOn 63 = .ok (.goto 4, 3) := by decide +kernel
theorem dX12_goesOn_66 : decode cX12_goesOn 66 = .ok (.iconst 0, 1) := by decide +kernel
theorem dX12_goesOn_67 : decode cX12_goesOn 67 = .ok (.putfield 172, 3) := by decide +kernel
theorem dX12_goesOn_70 : decode cX12_goesOn 70 = .ok (.iinc 2 1, 3) := by decide +kernel
theorem dX12_goesOn_73 : decode cX12_goesOn 73 = .ok (.goto 128, 3) := by decide +kernel
theorem dX12_goesOn_76 : decode cX12_goesOn 76 = .ok (.iconst (-1), 1) := by decide +kernel
theorem dX12_goesOn_77 : decode cX12_goesOn 77 = .ok (.istore 4, 2) := by decide +kernel
theorem dX12_goesOn_79 : decode cX12_goesOn 79 = .ok (.iconst 1, 1) := by decide +kernel
theorem dX12_goesOn_80 : decode cX12_goesOn 80 = .ok (.istore 5, 2) := by decide +kernel
theorem dX12_goesOn_82 : decode cX12_goesOn 82 = .ok (.iload 5, 2) := by decide +kernel
theorem dX12_goesOn_84 : decode cX12_goesOn 84 = .ok (.ifCond .eq 117, 3) := by decide +kernel
theorem dX12_goesOn_87 : decode cX12_goesOn 87 = .ok (.aload_n 0, 1) := by decide +kernel
theorem dX12_goesOn_88 : decode cX12_goesOn 88 = .ok (.iload_n 1, 1) := by decide +kernel
theorem dX12_goesOn_89 : decode cX12_goesOn 89 = .ok (.iload_n 2, 1) := by decide +kernel
theorem dX12_goesOn_90 : decode cX12_goesOn 90 = .ok (.invokevirtual 169, 3) := by decide +kernel
theorem dX12_goesOn_93 : decode cX12_goesOn 93 = .ok (.bipush 33, 2) := by decide +kernel
theorem dX12_goesOn_95 : decode cX12_goesOn 95 = .ok (.if_icmp .ne 7, 3) := by decide +kernel
theorem dX12_goesOn_98 : decode cX12_goesOn 98 = .ok (.iconst 1, 1) := by decide +kernel
theorem dX12_goesOn_99 : decode cX12_goesOn 99 = .ok (.goto 4, 3) := by decide +kernel
theorem dX12_goesOn_102 : decode cX12_goesOn 102 = .ok (.iconst 0, 1) := by decide +kernel
theorem dX12_goesOn_103 : decode cX12_goesOn 103 = .ok (.istore 6, 2) := by decide +kernel
theorem dX12_goesOn_105 : decode cX12_goesOn 105 = .ok (.aload_n 0, 1) := by decide +kernel
theorem dX12_goesOn_106 : decode cX12_goesOn 106 = .ok (.iload_n 1, 1) := by decide +kernel
theorem dX12_goesOn_107 : decode cX12_goesOn 107 = .ok (.iload_n 2, 1) := by decide +kernel
theorem dX12_goesOn_108 : decode cX12_goesOn 108 = .ok (.iload 6, 2) := by decide +kernel
theorem dX12_goesOn_110 : decode cX12_goesOn 110 = .ok (.iadd, 1) := by decide +kernel
theorem dX12_goesOn_111 : decode cX12_goesOn 111 = .ok (.invokevirtual 169, 3) := by decide +kernel
theorem dX12_goesOn_114 : decode cX12_goesOn 114 = .ok (.bipush 97, 2) := by decide +kernel
theorem dX12_goesOn_116 : decode cX12_goesOn 116 = .ok (.isub, 1) := by decide +kernel
theorem dX12_goesOn_117 : decode cX12_goesOn 117 = .ok (.istore 7, 2) := by decide +kernel
theorem dX12_goesOn_119 : decode cX12_goesOn 119 = .ok (.iload 7, 2) := by decide +kernel
theorem dX12_goesOn_121 : decode cX12_goesOn 121 = .ok (.invokestatic 147, 3) := by decide +kernel
theorem dX12_goesOn_124 : decode cX12_goesOn 124 = .ok (.ifCond .eq 14, 3) := by decide +kernel
theorem dX12_goesOn_127 : decode cX12_goesOn 127 = .ok (.iload 7, 2) := by decide +kernel
theorem dX12_goesOn_129 : decode cX12_goesOn 129 = .ok (.iload 4, 2) := by decide +kernel
theorem dX12_goesOn_131 : decode cX12_goesOn 131 = .ok (.if_icmp .le 7, 3) := by decide +kernel
theorem dX12_goesOn_134 : decode cX12_goesOn 134 = .ok (.iconst 1, 1) := by decide +kernel
theorem dX12_goesOn_135 : decode cX12_goesOn 135 = .ok (.goto 4, 3) := by decide +kernel
theorem dX12_goesOn_138 : decode cX12_goesOn 138 = .ok (.iconst 0, 1) := by decide +kernel
theorem dX12_goesOn_139 : decode cX12_goesOn 139 = .ok (.istore 5, 2) := by decide +kernel
theorem dX12_goesOn_141 : decode cX12_goesOn 141 = .ok (.iload 5, 2) := by decide +kernel
theorem dX12_goesOn_143 : decode cX12_goesOn 143 = .ok (.ifCond .eq 36, 3) := by decide +kernel
theorem dX12_goesOn_146 : decode cX12_goesOn 146 = .ok (.aload_n 0, 1) := by decide +kernel
theorem dX12_goesOn_147 : decode cX12_goesOn 147 = .ok (.dup, 1) := by decide +kernel
theorem dX12_goesOn_148 : decode cX12_goesOn 148 = .ok (.getfield 172, 3) := by decide +kernel
theorem dX12_goesOn_151 : decode cX12_goesOn 151 = .ok (.iload 7, 2) := by decide +kernel
theorem dX12_goesOn_153 : decode cX12_goesOn 153 = .ok (.invokestatic 175, 3) := by decide +kernel
theorem dX12_goesOn_156 : decode cX12_goesOn 156 = .ok (.iconst 1, 1) := by decide +kernel
theorem dX12_goesOn_157 : decode cX12_goesOn 157 = .ok (.iload 6, 2) := by decide +kernel
theorem dX12_goesOn_159 : decode cX12_goesOn 159 = .ok (.iadd, 1) := by decide +kernel
theorem dX12_goesOn_160 : decode cX12_goesOn 160 = .ok (.imul, 1) := by decide +kernel
theorem dX12_goesOn_161 : decode cX12_goesOn 161 = .ok (.iadd, 1) := by decide +kernel
theorem dX12_goesOn_162 : decode cX12_goesOn 162 = .ok (.putfield 172, 3) := by decide +kernel
theorem dX12_goesOn_165 : decode cX12_goesOn 165 = .ok (.iload 7, 2) := by decide +kernel
theorem dX12_goesOn_167 : decode cX12_goesOn 167 = .ok (.istore 4, 2) := by decide +kernel
theorem dX12_goesOn_169 : decode cX12_goesOn 169 = .ok (.iload_n 2, 1) := by decide +kernel
theorem dX12_goesOn_170 : decode cX12_goesOn 170 = .ok (.iload 6, 2) := by decide +kernel
theorem dX12_goesOn_172 : decode cX12_goesOn 172 = .ok (.iconst 1, 1) := by decide +kernel
theorem dX12_goesOn_173 : decode cX12_goesOn 173 = .ok (.iadd, 1) := by decide +kernel
theorem dX12_goesOn_174 : decode cX12_goesOn 174 = .ok (.iadd, 1) := by decide +kernel
theorem dX12_goesOn_175 : decode cX12_goesOn 175 = .ok (.istore_n 2, 1) := by decide +kernel
theorem dX12_goesOn_176 : decode cX12_goesOn 176 = .ok (.goto 22, 3) := by decide +kernel
theorem dX12_goesOn_179 : decode cX12_goesOn 179 = .ok (.iload 6, 2) := by decide +kernel
theorem dX12_goesOn_181 : decode cX12_goesOn 181 = .ok (.iconst 1, 1) := by decide +kernel
theorem dX12_goesOn_182 : decode cX12_goesOn 182 = .ok (.if_icmp .eq 11, 3) := by decide +kernel
theorem dX12_goesOn_185 : decode cX12_goesOn 185 = .ok (.iload 7, 2) := by decide +kernel
theorem dX12_goesOn_187 : decode cX12_goesOn 187 = .ok (.invokestatic 147, 3) := by decide +kernel
theorem dX12_goesOn_190 : decode cX12_goesOn 190 = .ok (.ifCond .eq 8, 3) := by decide +kernel
theorem dX12_goesOn_193 : decode cX12_goesOn 193 = .ok (.iload_n 2, 1) := by decide +kernel
theorem dX12_goesOn_194 : decode cX12_goesOn 194 = .ok (.iload 6, 2) := by decide +kernel
theorem dX12_goesOn_196 : decode cX12_goesOn 196 = .ok (.iadd, 1) := by decide +kernel
theorem dX12_goesOn_197 : decode cX12_goesOn 197 = .ok (.ireturn, 1) := by decide +kernel
theorem dX12_goesOn_198 : decode cX12_goesOn 198 = .ok (.goto (-116), 3) := by decide +kernel
theorem dX12_goesOn_201 : decode cX12_goesOn 201 = .ok (.iload_n 2, 1) := by decide +kernel
theorem dX12_goesOn_202 : decode cX12_goesOn 202 = .ok (.iload_n 3, 1) := by decide +kernel
theorem dX12_goesOn_203 : decode cX12_goesOn 203 = .ok (.if_icmp .ne 5, 3) := by decide +kernel
theorem dX12_goesOn_206 : decode cX12_goesOn 206 = .ok (.iload_n 2, 1) := by decide +kernel
theorem dX12_goesOn_207 : decode cX12_goesOn 207 = .ok (.ireturn, 1) := by decide +kernel
theorem dX12_goesOn_208 : decode cX12_goesOn 208 = .ok (.aload_n 0, 1) := by decide +kernel
theorem dX12_goesOn_209 : decode cX12_goesOn 209 = .ok (.iload_n 1, 1) := by decide +kernel
theorem dX12_goesOn_210 : decode cX12_goesOn 210 = .ok (.iload_n 2, 1) := by decide +kernel
theorem dX12_goesOn_211 : decode cX12_goesOn 211 = .ok (.invokevirtual 169, 3) := by decide +kernel
theorem dX12_goesOn_214 : decode cX12_goesOn 214 = .ok (.bipush 32, 2) := by decide +kernel
theorem dX12_goesOn_216 : decode cX12_goesOn 216 = .ok (.if_icmp .ne 9, 3) := by decide +kernel
theorem dX12_goesOn_219 : decode cX12_goesOn 219 = .ok (.iinc 2 1, 3) := by decide +kernel
theorem dX12_goesOn_222 : decode cX12_goesOn 222 = .ok (.goto (-14), 3) := by decide +kernel
theorem dX12_goesOn_225 : decode cX12_goesOn 225 = .ok (.iload_n 2, 1) := by decide +kernel
theorem dX12_goesOn_226 : decode cX12_goesOn 226 = .ok (.aload_n 0, 1) := by decide +kernel
theorem dX12_goesOn_227 : decode cX12_goesOn 227 = .ok (.getfield 26, 3) := by decide +kernel
theorem dX12_goesOn_230 : decode cX12_goesOn 230 = .ok (.iload_n 1, 1) := by decide +kernel
theorem dX12_goesOn_231 : decode cX12_goesOn 231 = .ok (.iaload, 1) := by decide +kernel
theorem dX12_goesOn_232 : decode cX12_goesOn 232 = .ok (.if_icmp .ne 8, 3) := by decide +kernel
theorem dX12_goesOn_235 : decode cX12_goesOn 235 = .ok (.bipush (-9), 2) := by decide +kernel
theorem dX12_goesOn_237 : decode cX12_goesOn 237 = .ok (.goto 4, 3) := by decide +kernel
theorem dX12_goesOn_240 : decode cX12_goesOn 240 = .ok (.iload_n 2, 1) := by decide +kernel
theorem dX12_goesOn_241 : decode cX12_goesOn 241 = .ok (.ireturn, 1) := by decide +kernel
theorem dX12_fault_0 : decode cX12_fault 0 = .ok (.aload_n 0, 1) := by decide +kernel
theorem dX12_fault_1 : decode cX12_fault 1 = .ok (.iload_n 1, 1) := by decide +kernel
theorem dX12_fault_2 : decode cX12_fault 2 = .ok (.invokevirtual 122, 3) := by decide +kernel
theorem dX12_fault_5 : decode cX12_fault 5 = .ok (.istore_n 2, 1) := by decide +kernel
theorem dX12_fault_6 : decode cX12_fault 6 = .ok (.iload_n 2, 1) := by decide +kernel
theorem dX12_fault_7 : decode cX12_fault 7 = .ok (.ifCond .ge 7, 3) := by decide +kernel
theorem dX12_fault_10 : decode cX12_fault 10 = .ok (.iload_n 2, 1) := by decide +kernel
theorem dX12_fault_11 : decode cX12_fault 11 = .ok (.goto 8, 3) := by decide +kernel
theorem dX12_fault_14 : decode cX12_fault 14 = .ok (.aload_n 0, 1) := by decide +kernel
theorem dX12_fault_15 : decode cX12_fault 15 = .ok (.iload_n 1, 1) := by decide +kernel
theorem dX12_fault_16 : decode cX12_fault 16 = .ok (.invokevirtual 178, 3) := by decide +kernel
theorem dX12_fault_19 : decode cX12_fault 19 = .ok (.ireturn, 1) := by decide +kernel
theorem dX12_rule_0 : decode cX12_rule 0 = .ok (.aload_n 0, 1) := by decide +kernel
theorem dX12_rule_1 : decode cX12_rule 1 = .ok (.iload_n 1, 1) := by decide +kernel
theorem dX12_rule_2 : decode cX12_rule 2 = .ok (.invokevirtual 181, 3) := by decide +kernel
theorem dX12_rule_5 : decode cX12_rule 5 = .ok (.istore_n 2, 1) := by decide +kernel
theorem dX12_rule_6 : decode cX12_rule 6 = .ok (.iload_n 2, 1) := by decide +kernel
theorem dX12_rule_7 : decode cX12_rule 7 = .ok (.bipush (-9), 2) := by decide +kernel
theorem dX12_rule_9 : decode cX12_rule 9 = .ok (.if_icmp .ne 10, 3) := by decide +kernel
theorem dX12_rule_12 : decode cX12_rule 12 = .ok (.aload_n 0, 1) := by decide +kernel
theorem dX12_rule_13 : decode cX12_rule 13 = .ok (.getfield 172, 3) := by decide +kernel
theorem dX12_rule_16 : decode cX12_rule 16 = .ok (.goto 13, 3) := by decide +kernel
theorem dX12_rule_19 : decode cX12_rule 19 = .ok (.iload_n 2, 1) := by decide +kernel
theorem dX12_rule_20 : decode cX12_rule 20 = .ok (.ifCond .lt 8, 3) := by decide +kernel
theorem dX12_rule_23 : decode cX12_rule 23 = .ok (.bipush (-4), 2) := by decide +kernel
theorem dX12_rule_25 : decode cX12_rule 25 = .ok (.goto 4, 3) := by decide +kernel
theorem dX12_rule_28 : decode cX12_rule 28 = .ok (.iload_n 2, 1) := by decide +kernel
theorem dX12_rule_29 : decode cX12_rule 29 = .ok (.ireturn, 1) := by decide +kernel
theorem dX12_isRule_0 : decode cX12_isRule 0 = .ok (.iload_n 0, 1) := by decide +kernel
theorem dX12_isRule_1 : decode cX12_isRule 1 = .ok (.iconst 0, 1) := by decide +kernel
theorem dX12_isRule_2 : decode cX12_isRule 2 = .ok (.sipush 243, 3) := by decide +kernel
theorem dX12_isRule_5 : decode cX12_isRule 5 = .ok (.invokestatic 97, 3) := by decide +kernel
theorem dX12_isRule_8 : decode cX12_isRule 8 = .ok (.ireturn, 1) := by decide +kernel
theorem dX12_figure_0 : decode cX12_figure 0 = .ok (.iload_n 0, 1) := by decide +kernel
theorem dX12_figure_1 : decode cX12_figure 1 = .ok (.sipush 243, 3) := by decide +kernel
theorem dX12_figure_4 : decode cX12_figure 4 = .ok (.if_icmp .ne 7, 3) := by decide +kernel
theorem dX12_figure_7 : decode cX12_figure 7 = .ok (.iconst 0, 1) := by decide +kernel
theorem dX12_figure_8 : decode cX12_figure 8 = .ok (.goto 11, 3) := by decide +kernel
theorem dX12_figure_11 : decode cX12_figure 11 = .ok (.iload_n 0, 1) := by decide +kernel
theorem dX12_figure_12 : decode cX12_figure 12 = .ok (.iload_n 1, 1) := by decide +kernel
theorem dX12_figure_13 : decode cX12_figure 13 = .ok (.invokestatic 175, 3) := by decide +kernel
theorem dX12_figure_16 : decode cX12_figure 16 = .ok (.idiv, 1) := by decide +kernel
theorem dX12_figure_17 : decode cX12_figure 17 = .ok (.iconst 3, 1) := by decide +kernel
theorem dX12_figure_18 : decode cX12_figure 18 = .ok (.irem, 1) := by decide +kernel
theorem dX12_figure_19 : decode cX12_figure 19 = .ok (.ireturn, 1) := by decide +kernel
theorem dX12_answer_0 : decode cX12_answer 0 = .ok (.iload_n 0, 1) := by decide +kernel
theorem dX12_answer_1 : decode cX12_answer 1 = .ok (.sipush 243, 3) := by decide +kernel
theorem dX12_answer_4 : decode cX12_answer 4 = .ok (.if_icmp .eq 7, 3) := by decide +kernel
theorem dX12_answer_7 : decode cX12_answer 7 = .ok (.iconst 1, 1) := by decide +kernel
theorem dX12_answer_8 : decode cX12_answer 8 = .ok (.goto 4, 3) := by decide +kernel
theorem dX12_answer_11 : decode cX12_answer 11 = .ok (.iconst 0, 1) := by decide +kernel
theorem dX12_answer_12 : decode cX12_answer 12 = .ok (.istore_n 2, 1) := by decide +kernel
theorem dX12_answer_13 : decode cX12_answer 13 = .ok (.iconst 0, 1) := by decide +kernel
theorem dX12_answer_14 : decode cX12_answer 14 = .ok (.istore_n 3, 1) := by decide +kernel
theorem dX12_answer_15 : decode cX12_answer 15 = .ok (.iload_n 3, 1) := by decide +kernel
theorem dX12_answer_16 : decode cX12_answer 16 = .ok (.iconst 5, 1) := by decide +kernel
theorem dX12_answer_17 : decode cX12_answer 17 = .ok (.if_icmp .ge 50, 3) := by decide +kernel
theorem dX12_answer_20 : decode cX12_answer 20 = .ok (.iload_n 0, 1) := by decide +kernel
theorem dX12_answer_21 : decode cX12_answer 21 = .ok (.iload_n 3, 1) := by decide +kernel
theorem dX12_answer_22 : decode cX12_answer 22 = .ok (.invokestatic 184, 3) := by decide +kernel
theorem dX12_answer_25 : decode cX12_answer 25 = .ok (.istore 4, 2) := by decide +kernel
theorem dX12_answer_27 : decode cX12_answer 27 = .ok (.iload_n 2, 1) := by decide +kernel
theorem dX12_answer_28 : decode cX12_answer 28 = .ok (.ifCond .eq 31, 3) := by decide +kernel
theorem dX12_answer_31 : decode cX12_answer 31 = .ok (.iload 4, 2) := by decide +kernel
theorem dX12_answer_33 : decode cX12_answer 33 = .ok (.ifCond .eq 22, 3) := by decide +kernel
theorem dX12_answer_36 : decode cX12_answer 36 = .ok (.iload_n 1, 1) := by decide +kernel
theorem dX12_answer_37 : decode cX12_answer 37 = .ok (.iload_n 3, 1) := by decide +kernel
theorem dX12_answer_38 : decode cX12_answer 38 = .ok (.invokestatic 187, 3) := by decide +kernel
theorem dX12_answer_41 : decode cX12_answer 41 = .ok (.iload 4, 2) := by decide +kernel
theorem dX12_answer_43 : decode cX12_answer 43 = .ok (.iconst 1, 1) := by decide +kernel
theorem dX12_answer_44 : decode cX12_answer 44 = .ok (.if_icmp .ne 7, 3) := by decide +kernel
theorem dX12_answer_47 : decode cX12_answer 47 = .ok (.iconst 1, 1) := by decide +kernel
theorem dX12_answer_48 : decode cX12_answer 48 = .ok (.goto 4, 3) := by decide +kernel
theorem dX12_answer_51 : decode cX12_answer 51 = .ok (.iconst 0, 1) := by decide +kernel
theorem dX12_answer_52 : decode cX12_answer 52 = .ok (.if_icmp .ne 7, 3) := by decide +kernel
theorem dX12_answer_55 : decode cX12_answer 55 = .ok (.iconst 1, 1) := by decide +kernel
theorem dX12_answer_56 : decode cX12_answer 56 = .ok (.goto 4, 3) := by decide +kernel
theorem dX12_answer_59 : decode cX12_answer 59 = .ok (.iconst 0, 1) := by decide +kernel
theorem dX12_answer_60 : decode cX12_answer 60 = .ok (.istore_n 2, 1) := by decide +kernel
theorem dX12_answer_61 : decode cX12_answer 61 = .ok (.iinc 3 1, 3) := by decide +kernel
theorem dX12_answer_64 : decode cX12_answer 64 = .ok (.goto (-49), 3) := by decide +kernel
theorem dX12_answer_67 : decode cX12_answer 67 = .ok (.iload_n 2, 1) := by decide +kernel
theorem dX12_answer_68 : decode cX12_answer 68 = .ok (.ifCond .eq 7, 3) := by decide +kernel
theorem dX12_answer_71 : decode cX12_answer 71 = .ok (.iconst 1, 1) := by decide +kernel
theorem dX12_answer_72 : decode cX12_answer 72 = .ok (.goto 4, 3) := by decide +kernel
theorem dX12_answer_75 : decode cX12_answer 75 = .ok (.iconst 0, 1) := by decide +kernel
theorem dX12_answer_76 : decode cX12_answer 76 = .ok (.ireturn, 1) := by decide +kernel
theorem dX12_answers_0 : decode cX12_answers 0 = .ok (.iload_n 1, 1) := by decide +kernel
theorem dX12_answers_1 : decode cX12_answers 1 = .ok (.invokestatic 190, 3) := by decide +kernel
theorem dX12_answers_4 : decode cX12_answers 4 = .ok (.ifCond .eq 18, 3) := by decide +kernel
theorem dX12_answers_7 : decode cX12_answers 7 = .ok (.iload_n 2, 1) := by decide +kernel
theorem dX12_answers_8 : decode cX12_answers 8 = .ok (.invokestatic 134, 3) := by decide +kernel
theorem dX12_answers_11 : decode cX12_answers 11 = .ok (.ifCond .eq 11, 3) := by decide +kernel
theorem dX12_answers_14 : decode cX12_answers 14 = .ok (.iload_n 1, 1) := by decide +kernel
theorem dX12_answers_15 : decode cX12_answers 15 = .ok (.iload_n 2, 1) := by decide +kernel
theorem dX12_answers_16 : decode cX12_answers 16 = .ok (.invokestatic 193, 3) := by decide +kernel
theorem dX12_answers_19 : decode cX12_answers 19 = .ok (.goto 4, 3) := by decide +kernel
theorem dX12_answers_22 : decode cX12_answers 22 = .ok (.iconst (-1), 1) := by decide +kernel
theorem dX12_answers_23 : decode cX12_answers 23 = .ok (.ireturn, 1) := by decide +kernel
theorem dX12_doesFit_0 : decode cX12_doesFit 0 = .ok (.iload_n 3, 1) := by decide +kernel
theorem dX12_doesFit_1 : decode cX12_doesFit 1 = .ok (.iload_n 2, 1) := by decide +kernel
theorem dX12_doesFit_2 : decode cX12_doesFit 2 = .ok (.invokestatic 193, 3) := by decide +kernel
theorem dX12_doesFit_5 : decode cX12_doesFit 5 = .ok (.aload_n 0, 1) := by decide +kernel
theorem dX12_doesFit_6 : decode cX12_doesFit 6 = .ok (.getfield 53, 3) := by decide +kernel
theorem dX12_doesFit_9 : decode cX12_doesFit 9 = .ok (.iload_n 1, 1) := by decide +kernel
theorem dX12_doesFit_10 : decode cX12_doesFit 10 = .ok (.iaload, 1) := by decide +kernel
theorem dX12_doesFit_11 : decode cX12_doesFit 11 = .ok (.if_icmp .ne 31, 3) := by decide +kernel
theorem dX12_doesFit_14 : decode cX12_doesFit 14 = .ok (.aload_n 0, 1) := by decide +kernel
theorem dX12_doesFit_15 : decode cX12_doesFit 15 = .ok (.getfield 56, 3) := by decide +kernel
theorem dX12_doesFit_18 : decode cX12_doesFit 18 = .ok (.iload_n 1, 1) := by decide +kernel
theorem dX12_doesFit_19 : decode cX12_doesFit 19 = .ok (.iaload, 1) := by decide +kernel
theorem dX12_doesFit_20 : decode cX12_doesFit 20 = .ok (.bipush (-9), 2) := by decide +kernel
theorem dX12_doesFit_22 : decode cX12_doesFit 22 = .ok (.if_icmp .eq 16, 3) := by decide +kernel
theorem dX12_doesFit_25 : decode cX12_doesFit 25 = .ok (.iload_n 3, 1) := by decide +kernel
theorem dX12_doesFit_26 : decode cX12_doesFit 26 = .ok (.aload_n 0, 1) := by decide +kernel
theorem dX12_doesFit_27 : decode cX12_doesFit 27 = .ok (.getfield 56, 3) := by decide +kernel
theorem dX12_doesFit_30 : decode cX12_doesFit 30 = .ok (.iload_n 1, 1) := by decide +kernel
theorem dX12_doesFit_31 : decode cX12_doesFit 31 = .ok (.iaload, 1) := by decide +kernel
theorem dX12_doesFit_32 : decode cX12_doesFit 32 = .ok (.invokestatic 184, 3) := by decide +kernel
theorem dX12_doesFit_35 : decode cX12_doesFit 35 = .ok (.ifCond .le 7, 3) := by decide +kernel
theorem dX12_doesFit_38 : decode cX12_doesFit 38 = .ok (.iconst 1, 1) := by decide +kernel
theorem dX12_doesFit_39 : decode cX12_doesFit 39 = .ok (.goto 4, 3) := by decide +kernel
theorem dX12_doesFit_42 : decode cX12_doesFit 42 = .ok (.iconst 0, 1) := by decide +kernel
theorem dX12_doesFit_43 : decode cX12_doesFit 43 = .ok (.ireturn, 1) := by decide +kernel
theorem dX12_fits_0 : decode cX12_fits 0 = .ok (.aload_n 0, 1) := by decide +kernel
theorem dX12_fits_1 : decode cX12_fits 1 = .ok (.iload_n 1, 1) := by decide +kernel
theorem dX12_fits_2 : decode cX12_fits 2 = .ok (.invokevirtual 157, 3) := by decide +kernel
theorem dX12_fits_5 : decode cX12_fits 5 = .ok (.ifCond .eq 10, 3) := by decide +kernel
theorem dX12_fits_8 : decode cX12_fits 8 = .ok (.iload_n 2, 1) := by decide +kernel
theorem dX12_fits_9 : decode cX12_fits 9 = .ok (.invokestatic 190, 3) := by decide +kernel
theorem dX12_fits_12 : decode cX12_fits 12 = .ok (.ifCond .ne 7, 3) := by decide +kernel
theorem dX12_fits_15 : decode cX12_fits 15 = .ok (.iconst (-1), 1) := by decide +kernel
theorem dX12_fits_16 : decode cX12_fits 16 = .ok (.goto 28, 3) := by decide +kernel
theorem dX12_fits_19 : decode cX12_fits 19 = .ok (.aload_n 0, 1) := by decide +kernel
theorem dX12_fits_20 : decode cX12_fits 20 = .ok (.iload_n 1, 1) := by decide +kernel
theorem dX12_fits_21 : decode cX12_fits 21 = .ok (.aload_n 0, 1) := by decide +kernel
theorem dX12_fits_22 : decode cX12_fits 22 = .ok (.getfield 32, 3) := by decide +kernel
theorem dX12_fits_25 : decode cX12_fits 25 = .ok (.aload_n 0, 1) := by decide +kernel
theorem dX12_fits_26 : decode cX12_fits 26 = .ok (.getfield 47, 3) := by decide +kernel
theorem dX12_fits_29 : decode cX12_fits 29 = .ok (.iload_n 1, 1) := by decide +kernel
theorem dX12_fits_30 : decode cX12_fits 30 = .ok (.iaload, 1) := by decide +kernel
theorem dX12_fits_31 : decode cX12_fits 31 = .ok (.iaload, 1) := by decide +kernel
theorem dX12_fits_32 : decode cX12_fits 32 = .ok (.iload_n 2, 1) := by decide +kernel
theorem dX12_fits_33 : decode cX12_fits 33 = .ok (.invokevirtual 196, 3) := by decide +kernel
theorem dX12_fits_36 : decode cX12_fits 36 = .ok (.ifCond .eq 7, 3) := by decide +kernel
theorem dX12_fits_39 : decode cX12_fits 39 = .ok (.iconst 1, 1) := by decide +kernel
theorem dX12_fits_40 : decode cX12_fits 40 = .ok (.goto 4, 3) := by decide +kernel
theorem dX12_fits_43 : decode cX12_fits 43 = .ok (.iconst 0, 1) := by decide +kernel
theorem dX12_fits_44 : decode cX12_fits 44 = .ok (.ireturn, 1) := by decide +kernel
theorem dX12_isPrice_0 : decode cX12_isPrice 0 = .ok (.iload_n 0, 1) := by decide +kernel
theorem dX12_isPrice_1 : decode cX12_isPrice 1 = .ok (.iconst 0, 1) := by decide +kernel
theorem dX12_isPrice_2 : decode cX12_isPrice 2 = .ok (.bipush 99, 2) := by decide +kernel
theorem dX12_isPrice_4 : decode cX12_isPrice 4 = .ok (.invokestatic 97, 3) := by decide +kernel
theorem dX12_isPrice_7 : decode cX12_isPrice 7 = .ok (.ireturn, 1) := by decide +kernel
theorem dX12_prices_0 : decode cX12_prices 0 = .ok (.iload_n 1, 1) := by decide +kernel
theorem dX12_prices_1 : decode cX12_prices 1 = .ok (.invokestatic 199, 3) := by decide +kernel
theorem dX12_prices_4 : decode cX12_prices 4 = .ok (.ifCond .eq 17, 3) := by decide +kernel
theorem dX12_prices_7 : decode cX12_prices 7 = .ok (.iload_n 2, 1) := by decide +kernel
theorem dX12_prices_8 : decode cX12_prices 8 = .ok (.invokestatic 199, 3) := by decide +kernel
theorem dX12_prices_11 : decode cX12_prices 11 = .ok (.ifCond .eq 10, 3) := by decide +kernel
theorem dX12_prices_14 : decode cX12_prices 14 = .ok (.iload_n 3, 1) := by decide +kernel
theorem dX12_prices_15 : decode cX12_prices 15 = .ok (.invokestatic 199, 3) := by decide +kernel
theorem dX12_prices_18 : decode cX12_prices 18 = .ok (.ifCond .ne 5, 3) := by decide +kernel
theorem dX12_prices_21 : decode cX12_prices 21 = .ok (.iconst (-1), 1) := by decide +kernel
theorem dX12_prices_22 : decode cX12_prices 22 = .ok (.ireturn, 1) := by decide +kernel
theorem dX12_prices_23 : decode cX12_prices 23 = .ok (.aload_n 0, 1) := by decide +kernel
theorem dX12_prices_24 : decode cX12_prices 24 = .ok (.getfield 62, 3) := by decide +kernel
theorem dX12_prices_27 : decode cX12_prices 27 = .ok (.iconst 0, 1) := by decide +kernel
theorem dX12_prices_28 : decode cX12_prices 28 = .ok (.iload_n 1, 1) := by decide +kernel
theorem dX12_prices_29 : decode cX12_prices 29 = .ok (.iastore, 1) := by decide +kernel
theorem dX12_prices_30 : decode cX12_prices 30 = .ok (.aload_n 0, 1) := by decide +kernel
theorem dX12_prices_31 : decode cX12_prices 31 = .ok (.getfield 62, 3) := by decide +kernel
theorem dX12_prices_34 : decode cX12_prices 34 = .ok (.iconst 1, 1) := by decide +kernel
theorem dX12_prices_35 : decode cX12_prices 35 = .ok (.iload_n 2, 1) := by decide +kernel
theorem dX12_prices_36 : decode cX12_prices 36 = .ok (.iastore, 1) := by decide +kernel
theorem dX12_prices_37 : decode cX12_prices 37 = .ok (.aload_n 0, 1) := by decide +kernel
theorem dX12_prices_38 : decode cX12_prices 38 = .ok (.getfield 62, 3) := by decide +kernel
theorem dX12_prices_41 : decode cX12_prices 41 = .ok (.iconst 2, 1) := by decide +kernel
theorem dX12_prices_42 : decode cX12_prices 42 = .ok (.iload_n 3, 1) := by decide +kernel
theorem dX12_prices_43 : decode cX12_prices 43 = .ok (.iastore, 1) := by decide +kernel
theorem dX12_prices_44 : decode cX12_prices 44 = .ok (.iconst 1, 1) := by decide +kernel
theorem dX12_prices_45 : decode cX12_prices 45 = .ok (.ireturn, 1) := by decide +kernel
theorem dX12_costOf_0 : decode cX12_costOf 0 = .ok (.aload_n 0, 1) := by decide +kernel
theorem dX12_costOf_1 : decode cX12_costOf 1 = .ok (.getfield 32, 3) := by decide +kernel
theorem dX12_costOf_4 : decode cX12_costOf 4 = .ok (.aload_n 0, 1) := by decide +kernel
theorem dX12_costOf_5 : decode cX12_costOf 5 = .ok (.getfield 47, 3) := by decide +kernel
theorem dX12_costOf_8 : decode cX12_costOf 8 = .ok (.iload_n 1, 1) := by decide +kernel
theorem dX12_costOf_9 : decode cX12_costOf 9 = .ok (.iaload, 1) := by decide +kernel
theorem dX12_costOf_10 : decode cX12_costOf 10 = .ok (.iaload, 1) := by decide +kernel
theorem dX12_costOf_11 : decode cX12_costOf 11 = .ok (.istore_n 3, 1) := by decide +kernel
theorem dX12_costOf_12 : decode cX12_costOf 12 = .ok (.aload_n 0, 1) := by decide +kernel
theorem dX12_costOf_13 : decode cX12_costOf 13 = .ok (.iload_n 1, 1) := by decide +kernel
theorem dX12_costOf_14 : decode cX12_costOf 14 = .ok (.iload_n 3, 1) := by decide +kernel
theorem dX12_costOf_15 : decode cX12_costOf 15 = .ok (.iload_n 2, 1) := by decide +kernel
theorem dX12_costOf_16 : decode cX12_costOf 16 = .ok (.invokevirtual 196, 3) := by decide +kernel
theorem dX12_costOf_19 : decode cX12_costOf 19 = .ok (.ifCond .eq 5, 3) := by decide +kernel
theorem dX12_costOf_22 : decode cX12_costOf 22 = .ok (.iconst 0, 1) := by decide +kernel
theorem dX12_costOf_23 : decode cX12_costOf 23 = .ok (.ireturn, 1) := by decide +kernel
theorem dX12_costOf_24 : decode cX12_costOf 24 = .ok (.iconst 0, 1) := by decide +kernel
theorem dX12_costOf_25 : decode cX12_costOf 25 = .ok (.istore 4, 2) := by decide +kernel
theorem dX12_costOf_27 : decode cX12_costOf 27 = .ok (.iconst 0, 1) := by decide +kernel
theorem dX12_costOf_28 : decode cX12_costOf 28 = .ok (.istore 5, 2) := by decide +kernel
theorem dX12_costOf_30 : decode cX12_costOf 30 = .ok (.iload 5, 2) := by decide +kernel
theorem dX12_costOf_32 : decode cX12_costOf 32 = .ok (.iconst 5, 1) := by decide +kernel
theorem dX12_costOf_33 : decode cX12_costOf 33 = .ok (.if_icmp .ge 36, 3) := by decide +kernel
theorem dX12_costOf_36 : decode cX12_costOf 36 = .ok (.iload 4, 2) := by decide +kernel
theorem dX12_costOf_38 : decode cX12_costOf 38 = .ok (.ifCond .ne 18, 3) := by decide +kernel
theorem dX12_costOf_41 : decode cX12_costOf 41 = .ok (.aload_n 0, 1) := by decide +kernel
theorem dX12_costOf_42 : decode cX12_costOf 42 = .ok (.iload_n 1, 1) := by decide +kernel
theorem dX12_costOf_43 : decode cX12_costOf 43 = .ok (.iload_n 3, 1) := by decide +kernel
theorem dX12_costOf_44 : decode cX12_costOf 44 = .ok (.iconst 1, 1) := by decide +kernel
theorem dX12_costOf_45 : decode cX12_costOf 45 = .ok (.iload 5, 2) := by decide +kernel
theorem dX12_costOf_47 : decode cX12_costOf 47 = .ok (.ishl, 1) := by decide +kernel
theorem dX12_costOf_48 : decode cX12_costOf 48 = .ok (.ixor, 1) := by decide +kernel
theorem dX12_costOf_49 : decode cX12_costOf 49 = .ok (.iload_n 2, 1) := by decide +kernel
theorem dX12_costOf_50 : decode cX12_costOf 50 = .ok (.invokevirtual 196, 3) := by decide +kernel
theorem dX12_costOf_53 : decode cX12_costOf 53 = .ok (.ifCond .eq 7, 3) := by decide +kernel
theorem dX12_costOf_56 : decode cX12_costOf 56 = .ok (.iconst 1, 1) := by decide +kernel
theorem dX12_costOf_57 : decode cX12_costOf 57 = .ok (.goto 4, 3) := by decide +kernel
theorem dX12_costOf_60 : decode cX12_costOf 60 = .ok (.iconst 0, 1) := by decide +kernel
theorem dX12_costOf_61 : decode cX12_costOf 61 = .ok (.istore 4, 2) := by decide +kernel
theorem dX12_costOf_63 : decode cX12_costOf 63 = .ok (.iinc 5 1, 3) := by decide +kernel
theorem dX12_costOf_66 : decode cX12_costOf 66 = .ok (.goto (-36), 3) := by decide +kernel
theorem dX12_costOf_69 : decode cX12_costOf 69 = .ok (.iload 4, 2) := by decide +kernel
theorem dX12_costOf_71 : decode cX12_costOf 71 = .ok (.ifCond .eq 27, 3) := by decide +kernel
theorem dX12_costOf_74 : decode cX12_costOf 74 = .ok (.aload_n 0, 1) := by decide +kernel
theorem dX12_costOf_75 : decode cX12_costOf 75 = .ok (.getfield 62, 3) := by decide +kernel
theorem dX12_costOf_78 : decode cX12_costOf 78 = .ok (.iconst 0, 1) := by decide +kernel
theorem dX12_costOf_79 : decode cX12_costOf 79 = .ok (.iaload, 1) := by decide +kernel
theorem dX12_costOf_80 : decode cX12_costOf 80 = .ok (.aload_n 0, 1) := by decide +kernel
theorem dX12_costOf_81 : decode cX12_costOf 81 = .ok (.getfield 62, 3) := by decide +kernel
theorem dX12_costOf_84 : decode cX12_costOf 84 = .ok (.iconst 1, 1) := by decide +kernel
theorem dX12_costOf_85 : decode cX12_costOf 85 = .ok (.iaload, 1) := by decide +kernel
theorem dX12_costOf_86 : decode cX12_costOf 86 = .ok (.if_icmp .ge 12, 3) := by decide +kernel
theorem dX12_costOf_89 : decode cX12_costOf 89 = .ok (.aload_n 0, 1) := by decide +kernel
theorem dX12_costOf_90 : decode cX12_costOf 90 = .ok (.getfield 62, 3) := by decide +kernel
theorem dX12_costOf_93 : decode cX12_costOf 93 = .ok (.iconst 0, 1) := by decide +kernel
theorem dX12_costOf_94 : decode cX12_costOf 94 = .ok (.iaload, 1) := by decide +kernel
theorem dX12_costOf_95 : decode cX12_costOf 95 = .ok (.goto 9, 3) := by decide +kernel
theorem dX12_costOf_98 : decode cX12_costOf 98 = .ok (.aload_n 0, 1) := by decide +kernel
theorem dX12_costOf_99 : decode cX12_costOf 99 = .ok (.getfield 62, 3) := by decide +kernel
theorem dX12_costOf_102 : decode cX12_costOf 102 = .ok (.iconst 1, 1) := by decide +kernel
theorem dX12_costOf_103 : decode cX12_costOf 103 = .ok (.iaload, 1) := by decide +kernel
theorem dX12_costOf_104 : decode cX12_costOf 104 = .ok (.ireturn, 1) := by decide +kernel
theorem dX12_costs_0 : decode cX12_costs 0 = .ok (.aload_n 0, 1) := by decide +kernel
theorem dX12_costs_1 : decode cX12_costs 1 = .ok (.iload_n 1, 1) := by decide +kernel
theorem dX12_costs_2 : decode cX12_costs 2 = .ok (.invokevirtual 157, 3) := by decide +kernel
theorem dX12_costs_5 : decode cX12_costs 5 = .ok (.ifCond .eq 19, 3) := by decide +kernel
theorem dX12_costs_8 : decode cX12_costs 8 = .ok (.iload_n 2, 1) := by decide +kernel
theorem dX12_costs_9 : decode cX12_costs 9 = .ok (.invokestatic 190, 3) := by decide +kernel
theorem dX12_costs_12 : decode cX12_costs 12 = .ok (.ifCond .eq 12, 3) := by decide +kernel
theorem dX12_costs_15 : decode cX12_costs 15 = .ok (.aload_n 0, 1) := by decide +kernel
theorem dX12_costs_16 : decode cX12_costs 16 = .ok (.iload_n 1, 1) := by decide +kernel
theorem dX12_costs_17 : decode cX12_costs 17 = .ok (.iload_n 2, 1) := by decide +kernel
theorem dX12_costs_18 : decode cX12_costs 18 = .ok (.invokevirtual 202, 3) := by decide +kernel
theorem dX12_costs_21 : decode cX12_costs 21 = .ok (.goto 4, 3) := by decide +kernel
theorem dX12_costs_24 : decode cX12_costs 24 = .ok (.iconst (-1), 1) := by decide +kernel
theorem dX12_costs_25 : decode cX12_costs 25 = .ok (.ireturn, 1) := by decide +kernel
theorem dX12_setTable_0 : decode cX12_setTable 0 = .ok (.aload_n 0, 1) := by decide +kernel
theorem dX12_setTable_1 : decode cX12_setTable 1 = .ok (.iconst 0, 1) := by decide +kernel
theorem dX12_setTable_2 : decode cX12_setTable 2 = .ok (.putfield 205, 3) := by decide +kernel
theorem dX12_setTable_5 : decode cX12_setTable 5 = .ok (.iconst 0, 1) := by decide +kernel
theorem dX12_setTable_6 : decode cX12_setTable 6 = .ok (.istore_n 2, 1) := by decide +kernel
theorem dX12_setTable_7 : decode cX12_setTable 7 = .ok (.iload_n 2, 1) := by decide +kernel
theorem dX12_setTable_8 : decode cX12_setTable 8 = .ok (.aload_n 0, 1) := by decide +kernel
theorem dX12_setTable_9 : decode cX12_setTable 9 = .ok (.getfield 131, 3) := by decide +kernel
theorem dX12_setTable_12 : decode cX12_setTable 12 = .ok (.if_icmp .ge 65, 3) := by decide +kernel
theorem dX12_setTable_15 : decode cX12_setTable 15 = .ok (.aload_n 0, 1) := by decide +kernel
theorem dX12_setTable_16 : decode cX12_setTable 16 = .ok (.getfield 44, 3) := by decide +kernel
theorem dX12_setTable_19 : decode cX12_setTable 19 = .ok (.iload_n 2, 1) := by decide +kernel
theorem dX12_setTable_20 : decode cX12_setTable 20 = .ok (.iaload, 1) := by decide +kernel
theorem dX12_setTable_21 : decode cX12_setTable 21 = .ok (.iload_n 1, 1) := by decide +kernel
theorem dX12_setTable_22 : decode cX12_setTable 22 = .ok (.if_icmp .ne 49, 3) := by decide +kernel
theorem dX12_setTable_25 : decode cX12_setTable 25 = .ok (.iconst 0, 1) := by decide +kernel
theorem dX12_setTable_26 : decode cX12_setTable 26 = .ok (.istore_n 3, 1) := by decide +kernel
theorem dX12_setTable_27 : decode cX12_setTable 27 = .ok (.iload_n 3, 1) := by decide +kernel
theorem dX12_setTable_28 : decode cX12_setTable 28 = .ok (.sipush 244, 3) := by decide +kernel
theorem dX12_setTable_31 : decode cX12_setTable 31 = .ok (.if_icmp .ge 30, 3) := by decide +kernel
theorem dX12_setTable_34 : decode cX12_setTable 34 = .ok (.aload_n 0, 1) := by decide +kernel
theorem dX12_setTable_35 : decode cX12_setTable 35 = .ok (.getfield 65, 3) := by decide +kernel
theorem dX12_setTable_38 : decode cX12_setTable 38 = .ok (.sipush 244, 3) := by decide +kernel
theorem dX12_setTable_41 : decode cX12_setTable 41 = .ok (.aload_n 0, 1) := by decide +kernel
theorem dX12_setTable_42 : decode cX12_setTable 42 = .ok (.getfield 205, 3) := by decide +kernel
theorem dX12_setTable_45 : decode cX12_setTable 45 = .ok (.imul, 1) := by decide +kernel
theorem dX12_setTable_46 : decode cX12_setTable 46 = .ok (.iload_n 3, 1) := by decide +kernel
theorem dX12_setTable_47 : decode cX12_setTable 47 = .ok (.iadd, 1) := by decide +kernel
theorem dX12_setTable_48 : decode cX12_setTable 48 = .ok (.aload_n 0, 1) := by decide +kernel
theorem dX12_setTable_49 : decode cX12_setTable 49 = .ok (.iload_n 2, 1) := by decide +kernel
theorem dX12_setTable_50 : decode cX12_setTable 50 = .ok (.iload_n 3, 1) := by decide +kernel
theorem dX12_setTable_51 : decode cX12_setTable 51 = .ok (.invokevirtual 202, 3) := by decide +kernel
theorem dX12_setTable_54 : decode cX12_setTable 54 = .ok (.iastore, 1) := by decide +kernel
theorem dX12_setTable_55 : decode cX12_setTable 55 = .ok (.iinc 3 1, 3) := by decide +kernel
theorem dX12_setTable_58 : decode cX12_setTable 58 = .ok (.goto (-31), 3) := by decide +kernel
theorem dX12_setTable_61 : decode cX12_setTable 61 = .ok (.aload_n 0, 1) := by decide +kernel
theorem dX12_setTable_62 : decode cX12_setTable 62 = .ok (.dup, 1) := by decide +kernel
theorem dX12_setTable_63 : decode cX12_setTable 63 = .ok (.getfield 205, 3) := by decide +kernel
theorem dX12_setTable_66 : decode cX12_setTable 66 = .ok (.iconst 1, 1) := by decide +kernel
theorem dX12_setTable_67 : decode cX12_setTable 67 = .ok (.iadd, 1) := by decide +kernel
theorem dX12_setTable_68 : decode cX12_setTable 68 = .ok (.putfield 205, 3) := by decide +kernel
theorem dX12_setTable_71 : decode cX12_setTable 71 = .ok (.iinc 2 1, 3) := by decide +kernel
theorem dX12_setTable_74 : decode cX12_setTable 74 = .ok (.goto (-67), 3) := by decide +kernel
theorem dX12_setTable_77 : decode cX12_setTable 77 = .ok (.return_, 1) := by decide +kernel
theorem dX12_sumBy_0 : decode cX12_sumBy 0 = .ok (.iconst 0, 1) := by decide +kernel
theorem dX12_sumBy_1 : decode cX12_sumBy 1 = .ok (.istore_n 2, 1) := by decide +kernel
theorem dX12_sumBy_2 : decode cX12_sumBy 2 = .ok (.iconst 0, 1) := by decide +kernel
theorem dX12_sumBy_3 : decode cX12_sumBy 3 = .ok (.istore_n 3, 1) := by decide +kernel
theorem dX12_sumBy_4 : decode cX12_sumBy 4 = .ok (.iload_n 3, 1) := by decide +kernel
theorem dX12_sumBy_5 : decode cX12_sumBy 5 = .ok (.aload_n 0, 1) := by decide +kernel
theorem dX12_sumBy_6 : decode cX12_sumBy 6 = .ok (.getfield 205, 3) := by decide +kernel
theorem dX12_sumBy_9 : decode cX12_sumBy 9 = .ok (.if_icmp .ge 24, 3) := by decide +kernel
theorem dX12_sumBy_12 : decode cX12_sumBy 12 = .ok (.iload_n 2, 1) := by decide +kernel
theorem dX12_sumBy_13 : decode cX12_sumBy 13 = .ok (.aload_n 0, 1) := by decide +kernel
theorem dX12_sumBy_14 : decode cX12_sumBy 14 = .ok (.getfield 65, 3) := by decide +kernel
theorem dX12_sumBy_17 : decode cX12_sumBy 17 = .ok (.sipush 244, 3) := by decide +kernel
theorem dX12_sumBy_20 : decode cX12_sumBy 20 = .ok (.iload_n 3, 1) := by decide +kernel
theorem dX12_sumBy_21 : decode cX12_sumBy 21 = .ok (.imul, 1) := by decide +kernel
theorem dX12_sumBy_22 : decode cX12_sumBy 22 = .ok (.iload_n 1, 1) := by decide +kernel
theorem dX12_sumBy_23 : decode cX12_sumBy 23 = .ok (.iadd, 1) := by decide +kernel
theorem dX12_sumBy_24 : decode cX12_sumBy 24 = .ok (.iaload, 1) := by decide +kernel
theorem dX12_sumBy_25 : decode cX12_sumBy 25 = .ok (.iadd, 1) := by decide +kernel
theorem dX12_sumBy_26 : decode cX12_sumBy 26 = .ok (.istore_n 2, 1) := by decide +kernel
theorem dX12_sumBy_27 : decode cX12_sumBy 27 = .ok (.iinc 3 1, 3) := by decide +kernel
theorem dX12_sumBy_30 : decode cX12_sumBy 30 = .ok (.goto (-26), 3) := by decide +kernel
theorem dX12_sumBy_33 : decode cX12_sumBy 33 = .ok (.iload_n 2, 1) := by decide +kernel
theorem dX12_sumBy_34 : decode cX12_sumBy 34 = .ok (.ireturn, 1) := by decide +kernel
theorem dX12_sumByTwo_0 : decode cX12_sumByTwo 0 = .ok (.aload_n 0, 1) := by decide +kernel
theorem dX12_sumByTwo_1 : decode cX12_sumByTwo 1 = .ok (.getfield 62, 3) := by decide +kernel
theorem dX12_sumByTwo_4 : decode cX12_sumByTwo 4 = .ok (.iconst 2, 1) := by decide +kernel
theorem dX12_sumByTwo_5 : decode cX12_sumByTwo 5 = .ok (.iaload, 1) := by decide +kernel
theorem dX12_sumByTwo_6 : decode cX12_sumByTwo 6 = .ok (.istore_n 3, 1) := by decide +kernel
theorem dX12_sumByTwo_7 : decode cX12_sumByTwo 7 = .ok (.iconst 0, 1) := by decide +kernel
theorem dX12_sumByTwo_8 : decode cX12_sumByTwo 8 = .ok (.istore 4, 2) := by decide +kernel
theorem dX12_sumByTwo_10 : decode cX12_sumByTwo 10 = .ok (.iload 4, 2) := by decide +kernel
theorem dX12_sumByTwo_12 : decode cX12_sumByTwo 12 = .ok (.aload_n 0, 1) := by decide +kernel
theorem dX12_sumByTwo_13 : decode cX12_sumByTwo 13 = .ok (.getfield 205, 3) := by decide +kernel
theorem dX12_sumByTwo_16 : decode cX12_sumByTwo 16 = .ok (.if_icmp .ge 56, 3) := by decide +kernel
theorem dX12_sumByTwo_19 : decode cX12_sumByTwo 19 = .ok (.aload_n 0, 1) := by decide +kernel
theorem dX12_sumByTwo_20 : decode cX12_sumByTwo 20 = .ok (.getfield 65, 3) := by decide +kernel
theorem dX12_sumByTwo_23 : decode cX12_sumByTwo 23 = .ok (.sipush 244, 3) := by decide +kernel
theorem dX12_sumByTwo_26 : decode cX12_sumByTwo 26 = .ok (.iload 4, 2) := by decide +kernel
theorem dX12_sumByTwo_28 : decode cX12_sumByTwo 28 = .ok (.imul, 1) := by decide +kernel
theorem dX12_sumByTwo_29 : decode cX12_sumByTwo 29 = .ok (.iload_n 1, 1) := by decide +kernel
theorem dX12_sumByTwo_30 : decode cX12_sumByTwo 30 = .ok (.iadd, 1) := by decide +kernel
theorem dX12_sumByTwo_31 : decode cX12_sumByTwo 31 = .ok (.iaload, 1) := by decide +kernel
theorem dX12_sumByTwo_32 : decode cX12_sumByTwo 32 = .ok (.istore 5, 2) := by decide +kernel
theorem dX12_sumByTwo_34 : decode cX12_sumByTwo 34 = .ok (.aload_n 0, 1) := by decide +kernel
theorem dX12_sumByTwo_35 : decode cX12_sumByTwo 35 = .ok (.getfield 65, 3) := by decide +kernel
theorem dX12_sumByTwo_38 : decode cX12_sumByTwo 38 = .ok (.sipush 244, 3) := by decide +kernel
theorem dX12_sumByTwo_41 : decode cX12_sumByTwo 41 = .ok (.iload 4, 2) := by decide +kernel
theorem dX12_sumByTwo_43 : decode cX12_sumByTwo 43 = .ok (.imul, 1) := by decide +kernel
theorem dX12_sumByTwo_44 : decode cX12_sumByTwo 44 = .ok (.iload_n 2, 1) := by decide +kernel
theorem dX12_sumByTwo_45 : decode cX12_sumByTwo 45 = .ok (.iadd, 1) := by decide +kernel
theorem dX12_sumByTwo_46 : decode cX12_sumByTwo 46 = .ok (.iaload, 1) := by decide +kernel
theorem dX12_sumByTwo_47 : decode cX12_sumByTwo 47 = .ok (.istore 6, 2) := by decide +kernel
theorem dX12_sumByTwo_49 : decode cX12_sumByTwo 49 = .ok (.iload_n 3, 1) := by decide +kernel
theorem dX12_sumByTwo_50 : decode cX12_sumByTwo 50 = .ok (.iload 5, 2) := by decide +kernel
theorem dX12_sumByTwo_52 : decode cX12_sumByTwo 52 = .ok (.iload 6, 2) := by decide +kernel
theorem dX12_sumByTwo_54 : decode cX12_sumByTwo 54 = .ok (.if_icmp .ge 8, 3) := by decide +kernel
theorem dX12_sumByTwo_57 : decode cX12_sumByTwo 57 = .ok (.iload 5, 2) := by decide +kernel
theorem dX12_sumByTwo_59 : decode cX12_sumByTwo 59 = .ok (.goto 5, 3) := by decide +kernel
theorem dX12_sumByTwo_62 : decode cX12_sumByTwo 62 = .ok (.iload 6, 2) := by decide +kernel
theorem dX12_sumByTwo_64 : decode cX12_sumByTwo 64 = .ok (.iadd, 1) := by decide +kernel
theorem dX12_sumByTwo_65 : decode cX12_sumByTwo 65 = .ok (.istore_n 3, 1) := by decide +kernel
theorem dX12_sumByTwo_66 : decode cX12_sumByTwo 66 = .ok (.iinc 4 1, 3) := by decide +kernel
theorem dX12_sumByTwo_69 : decode cX12_sumByTwo 69 = .ok (.goto (-59), 3) := by decide +kernel
theorem dX12_sumByTwo_72 : decode cX12_sumByTwo 72 = .ok (.iload_n 3, 1) := by decide +kernel
theorem dX12_sumByTwo_73 : decode cX12_sumByTwo 73 = .ok (.ireturn, 1) := by decide +kernel
theorem dX12_settles_0 : decode cX12_settles 0 = .ok (.aload_n 0, 1) := by decide +kernel
theorem dX12_settles_1 : decode cX12_settles 1 = .ok (.iload_n 1, 1) := by decide +kernel
theorem dX12_settles_2 : decode cX12_settles 2 = .ok (.invokevirtual 208, 3) := by decide +kernel
theorem dX12_settles_5 : decode cX12_settles 5 = .ok (.aload_n 0, 1) := by decide +kernel
theorem dX12_settles_6 : decode cX12_settles 6 = .ok (.iconst 0, 1) := by decide +kernel
theorem dX12_settles_7 : decode cX12_settles 7 = .ok (.putfield 212, 3) := by decide +kernel
theorem dX12_settles_10 : decode cX12_settles 10 = .ok (.aload_n 0, 1) := by decide +kernel
theorem dX12_settles_11 : decode cX12_settles 11 = .ok (.bipush (-9), 2) := by decide +kernel
theorem dX12_settles_13 : decode cX12_settles 13 = .ok (.putfield 215, 3) := by decide +kernel
theorem dX12_settles_16 : decode cX12_settles 16 = .ok (.aload_n 0, 1) := by decide +kernel
theorem dX12_settles_17 : decode cX12_settles 17 = .ok (.ldc 218, 2) := by decide +kernel
theorem dX12_settles_19 : decode cX12_settles 19 = .ok (.putfield 219, 3) := by decide +kernel
theorem dX12_settles_22 : decode cX12_settles 22 = .ok (.iconst 0, 1) := by decide +kernel
theorem dX12_settles_23 : decode cX12_settles 23 = .ok (.istore_n 2, 1) := by decide +kernel
theorem dX12_settles_24 : decode cX12_settles 24 = .ok (.iload_n 2, 1) := by decide +kernel
theorem dX12_settles_25 : decode cX12_settles 25 = .ok (.sipush 244, 3) := by decide +kernel
theorem dX12_settles_28 : decode cX12_settles 28 = .ok (.if_icmp .ge 55, 3) := by decide +kernel
theorem dX12_settles_31 : decode cX12_settles 31 = .ok (.aload_n 0, 1) := by decide +kernel
theorem dX12_settles_32 : decode cX12_settles 32 = .ok (.iload_n 2, 1) := by decide +kernel
theorem dX12_settles_33 : decode cX12_settles 33 = .ok (.invokevirtual 222, 3) := by decide +kernel
theorem dX12_settles_36 : decode cX12_settles 36 = .ok (.istore_n 3, 1) := by decide +kernel
theorem dX12_settles_37 : decode cX12_settles 37 = .ok (.aload_n 0, 1) := by decide +kernel
theorem dX12_settles_38 : decode cX12_settles 38 = .ok (.iload_n 3, 1) := by decide +kernel
theorem dX12_settles_39 : decode cX12_settles 39 = .ok (.aload_n 0, 1) := by decide +kernel
theorem dX12_settles_40 : decode cX12_settles 40 = .ok (.getfield 219, 3) := by decide +kernel
theorem dX12_settles_43 : decode cX12_settles 43 = .ok (.if_icmp .ge 7, 3) := by decide +kernel
theorem dX12_settles_46 : decode cX12_settles 46 = .ok (.iload_n 2, 1) := by decide +kernel
theorem dX12_settles_47 : decode cX12_settles 47 = .ok (.goto 7, 3) := by decide +kernel
theorem dX12_settles_50 : decode cX12_settles 50 = .ok (.aload_n 0, 1) := by decide +kernel
theorem dX12_settles_51 : decode cX12_settles 51 = .ok (.getfield 212, 3) := by decide +kernel
theorem dX12_settles_54 : decode cX12_settles 54 = .ok (.putfield 212, 3) := by decide +kernel
theorem dX12_settles_57 : decode cX12_settles 57 = .ok (.aload_n 0, 1) := by decide +kernel
theorem dX12_settles_58 : decode cX12_settles 58 = .ok (.iload_n 3, 1) := by decide +kernel
theorem dX12_settles_59 : decode cX12_settles 59 = .ok (.aload_n 0, 1) := by decide +kernel
theorem dX12_settles_60 : decode cX12_settles 60 = .ok (.getfield 219, 3) := by decide +kernel
theorem dX12_settles_63 : decode cX12_settles 63 = .ok (.if_icmp .ge 7, 3) := by decide +kernel
theorem dX12_settles_66 : decode cX12_settles 66 = .ok (.iload_n 3, 1) := by decide +kernel
theorem dX12_settles_67 : decode cX12_settles 67 = .ok (.goto 7, 3) := by decide +kernel
theorem dX12_settles_70 : decode cX12_settles 70 = .ok (.aload_n 0, 1) := by decide +kernel
theorem dX12_settles_71 : decode cX12_settles 71 = .ok (.getfield 219, 3) := by decide +kernel
theorem dX12_settles_74 : decode cX12_settles 74 = .ok (.putfield 219, 3) := by decide +kernel
theorem dX12_settles_77 : decode cX12_settles 77 = .ok (.iinc 2 1, 3) := by decide +kernel
theorem dX12_settles_80 : decode cX12_settles 80 = .ok (.goto (-56), 3) := by decide +kernel
theorem dX12_settles_83 : decode cX12_settles 83 = .ok (.aload_n 0, 1) := by decide +kernel
theorem dX12_settles_84 : decode cX12_settles 84 = .ok (.aload_n 0, 1) := by decide +kernel
theorem dX12_settles_85 : decode cX12_settles 85 = .ok (.getfield 219, 3) := by decide +kernel
theorem dX12_settles_88 : decode cX12_settles 88 = .ok (.putfield 225, 3) := by decide +kernel
theorem dX12_settles_91 : decode cX12_settles 91 = .ok (.iconst 0, 1) := by decide +kernel
theorem dX12_settles_92 : decode cX12_settles 92 = .ok (.istore_n 2, 1) := by decide +kernel
theorem dX12_settles_93 : decode cX12_settles 93 = .ok (.iload_n 2, 1) := by decide +kernel
theorem dX12_settles_94 : decode cX12_settles 94 = .ok (.sipush 244, 3) := by decide +kernel
theorem dX12_settles_97 : decode cX12_settles 97 = .ok (.if_icmp .ge 72, 3) := by decide +kernel
theorem dX12_settles_100 : decode cX12_settles 100 = .ok (.aload_n 0, 1) := by decide +kernel
theorem dX12_settles_101 : decode cX12_settles 101 = .ok (.getfield 225, 3) := by decide +kernel
theorem dX12_settles_104 : decode cX12_settles 104 = .ok (.aload_n 0, 1) := by decide +kernel
theorem dX12_settles_105 : decode cX12_settles 105 = .ok (.getfield 62, 3) := by decide +kernel
theorem dX12_settles_108 : decode cX12_settles 108 = .ok (.iconst 2, 1) := by decide +kernel
theorem dX12_settles_109 : decode cX12_settles 109 = .ok (.iaload, 1) := by decide +kernel
theorem dX12_settles_110 : decode cX12_settles 110 = .ok (.if_icmp .le 59, 3) := by decide +kernel
theorem dX12_settles_113 : decode cX12_settles 113 = .ok (.iload_n 2, 1) := by decide +kernel
theorem dX12_settles_114 : decode cX12_settles 114 = .ok (.iconst 1, 1) := by decide +kernel
theorem dX12_settles_115 : decode cX12_settles 115 = .ok (.iadd, 1) := by decide +kernel
theorem dX12_settles_116 : decode cX12_settles 116 = .ok (.istore_n 3, 1) := by decide +kernel
theorem dX12_settles_117 : decode cX12_settles 117 = .ok (.iload_n 3, 1) := by decide +kernel
theorem dX12_settles_118 : decode cX12_settles 118 = .ok (.sipush 244, 3) := by decide +kernel
theorem dX12_settles_121 : decode cX12_settles 121 = .ok (.if_icmp .ge 42, 3) := by decide +kernel
theorem dX12_settles_124 : decode cX12_settles 124 = .ok (.aload_n 0, 1) := by decide +kernel
theorem dX12_settles_125 : decode cX12_settles 125 = .ok (.iload_n 2, 1) := by decide +kernel
theorem dX12_settles_126 : decode cX12_settles 126 = .ok (.iload_n 3, 1) := by decide +kernel
theorem dX12_settles_127 : decode cX12_settles 127 = .ok (.invokevirtual 228, 3) := by decide +kernel
theorem dX12_settles_130 : decode cX12_settles 130 = .ok (.istore 4, 2) := by decide +kernel
theorem dX12_settles_132 : decode cX12_settles 132 = .ok (.iload 4, 2) := by decide +kernel
theorem dX12_settles_134 : decode cX12_settles 134 = .ok (.aload_n 0, 1) := by decide +kernel
theorem dX12_settles_135 : decode cX12_settles 135 = .ok (.getfield 225, 3) := by decide +kernel
theorem dX12_settles_138 : decode cX12_settles 138 = .ok (.if_icmp .ge 19, 3) := by decide +kernel
theorem dX12_settles_141 : decode cX12_settles 141 = .ok (.aload_n 0, 1) := by decide +kernel
theorem dX12_settles_142 : decode cX12_settles 142 = .ok (.iload 4, 2) := by decide +kernel
theorem dX12_settles_144 : decode cX12_settles 144 = .ok (.putfield 225, 3) := by decide +kernel
theorem dX12_settles_147 : decode cX12_settles 147 = .ok (.aload_n 0, 1) := by decide +kernel
theorem dX12_settles_148 : decode cX12_settles 148 = .ok (.iload_n 2, 1) := by decide +kernel
theorem dX12_settles_149 : decode cX12_settles 149 = .ok (.putfield 212, 3) := by decide +kernel
theorem dX12_settles_152 : decode cX12_settles 152 = .ok (.aload_n 0, 1) := by decide +kernel
theorem dX12_settles_153 : decode cX12_settles 153 = .ok (.iload_n 3, 1) := by decide +kernel
theorem dX12_settles_154 : decode cX12_settles 154 = .ok (.putfield 215, 3) := by decide +kernel
theorem dX12_settles_157 : decode cX12_settles 157 = .ok (.iinc 3 1, 3) := by decide +kernel
theorem dX12_settles_160 : decode cX12_settles 160 = .ok (.goto (-43), 3) := by decide +kernel
theorem dX12_settles_163 : decode cX12_settles 163 = .ok (.iinc 2 1, 3) := by decide +kernel
theorem dX12_settles_166 : decode cX12_settles 166 = .ok (.goto (-73), 3) := by decide +kernel
theorem dX12_settles_169 : decode cX12_settles 169 = .ok (.return_, 1) := by decide +kernel
theorem dX12_settle_0 : decode cX12_settle 0 = .ok (.aload_n 0, 1) := by decide +kernel
theorem dX12_settle_1 : decode cX12_settle 1 = .ok (.iload_n 1, 1) := by decide +kernel
theorem dX12_settle_2 : decode cX12_settle 2 = .ok (.invokevirtual 137, 3) := by decide +kernel
theorem dX12_settle_5 : decode cX12_settle 5 = .ok (.ifCond .ne 5, 3) := by decide +kernel
theorem dX12_settle_8 : decode cX12_settle 8 = .ok (.iconst (-1), 1) := by decide +kernel
theorem dX12_settle_9 : decode cX12_settle 9 = .ok (.ireturn, 1) := by decide +kernel
theorem dX12_settle_10 : decode cX12_settle 10 = .ok (.aload_n 0, 1) := by decide +kernel
theorem dX12_settle_11 : decode cX12_settle 11 = .ok (.iload_n 1, 1) := by decide +kernel
theorem dX12_settle_12 : decode cX12_settle 12 = .ok (.invokevirtual 231, 3) := by decide +kernel
theorem dX12_settle_15 : decode cX12_settle 15 = .ok (.aload_n 0, 1) := by decide +kernel
theorem dX12_settle_16 : decode cX12_settle 16 = .ok (.aload_n 0, 1) := by decide +kernel
theorem dX12_settle_17 : decode cX12_settle 17 = .ok (.getfield 212, 3) := by decide +kernel
theorem dX12_settle_20 : decode cX12_settle 20 = .ok (.aload_n 0, 1) := by decide +kernel
theorem dX12_settle_21 : decode cX12_settle 21 = .ok (.getfield 225, 3) := by decide +kernel
theorem dX12_settle_24 : decode cX12_settle 24 = .ok (.invokevirtual 119, 3) := by decide +kernel
theorem dX12_settle_27 : decode cX12_settle 27 = .ok (.ireturn, 1) := by decide +kernel
theorem dX12_second_0 : decode cX12_second 0 = .ok (.aload_n 0, 1) := by decide +kernel
theorem dX12_second_1 : decode cX12_second 1 = .ok (.iload_n 1, 1) := by decide +kernel
theorem dX12_second_2 : decode cX12_second 2 = .ok (.invokevirtual 137, 3) := by decide +kernel
theorem dX12_second_5 : decode cX12_second 5 = .ok (.ifCond .ne 5, 3) := by decide +kernel
theorem dX12_second_8 : decode cX12_second 8 = .ok (.iconst (-1), 1) := by decide +kernel
theorem dX12_second_9 : decode cX12_second 9 = .ok (.ireturn, 1) := by decide +kernel
theorem dX12_second_10 : decode cX12_second 10 = .ok (.aload_n 0, 1) := by decide +kernel
theorem dX12_second_11 : decode cX12_second 11 = .ok (.iload_n 1, 1) := by decide +kernel
theorem dX12_second_12 : decode cX12_second 12 = .ok (.invokevirtual 231, 3) := by decide +kernel
theorem dX12_second_15 : decode cX12_second 15 = .ok (.aload_n 0, 1) := by decide +kernel
theorem dX12_second_16 : decode cX12_second 16 = .ok (.getfield 215, 3) := by decide +kernel
theorem dX12_second_19 : decode cX12_second 19 = .ok (.ireturn, 1) := by decide +kernel
theorem dX12_setCheap_0 : decode cX12_setCheap 0 = .ok (.aload_n 0, 1) := by decide +kernel
theorem dX12_setCheap_1 : decode cX12_setCheap 1 = .ok (.iload_n 1, 1) := by decide +kernel
theorem dX12_setCheap_2 : decode cX12_setCheap 2 = .ok (.invokevirtual 208, 3) := by decide +kernel
theorem dX12_setCheap_5 : decode cX12_setCheap 5 = .ok (.ldc 218, 2) := by decide +kernel
theorem dX12_setCheap_7 : decode cX12_setCheap 7 = .ok (.istore_n 2, 1) := by decide +kernel
theorem dX12_setCheap_8 : decode cX12_setCheap 8 = .ok (.iconst 0, 1) := by decide +kernel
theorem dX12_setCheap_9 : decode cX12_setCheap 9 = .ok (.istore_n 3, 1) := by decide +kernel
theorem dX12_setCheap_10 : decode cX12_setCheap 10 = .ok (.iload_n 3, 1) := by decide +kernel
theorem dX12_setCheap_11 : decode cX12_setCheap 11 = .ok (.sipush 244, 3) := by decide +kernel
theorem dX12_setCheap_14 : decode cX12_setCheap 14 = .ok (.if_icmp .ge 29, 3) := by decide +kernel
theorem dX12_setCheap_17 : decode cX12_setCheap 17 = .ok (.aload_n 0, 1) := by decide +kernel
theorem dX12_setCheap_18 : decode cX12_setCheap 18 = .ok (.iload_n 3, 1) := by decide +kernel
theorem dX12_setCheap_19 : decode cX12_setCheap 19 = .ok (.invokevirtual 222, 3) := by decide +kernel
theorem dX12_setCheap_22 : decode cX12_setCheap 22 = .ok (.istore 4, 2) := by decide +kernel
theorem dX12_setCheap_24 : decode cX12_setCheap 24 = .ok (.iload 4, 2) := by decide +kernel
theorem dX12_setCheap_26 : decode cX12_setCheap 26 = .ok (.iload_n 2, 1) := by decide +kernel
theorem dX12_setCheap_27 : decode cX12_setCheap 27 = .ok (.if_icmp .ge 8, 3) := by decide +kernel
theorem dX12_setCheap_30 : decode cX12_setCheap 30 = .ok (.iload 4, 2) := by decide +kernel
theorem dX12_setCheap_32 : decode cX12_setCheap 32 = .ok (.goto 4, 3) := by decide +kernel
theorem dX12_setCheap_35 : decode cX12_setCheap 35 = .ok (.iload_n 2, 1) := by decide +kernel
theorem dX12_setCheap_36 : decode cX12_setCheap 36 = .ok (.istore_n 2, 1) := by decide +kernel
theorem dX12_setCheap_37 : decode cX12_setCheap 37 = .ok (.iinc 3 1, 3) := by decide +kernel
theorem dX12_setCheap_40 : decode cX12_setCheap 40 = .ok (.goto (-30), 3) := by decide +kernel
theorem dX12_setCheap_43 : decode cX12_setCheap 43 = .ok (.iconst 0, 1) := by decide +kernel
theorem dX12_setCheap_44 : decode cX12_setCheap 44 = .ok (.istore_n 3, 1) := by decide +kernel
theorem dX12_setCheap_45 : decode cX12_setCheap 45 = .ok (.iload_n 3, 1) := by decide +kernel
theorem dX12_setCheap_46 : decode cX12_setCheap 46 = .ok (.sipush 244, 3) := by decide +kernel
theorem dX12_setCheap_49 : decode cX12_setCheap 49 = .ok (.if_icmp .ge 29, 3) := by decide +kernel
theorem dX12_setCheap_52 : decode cX12_setCheap 52 = .ok (.aload_n 0, 1) := by decide +kernel
theorem dX12_setCheap_53 : decode cX12_setCheap 53 = .ok (.getfield 68, 3) := by decide +kernel
theorem dX12_setCheap_56 : decode cX12_setCheap 56 = .ok (.iload_n 3, 1) := by decide +kernel
theorem dX12_setCheap_57 : decode cX12_setCheap 57 = .ok (.aload_n 0, 1) := by decide +kernel
theorem dX12_setCheap_58 : decode cX12_setCheap 58 = .ok (.iload_n 3, 1) := by decide +kernel
theorem dX12_setCheap_59 : decode cX12_setCheap 59 = .ok (.invokevirtual 222, 3) := by decide +kernel
theorem dX12_setCheap_62 : decode cX12_setCheap 62 = .ok (.iload_n 2, 1) := by decide +kernel
theorem dX12_setCheap_63 : decode cX12_setCheap 63 = .ok (.if_icmp .ne 7, 3) := by decide +kernel
theorem dX12_setCheap_66 : decode cX12_setCheap 66 = .ok (.iconst 1, 1) := by decide +kernel
theorem dX12_setCheap_67 : decode cX12_setCheap 67 = .ok (.goto 4, 3) := by decide +kernel
theorem dX12_setCheap_70 : decode cX12_setCheap 70 = .ok (.iconst 0, 1) := by decide +kernel
theorem dX12_setCheap_71 : decode cX12_setCheap 71 = .ok (.bastore, 1) := by decide +kernel
theorem dX12_setCheap_72 : decode cX12_setCheap 72 = .ok (.iinc 3 1, 3) := by decide +kernel
theorem dX12_setCheap_75 : decode cX12_setCheap 75 = .ok (.goto (-30), 3) := by decide +kernel
theorem dX12_setCheap_78 : decode cX12_setCheap 78 = .ok (.return_, 1) := by decide +kernel
theorem dX12_cheap_0 : decode cX12_cheap 0 = .ok (.aload_n 0, 1) := by decide +kernel
theorem dX12_cheap_1 : decode cX12_cheap 1 = .ok (.iload_n 1, 1) := by decide +kernel
theorem dX12_cheap_2 : decode cX12_cheap 2 = .ok (.invokevirtual 137, 3) := by decide +kernel
theorem dX12_cheap_5 : decode cX12_cheap 5 = .ok (.ifCond .ne 5, 3) := by decide +kernel
theorem dX12_cheap_8 : decode cX12_cheap 8 = .ok (.iconst (-1), 1) := by decide +kernel
theorem dX12_cheap_9 : decode cX12_cheap 9 = .ok (.ireturn, 1) := by decide +kernel
theorem dX12_cheap_10 : decode cX12_cheap 10 = .ok (.aload_n 0, 1) := by decide +kernel
theorem dX12_cheap_11 : decode cX12_cheap 11 = .ok (.iload_n 1, 1) := by decide +kernel
theorem dX12_cheap_12 : decode cX12_cheap 12 = .ok (.invokevirtual 234, 3) := by decide +kernel
theorem dX12_cheap_15 : decode cX12_cheap 15 = .ok (.iconst 0, 1) := by decide +kernel
theorem dX12_cheap_16 : decode cX12_cheap 16 = .ok (.istore_n 2, 1) := by decide +kernel
theorem dX12_cheap_17 : decode cX12_cheap 17 = .ok (.iconst 0, 1) := by decide +kernel
theorem dX12_cheap_18 : decode cX12_cheap 18 = .ok (.istore_n 3, 1) := by decide +kernel
theorem dX12_cheap_19 : decode cX12_cheap 19 = .ok (.iconst 0, 1) := by decide +kernel
theorem dX12_cheap_20 : decode cX12_cheap 20 = .ok (.istore 4, 2) := by decide +kernel
theorem dX12_cheap_22 : decode cX12_cheap 22 = .ok (.iload 4, 2) := by decide +kernel
theorem dX12_cheap_24 : decode cX12_cheap 24 = .ok (.sipush 244, 3) := by decide +kernel
theorem dX12_cheap_27 : decode cX12_cheap 27 = .ok (.if_icmp .ge 44, 3) := by decide +kernel
theorem dX12_cheap_30 : decode cX12_cheap 30 = .ok (.iload_n 2, 1) := by decide +kernel
theorem dX12_cheap_31 : decode cX12_cheap 31 = .ok (.aload_n 0, 1) := by decide +kernel
theorem dX12_cheap_32 : decode cX12_cheap 32 = .ok (.getfield 68, 3) := by decide +kernel
theorem dX12_cheap_35 : decode cX12_cheap 35 = .ok (.iload 4, 2) := by decide +kernel
theorem dX12_cheap_37 : decode cX12_cheap 37 = .ok (.baload, 1) := by decide +kernel
theorem dX12_cheap_38 : decode cX12_cheap 38 = .ok (.ifCond .eq 7, 3) := by decide +kernel
theorem dX12_cheap_41 : decode cX12_cheap 41 = .ok (.iconst 1, 1) := by decide +kernel
theorem dX12_cheap_42 : decode cX12_cheap 42 = .ok (.goto 4, 3) := by decide +kernel
theorem dX12_cheap_45 : decode cX12_cheap 45 = .ok (.iconst 0, 1) := by decide +kernel
theorem dX12_cheap_46 : decode cX12_cheap 46 = .ok (.iadd, 1) := by decide +kernel
theorem dX12_cheap_47 : decode cX12_cheap 47 = .ok (.istore_n 2, 1) := by decide +kernel
theorem dX12_cheap_48 : decode cX12_cheap 48 = .ok (.aload_n 0, 1) := by decide +kernel
theorem dX12_cheap_49 : decode cX12_cheap 49 = .ok (.getfield 68, 3) := by decide +kernel
theorem dX12_cheap_52 : decode cX12_cheap 52 = .ok (.iload 4, 2) := by decide +kernel
theorem dX12_cheap_54 : decode cX12_cheap 54 = .ok (.baload, 1) := by decide +kernel
theorem dX12_cheap_55 : decode cX12_cheap 55 = .ok (.ifCond .eq 8, 3) := by decide +kernel
theorem dX12_cheap_58 : decode cX12_cheap 58 = .ok (.iload 4, 2) := by decide +kernel
theorem dX12_cheap_60 : decode cX12_cheap 60 = .ok (.goto 4, 3) := by decide +kernel
theorem dX12_cheap_63 : decode cX12_cheap 63 = .ok (.iload_n 3, 1) := by decide +kernel
theorem dX12_cheap_64 : decode cX12_cheap 64 = .ok (.istore_n 3, 1) := by decide +kernel
theorem dX12_cheap_65 : decode cX12_cheap 65 = .ok (.iinc 4 1, 3) := by decide +kernel
theorem dX12_cheap_68 : decode cX12_cheap 68 = .ok (.goto (-46), 3) := by decide +kernel
theorem dX12_cheap_71 : decode cX12_cheap 71 = .ok (.aload_n 0, 1) := by decide +kernel
theorem dX12_cheap_72 : decode cX12_cheap 72 = .ok (.iload_n 3, 1) := by decide +kernel
theorem dX12_cheap_73 : decode cX12_cheap 73 = .ok (.iload_n 2, 1) := by decide +kernel
theorem dX12_cheap_74 : decode cX12_cheap 74 = .ok (.invokevirtual 119, 3) := by decide +kernel
theorem dX12_cheap_77 : decode cX12_cheap 77 = .ok (.ireturn, 1) := by decide +kernel
theorem dX12_cheapAt_0 : decode cX12_cheapAt 0 = .ok (.aload_n 0, 1) := by decide +kernel
theorem dX12_cheapAt_1 : decode cX12_cheapAt 1 = .ok (.iload_n 1, 1) := by decide +kernel
theorem dX12_cheapAt_2 : decode cX12_cheapAt 2 = .ok (.invokevirtual 137, 3) := by decide +kernel
theorem dX12_cheapAt_5 : decode cX12_cheapAt 5 = .ok (.ifCond .eq 7, 3) := by decide +kernel
theorem dX12_cheapAt_8 : decode cX12_cheapAt 8 = .ok (.iload_n 2, 1) := by decide +kernel
theorem dX12_cheapAt_9 : decode cX12_cheapAt 9 = .ok (.ifCond .ge 5, 3) := by decide +kernel
theorem dX12_cheapAt_12 : decode cX12_cheapAt 12 = .ok (.iconst (-1), 1) := by decide +kernel
theorem dX12_cheapAt_13 : decode cX12_cheapAt 13 = .ok (.ireturn, 1) := by decide +kernel
theorem dX12_cheapAt_14 : decode cX12_cheapAt 14 = .ok (.aload_n 0, 1) := by decide +kernel
theorem dX12_cheapAt_15 : decode cX12_cheapAt 15 = .ok (.iload_n 1, 1) := by decide +kernel
theorem dX12_cheapAt_16 : decode cX12_cheapAt 16 = .ok (.invokevirtual 234, 3) := by decide +kernel
theorem dX12_cheapAt_19 : decode cX12_cheapAt 19 = .ok (.iconst 0, 1) := by decide +kernel
theorem dX12_cheapAt_20 : decode cX12_cheapAt 20 = .ok (.istore_n 3, 1) := by decide +kernel
theorem dX12_cheapAt_21 : decode cX12_cheapAt 21 = .ok (.iconst 0, 1) := by decide +kernel
theorem dX12_cheapAt_22 : decode cX12_cheapAt 22 = .ok (.istore 4, 2) := by decide +kernel
theorem dX12_cheapAt_24 : decode cX12_cheapAt 24 = .ok (.iload 4, 2) := by decide +kernel
theorem dX12_cheapAt_26 : decode cX12_cheapAt 26 = .ok (.sipush 244, 3) := by decide +kernel
theorem dX12_cheapAt_29 : decode cX12_cheapAt 29 = .ok (.if_icmp .ge 30, 3) := by decide +kernel
theorem dX12_cheapAt_32 : decode cX12_cheapAt 32 = .ok (.aload_n 0, 1) := by decide +kernel
theorem dX12_cheapAt_33 : decode cX12_cheapAt 33 = .ok (.getfield 68, 3) := by decide +kernel
theorem dX12_cheapAt_36 : decode cX12_cheapAt 36 = .ok (.iload 4, 2) := by decide +kernel
theorem dX12_cheapAt_38 : decode cX12_cheapAt 38 = .ok (.baload, 1) := by decide +kernel
theorem dX12_cheapAt_39 : decode cX12_cheapAt 39 = .ok (.ifCond .eq 14, 3) := by decide +kernel
theorem dX12_cheapAt_42 : decode cX12_cheapAt 42 = .ok (.iload_n 3, 1) := by decide +kernel
theorem dX12_cheapAt_43 : decode cX12_cheapAt 43 = .ok (.iload_n 2, 1) := by decide +kernel
theorem dX12_cheapAt_44 : decode cX12_cheapAt 44 = .ok (.if_icmp .ne 6, 3) := by decide +kernel
theorem dX12_cheapAt_47 : decode cX12_cheapAt 47 = .ok (.iload 4, 2) := by decide +kernel
theorem dX12_cheapAt_49 : decode cX12_cheapAt 49 = .ok (.ireturn, 1) := by decide +kernel
theorem dX12_cheapAt_50 : decode cX12_cheapAt 50 = .ok (.iinc 3 1, 3) := by decide +kernel
theorem dX12_cheapAt_53 : decode cX12_cheapAt 53 = .ok (.iinc 4 1, 3) := by decide +kernel
theorem dX12_cheapAt_56 : decode cX12_cheapAt 56 = .ok (.goto (-32), 3) := by decide +kernel
theorem dX12_cheapAt_59 : decode cX12_cheapAt 59 = .ok (.bipush (-9), 2) := by decide +kernel
theorem dX12_cheapAt_61 : decode cX12_cheapAt 61 = .ok (.ireturn, 1) := by decide +kernel
theorem dX12_all_0 : decode cX12_all 0 = .ok (.iconst 0, 1) := by decide +kernel
theorem dX12_all_1 : decode cX12_all 1 = .ok (.istore_n 1, 1) := by decide +kernel
theorem dX12_all_2 : decode cX12_all 2 = .ok (.iconst 0, 1) := by decide +kernel
theorem dX12_all_3 : decode cX12_all 3 = .ok (.istore_n 2, 1) := by decide +kernel
theorem dX12_all_4 : decode cX12_all 4 = .ok (.iload_n 2, 1) := by decide +kernel
theorem dX12_all_5 : decode cX12_all 5 = .ok (.aload_n 0, 1) := by decide +kernel
theorem dX12_all_6 : decode cX12_all 6 = .ok (.getfield 128, 3) := by decide +kernel
theorem dX12_all_9 : decode cX12_all 9 = .ok (.if_icmp .ge 21, 3) := by decide +kernel
theorem dX12_all_12 : decode cX12_all 12 = .ok (.aload_n 0, 1) := by decide +kernel
theorem dX12_all_13 : decode cX12_all 13 = .ok (.iload_n 2, 1) := by decide +kernel
theorem dX12_all_14 : decode cX12_all 14 = .ok (.invokevirtual 231, 3) := by decide +kernel
theorem dX12_all_17 : decode cX12_all 17 = .ok (.iload_n 1, 1) := by decide +kernel
theorem dX12_all_18 : decode cX12_all 18 = .ok (.aload_n 0, 1) := by decide +kernel
theorem dX12_all_19 : decode cX12_all 19 = .ok (.getfield 225, 3) := by decide +kernel
theorem dX12_all_22 : decode cX12_all 22 = .ok (.iadd, 1) := by decide +kernel
theorem dX12_all_23 : decode cX12_all 23 = .ok (.istore_n 1, 1) := by decide +kernel
theorem dX12_all_24 : decode cX12_all 24 = .ok (.iinc 2 1, 3) := by decide +kernel
theorem dX12_all_27 : decode cX12_all 27 = .ok (.goto (-23), 3) := by decide +kernel
theorem dX12_all_30 : decode cX12_all 30 = .ok (.iload_n 1, 1) := by decide +kernel
theorem dX12_all_31 : decode cX12_all 31 = .ok (.ireturn, 1) := by decide +kernel
theorem dX12_setRules_0 : decode cX12_setRules 0 = .ok (.iconst 0, 1) := by decide +kernel
theorem dX12_setRules_1 : decode cX12_setRules 1 = .ok (.istore_n 1, 1) := by decide +kernel
theorem dX12_setRules_2 : decode cX12_setRules 2 = .ok (.iload_n 1, 1) := by decide +kernel
theorem dX12_setRules_3 : decode cX12_setRules 3 = .ok (.aload_n 0, 1) := by decide +kernel
theorem dX12_setRules_4 : decode cX12_setRules 4 = .ok (.getfield 128, 3) := by decide +kernel
theorem dX12_setRules_7 : decode cX12_setRules 7 = .ok (.if_icmp .ge 24, 3) := by decide +kernel
theorem dX12_setRules_10 : decode cX12_setRules 10 = .ok (.aload_n 0, 1) := by decide +kernel
theorem dX12_setRules_11 : decode cX12_setRules 11 = .ok (.iload_n 1, 1) := by decide +kernel
theorem dX12_setRules_12 : decode cX12_setRules 12 = .ok (.invokevirtual 231, 3) := by decide +kernel
theorem dX12_setRules_15 : decode cX12_setRules 15 = .ok (.aload_n 0, 1) := by decide +kernel
theorem dX12_setRules_16 : decode cX12_setRules 16 = .ok (.getfield 72, 3) := by decide +kernel
theorem dX12_setRules_19 : decode cX12_setRules 19 = .ok (.iload_n 1, 1) := by decide +kernel
theorem dX12_setRules_20 : decode cX12_setRules 20 = .ok (.aload_n 0, 1) := by decide +kernel
theorem dX12_setRules_21 : decode cX12_setRules 21 = .ok (.getfield 212, 3) := by decide +kernel
theorem dX12_setRules_24 : decode cX12_setRules 24 = .ok (.iastore, 1) := by decide +kernel
theorem dX12_setRules_25 : decode cX12_setRules 25 = .ok (.iinc 1 1, 3) := by decide +kernel
theorem dX12_setRules_28 : decode cX12_setRules 28 = .ok (.goto (-26), 3) := by decide +kernel
theorem dX12_setRules_31 : decode cX12_setRules 31 = .ok (.return_, 1) := by decide +kernel
theorem dX12_againstOf_0 : decode cX12_againstOf 0 = .ok (.iconst 0, 1) := by decide +kernel
theorem dX12_againstOf_1 : decode cX12_againstOf 1 = .ok (.istore_n 2, 1) := by decide +kernel
theorem dX12_againstOf_2 : decode cX12_againstOf 2 = .ok (.iconst 0, 1) := by decide +kernel
theorem dX12_againstOf_3 : decode cX12_againstOf 3 = .ok (.istore_n 3, 1) := by decide +kernel
theorem dX12_againstOf_4 : decode cX12_againstOf 4 = .ok (.iload_n 3, 1) := by decide +kernel
theorem dX12_againstOf_5 : decode cX12_againstOf 5 = .ok (.aload_n 0, 1) := by decide +kernel
theorem dX12_againstOf_6 : decode cX12_againstOf 6 = .ok (.getfield 128, 3) := by decide +kernel
theorem dX12_againstOf_9 : decode cX12_againstOf 9 = .ok (.if_icmp .ge 66, 3) := by decide +kernel
theorem dX12_againstOf_12 : decode cX12_againstOf 12 = .ok (.iload_n 2, 1) := by decide +kernel
theorem dX12_againstOf_13 : decode cX12_againstOf 13 = .ok (.iload_n 3, 1) := by decide +kernel
theorem dX12_againstOf_14 : decode cX12_againstOf 14 = .ok (.aload_n 0, 1) := by decide +kernel
theorem dX12_againstOf_15 : decode cX12_againstOf 15 = .ok (.getfield 44, 3) := by decide +kernel
theorem dX12_againstOf_18 : decode cX12_againstOf 18 = .ok (.iload_n 1, 1) := by decide +kernel
theorem dX12_againstOf_19 : decode cX12_againstOf 19 = .ok (.iaload, 1) := by decide +kernel
theorem dX12_againstOf_20 : decode cX12_againstOf 20 = .ok (.if_icmp .eq 46, 3) := by decide +kernel
theorem dX12_againstOf_23 : decode cX12_againstOf 23 = .ok (.aload_n 0, 1) := by decide +kernel
theorem dX12_againstOf_24 : decode cX12_againstOf 24 = .ok (.iload_n 3, 1) := by decide +kernel
theorem dX12_againstOf_25 : decode cX12_againstOf 25 = .ok (.invokevirtual 150, 3) := by decide +kernel
theorem dX12_againstOf_28 : decode cX12_againstOf 28 = .ok (.ifCond .le 38, 3) := by decide +kernel
theorem dX12_againstOf_31 : decode cX12_againstOf 31 = .ok (.aload_n 0, 1) := by decide +kernel
theorem dX12_againstOf_32 : decode cX12_againstOf 32 = .ok (.getfield 72, 3) := by decide +kernel
theorem dX12_againstOf_35 : decode cX12_againstOf 35 = .ok (.iload_n 3, 1) := by decide +kernel
theorem dX12_againstOf_36 : decode cX12_againstOf 36 = .ok (.iaload, 1) := by decide +kernel
theorem dX12_againstOf_37 : decode cX12_againstOf 37 = .ok (.aload_n 0, 1) := by decide +kernel
theorem dX12_againstOf_38 : decode cX12_againstOf 38 = .ok (.getfield 32, 3) := by decide +kernel
theorem dX12_againstOf_41 : decode cX12_againstOf 41 = .ok (.aload_n 0, 1) := by decide +kernel
theorem dX12_againstOf_42 : decode cX12_againstOf 42 = .ok (.getfield 47, 3) := by decide +kernel
theorem dX12_againstOf_45 : decode cX12_againstOf 45 = .ok (.iload_n 1, 1) := by decide +kernel
theorem dX12_againstOf_46 : decode cX12_againstOf 46 = .ok (.iaload, 1) := by decide +kernel
theorem dX12_againstOf_47 : decode cX12_againstOf 47 = .ok (.iaload, 1) := by decide +kernel
theorem dX12_againstOf_48 : decode cX12_againstOf 48 = .ok (.invokestatic 193, 3) := by decide +kernel
theorem dX12_againstOf_51 : decode cX12_againstOf 51 = .ok (.aload_n 0, 1) := by decide +kernel
theorem dX12_againstOf_52 : decode cX12_againstOf 52 = .ok (.getfield 53, 3) := by decide +kernel
theorem dX12_againstOf_55 : decode cX12_againstOf 55 = .ok (.iload_n 1, 1) := by decide +kernel
theorem dX12_againstOf_56 : decode cX12_againstOf 56 = .ok (.iaload, 1) := by decide +kernel
theorem dX12_againstOf_57 : decode cX12_againstOf 57 = .ok (.if_icmp .eq 9, 3) := by decide +kernel
theorem dX12_againstOf_60 : decode cX12_againstOf 60 = .ok (.iconst 1, 1) := by decide +kernel
theorem dX12_againstOf_61 : decode cX12_againstOf 61 = .ok (.iload_n 3, 1) := by decide +kernel
theorem dX12_againstOf_62 : decode cX12_againstOf 62 = .ok (.ishl, 1) := by decide +kernel
theorem dX12_againstOf_63 : decode cX12_againstOf 63 = .ok (.goto 4, 3) := by decide +kernel
theorem dX12_againstOf_66 : decode cX12_againstOf 66 = .ok (.iconst 0, 1) := by decide +kernel
theorem dX12_againstOf_67 : decode cX12_againstOf 67 = .ok (.ior, 1) := by decide +kernel
theorem dX12_againstOf_68 : decode cX12_againstOf 68 = .ok (.istore_n 2, 1) := by decide +kernel
theorem dX12_againstOf_69 : decode cX12_againstOf 69 = .ok (.iinc 3 1, 3) := by decide +kernel
theorem dX12_againstOf_72 : decode cX12_againstOf 72 = .ok (.goto (-68), 3) := by decide +kernel
theorem dX12_againstOf_75 : decode cX12_againstOf 75 = .ok (.iload_n 2, 1) := by decide +kernel
theorem dX12_againstOf_76 : decode cX12_againstOf 76 = .ok (.ireturn, 1) := by decide +kernel
theorem dX12_against_0 : decode cX12_against 0 = .ok (.aload_n 0, 1) := by decide +kernel
theorem dX12_against_1 : decode cX12_against 1 = .ok (.iload_n 1, 1) := by decide +kernel
theorem dX12_against_2 : decode cX12_against 2 = .ok (.invokevirtual 157, 3) := by decide +kernel
theorem dX12_against_5 : decode cX12_against 5 = .ok (.ifCond .ne 5, 3) := by decide +kernel
theorem dX12_against_8 : decode cX12_against 8 = .ok (.iconst (-1), 1) := by decide +kernel
theorem dX12_against_9 : decode cX12_against 9 = .ok (.ireturn, 1) := by decide +kernel
theorem dX12_against_10 : decode cX12_against 10 = .ok (.aload_n 0, 1) := by decide +kernel
theorem dX12_against_11 : decode cX12_against 11 = .ok (.invokevirtual 237, 3) := by decide +kernel
theorem dX12_against_14 : decode cX12_against 14 = .ok (.aload_n 0, 1) := by decide +kernel
theorem dX12_against_15 : decode cX12_against 15 = .ok (.iload_n 1, 1) := by decide +kernel
theorem dX12_against_16 : decode cX12_against 16 = .ok (.invokevirtual 240, 3) := by decide +kernel
theorem dX12_against_19 : decode cX12_against 19 = .ok (.ireturn, 1) := by decide +kernel
theorem dX12_nobody_0 : decode cX12_nobody 0 = .ok (.aload_n 0, 1) := by decide +kernel
theorem dX12_nobody_1 : decode cX12_nobody 1 = .ok (.invokevirtual 237, 3) := by decide +kernel
theorem dX12_nobody_4 : decode cX12_nobody 4 = .ok (.iconst 0, 1) := by decide +kernel
theorem dX12_nobody_5 : decode cX12_nobody 5 = .ok (.istore_n 1, 1) := by decide +kernel
theorem dX12_nobody_6 : decode cX12_nobody 6 = .ok (.bipush (-9), 2) := by decide +kernel
theorem dX12_nobody_8 : decode cX12_nobody 8 = .ok (.istore_n 2, 1) := by decide +kernel
theorem dX12_nobody_9 : decode cX12_nobody 9 = .ok (.aload_n 0, 1) := by decide +kernel
theorem dX12_nobody_10 : decode cX12_nobody 10 = .ok (.getfield 131, 3) := by decide +kernel
theorem dX12_nobody_13 : decode cX12_nobody 13 = .ok (.iconst 1, 1) := by decide +kernel
theorem dX12_nobody_14 : decode cX12_nobody 14 = .ok (.isub, 1) := by decide +kernel
theorem dX12_nobody_15 : decode cX12_nobody 15 = .ok (.istore_n 3, 1) := by decide +kernel
theorem dX12_nobody_16 : decode cX12_nobody 16 = .ok (.iload_n 3, 1) := by decide +kernel
theorem dX12_nobody_17 : decode cX12_nobody 17 = .ok (.ifCond .lt 48, 3) := by decide +kernel
theorem dX12_nobody_20 : decode cX12_nobody 20 = .ok (.aload_n 0, 1) := by decide +kernel
theorem dX12_nobody_21 : decode cX12_nobody 21 = .ok (.iload_n 3, 1) := by decide +kernel
theorem dX12_nobody_22 : decode cX12_nobody 22 = .ok (.invokevirtual 240, 3) := by decide +kernel
theorem dX12_nobody_25 : decode cX12_nobody 25 = .ok (.ifCond .ne 7, 3) := by decide +kernel
theorem dX12_nobody_28 : decode cX12_nobody 28 = .ok (.iconst 1, 1) := by decide +kernel
theorem dX12_nobody_29 : decode cX12_nobody 29 = .ok (.goto 4, 3) := by decide +kernel
theorem dX12_nobody_32 : decode cX12_nobody 32 = .ok (.iconst 0, 1) := by decide +kernel
theorem dX12_nobody_33 : decode cX12_nobody 33 = .ok (.istore 4, 2) := by decide +kernel
theorem dX12_nobody_35 : decode cX12_nobody 35 = .ok (.iload_n 1, 1) := by decide +kernel
theorem dX12_nobody_36 : decode cX12_nobody 36 = .ok (.iload 4, 2) := by decide +kernel
theorem dX12_nobody_38 : decode cX12_nobody 38 = .ok (.ifCond .eq 7, 3) := by decide +kernel
theorem dX12_nobody_41 : decode cX12_nobody 41 = .ok (.iconst 1, 1) := by decide +kernel
theorem dX12_nobody_42 : decode cX12_nobody 42 = .ok (.goto 4, 3) := by decide +kernel
theorem dX12_nobody_45 : decode cX12_nobody 45 = .ok (.iconst 0, 1) := by decide +kernel
theorem dX12_nobody_46 : decode cX12_nobody 46 = .ok (.iadd, 1) := by decide +kernel
theorem dX12_nobody_47 : decode cX12_nobody 47 = .ok (.istore_n 1, 1) := by decide +kernel
theorem dX12_nobody_48 : decode cX12_nobody 48 = .ok (.iload 4, 2) := by decide +kernel
theorem dX12_nobody_50 : decode cX12_nobody 50 = .ok (.ifCond .eq 7, 3) := by decide +kernel
theorem dX12_nobody_53 : decode cX12_nobody 53 = .ok (.iload_n 3, 1) := by decide +kernel
theorem dX12_nobody_54 : decode cX12_nobody 54 = .ok (.goto 4, 3) := by decide +kernel
theorem dX12_nobody_57 : decode cX12_nobody 57 = .ok (.iload_n 2, 1) := by decide +kernel
theorem dX12_nobody_58 : decode cX12_nobody 58 = .ok (.istore_n 2, 1) := by decide +kernel
theorem dX12_nobody_59 : decode cX12_nobody 59 = .ok (.iinc 3 (-1), 3) := by decide +kernel
theorem dX12_nobody_62 : decode cX12_nobody 62 = .ok (.goto (-46), 3) := by decide +kernel
theorem dX12_nobody_65 : decode cX12_nobody 65 = .ok (.aload_n 0, 1) := by decide +kernel
theorem dX12_nobody_66 : decode cX12_nobody 66 = .ok (.iload_n 2, 1) := by decide +kernel
theorem dX12_nobody_67 : decode cX12_nobody 67 = .ok (.iload_n 1, 1) := by decide +kernel
theorem dX12_nobody_68 : decode cX12_nobody 68 = .ok (.invokevirtual 119, 3) := by decide +kernel
theorem dX12_nobody_71 : decode cX12_nobody 71 = .ok (.ireturn, 1) := by decide +kernel
theorem dX12_freshOf_0 : decode cX12_freshOf 0 = .ok (.aload_n 0, 1) := by decide +kernel
theorem dX12_freshOf_1 : decode cX12_freshOf 1 = .ok (.iload_n 1, 1) := by decide +kernel
theorem dX12_freshOf_2 : decode cX12_freshOf 2 = .ok (.invokevirtual 234, 3) := by decide +kernel
theorem dX12_freshOf_5 : decode cX12_freshOf 5 = .ok (.aload_n 0, 1) := by decide +kernel
theorem dX12_freshOf_6 : decode cX12_freshOf 6 = .ok (.iload_n 2, 1) := by decide +kernel
theorem dX12_freshOf_7 : decode cX12_freshOf 7 = .ok (.invokevirtual 243, 3) := by decide +kernel
theorem dX12_freshOf_10 : decode cX12_freshOf 10 = .ok (.ireturn, 1) := by decide +kernel
theorem dX12_freshNow_0 : decode cX12_freshNow 0 = .ok (.iconst 0, 1) := by decide +kernel
theorem dX12_freshNow_1 : decode cX12_freshNow 1 = .ok (.istore_n 2, 1) := by decide +kernel
theorem dX12_freshNow_2 : decode cX12_freshNow 2 = .ok (.iconst 0, 1) := by decide +kernel
theorem dX12_freshNow_3 : decode cX12_freshNow 3 = .ok (.istore_n 3, 1) := by decide +kernel
theorem dX12_freshNow_4 : decode cX12_freshNow 4 = .ok (.iconst 0, 1) := by decide +kernel
theorem dX12_freshNow_5 : decode cX12_freshNow 5 = .ok (.istore 4, 2) := by decide +kernel
theorem dX12_freshNow_7 : decode cX12_freshNow 7 = .ok (.iload 4, 2) := by decide +kernel
theorem dX12_freshNow_9 : decode cX12_freshNow 9 = .ok (.sipush 244, 3) := by decide +kernel
theorem dX12_freshNow_12 : decode cX12_freshNow 12 = .ok (.if_icmp .ge 50, 3) := by decide +kernel
theorem dX12_freshNow_15 : decode cX12_freshNow 15 = .ok (.iload_n 2, 1) := by decide +kernel
theorem dX12_freshNow_16 : decode cX12_freshNow 16 = .ok (.aload_n 0, 1) := by decide +kernel
theorem dX12_freshNow_17 : decode cX12_freshNow 17 = .ok (.getfield 68, 3) := by decide +kernel
theorem dX12_freshNow_20 : decode cX12_freshNow 20 = .ok (.iload 4, 2) := by decide +kernel
theorem dX12_freshNow_22 : decode cX12_freshNow 22 = .ok (.baload, 1) := by decide +kernel
theorem dX12_freshNow_23 : decode cX12_freshNow 23 = .ok (.ifCond .eq 7, 3) := by decide +kernel
theorem dX12_freshNow_26 : decode cX12_freshNow 26 = .ok (.iconst 1, 1) := by decide +kernel
theorem dX12_freshNow_27 : decode cX12_freshNow 27 = .ok (.goto 4, 3) := by decide +kernel
theorem dX12_freshNow_30 : decode cX12_freshNow 30 = .ok (.iconst 0, 1) := by decide +kernel
theorem dX12_freshNow_31 : decode cX12_freshNow 31 = .ok (.iadd, 1) := by decide +kernel
theorem dX12_freshNow_32 : decode cX12_freshNow 32 = .ok (.istore_n 2, 1) := by decide +kernel
theorem dX12_freshNow_33 : decode cX12_freshNow 33 = .ok (.iload_n 3, 1) := by decide +kernel
theorem dX12_freshNow_34 : decode cX12_freshNow 34 = .ok (.aload_n 0, 1) := by decide +kernel
theorem dX12_freshNow_35 : decode cX12_freshNow 35 = .ok (.getfield 68, 3) := by decide +kernel
theorem dX12_freshNow_38 : decode cX12_freshNow 38 = .ok (.iload 4, 2) := by decide +kernel
theorem dX12_freshNow_40 : decode cX12_freshNow 40 = .ok (.baload, 1) := by decide +kernel
theorem dX12_freshNow_41 : decode cX12_freshNow 41 = .ok (.ifCond .eq 12, 3) := by decide +kernel
theorem dX12_freshNow_44 : decode cX12_freshNow 44 = .ok (.iload 4, 2) := by decide +kernel
theorem dX12_freshNow_46 : decode cX12_freshNow 46 = .ok (.iload_n 1, 1) := by decide +kernel
theorem dX12_freshNow_47 : decode cX12_freshNow 47 = .ok (.invokestatic 193, 3) := by decide +kernel
theorem dX12_freshNow_50 : decode cX12_freshNow 50 = .ok (.goto 4, 3) := by decide +kernel
theorem dX12_freshNow_53 : decode cX12_freshNow 53 = .ok (.iconst 0, 1) := by decide +kernel
theorem dX12_freshNow_54 : decode cX12_freshNow 54 = .ok (.iadd, 1) := by decide +kernel
theorem dX12_freshNow_55 : decode cX12_freshNow 55 = .ok (.istore_n 3, 1) := by decide +kernel
theorem dX12_freshNow_56 : decode cX12_freshNow 56 = .ok (.iinc 4 1, 3) := by decide +kernel
theorem dX12_freshNow_59 : decode cX12_freshNow 59 = .ok (.goto (-52), 3) := by decide +kernel
theorem dX12_freshNow_62 : decode cX12_freshNow 62 = .ok (.iload_n 3, 1) := by decide +kernel
theorem dX12_freshNow_63 : decode cX12_freshNow 63 = .ok (.ifCond .ne 7, 3) := by decide +kernel
theorem dX12_freshNow_66 : decode cX12_freshNow 66 = .ok (.iconst 0, 1) := by decide +kernel
theorem dX12_freshNow_67 : decode cX12_freshNow 67 = .ok (.goto 13, 3) := by decide +kernel
theorem dX12_freshNow_70 : decode cX12_freshNow 70 = .ok (.iload_n 3, 1) := by decide +kernel
theorem dX12_freshNow_71 : decode cX12_freshNow 71 = .ok (.iload_n 2, 1) := by decide +kernel
theorem dX12_freshNow_72 : decode cX12_freshNow 72 = .ok (.if_icmp .ne 7, 3) := by decide +kernel
theorem dX12_freshNow_75 : decode cX12_freshNow 75 = .ok (.iconst 1, 1) := by decide +kernel
theorem dX12_freshNow_76 : decode cX12_freshNow 76 = .ok (.goto 4, 3) := by decide +kernel
theorem dX12_freshNow_79 : decode cX12_freshNow 79 = .ok (.iconst 2, 1) := by decide +kernel
theorem dX12_freshNow_80 : decode cX12_freshNow 80 = .ok (.ireturn, 1) := by decide +kernel
theorem dX12_plain_0 : decode cX12_plain 0 = .ok (.aload_n 0, 1) := by decide +kernel
theorem dX12_plain_1 : decode cX12_plain 1 = .ok (.iload_n 1, 1) := by decide +kernel
