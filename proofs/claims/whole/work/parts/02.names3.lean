theorem dX11_fits_11 : decode cX11_fits 11 = .ok (.iload_n 2, 1) := by decide +kernel
theorem dX11_fits_12 : decode cX11_fits 12 = .ok (.sipush 244, 3) := by decide +kernel
theorem dX11_fits_15 : decode cX11_fits 15 = .ok (.invokestatic 64, 3) := by decide +kernel
theorem dX11_fits_18 : decode cX11_fits 18 = .ok (.ifCond .ne 5, 3) := by decide +kernel
theorem dX11_fits_21 : decode cX11_fits 21 = .ok (.iconst (-1), 1) := by decide +kernel
theorem dX11_fits_22 : decode cX11_fits 22 = .ok (.ireturn, 1) := by decide +kernel
theorem dX11_fits_23 : decode cX11_fits 23 = .ok (.aload_n 0, 1) := by decide +kernel
theorem dX11_fits_24 : decode cX11_fits 24 = .ok (.getfield 24, 3) := by decide +kernel
theorem dX11_fits_27 : decode cX11_fits 27 = .ok (.iload_n 1, 1) := by decide +kernel
theorem dX11_fits_28 : decode cX11_fits 28 = .ok (.iload_n 2, 1) := by decide +kernel
theorem dX11_fits_29 : decode cX11_fits 29 = .ok (.invokevirtual 169, 3) := by decide +kernel
theorem dX11_fits_32 : decode cX11_fits 32 = .ok (.ifCond .ne 7, 3) := by decide +kernel
theorem dX11_fits_35 : decode cX11_fits 35 = .ok (.iconst 1, 1) := by decide +kernel
theorem dX11_fits_36 : decode cX11_fits 36 = .ok (.goto 4, 3) := by decide +kernel
theorem dX11_fits_39 : decode cX11_fits 39 = .ok (.iconst 0, 1) := by decide +kernel
theorem dX11_fits_40 : decode cX11_fits 40 = .ok (.ireturn, 1) := by decide +kernel
theorem dX11_prices_0 : decode cX11_prices 0 = .ok (.iload_n 1, 1) := by decide +kernel
theorem dX11_prices_1 : decode cX11_prices 1 = .ok (.invokestatic 172, 3) := by decide +kernel
theorem dX11_prices_4 : decode cX11_prices 4 = .ok (.ifCond .eq 17, 3) := by decide +kernel
theorem dX11_prices_7 : decode cX11_prices 7 = .ok (.iload_n 2, 1) := by decide +kernel
theorem dX11_prices_8 : decode cX11_prices 8 = .ok (.invokestatic 172, 3) := by decide +kernel
theorem dX11_prices_11 : decode cX11_prices 11 = .ok (.ifCond .eq 10, 3) := by decide +kernel
theorem dX11_prices_14 : decode cX11_prices 14 = .ok (.iload_n 3, 1) := by decide +kernel
theorem dX11_prices_15 : decode cX11_prices 15 = .ok (.invokestatic 172, 3) := by decide +kernel
theorem dX11_prices_18 : decode cX11_prices 18 = .ok (.ifCond .ne 5, 3) := by decide +kernel
theorem dX11_prices_21 : decode cX11_prices 21 = .ok (.iconst (-1), 1) := by decide +kernel
theorem dX11_prices_22 : decode cX11_prices 22 = .ok (.ireturn, 1) := by decide +kernel
theorem dX11_prices_23 : decode cX11_prices 23 = .ok (.aload_n 0, 1) := by decide +kernel
theorem dX11_prices_24 : decode cX11_prices 24 = .ok (.getfield 24, 3) := by decide +kernel
theorem dX11_prices_27 : decode cX11_prices 27 = .ok (.iload_n 1, 1) := by decide +kernel
theorem dX11_prices_28 : decode cX11_prices 28 = .ok (.iload_n 2, 1) := by decide +kernel
theorem dX11_prices_29 : decode cX11_prices 29 = .ok (.iload_n 3, 1) := by decide +kernel
theorem dX11_prices_30 : decode cX11_prices 30 = .ok (.invokevirtual 175, 3) := by decide +kernel
theorem dX11_prices_33 : decode cX11_prices 33 = .ok (.iconst 1, 1) := by decide +kernel
theorem dX11_prices_34 : decode cX11_prices 34 = .ok (.ireturn, 1) := by decide +kernel
theorem dX11_costs_0 : decode cX11_costs 0 = .ok (.aload_n 0, 1) := by decide +kernel
theorem dX11_costs_1 : decode cX11_costs 1 = .ok (.getfield 24, 3) := by decide +kernel
theorem dX11_costs_4 : decode cX11_costs 4 = .ok (.iload_n 1, 1) := by decide +kernel
theorem dX11_costs_5 : decode cX11_costs 5 = .ok (.invokevirtual 135, 3) := by decide +kernel
theorem dX11_costs_8 : decode cX11_costs 8 = .ok (.ifCond .eq 13, 3) := by decide +kernel
theorem dX11_costs_11 : decode cX11_costs 11 = .ok (.iload_n 2, 1) := by decide +kernel
theorem dX11_costs_12 : decode cX11_costs 12 = .ok (.sipush 244, 3) := by decide +kernel
theorem dX11_costs_15 : decode cX11_costs 15 = .ok (.invokestatic 64, 3) := by decide +kernel
theorem dX11_costs_18 : decode cX11_costs 18 = .ok (.ifCond .ne 5, 3) := by decide +kernel
theorem dX11_costs_21 : decode cX11_costs 21 = .ok (.iconst (-1), 1) := by decide +kernel
theorem dX11_costs_22 : decode cX11_costs 22 = .ok (.ireturn, 1) := by decide +kernel
theorem dX11_costs_23 : decode cX11_costs 23 = .ok (.aload_n 0, 1) := by decide +kernel
theorem dX11_costs_24 : decode cX11_costs 24 = .ok (.getfield 24, 3) := by decide +kernel
theorem dX11_costs_27 : decode cX11_costs 27 = .ok (.getfield 179, 3) := by decide +kernel
theorem dX11_costs_30 : decode cX11_costs 30 = .ok (.aload_n 0, 1) := by decide +kernel
theorem dX11_costs_31 : decode cX11_costs 31 = .ok (.getfield 24, 3) := by decide +kernel
theorem dX11_costs_34 : decode cX11_costs 34 = .ok (.iload_n 1, 1) := by decide +kernel
theorem dX11_costs_35 : decode cX11_costs 35 = .ok (.iload_n 2, 1) := by decide +kernel
theorem dX11_costs_36 : decode cX11_costs 36 = .ok (.invokevirtual 169, 3) := by decide +kernel
theorem dX11_costs_39 : decode cX11_costs 39 = .ok (.invokevirtual 183, 3) := by decide +kernel
theorem dX11_costs_42 : decode cX11_costs 42 = .ok (.ireturn, 1) := by decide +kernel
theorem dX11_settle_0 : decode cX11_settle 0 = .ok (.aload_n 0, 1) := by decide +kernel
theorem dX11_settle_1 : decode cX11_settle 1 = .ok (.getfield 24, 3) := by decide +kernel
theorem dX11_settle_4 : decode cX11_settle 4 = .ok (.iload_n 1, 1) := by decide +kernel
theorem dX11_settle_5 : decode cX11_settle 5 = .ok (.invokevirtual 111, 3) := by decide +kernel
theorem dX11_settle_8 : decode cX11_settle 8 = .ok (.ifCond .ne 5, 3) := by decide +kernel
theorem dX11_settle_11 : decode cX11_settle 11 = .ok (.iconst (-1), 1) := by decide +kernel
theorem dX11_settle_12 : decode cX11_settle 12 = .ok (.ireturn, 1) := by decide +kernel
theorem dX11_settle_13 : decode cX11_settle 13 = .ok (.aload_n 0, 1) := by decide +kernel
theorem dX11_settle_14 : decode cX11_settle 14 = .ok (.getfield 24, 3) := by decide +kernel
theorem dX11_settle_17 : decode cX11_settle 17 = .ok (.invokevirtual 188, 3) := by decide +kernel
theorem dX11_settle_20 : decode cX11_settle 20 = .ok (.iload_n 1, 1) := by decide +kernel
theorem dX11_settle_21 : decode cX11_settle 21 = .ok (.aaload, 1) := by decide +kernel
theorem dX11_settle_22 : decode cX11_settle 22 = .ok (.getfield 192, 3) := by decide +kernel
theorem dX11_settle_25 : decode cX11_settle 25 = .ok (.astore_n 2, 1) := by decide +kernel
theorem dX11_settle_26 : decode cX11_settle 26 = .ok (.aload_n 0, 1) := by decide +kernel
theorem dX11_settle_27 : decode cX11_settle 27 = .ok (.aload_n 2, 1) := by decide +kernel
theorem dX11_settle_28 : decode cX11_settle 28 = .ok (.getfield 198, 3) := by decide +kernel
theorem dX11_settle_31 : decode cX11_settle 31 = .ok (.aload_n 2, 1) := by decide +kernel
theorem dX11_settle_32 : decode cX11_settle 32 = .ok (.getfield 203, 3) := by decide +kernel
theorem dX11_settle_35 : decode cX11_settle 35 = .ok (.invokevirtual 82, 3) := by decide +kernel
theorem dX11_settle_38 : decode cX11_settle 38 = .ok (.ireturn, 1) := by decide +kernel
theorem dX11_second_0 : decode cX11_second 0 = .ok (.aload_n 0, 1) := by decide +kernel
theorem dX11_second_1 : decode cX11_second 1 = .ok (.getfield 24, 3) := by decide +kernel
theorem dX11_second_4 : decode cX11_second 4 = .ok (.iload_n 1, 1) := by decide +kernel
theorem dX11_second_5 : decode cX11_second 5 = .ok (.invokevirtual 111, 3) := by decide +kernel
theorem dX11_second_8 : decode cX11_second 8 = .ok (.ifCond .eq 21, 3) := by decide +kernel
theorem dX11_second_11 : decode cX11_second 11 = .ok (.aload_n 0, 1) := by decide +kernel
theorem dX11_second_12 : decode cX11_second 12 = .ok (.getfield 24, 3) := by decide +kernel
theorem dX11_second_15 : decode cX11_second 15 = .ok (.invokevirtual 188, 3) := by decide +kernel
theorem dX11_second_18 : decode cX11_second 18 = .ok (.iload_n 1, 1) := by decide +kernel
theorem dX11_second_19 : decode cX11_second 19 = .ok (.aaload, 1) := by decide +kernel
theorem dX11_second_20 : decode cX11_second 20 = .ok (.getfield 192, 3) := by decide +kernel
theorem dX11_second_23 : decode cX11_second 23 = .ok (.getfield 205, 3) := by decide +kernel
theorem dX11_second_26 : decode cX11_second 26 = .ok (.goto 4, 3) := by decide +kernel
theorem dX11_second_29 : decode cX11_second 29 = .ok (.iconst (-1), 1) := by decide +kernel
theorem dX11_second_30 : decode cX11_second 30 = .ok (.ireturn, 1) := by decide +kernel
theorem dX11_cheap_0 : decode cX11_cheap 0 = .ok (.aload_n 0, 1) := by decide +kernel
theorem dX11_cheap_1 : decode cX11_cheap 1 = .ok (.getfield 24, 3) := by decide +kernel
theorem dX11_cheap_4 : decode cX11_cheap 4 = .ok (.iload_n 1, 1) := by decide +kernel
theorem dX11_cheap_5 : decode cX11_cheap 5 = .ok (.invokevirtual 111, 3) := by decide +kernel
theorem dX11_cheap_8 : decode cX11_cheap 8 = .ok (.ifCond .ne 5, 3) := by decide +kernel
theorem dX11_cheap_11 : decode cX11_cheap 11 = .ok (.iconst (-1), 1) := by decide +kernel
theorem dX11_cheap_12 : decode cX11_cheap 12 = .ok (.ireturn, 1) := by decide +kernel
theorem dX11_cheap_13 : decode cX11_cheap 13 = .ok (.aload_n 0, 1) := by decide +kernel
theorem dX11_cheap_14 : decode cX11_cheap 14 = .ok (.getfield 24, 3) := by decide +kernel
theorem dX11_cheap_17 : decode cX11_cheap 17 = .ok (.invokevirtual 188, 3) := by decide +kernel
theorem dX11_cheap_20 : decode cX11_cheap 20 = .ok (.iload_n 1, 1) := by decide +kernel
theorem dX11_cheap_21 : decode cX11_cheap 21 = .ok (.aaload, 1) := by decide +kernel
theorem dX11_cheap_22 : decode cX11_cheap 22 = .ok (.getfield 192, 3) := by decide +kernel
theorem dX11_cheap_25 : decode cX11_cheap 25 = .ok (.astore_n 2, 1) := by decide +kernel
theorem dX11_cheap_26 : decode cX11_cheap 26 = .ok (.aload_n 0, 1) := by decide +kernel
theorem dX11_cheap_27 : decode cX11_cheap 27 = .ok (.aload_n 2, 1) := by decide +kernel
theorem dX11_cheap_28 : decode cX11_cheap 28 = .ok (.invokevirtual 208, 3) := by decide +kernel
theorem dX11_cheap_31 : decode cX11_cheap 31 = .ok (.aload_n 2, 1) := by decide +kernel
theorem dX11_cheap_32 : decode cX11_cheap 32 = .ok (.getfield 211, 3) := by decide +kernel
theorem dX11_cheap_35 : decode cX11_cheap 35 = .ok (.invokevirtual 82, 3) := by decide +kernel
theorem dX11_cheap_38 : decode cX11_cheap 38 = .ok (.ireturn, 1) := by decide +kernel
theorem dX11_cheapAt_0 : decode cX11_cheapAt 0 = .ok (.aload_n 0, 1) := by decide +kernel
theorem dX11_cheapAt_1 : decode cX11_cheapAt 1 = .ok (.getfield 24, 3) := by decide +kernel
theorem dX11_cheapAt_4 : decode cX11_cheapAt 4 = .ok (.iload_n 1, 1) := by decide +kernel
theorem dX11_cheapAt_5 : decode cX11_cheapAt 5 = .ok (.invokevirtual 111, 3) := by decide +kernel
theorem dX11_cheapAt_8 : decode cX11_cheapAt 8 = .ok (.ifCond .eq 7, 3) := by decide +kernel
theorem dX11_cheapAt_11 : decode cX11_cheapAt 11 = .ok (.iload_n 2, 1) := by decide +kernel
theorem dX11_cheapAt_12 : decode cX11_cheapAt 12 = .ok (.ifCond .ge 5, 3) := by decide +kernel
theorem dX11_cheapAt_15 : decode cX11_cheapAt 15 = .ok (.iconst (-1), 1) := by decide +kernel
theorem dX11_cheapAt_16 : decode cX11_cheapAt 16 = .ok (.ireturn, 1) := by decide +kernel
theorem dX11_cheapAt_17 : decode cX11_cheapAt 17 = .ok (.aload_n 0, 1) := by decide +kernel
theorem dX11_cheapAt_18 : decode cX11_cheapAt 18 = .ok (.getfield 24, 3) := by decide +kernel
theorem dX11_cheapAt_21 : decode cX11_cheapAt 21 = .ok (.invokevirtual 188, 3) := by decide +kernel
theorem dX11_cheapAt_24 : decode cX11_cheapAt 24 = .ok (.iload_n 1, 1) := by decide +kernel
theorem dX11_cheapAt_25 : decode cX11_cheapAt 25 = .ok (.aaload, 1) := by decide +kernel
theorem dX11_cheapAt_26 : decode cX11_cheapAt 26 = .ok (.getfield 192, 3) := by decide +kernel
theorem dX11_cheapAt_29 : decode cX11_cheapAt 29 = .ok (.astore_n 3, 1) := by decide +kernel
theorem dX11_cheapAt_30 : decode cX11_cheapAt 30 = .ok (.iload_n 2, 1) := by decide +kernel
theorem dX11_cheapAt_31 : decode cX11_cheapAt 31 = .ok (.aload_n 3, 1) := by decide +kernel
theorem dX11_cheapAt_32 : decode cX11_cheapAt 32 = .ok (.getfield 211, 3) := by decide +kernel
theorem dX11_cheapAt_35 : decode cX11_cheapAt 35 = .ok (.if_icmp .ge 12, 3) := by decide +kernel
theorem dX11_cheapAt_38 : decode cX11_cheapAt 38 = .ok (.aload_n 3, 1) := by decide +kernel
theorem dX11_cheapAt_39 : decode cX11_cheapAt 39 = .ok (.getfield 214, 3) := by decide +kernel
theorem dX11_cheapAt_42 : decode cX11_cheapAt 42 = .ok (.iload_n 2, 1) := by decide +kernel
theorem dX11_cheapAt_43 : decode cX11_cheapAt 43 = .ok (.iaload, 1) := by decide +kernel
theorem dX11_cheapAt_44 : decode cX11_cheapAt 44 = .ok (.goto 5, 3) := by decide +kernel
theorem dX11_cheapAt_47 : decode cX11_cheapAt 47 = .ok (.bipush (-9), 2) := by decide +kernel
theorem dX11_cheapAt_49 : decode cX11_cheapAt 49 = .ok (.ireturn, 1) := by decide +kernel
theorem dX11_all_0 : decode cX11_all 0 = .ok (.aload_n 0, 1) := by decide +kernel
theorem dX11_all_1 : decode cX11_all 1 = .ok (.getfield 24, 3) := by decide +kernel
theorem dX11_all_4 : decode cX11_all 4 = .ok (.invokevirtual 188, 3) := by decide +kernel
theorem dX11_all_7 : decode cX11_all 7 = .ok (.astore_n 1, 1) := by decide +kernel
theorem dX11_all_8 : decode cX11_all 8 = .ok (.iconst 0, 1) := by decide +kernel
theorem dX11_all_9 : decode cX11_all 9 = .ok (.istore_n 2, 1) := by decide +kernel
theorem dX11_all_10 : decode cX11_all 10 = .ok (.iconst 0, 1) := by decide +kernel
theorem dX11_all_11 : decode cX11_all 11 = .ok (.istore_n 3, 1) := by decide +kernel
theorem dX11_all_12 : decode cX11_all 12 = .ok (.iload_n 3, 1) := by decide +kernel
theorem dX11_all_13 : decode cX11_all 13 = .ok (.aload_n 0, 1) := by decide +kernel
theorem dX11_all_14 : decode cX11_all 14 = .ok (.getfield 24, 3) := by decide +kernel
theorem dX11_all_17 : decode cX11_all 17 = .ok (.getfield 115, 3) := by decide +kernel
theorem dX11_all_20 : decode cX11_all 20 = .ok (.if_icmp .ge 21, 3) := by decide +kernel
theorem dX11_all_23 : decode cX11_all 23 = .ok (.iload_n 2, 1) := by decide +kernel
theorem dX11_all_24 : decode cX11_all 24 = .ok (.aload_n 1, 1) := by decide +kernel
theorem dX11_all_25 : decode cX11_all 25 = .ok (.iload_n 3, 1) := by decide +kernel
theorem dX11_all_26 : decode cX11_all 26 = .ok (.aaload, 1) := by decide +kernel
theorem dX11_all_27 : decode cX11_all 27 = .ok (.getfield 192, 3) := by decide +kernel
theorem dX11_all_30 : decode cX11_all 30 = .ok (.getfield 203, 3) := by decide +kernel
theorem dX11_all_33 : decode cX11_all 33 = .ok (.iadd, 1) := by decide +kernel
theorem dX11_all_34 : decode cX11_all 34 = .ok (.istore_n 2, 1) := by decide +kernel
theorem dX11_all_35 : decode cX11_all 35 = .ok (.iinc 3 1, 3) := by decide +kernel
theorem dX11_all_38 : decode cX11_all 38 = .ok (.goto (-26), 3) := by decide +kernel
theorem dX11_all_41 : decode cX11_all 41 = .ok (.iload_n 2, 1) := by decide +kernel
theorem dX11_all_42 : decode cX11_all 42 = .ok (.ireturn, 1) := by decide +kernel
theorem dX11_against_0 : decode cX11_against 0 = .ok (.aload_n 0, 1) := by decide +kernel
theorem dX11_against_1 : decode cX11_against 1 = .ok (.getfield 24, 3) := by decide +kernel
theorem dX11_against_4 : decode cX11_against 4 = .ok (.iload_n 1, 1) := by decide +kernel
theorem dX11_against_5 : decode cX11_against 5 = .ok (.invokevirtual 135, 3) := by decide +kernel
theorem dX11_against_8 : decode cX11_against 8 = .ok (.ifCond .eq 21, 3) := by decide +kernel
theorem dX11_against_11 : decode cX11_against 11 = .ok (.aload_n 0, 1) := by decide +kernel
theorem dX11_against_12 : decode cX11_against 12 = .ok (.getfield 24, 3) := by decide +kernel
theorem dX11_against_15 : decode cX11_against 15 = .ok (.iload_n 1, 1) := by decide +kernel
theorem dX11_against_16 : decode cX11_against 16 = .ok (.aload_n 0, 1) := by decide +kernel
theorem dX11_against_17 : decode cX11_against 17 = .ok (.getfield 24, 3) := by decide +kernel
theorem dX11_against_20 : decode cX11_against 20 = .ok (.invokevirtual 188, 3) := by decide +kernel
theorem dX11_against_23 : decode cX11_against 23 = .ok (.invokevirtual 217, 3) := by decide +kernel
theorem dX11_against_26 : decode cX11_against 26 = .ok (.goto 4, 3) := by decide +kernel
theorem dX11_against_29 : decode cX11_against 29 = .ok (.iconst (-1), 1) := by decide +kernel
theorem dX11_against_30 : decode cX11_against 30 = .ok (.ireturn, 1) := by decide +kernel
theorem dX11_nobody_0 : decode cX11_nobody 0 = .ok (.aload_n 0, 1) := by decide +kernel
theorem dX11_nobody_1 : decode cX11_nobody 1 = .ok (.getfield 24, 3) := by decide +kernel
theorem dX11_nobody_4 : decode cX11_nobody 4 = .ok (.invokevirtual 188, 3) := by decide +kernel
theorem dX11_nobody_7 : decode cX11_nobody 7 = .ok (.astore_n 1, 1) := by decide +kernel
theorem dX11_nobody_8 : decode cX11_nobody 8 = .ok (.bipush (-9), 2) := by decide +kernel
theorem dX11_nobody_10 : decode cX11_nobody 10 = .ok (.istore_n 2, 1) := by decide +kernel
theorem dX11_nobody_11 : decode cX11_nobody 11 = .ok (.iconst 0, 1) := by decide +kernel
theorem dX11_nobody_12 : decode cX11_nobody 12 = .ok (.istore_n 3, 1) := by decide +kernel
theorem dX11_nobody_13 : decode cX11_nobody 13 = .ok (.iconst 0, 1) := by decide +kernel
theorem dX11_nobody_14 : decode cX11_nobody 14 = .ok (.istore 4, 2) := by decide +kernel
theorem dX11_nobody_16 : decode cX11_nobody 16 = .ok (.iload 4, 2) := by decide +kernel
theorem dX11_nobody_18 : decode cX11_nobody 18 = .ok (.aload_n 0, 1) := by decide +kernel
theorem dX11_nobody_19 : decode cX11_nobody 19 = .ok (.getfield 24, 3) := by decide +kernel
theorem dX11_nobody_22 : decode cX11_nobody 22 = .ok (.getfield 221, 3) := by decide +kernel
theorem dX11_nobody_25 : decode cX11_nobody 25 = .ok (.if_icmp .ge 35, 3) := by decide +kernel
theorem dX11_nobody_28 : decode cX11_nobody 28 = .ok (.aload_n 0, 1) := by decide +kernel
theorem dX11_nobody_29 : decode cX11_nobody 29 = .ok (.getfield 24, 3) := by decide +kernel
theorem dX11_nobody_32 : decode cX11_nobody 32 = .ok (.iload 4, 2) := by decide +kernel
theorem dX11_nobody_34 : decode cX11_nobody 34 = .ok (.aload_n 1, 1) := by decide +kernel
theorem dX11_nobody_35 : decode cX11_nobody 35 = .ok (.invokevirtual 217, 3) := by decide +kernel
theorem dX11_nobody_38 : decode cX11_nobody 38 = .ok (.ifCond .eq 6, 3) := by decide +kernel
theorem dX11_nobody_41 : decode cX11_nobody 41 = .ok (.goto 13, 3) := by decide +kernel
theorem dX11_nobody_44 : decode cX11_nobody 44 = .ok (.iload_n 3, 1) := by decide +kernel
theorem dX11_nobody_45 : decode cX11_nobody 45 = .ok (.ifCond .ne 6, 3) := by decide +kernel
theorem dX11_nobody_48 : decode cX11_nobody 48 = .ok (.iload 4, 2) := by decide +kernel
theorem dX11_nobody_50 : decode cX11_nobody 50 = .ok (.istore_n 2, 1) := by decide +kernel
theorem dX11_nobody_51 : decode cX11_nobody 51 = .ok (.iinc 3 1, 3) := by decide +kernel
theorem dX11_nobody_54 : decode cX11_nobody 54 = .ok (.iinc 4 1, 3) := by decide +kernel
theorem dX11_nobody_57 : decode cX11_nobody 57 = .ok (.goto (-41), 3) := by decide +kernel
theorem dX11_nobody_60 : decode cX11_nobody 60 = .ok (.aload_n 0, 1) := by decide +kernel
theorem dX11_nobody_61 : decode cX11_nobody 61 = .ok (.iload_n 2, 1) := by decide +kernel
theorem dX11_nobody_62 : decode cX11_nobody 62 = .ok (.iload_n 3, 1) := by decide +kernel
theorem dX11_nobody_63 : decode cX11_nobody 63 = .ok (.invokevirtual 82, 3) := by decide +kernel
theorem dX11_nobody_66 : decode cX11_nobody 66 = .ok (.ireturn, 1) := by decide +kernel
theorem dX11_plain_0 : decode cX11_plain 0 = .ok (.aload_n 0, 1) := by decide +kernel
theorem dX11_plain_1 : decode cX11_plain 1 = .ok (.getfield 24, 3) := by decide +kernel
theorem dX11_plain_4 : decode cX11_plain 4 = .ok (.iload_n 1, 1) := by decide +kernel
theorem dX11_plain_5 : decode cX11_plain 5 = .ok (.invokevirtual 135, 3) := by decide +kernel
theorem dX11_plain_8 : decode cX11_plain 8 = .ok (.ifCond .ne 5, 3) := by decide +kernel
theorem dX11_plain_11 : decode cX11_plain 11 = .ok (.iconst (-1), 1) := by decide +kernel
theorem dX11_plain_12 : decode cX11_plain 12 = .ok (.ireturn, 1) := by decide +kernel
theorem dX11_plain_13 : decode cX11_plain 13 = .ok (.aload_n 0, 1) := by decide +kernel
theorem dX11_plain_14 : decode cX11_plain 14 = .ok (.getfield 24, 3) := by decide +kernel
theorem dX11_plain_17 : decode cX11_plain 17 = .ok (.aload_n 0, 1) := by decide +kernel
theorem dX11_plain_18 : decode cX11_plain 18 = .ok (.getfield 24, 3) := by decide +kernel
theorem dX11_plain_21 : decode cX11_plain 21 = .ok (.iload_n 1, 1) := by decide +kernel
theorem dX11_plain_22 : decode cX11_plain 22 = .ok (.invokevirtual 224, 3) := by decide +kernel
theorem dX11_plain_25 : decode cX11_plain 25 = .ok (.aload_n 0, 1) := by decide +kernel
theorem dX11_plain_26 : decode cX11_plain 26 = .ok (.getfield 24, 3) := by decide +kernel
theorem dX11_plain_29 : decode cX11_plain 29 = .ok (.invokevirtual 188, 3) := by decide +kernel
theorem dX11_plain_32 : decode cX11_plain 32 = .ok (.invokevirtual 227, 3) := by decide +kernel
theorem dX11_plain_35 : decode cX11_plain 35 = .ok (.ifCond .eq 7, 3) := by decide +kernel
theorem dX11_plain_38 : decode cX11_plain 38 = .ok (.iconst 1, 1) := by decide +kernel
theorem dX11_plain_39 : decode cX11_plain 39 = .ok (.goto 4, 3) := by decide +kernel
theorem dX11_plain_42 : decode cX11_plain 42 = .ok (.iconst 0, 1) := by decide +kernel
theorem dX11_plain_43 : decode cX11_plain 43 = .ok (.ireturn, 1) := by decide +kernel
theorem dX11_changed_0 : decode cX11_changed 0 = .ok (.aload_n 0, 1) := by decide +kernel
theorem dX11_changed_1 : decode cX11_changed 1 = .ok (.getfield 24, 3) := by decide +kernel
theorem dX11_changed_4 : decode cX11_changed 4 = .ok (.iload_n 1, 1) := by decide +kernel
theorem dX11_changed_5 : decode cX11_changed 5 = .ok (.invokevirtual 111, 3) := by decide +kernel
theorem dX11_changed_8 : decode cX11_changed 8 = .ok (.ifCond .ne 5, 3) := by decide +kernel
theorem dX11_changed_11 : decode cX11_changed 11 = .ok (.iconst (-1), 1) := by decide +kernel
theorem dX11_changed_12 : decode cX11_changed 12 = .ok (.ireturn, 1) := by decide +kernel
theorem dX11_changed_13 : decode cX11_changed 13 = .ok (.aload_n 0, 1) := by decide +kernel
theorem dX11_changed_14 : decode cX11_changed 14 = .ok (.getfield 24, 3) := by decide +kernel
theorem dX11_changed_17 : decode cX11_changed 17 = .ok (.iload_n 1, 1) := by decide +kernel
theorem dX11_changed_18 : decode cX11_changed 18 = .ok (.invokevirtual 231, 3) := by decide +kernel
theorem dX11_changed_21 : decode cX11_changed 21 = .ok (.istore_n 2, 1) := by decide +kernel
theorem dX11_changed_22 : decode cX11_changed 22 = .ok (.aload_n 0, 1) := by decide +kernel
theorem dX11_changed_23 : decode cX11_changed 23 = .ok (.aload_n 0, 1) := by decide +kernel
theorem dX11_changed_24 : decode cX11_changed 24 = .ok (.getfield 24, 3) := by decide +kernel
theorem dX11_changed_27 : decode cX11_changed 27 = .ok (.getfield 179, 3) := by decide +kernel
theorem dX11_changed_30 : decode cX11_changed 30 = .ok (.getfield 234, 3) := by decide +kernel
theorem dX11_changed_33 : decode cX11_changed 33 = .ok (.iload_n 2, 1) := by decide +kernel
theorem dX11_changed_34 : decode cX11_changed 34 = .ok (.invokevirtual 82, 3) := by decide +kernel
theorem dX11_changed_37 : decode cX11_changed 37 = .ok (.ireturn, 1) := by decide +kernel
theorem dX11_parts_0 : decode cX11_parts 0 = .ok (.aload_n 0, 1) := by decide +kernel
theorem dX11_parts_1 : decode cX11_parts 1 = .ok (.getfield 24, 3) := by decide +kernel
theorem dX11_parts_4 : decode cX11_parts 4 = .ok (.iload_n 1, 1) := by decide +kernel
theorem dX11_parts_5 : decode cX11_parts 5 = .ok (.invokevirtual 125, 3) := by decide +kernel
theorem dX11_parts_8 : decode cX11_parts 8 = .ok (.ifCond .eq 14, 3) := by decide +kernel
theorem dX11_parts_11 : decode cX11_parts 11 = .ok (.aload_n 0, 1) := by decide +kernel
theorem dX11_parts_12 : decode cX11_parts 12 = .ok (.getfield 24, 3) := by decide +kernel
theorem dX11_parts_15 : decode cX11_parts 15 = .ok (.iload_n 2, 1) := by decide +kernel
theorem dX11_parts_16 : decode cX11_parts 16 = .ok (.invokevirtual 125, 3) := by decide +kernel
theorem dX11_parts_19 : decode cX11_parts 19 = .ok (.ifCond .ne 5, 3) := by decide +kernel
theorem dX11_parts_22 : decode cX11_parts 22 = .ok (.iconst (-1), 1) := by decide +kernel
theorem dX11_parts_23 : decode cX11_parts 23 = .ok (.ireturn, 1) := by decide +kernel
theorem dX11_parts_24 : decode cX11_parts 24 = .ok (.aload_n 0, 1) := by decide +kernel
theorem dX11_parts_25 : decode cX11_parts 25 = .ok (.getfield 24, 3) := by decide +kernel
theorem dX11_parts_28 : decode cX11_parts 28 = .ok (.getfield 147, 3) := by decide +kernel
theorem dX11_parts_31 : decode cX11_parts 31 = .ok (.iload_n 1, 1) := by decide +kernel
theorem dX11_parts_32 : decode cX11_parts 32 = .ok (.iaload, 1) := by decide +kernel
theorem dX11_parts_33 : decode cX11_parts 33 = .ok (.aload_n 0, 1) := by decide +kernel
theorem dX11_parts_34 : decode cX11_parts 34 = .ok (.getfield 24, 3) := by decide +kernel
theorem dX11_parts_37 : decode cX11_parts 37 = .ok (.getfield 147, 3) := by decide +kernel
theorem dX11_parts_40 : decode cX11_parts 40 = .ok (.iload_n 2, 1) := by decide +kernel
theorem dX11_parts_41 : decode cX11_parts 41 = .ok (.iaload, 1) := by decide +kernel
theorem dX11_parts_42 : decode cX11_parts 42 = .ok (.ixor, 1) := by decide +kernel
theorem dX11_parts_43 : decode cX11_parts 43 = .ok (.istore_n 3, 1) := by decide +kernel
theorem dX11_parts_44 : decode cX11_parts 44 = .ok (.aload_n 0, 1) := by decide +kernel
theorem dX11_parts_45 : decode cX11_parts 45 = .ok (.iload_n 3, 1) := by decide +kernel
theorem dX11_parts_46 : decode cX11_parts 46 = .ok (.invokestatic 237, 3) := by decide +kernel
theorem dX11_parts_49 : decode cX11_parts 49 = .ok (.iload_n 3, 1) := by decide +kernel
theorem dX11_parts_50 : decode cX11_parts 50 = .ok (.invokestatic 240, 3) := by decide +kernel
theorem dX11_parts_53 : decode cX11_parts 53 = .ok (.invokevirtual 82, 3) := by decide +kernel
theorem dX11_parts_56 : decode cX11_parts 56 = .ok (.ireturn, 1) := by decide +kernel
theorem dX11_met_0 : decode cX11_met 0 = .ok (.aload_n 0, 1) := by decide +kernel
theorem dX11_met_1 : decode cX11_met 1 = .ok (.getfield 24, 3) := by decide +kernel
theorem dX11_met_4 : decode cX11_met 4 = .ok (.iload_n 1, 1) := by decide +kernel
theorem dX11_met_5 : decode cX11_met 5 = .ok (.invokevirtual 111, 3) := by decide +kernel
theorem dX11_met_8 : decode cX11_met 8 = .ok (.ifCond .eq 14, 3) := by decide +kernel
theorem dX11_met_11 : decode cX11_met 11 = .ok (.aload_n 0, 1) := by decide +kernel
theorem dX11_met_12 : decode cX11_met 12 = .ok (.getfield 24, 3) := by decide +kernel
theorem dX11_met_15 : decode cX11_met 15 = .ok (.iload_n 2, 1) := by decide +kernel
theorem dX11_met_16 : decode cX11_met 16 = .ok (.invokevirtual 111, 3) := by decide +kernel
theorem dX11_met_19 : decode cX11_met 19 = .ok (.ifCond .ne 5, 3) := by decide +kernel
theorem dX11_met_22 : decode cX11_met 22 = .ok (.iconst (-1), 1) := by decide +kernel
theorem dX11_met_23 : decode cX11_met 23 = .ok (.ireturn, 1) := by decide +kernel
theorem dX11_met_24 : decode cX11_met 24 = .ok (.aload_n 0, 1) := by decide +kernel
theorem dX11_met_25 : decode cX11_met 25 = .ok (.getfield 24, 3) := by decide +kernel
theorem dX11_met_28 : decode cX11_met 28 = .ok (.getfield 245, 3) := by decide +kernel
theorem dX11_met_31 : decode cX11_met 31 = .ok (.iload_n 1, 1) := by decide +kernel
theorem dX11_met_32 : decode cX11_met 32 = .ok (.aaload, 1) := by decide +kernel
theorem dX11_met_33 : decode cX11_met 33 = .ok (.astore_n 3, 1) := by decide +kernel
theorem dX11_met_34 : decode cX11_met 34 = .ok (.aload_n 0, 1) := by decide +kernel
theorem dX11_met_35 : decode cX11_met 35 = .ok (.getfield 24, 3) := by decide +kernel
theorem dX11_met_38 : decode cX11_met 38 = .ok (.getfield 245, 3) := by decide +kernel
theorem dX11_met_41 : decode cX11_met 41 = .ok (.iload_n 2, 1) := by decide +kernel
theorem dX11_met_42 : decode cX11_met 42 = .ok (.aaload, 1) := by decide +kernel
theorem dX11_met_43 : decode cX11_met 43 = .ok (.astore 4, 2) := by decide +kernel
theorem dX11_met_45 : decode cX11_met 45 = .ok (.aload_n 3, 1) := by decide +kernel
theorem dX11_met_46 : decode cX11_met 46 = .ok (.getfield 249, 3) := by decide +kernel
theorem dX11_met_49 : decode cX11_met 49 = .ok (.aload 4, 2) := by decide +kernel
theorem dX11_met_51 : decode cX11_met 51 = .ok (.getfield 249, 3) := by decide +kernel
theorem dX11_met_54 : decode cX11_met 54 = .ok (.invokestatic 252, 3) := by decide +kernel
theorem dX11_met_57 : decode cX11_met 57 = .ok (.bipush 15, 2) := by decide +kernel
theorem dX11_met_59 : decode cX11_met 59 = .ok (.iadd, 1) := by decide +kernel
theorem dX11_met_60 : decode cX11_met 60 = .ok (.istore 5, 2) := by decide +kernel
theorem dX11_met_62 : decode cX11_met 62 = .ok (.aload_n 3, 1) := by decide +kernel
theorem dX11_met_63 : decode cX11_met 63 = .ok (.getfield 257, 3) := by decide +kernel
theorem dX11_met_66 : decode cX11_met 66 = .ok (.aload 4, 2) := by decide +kernel
theorem dX11_met_68 : decode cX11_met 68 = .ok (.getfield 257, 3) := by decide +kernel
theorem dX11_met_71 : decode cX11_met 71 = .ok (.invokestatic 260, 3) := by decide +kernel
theorem dX11_met_74 : decode cX11_met 74 = .ok (.istore 6, 2) := by decide +kernel
theorem dX11_met_76 : decode cX11_met 76 = .ok (.iconst 0, 1) := by decide +kernel
theorem dX11_met_77 : decode cX11_met 77 = .ok (.iload 6, 2) := by decide +kernel
theorem dX11_met_79 : decode cX11_met 79 = .ok (.iload 5, 2) := by decide +kernel
theorem dX11_met_81 : decode cX11_met 81 = .ok (.isub, 1) := by decide +kernel
theorem dX11_met_82 : decode cX11_met 82 = .ok (.iconst 1, 1) := by decide +kernel
theorem dX11_met_83 : decode cX11_met 83 = .ok (.iadd, 1) := by decide +kernel
theorem dX11_met_84 : decode cX11_met 84 = .ok (.invokestatic 252, 3) := by decide +kernel
theorem dX11_met_87 : decode cX11_met 87 = .ok (.ireturn, 1) := by decide +kernel
theorem dX11_can_0 : decode cX11_can 0 = .ok (.iload_n 1, 1) := by decide +kernel
theorem dX11_can_1 : decode cX11_can 1 = .ok (.ifCond .le 16, 3) := by decide +kernel
theorem dX11_can_4 : decode cX11_can 4 = .ok (.iload_n 1, 1) := by decide +kernel
theorem dX11_can_5 : decode cX11_can 5 = .ok (.iconst 1, 1) := by decide +kernel
theorem dX11_can_6 : decode cX11_can 6 = .ok (.aload_n 0, 1) := by decide +kernel
theorem dX11_can_7 : decode cX11_can 7 = .ok (.getfield 24, 3) := by decide +kernel
theorem dX11_can_10 : decode cX11_can 10 = .ok (.getfield 115, 3) := by decide +kernel
theorem dX11_can_13 : decode cX11_can 13 = .ok (.ishl, 1) := by decide +kernel
theorem dX11_can_14 : decode cX11_can 14 = .ok (.if_icmp .lt 5, 3) := by decide +kernel
theorem dX11_can_17 : decode cX11_can 17 = .ok (.iconst (-1), 1) := by decide +kernel
theorem dX11_can_18 : decode cX11_can 18 = .ok (.ireturn, 1) := by decide +kernel
theorem dX11_can_19 : decode cX11_can 19 = .ok (.aload_n 0, 1) := by decide +kernel
theorem dX11_can_20 : decode cX11_can 20 = .ok (.getfield 24, 3) := by decide +kernel
theorem dX11_can_23 : decode cX11_can 23 = .ok (.iload_n 1, 1) := by decide +kernel
theorem dX11_can_24 : decode cX11_can 24 = .ok (.invokevirtual 263, 3) := by decide +kernel
theorem dX11_can_27 : decode cX11_can 27 = .ok (.istore_n 2, 1) := by decide +kernel
theorem dX11_can_28 : decode cX11_can 28 = .ok (.aload_n 0, 1) := by decide +kernel
theorem dX11_can_29 : decode cX11_can 29 = .ok (.iload_n 2, 1) := by decide +kernel
theorem dX11_can_30 : decode cX11_can 30 = .ok (.iload_n 2, 1) := by decide +kernel
theorem dX11_can_31 : decode cX11_can 31 = .ok (.bipush 70, 2) := by decide +kernel
theorem dX11_can_33 : decode cX11_can 33 = .ok (.if_icmp .gt 7, 3) := by decide +kernel
theorem dX11_can_36 : decode cX11_can 36 = .ok (.iconst 1, 1) := by decide +kernel
theorem dX11_can_37 : decode cX11_can 37 = .ok (.goto 4, 3) := by decide +kernel
theorem dX11_can_40 : decode cX11_can 40 = .ok (.iconst 0, 1) := by decide +kernel
theorem dX11_can_41 : decode cX11_can 41 = .ok (.invokevirtual 82, 3) := by decide +kernel
theorem dX11_can_44 : decode cX11_can 44 = .ok (.ireturn, 1) := by decide +kernel
theorem dX11_reads_0 : decode cX11_reads 0 = .ok (.iload_n 1, 1) := by decide +kernel
theorem dX11_reads_1 : decode cX11_reads 1 = .ok (.iconst 5, 1) := by decide +kernel
theorem dX11_reads_2 : decode cX11_reads 2 = .ok (.invokestatic 64, 3) := by decide +kernel
theorem dX11_reads_5 : decode cX11_reads 5 = .ok (.ifCond .eq 14, 3) := by decide +kernel
theorem dX11_reads_8 : decode cX11_reads 8 = .ok (.aload_n 0, 1) := by decide +kernel
theorem dX11_reads_9 : decode cX11_reads 9 = .ok (.getfield 24, 3) := by decide +kernel
theorem dX11_reads_12 : decode cX11_reads 12 = .ok (.iload_n 2, 1) := by decide +kernel
theorem dX11_reads_13 : decode cX11_reads 13 = .ok (.invokevirtual 135, 3) := by decide +kernel
theorem dX11_reads_16 : decode cX11_reads 16 = .ok (.ifCond .ne 5, 3) := by decide +kernel
theorem dX11_reads_19 : decode cX11_reads 19 = .ok (.iconst (-1), 1) := by decide +kernel
theorem dX11_reads_20 : decode cX11_reads 20 = .ok (.ireturn, 1) := by decide +kernel
theorem dX11_reads_21 : decode cX11_reads 21 = .ok (.iload_n 3, 1) := by decide +kernel
theorem dX11_reads_22 : decode cX11_reads 22 = .ok (.bipush (-9), 2) := by decide +kernel
theorem dX11_reads_24 : decode cX11_reads 24 = .ok (.if_icmp .eq 13, 3) := by decide +kernel
theorem dX11_reads_27 : decode cX11_reads 27 = .ok (.iload_n 3, 1) := by decide +kernel
theorem dX11_reads_28 : decode cX11_reads 28 = .ok (.iconst 2, 1) := by decide +kernel
theorem dX11_reads_29 : decode cX11_reads 29 = .ok (.invokestatic 64, 3) := by decide +kernel
theorem dX11_reads_32 : decode cX11_reads 32 = .ok (.ifCond .ne 5, 3) := by decide +kernel
theorem dX11_reads_35 : decode cX11_reads 35 = .ok (.iconst (-1), 1) := by decide +kernel
theorem dX11_reads_36 : decode cX11_reads 36 = .ok (.ireturn, 1) := by decide +kernel
theorem dX11_reads_37 : decode cX11_reads 37 = .ok (.aload_n 0, 1) := by decide +kernel
theorem dX11_reads_38 : decode cX11_reads 38 = .ok (.getfield 24, 3) := by decide +kernel
theorem dX11_reads_41 : decode cX11_reads 41 = .ok (.getfield 138, 3) := by decide +kernel
theorem dX11_reads_44 : decode cX11_reads 44 = .ok (.iload_n 2, 1) := by decide +kernel
theorem dX11_reads_45 : decode cX11_reads 45 = .ok (.aaload, 1) := by decide +kernel
theorem dX11_reads_46 : decode cX11_reads 46 = .ok (.getfield 266, 3) := by decide +kernel
theorem dX11_reads_49 : decode cX11_reads 49 = .ok (.astore 4, 2) := by decide +kernel
theorem dX11_reads_51 : decode cX11_reads 51 = .ok (.aload 4, 2) := by decide +kernel
theorem dX11_reads_53 : decode cX11_reads 53 = .ok (.iload_n 1, 1) := by decide +kernel
theorem dX11_reads_54 : decode cX11_reads 54 = .ok (.iaload, 1) := by decide +kernel
theorem dX11_reads_55 : decode cX11_reads 55 = .ok (.istore 5, 2) := by decide +kernel
theorem dX11_reads_57 : decode cX11_reads 57 = .ok (.aload 4, 2) := by decide +kernel
theorem dX11_reads_59 : decode cX11_reads 59 = .ok (.iload_n 1, 1) := by decide +kernel
theorem dX11_reads_60 : decode cX11_reads 60 = .ok (.iload_n 3, 1) := by decide +kernel
theorem dX11_reads_61 : decode cX11_reads 61 = .ok (.iastore, 1) := by decide +kernel
theorem dX11_reads_62 : decode cX11_reads 62 = .ok (.iload 5, 2) := by decide +kernel
theorem dX11_reads_64 : decode cX11_reads 64 = .ok (.ireturn, 1) := by decide +kernel
theorem dX11_reading_0 : decode cX11_reading 0 = .ok (.aload_n 0, 1) := by decide +kernel
theorem dX11_reading_1 : decode cX11_reading 1 = .ok (.getfield 24, 3) := by decide +kernel
theorem dX11_reading_4 : decode cX11_reading 4 = .ok (.iload_n 1, 1) := by decide +kernel
theorem dX11_reading_5 : decode cX11_reading 5 = .ok (.invokevirtual 135, 3) := by decide +kernel
theorem dX11_reading_8 : decode cX11_reading 8 = .ok (.ifCond .ne 5, 3) := by decide +kernel
theorem dX11_reading_11 : decode cX11_reading 11 = .ok (.iconst (-1), 1) := by decide +kernel
theorem dX11_reading_12 : decode cX11_reading 12 = .ok (.ireturn, 1) := by decide +kernel
theorem dX11_reading_13 : decode cX11_reading 13 = .ok (.aload_n 0, 1) := by decide +kernel
theorem dX11_reading_14 : decode cX11_reading 14 = .ok (.getfield 24, 3) := by decide +kernel
theorem dX11_reading_17 : decode cX11_reading 17 = .ok (.getfield 138, 3) := by decide +kernel
theorem dX11_reading_20 : decode cX11_reading 20 = .ok (.iload_n 1, 1) := by decide +kernel
theorem dX11_reading_21 : decode cX11_reading 21 = .ok (.aaload, 1) := by decide +kernel
theorem dX11_reading_22 : decode cX11_reading 22 = .ok (.astore_n 2, 1) := by decide +kernel
theorem dX11_reading_23 : decode cX11_reading 23 = .ok (.aload_n 2, 1) := by decide +kernel
theorem dX11_reading_24 : decode cX11_reading 24 = .ok (.iconst 1, 1) := by decide +kernel
theorem dX11_reading_25 : decode cX11_reading 25 = .ok (.invokevirtual 269, 3) := by decide +kernel
theorem dX11_reading_28 : decode cX11_reading 28 = .ok (.istore_n 3, 1) := by decide +kernel
theorem dX11_reading_29 : decode cX11_reading 29 = .ok (.aload_n 2, 1) := by decide +kernel
theorem dX11_reading_30 : decode cX11_reading 30 = .ok (.iconst 0, 1) := by decide +kernel
theorem dX11_reading_31 : decode cX11_reading 31 = .ok (.invokevirtual 269, 3) := by decide +kernel
theorem dX11_reading_34 : decode cX11_reading 34 = .ok (.istore 4, 2) := by decide +kernel
theorem dX11_reading_36 : decode cX11_reading 36 = .ok (.aload_n 0, 1) := by decide +kernel
theorem dX11_reading_37 : decode cX11_reading 37 = .ok (.iload_n 3, 1) := by decide +kernel
theorem dX11_reading_38 : decode cX11_reading 38 = .ok (.iload 4, 2) := by decide +kernel
theorem dX11_reading_40 : decode cX11_reading 40 = .ok (.iadd, 1) := by decide +kernel
theorem dX11_reading_41 : decode cX11_reading 41 = .ok (.iload_n 3, 1) := by decide +kernel
theorem dX11_reading_42 : decode cX11_reading 42 = .ok (.iload 4, 2) := by decide +kernel
theorem dX11_reading_44 : decode cX11_reading 44 = .ok (.if_icmp .ne 10, 3) := by decide +kernel
theorem dX11_reading_47 : decode cX11_reading 47 = .ok (.aload_n 2, 1) := by decide +kernel
theorem dX11_reading_48 : decode cX11_reading 48 = .ok (.getfield 272, 3) := by decide +kernel
theorem dX11_reading_51 : decode cX11_reading 51 = .ok (.goto 14, 3) := by decide +kernel
theorem dX11_reading_54 : decode cX11_reading 54 = .ok (.iload_n 3, 1) := by decide +kernel
theorem dX11_reading_55 : decode cX11_reading 55 = .ok (.iload 4, 2) := by decide +kernel
theorem dX11_reading_57 : decode cX11_reading 57 = .ok (.if_icmp .le 7, 3) := by decide +kernel
theorem dX11_reading_60 : decode cX11_reading 60 = .ok (.iconst 1, 1) := by decide +kernel
theorem dX11_reading_61 : decode cX11_reading 61 = .ok (.goto 4, 3) := by decide +kernel
theorem dX11_reading_64 : decode cX11_reading 64 = .ok (.iconst 0, 1) := by decide +kernel
theorem dX11_reading_65 : decode cX11_reading 65 = .ok (.invokevirtual 82, 3) := by decide +kernel
theorem dX11_reading_68 : decode cX11_reading 68 = .ok (.ireturn, 1) := by decide +kernel
theorem dX11_slip_0 : decode cX11_slip 0 = .ok (.iload_n 1, 1) := by decide +kernel
theorem dX11_slip_1 : decode cX11_slip 1 = .ok (.iconst 1, 1) := by decide +kernel
theorem dX11_slip_2 : decode cX11_slip 2 = .ok (.if_icmp .lt 29, 3) := by decide +kernel
theorem dX11_slip_5 : decode cX11_slip 5 = .ok (.iload_n 1, 1) := by decide +kernel
theorem dX11_slip_6 : decode cX11_slip 6 = .ok (.bipush 12, 2) := by decide +kernel
theorem dX11_slip_8 : decode cX11_slip 8 = .ok (.if_icmp .gt 23, 3) := by decide +kernel
theorem dX11_slip_11 : decode cX11_slip 11 = .ok (.iload_n 2, 1) := by decide +kernel
theorem dX11_slip_12 : decode cX11_slip 12 = .ok (.iconst 2, 1) := by decide +kernel
theorem dX11_slip_13 : decode cX11_slip 13 = .ok (.if_icmp .lt 18, 3) := by decide +kernel
theorem dX11_slip_16 : decode cX11_slip 16 = .ok (.iload_n 2, 1) := by decide +kernel
theorem dX11_slip_17 : decode cX11_slip 17 = .ok (.bipush 9, 2) := by decide +kernel
theorem dX11_slip_19 : decode cX11_slip 19 = .ok (.if_icmp .gt 12, 3) := by decide +kernel
theorem dX11_slip_22 : decode cX11_slip 22 = .ok (.iload_n 3, 1) := by decide +kernel
theorem dX11_slip_23 : decode cX11_slip 23 = .ok (.ifCond .lt 8, 3) := by decide +kernel
theorem dX11_slip_26 : decode cX11_slip 26 = .ok (.iload_n 3, 1) := by decide +kernel
theorem dX11_slip_27 : decode cX11_slip 27 = .ok (.iload_n 1, 1) := by decide +kernel
theorem dX11_slip_28 : decode cX11_slip 28 = .ok (.if_icmp .le 5, 3) := by decide +kernel
theorem dX11_slip_31 : decode cX11_slip 31 = .ok (.iconst (-1), 1) := by decide +kernel
theorem dX11_slip_32 : decode cX11_slip 32 = .ok (.ireturn, 1) := by decide +kernel
theorem dX11_slip_33 : decode cX11_slip 33 = .ok (.lconst 1, 1) := by decide +kernel
theorem dX11_slip_34 : decode cX11_slip 34 = .ok (.lstore 4, 2) := by decide +kernel
theorem dX11_slip_36 : decode cX11_slip 36 = .ok (.lconst 1, 1) := by decide +kernel
theorem dX11_slip_37 : decode cX11_slip 37 = .ok (.lstore 6, 2) := by decide +kernel
theorem dX11_slip_39 : decode cX11_slip 39 = .ok (.lconst 0, 1) := by decide +kernel
theorem dX11_slip_40 : decode cX11_slip 40 = .ok (.lstore 8, 2) := by decide +kernel
theorem dX11_slip_42 : decode cX11_slip 42 = .ok (.iload_n 1, 1) := by decide +kernel
theorem dX11_slip_43 : decode cX11_slip 43 = .ok (.istore 10, 2) := by decide +kernel
theorem dX11_slip_45 : decode cX11_slip 45 = .ok (.iload 10, 2) := by decide +kernel
theorem dX11_slip_47 : decode cX11_slip 47 = .ok (.iload_n 3, 1) := by decide +kernel
theorem dX11_slip_48 : decode cX11_slip 48 = .ok (.if_icmp .lt 44, 3) := by decide +kernel
theorem dX11_slip_51 : decode cX11_slip 51 = .ok (.lload 8, 2) := by decide +kernel
theorem dX11_slip_53 : decode cX11_slip 53 = .ok (.lload 4, 2) := by decide +kernel
theorem dX11_slip_55 : decode cX11_slip 55 = .ok (.lload 6, 2) := by decide +kernel
theorem dX11_slip_57 : decode cX11_slip 57 = .ok (.lmul, 1) := by decide +kernel
theorem dX11_slip_58 : decode cX11_slip 58 = .ok (.ladd, 1) := by decide +kernel
theorem dX11_slip_59 : decode cX11_slip 59 = .ok (.lstore 8, 2) := by decide +kernel
theorem dX11_slip_61 : decode cX11_slip 61 = .ok (.lload 4, 2) := by decide +kernel
theorem dX11_slip_63 : decode cX11_slip 63 = .ok (.iload 10, 2) := by decide +kernel
theorem dX11_slip_65 : decode cX11_slip 65 = .ok (.i2l, 1) := by decide +kernel
theorem dX11_slip_66 : decode cX11_slip 66 = .ok (.lmul, 1) := by decide +kernel
theorem dX11_slip_67 : decode cX11_slip 67 = .ok (.iload_n 1, 1) := by decide +kernel
theorem dX11_slip_68 : decode cX11_slip 68 = .ok (.iload 10, 2) := by decide +kernel
theorem dX11_slip_70 : decode cX11_slip 70 = .ok (.isub, 1) := by decide +kernel
theorem dX11_slip_71 : decode cX11_slip 71 = .ok (.iconst 1, 1) := by decide +kernel
theorem dX11_slip_72 : decode cX11_slip 72 = .ok (.iadd, 1) := by decide +kernel
theorem dX11_slip_73 : decode cX11_slip 73 = .ok (.i2l, 1) := by decide +kernel
theorem dX11_slip_74 : decode cX11_slip 74 = .ok (.ldiv, 1) := by decide +kernel
theorem dX11_slip_75 : decode cX11_slip 75 = .ok (.lstore 4, 2) := by decide +kernel
theorem dX11_slip_77 : decode cX11_slip 77 = .ok (.lload 6, 2) := by decide +kernel
theorem dX11_slip_79 : decode cX11_slip 79 = .ok (.iload_n 2, 1) := by decide +kernel
theorem dX11_slip_80 : decode cX11_slip 80 = .ok (.iconst 1, 1) := by decide +kernel
theorem dX11_slip_81 : decode cX11_slip 81 = .ok (.isub, 1) := by decide +kernel
theorem dX11_slip_82 : decode cX11_slip 82 = .ok (.i2l, 1) := by decide +kernel
theorem dX11_slip_83 : decode cX11_slip 83 = .ok (.lmul, 1) := by decide +kernel
theorem dX11_slip_84 : decode cX11_slip 84 = .ok (.lstore 6, 2) := by decide +kernel
theorem dX11_slip_86 : decode cX11_slip 86 = .ok (.iinc 10 (-1), 3) := by decide +kernel
theorem dX11_slip_89 : decode cX11_slip 89 = .ok (.goto (-44), 3) := by decide +kernel
theorem dX11_slip_92 : decode cX11_slip 92 = .ok (.lconst 1, 1) := by decide +kernel
theorem dX11_slip_93 : decode cX11_slip 93 = .ok (.lstore 10, 2) := by decide +kernel
theorem dX11_slip_95 : decode cX11_slip 95 = .ok (.iconst 0, 1) := by decide +kernel
theorem dX11_slip_96 : decode cX11_slip 96 = .ok (.istore 12, 2) := by decide +kernel
theorem dX11_slip_98 : decode cX11_slip 98 = .ok (.iload 12, 2) := by decide +kernel
theorem dX11_slip_100 : decode cX11_slip 100 = .ok (.iload_n 1, 1) := by decide +kernel
theorem dX11_slip_101 : decode cX11_slip 101 = .ok (.if_icmp .ge 16, 3) := by decide +kernel
theorem dX11_slip_104 : decode cX11_slip 104 = .ok (.lload 10, 2) := by decide +kernel
theorem dX11_slip_106 : decode cX11_slip 106 = .ok (.iload_n 2, 1) := by decide +kernel
theorem dX11_slip_107 : decode cX11_slip 107 = .ok (.i2l, 1) := by decide +kernel
theorem dX11_slip_108 : decode cX11_slip 108 = .ok (.lmul, 1) := by decide +kernel
theorem dX11_slip_109 : decode cX11_slip 109 = .ok (.lstore 10, 2) := by decide +kernel
theorem dX11_slip_111 : decode cX11_slip 111 = .ok (.iinc 12 1, 3) := by decide +kernel
theorem dX11_slip_114 : decode cX11_slip 114 = .ok (.goto (-16), 3) := by decide +kernel
theorem dX11_slip_117 : decode cX11_slip 117 = .ok (.aload_n 0, 1) := by decide +kernel
theorem dX11_slip_118 : decode cX11_slip 118 = .ok (.lload 8, 2) := by decide +kernel
theorem dX11_slip_120 : decode cX11_slip 120 = .ok (.lload 10, 2) := by decide +kernel
theorem dX11_slip_122 : decode cX11_slip 122 = .ok (.invokevirtual 275, 3) := by decide +kernel
theorem dX11_slip_125 : decode cX11_slip 125 = .ok (.iconst 1, 1) := by decide +kernel
theorem dX11_slip_126 : decode cX11_slip 126 = .ok (.ireturn, 1) := by decide +kernel
theorem dX11_runs_0 : decode cX11_runs 0 = .ok (.aload_n 0, 1) := by decide +kernel
theorem dX11_runs_1 : decode cX11_runs 1 = .ok (.getfield 24, 3) := by decide +kernel
theorem dX11_runs_4 : decode cX11_runs 4 = .ok (.iload_n 1, 1) := by decide +kernel
theorem dX11_runs_5 : decode cX11_runs 5 = .ok (.invokevirtual 135, 3) := by decide +kernel
theorem dX11_runs_8 : decode cX11_runs 8 = .ok (.ifCond .ne 5, 3) := by decide +kernel
theorem dX11_runs_11 : decode cX11_runs 11 = .ok (.iconst (-1), 1) := by decide +kernel
theorem dX11_runs_12 : decode cX11_runs 12 = .ok (.ireturn, 1) := by decide +kernel
theorem dX11_runs_13 : decode cX11_runs 13 = .ok (.aload_n 0, 1) := by decide +kernel
theorem dX11_runs_14 : decode cX11_runs 14 = .ok (.getfield 24, 3) := by decide +kernel
theorem dX11_runs_17 : decode cX11_runs 17 = .ok (.getfield 138, 3) := by decide +kernel
theorem dX11_runs_20 : decode cX11_runs 20 = .ok (.iload_n 1, 1) := by decide +kernel
theorem dX11_runs_21 : decode cX11_runs 21 = .ok (.aaload, 1) := by decide +kernel
theorem dX11_runs_22 : decode cX11_runs 22 = .ok (.astore_n 2, 1) := by decide +kernel
theorem dX11_runs_23 : decode cX11_runs 23 = .ok (.aload_n 0, 1) := by decide +kernel
theorem dX11_runs_24 : decode cX11_runs 24 = .ok (.getfield 24, 3) := by decide +kernel
theorem dX11_runs_27 : decode cX11_runs 27 = .ok (.invokevirtual 188, 3) := by decide +kernel
theorem dX11_runs_30 : decode cX11_runs 30 = .ok (.aload_n 2, 1) := by decide +kernel
theorem dX11_runs_31 : decode cX11_runs 31 = .ok (.getfield 279, 3) := by decide +kernel
theorem dX11_runs_34 : decode cX11_runs 34 = .ok (.aaload, 1) := by decide +kernel
theorem dX11_runs_35 : decode cX11_runs 35 = .ok (.getfield 192, 3) := by decide +kernel
theorem dX11_runs_38 : decode cX11_runs 38 = .ok (.getfield 203, 3) := by decide +kernel
theorem dX11_runs_41 : decode cX11_runs 41 = .ok (.istore_n 3, 1) := by decide +kernel
theorem dX11_runs_42 : decode cX11_runs 42 = .ok (.aload_n 0, 1) := by decide +kernel
theorem dX11_runs_43 : decode cX11_runs 43 = .ok (.getfield 24, 3) := by decide +kernel
theorem dX11_runs_46 : decode cX11_runs 46 = .ok (.iload_n 1, 1) := by decide +kernel
theorem dX11_runs_47 : decode cX11_runs 47 = .ok (.invokevirtual 282, 3) := by decide +kernel
theorem dX11_runs_50 : decode cX11_runs 50 = .ok (.istore 4, 2) := by decide +kernel
theorem dX11_runs_52 : decode cX11_runs 52 = .ok (.iload_n 3, 1) := by decide +kernel
theorem dX11_runs_53 : decode cX11_runs 53 = .ok (.iload 4, 2) := by decide +kernel
theorem dX11_runs_55 : decode cX11_runs 55 = .ok (.if_icmp .ne 10, 3) := by decide +kernel
theorem dX11_runs_58 : decode cX11_runs 58 = .ok (.aload_n 0, 1) := by decide +kernel
theorem dX11_runs_59 : decode cX11_runs 59 = .ok (.iconst 0, 1) := by decide +kernel
theorem dX11_runs_60 : decode cX11_runs 60 = .ok (.iconst 2, 1) := by decide +kernel
theorem dX11_runs_61 : decode cX11_runs 61 = .ok (.invokevirtual 82, 3) := by decide +kernel
theorem dX11_runs_64 : decode cX11_runs 64 = .ok (.ireturn, 1) := by decide +kernel
theorem dX11_runs_65 : decode cX11_runs 65 = .ok (.aload_n 0, 1) := by decide +kernel
theorem dX11_runs_66 : decode cX11_runs 66 = .ok (.iload_n 3, 1) := by decide +kernel
theorem dX11_runs_67 : decode cX11_runs 67 = .ok (.iload 4, 2) := by decide +kernel
theorem dX11_runs_69 : decode cX11_runs 69 = .ok (.isub, 1) := by decide +kernel
theorem dX11_runs_70 : decode cX11_runs 70 = .ok (.invokestatic 285, 3) := by decide +kernel
theorem dX11_runs_73 : decode cX11_runs 73 = .ok (.iload_n 3, 1) := by decide +kernel
theorem dX11_runs_74 : decode cX11_runs 74 = .ok (.iload 4, 2) := by decide +kernel
theorem dX11_runs_76 : decode cX11_runs 76 = .ok (.if_icmp .ge 10, 3) := by decide +kernel
theorem dX11_runs_79 : decode cX11_runs 79 = .ok (.aload_n 2, 1) := by decide +kernel
theorem dX11_runs_80 : decode cX11_runs 80 = .ok (.getfield 272, 3) := by decide +kernel
theorem dX11_runs_83 : decode cX11_runs 83 = .ok (.goto 9, 3) := by decide +kernel
theorem dX11_runs_86 : decode cX11_runs 86 = .ok (.iconst 1, 1) := by decide +kernel
theorem dX11_runs_87 : decode cX11_runs 87 = .ok (.aload_n 2, 1) := by decide +kernel
theorem dX11_runs_88 : decode cX11_runs 88 = .ok (.getfield 272, 3) := by decide +kernel
theorem dX11_runs_91 : decode cX11_runs 91 = .ok (.isub, 1) := by decide +kernel
theorem dX11_runs_92 : decode cX11_runs 92 = .ok (.invokevirtual 82, 3) := by decide +kernel
theorem dX11_runs_95 : decode cX11_runs 95 = .ok (.ireturn, 1) := by decide +kernel
theorem dX11_move_0 : decode cX11_move 0 = .ok (.aload_n 0, 1) := by decide +kernel
theorem dX11_move_1 : decode cX11_move 1 = .ok (.getfield 24, 3) := by decide +kernel
theorem dX11_move_4 : decode cX11_move 4 = .ok (.iload_n 1, 1) := by decide +kernel
theorem dX11_move_5 : decode cX11_move 5 = .ok (.invokevirtual 135, 3) := by decide +kernel
theorem dX11_move_8 : decode cX11_move 8 = .ok (.ifCond .eq 25, 3) := by decide +kernel
theorem dX11_move_11 : decode cX11_move 11 = .ok (.iload_n 2, 1) := by decide +kernel
theorem dX11_move_12 : decode cX11_move 12 = .ok (.bipush 7, 2) := by decide +kernel
theorem dX11_move_14 : decode cX11_move 14 = .ok (.invokestatic 64, 3) := by decide +kernel
theorem dX11_move_17 : decode cX11_move 17 = .ok (.ifCond .eq 16, 3) := by decide +kernel
theorem dX11_move_20 : decode cX11_move 20 = .ok (.aload_n 0, 1) := by decide +kernel
theorem dX11_move_21 : decode cX11_move 21 = .ok (.getfield 33, 3) := by decide +kernel
theorem dX11_move_24 : decode cX11_move 24 = .ok (.iload_n 1, 1) := by decide +kernel
theorem dX11_move_25 : decode cX11_move 25 = .ok (.iload_n 2, 1) := by decide +kernel
theorem dX11_move_26 : decode cX11_move 26 = .ok (.iload_n 3, 1) := by decide +kernel
theorem dX11_move_27 : decode cX11_move 27 = .ok (.invokevirtual 288, 3) := by decide +kernel
theorem dX11_move_30 : decode cX11_move 30 = .ok (.ifCond .ne 5, 3) := by decide +kernel
theorem dX11_move_33 : decode cX11_move 33 = .ok (.iconst (-1), 1) := by decide +kernel
theorem dX11_move_34 : decode cX11_move 34 = .ok (.ireturn, 1) := by decide +kernel
theorem dX11_move_35 : decode cX11_move 35 = .ok (.aload_n 0, 1) := by decide +kernel
theorem dX11_move_36 : decode cX11_move 36 = .ok (.getfield 33, 3) := by decide +kernel
theorem dX11_move_39 : decode cX11_move 39 = .ok (.getfield 292, 3) := by decide +kernel
theorem dX11_move_42 : decode cX11_move 42 = .ok (.bipush 40, 2) := by decide +kernel
theorem dX11_move_44 : decode cX11_move 44 = .ok (.if_icmp .ne 6, 3) := by decide +kernel
theorem dX11_move_47 : decode cX11_move 47 = .ok (.bipush (-2), 2) := by decide +kernel
theorem dX11_move_49 : decode cX11_move 49 = .ok (.ireturn, 1) := by decide +kernel
theorem dX11_move_50 : decode cX11_move 50 = .ok (.aload_n 0, 1) := by decide +kernel
theorem dX11_move_51 : decode cX11_move 51 = .ok (.getfield 33, 3) := by decide +kernel
theorem dX11_move_54 : decode cX11_move 54 = .ok (.iload_n 1, 1) := by decide +kernel
theorem dX11_move_55 : decode cX11_move 55 = .ok (.iload_n 2, 1) := by decide +kernel
theorem dX11_move_56 : decode cX11_move 56 = .ok (.iload_n 3, 1) := by decide +kernel
theorem dX11_move_57 : decode cX11_move 57 = .ok (.invokevirtual 295, 3) := by decide +kernel
theorem dX11_move_60 : decode cX11_move 60 = .ok (.ireturn, 1) := by decide +kernel
theorem dX11_moved_0 : decode cX11_moved 0 = .ok (.iload_n 1, 1) := by decide +kernel
theorem dX11_moved_1 : decode cX11_moved 1 = .ok (.aload_n 0, 1) := by decide +kernel
theorem dX11_moved_2 : decode cX11_moved 2 = .ok (.getfield 33, 3) := by decide +kernel
theorem dX11_moved_5 : decode cX11_moved 5 = .ok (.getfield 292, 3) := by decide +kernel
theorem dX11_moved_8 : decode cX11_moved 8 = .ok (.invokestatic 64, 3) := by decide +kernel
theorem dX11_moved_11 : decode cX11_moved 11 = .ok (.ifCond .eq 11, 3) := by decide +kernel
theorem dX11_moved_14 : decode cX11_moved 14 = .ok (.iload_n 2, 1) := by decide +kernel
theorem dX11_moved_15 : decode cX11_moved 15 = .ok (.iconst 3, 1) := by decide +kernel
theorem dX11_moved_16 : decode cX11_moved 16 = .ok (.invokestatic 64, 3) := by decide +kernel
theorem dX11_moved_19 : decode cX11_moved 19 = .ok (.ifCond .ne 5, 3) := by decide +kernel
theorem dX11_moved_22 : decode cX11_moved 22 = .ok (.iconst (-1), 1) := by decide +kernel
theorem dX11_moved_23 : decode cX11_moved 23 = .ok (.ireturn, 1) := by decide +kernel
theorem dX11_moved_24 : decode cX11_moved 24 = .ok (.aload_n 0, 1) := by decide +kernel
theorem dX11_moved_25 : decode cX11_moved 25 = .ok (.aload_n 0, 1) := by decide +kernel
theorem dX11_moved_26 : decode cX11_moved 26 = .ok (.getfield 33, 3) := by decide +kernel
theorem dX11_moved_29 : decode cX11_moved 29 = .ok (.getfield 298, 3) := by decide +kernel
theorem dX11_moved_32 : decode cX11_moved 32 = .ok (.iload_n 1, 1) := by decide +kernel
theorem dX11_moved_33 : decode cX11_moved 33 = .ok (.aaload, 1) := by decide +kernel
theorem dX11_moved_34 : decode cX11_moved 34 = .ok (.iload_n 2, 1) := by decide +kernel
theorem dX11_moved_35 : decode cX11_moved 35 = .ok (.invokevirtual 302, 3) := by decide +kernel
theorem dX11_moved_38 : decode cX11_moved 38 = .ok (.iconst 1, 1) := by decide +kernel
theorem dX11_moved_39 : decode cX11_moved 39 = .ok (.invokevirtual 82, 3) := by decide +kernel
theorem dX11_moved_42 : decode cX11_moved 42 = .ok (.ireturn, 1) := by decide +kernel
theorem dX11_mark_0 : decode cX11_mark 0 = .ok (.iload_n 1, 1) := by decide +kernel
theorem dX11_mark_1 : decode cX11_mark 1 = .ok (.aload_n 0, 1) := by decide +kernel
theorem dX11_mark_2 : decode cX11_mark 2 = .ok (.getfield 33, 3) := by decide +kernel
theorem dX11_mark_5 : decode cX11_mark 5 = .ok (.getfield 292, 3) := by decide +kernel
theorem dX11_mark_8 : decode cX11_mark 8 = .ok (.invokestatic 64, 3) := by decide +kernel
theorem dX11_mark_11 : decode cX11_mark 11 = .ok (.ifCond .eq 16, 3) := by decide +kernel
theorem dX11_mark_14 : decode cX11_mark 14 = .ok (.iload_n 2, 1) := by decide +kernel
theorem dX11_mark_15 : decode cX11_mark 15 = .ok (.bipush 7, 2) := by decide +kernel
theorem dX11_mark_17 : decode cX11_mark 17 = .ok (.invokestatic 64, 3) := by decide +kernel
theorem dX11_mark_20 : decode cX11_mark 20 = .ok (.ifCond .eq 7, 3) := by decide +kernel
theorem dX11_mark_23 : decode cX11_mark 23 = .ok (.iload_n 2, 1) := by decide +kernel
theorem dX11_mark_24 : decode cX11_mark 24 = .ok (.ifCond .ne 5, 3) := by decide +kernel
theorem dX11_mark_27 : decode cX11_mark 27 = .ok (.iconst (-1), 1) := by decide +kernel
theorem dX11_mark_28 : decode cX11_mark 28 = .ok (.ireturn, 1) := by decide +kernel
theorem dX11_mark_29 : decode cX11_mark 29 = .ok (.aload_n 0, 1) := by decide +kernel
theorem dX11_mark_30 : decode cX11_mark 30 = .ok (.getfield 33, 3) := by decide +kernel
theorem dX11_mark_33 : decode cX11_mark 33 = .ok (.getfield 298, 3) := by decide +kernel
theorem dX11_mark_36 : decode cX11_mark 36 = .ok (.iload_n 1, 1) := by decide +kernel
theorem dX11_mark_37 : decode cX11_mark 37 = .ok (.aaload, 1) := by decide +kernel
theorem dX11_mark_38 : decode cX11_mark 38 = .ok (.getfield 305, 3) := by decide +kernel
theorem dX11_mark_41 : decode cX11_mark 41 = .ok (.iload_n 2, 1) := by decide +kernel
theorem dX11_mark_42 : decode cX11_mark 42 = .ok (.if_icmp .eq 9, 3) := by decide +kernel
theorem dX11_mark_45 : decode cX11_mark 45 = .ok (.aload_n 0, 1) := by decide +kernel
theorem dX11_mark_46 : decode cX11_mark 46 = .ok (.iconst 3, 1) := by decide +kernel
theorem dX11_mark_47 : decode cX11_mark 47 = .ok (.invokevirtual 68, 3) := by decide +kernel
theorem dX11_mark_50 : decode cX11_mark 50 = .ok (.ireturn, 1) := by decide +kernel
theorem dX11_mark_51 : decode cX11_mark 51 = .ok (.aload_n 0, 1) := by decide +kernel
theorem dX11_mark_52 : decode cX11_mark 52 = .ok (.getfield 33, 3) := by decide +kernel
theorem dX11_mark_55 : decode cX11_mark 55 = .ok (.aload_n 0, 1) := by decide +kernel
theorem dX11_mark_56 : decode cX11_mark 56 = .ok (.getfield 33, 3) := by decide +kernel
theorem dX11_mark_59 : decode cX11_mark 59 = .ok (.getfield 298, 3) := by decide +kernel
theorem dX11_mark_62 : decode cX11_mark 62 = .ok (.iload_n 1, 1) := by decide +kernel
theorem dX11_mark_63 : decode cX11_mark 63 = .ok (.aaload, 1) := by decide +kernel
theorem dX11_mark_64 : decode cX11_mark 64 = .ok (.aload_n 0, 1) := by decide +kernel
theorem dX11_mark_65 : decode cX11_mark 65 = .ok (.getfield 24, 3) := by decide +kernel
theorem dX11_mark_68 : decode cX11_mark 68 = .ok (.invokevirtual 188, 3) := by decide +kernel
theorem dX11_mark_71 : decode cX11_mark 71 = .ok (.invokevirtual 308, 3) := by decide +kernel
theorem dX11_mark_74 : decode cX11_mark 74 = .ok (.ireturn, 1) := by decide +kernel
theorem dX11_follow_0 : decode cX11_follow 0 = .ok (.aload_n 0, 1) := by decide +kernel
theorem dX11_follow_1 : decode cX11_follow 1 = .ok (.getfield 33, 3) := by decide +kernel
theorem dX11_follow_4 : decode cX11_follow 4 = .ok (.aload_n 0, 1) := by decide +kernel
theorem dX11_follow_5 : decode cX11_follow 5 = .ok (.getfield 24, 3) := by decide +kernel
theorem dX11_follow_8 : decode cX11_follow 8 = .ok (.invokevirtual 188, 3) := by decide +kernel
theorem dX11_follow_11 : decode cX11_follow 11 = .ok (.invokevirtual 312, 3) := by decide +kernel
theorem dX11_follow_14 : decode cX11_follow 14 = .ok (.aload_n 0, 1) := by decide +kernel
theorem dX11_follow_15 : decode cX11_follow 15 = .ok (.aload_n 0, 1) := by decide +kernel
theorem dX11_follow_16 : decode cX11_follow 16 = .ok (.getfield 33, 3) := by decide +kernel
theorem dX11_follow_19 : decode cX11_follow 19 = .ok (.getfield 316, 3) := by decide +kernel
theorem dX11_follow_22 : decode cX11_follow 22 = .ok (.aload_n 0, 1) := by decide +kernel
theorem dX11_follow_23 : decode cX11_follow 23 = .ok (.getfield 33, 3) := by decide +kernel
theorem dX11_follow_26 : decode cX11_follow 26 = .ok (.getfield 319, 3) := by decide +kernel
theorem dX11_follow_29 : decode cX11_follow 29 = .ok (.invokevirtual 82, 3) := by decide +kernel
theorem dX11_follow_32 : decode cX11_follow 32 = .ok (.ireturn, 1) := by decide +kernel
theorem dX11_law_0 : decode cX11_law 0 = .ok (.iload_n 1, 1) := by decide +kernel
theorem dX11_law_1 : decode cX11_law 1 = .ok (.iconst 3, 1) := by decide +kernel
theorem dX11_law_2 : decode cX11_law 2 = .ok (.invokestatic 64, 3) := by decide +kernel
theorem dX11_law_5 : decode cX11_law 5 = .ok (.ifCond .eq 12, 3) := by decide +kernel
theorem dX11_law_8 : decode cX11_law 8 = .ok (.iload_n 2, 1) := by decide +kernel
theorem dX11_law_9 : decode cX11_law 9 = .ok (.bipush 32, 2) := by decide +kernel
theorem dX11_law_11 : decode cX11_law 11 = .ok (.invokestatic 64, 3) := by decide +kernel
theorem dX11_law_14 : decode cX11_law 14 = .ok (.ifCond .ne 5, 3) := by decide +kernel
theorem dX11_law_17 : decode cX11_law 17 = .ok (.iconst (-1), 1) := by decide +kernel
theorem dX11_law_18 : decode cX11_law 18 = .ok (.ireturn, 1) := by decide +kernel
theorem dX11_law_19 : decode cX11_law 19 = .ok (.aload_n 0, 1) := by decide +kernel
theorem dX11_law_20 : decode cX11_law 20 = .ok (.getfield 40, 3) := by decide +kernel
theorem dX11_law_23 : decode cX11_law 23 = .ok (.iload_n 1, 1) := by decide +kernel
theorem dX11_law_24 : decode cX11_law 24 = .ok (.iload_n 2, 1) := by decide +kernel
theorem dX11_law_25 : decode cX11_law 25 = .ok (.aload_n 0, 1) := by decide +kernel
theorem dX11_law_26 : decode cX11_law 26 = .ok (.getfield 24, 3) := by decide +kernel
theorem dX11_law_29 : decode cX11_law 29 = .ok (.invokevirtual 188, 3) := by decide +kernel
theorem dX11_law_32 : decode cX11_law 32 = .ok (.invokevirtual 322, 3) := by decide +kernel
theorem dX11_law_35 : decode cX11_law 35 = .ok (.istore_n 3, 1) := by decide +kernel
theorem dX11_law_36 : decode cX11_law 36 = .ok (.iload_n 3, 1) := by decide +kernel
theorem dX11_law_37 : decode cX11_law 37 = .ok (.bipush (-9), 2) := by decide +kernel
theorem dX11_law_39 : decode cX11_law 39 = .ok (.if_icmp .ne 8, 3) := by decide +kernel
theorem dX11_law_42 : decode cX11_law 42 = .ok (.bipush (-9), 2) := by decide +kernel
theorem dX11_law_44 : decode cX11_law 44 = .ok (.goto 15, 3) := by decide +kernel
theorem dX11_law_47 : decode cX11_law 47 = .ok (.aload_n 0, 1) := by decide +kernel
theorem dX11_law_48 : decode cX11_law 48 = .ok (.aload_n 0, 1) := by decide +kernel
theorem dX11_law_49 : decode cX11_law 49 = .ok (.getfield 40, 3) := by decide +kernel
theorem dX11_law_52 : decode cX11_law 52 = .ok (.getfield 326, 3) := by decide +kernel
theorem dX11_law_55 : decode cX11_law 55 = .ok (.iload_n 3, 1) := by decide +kernel
theorem dX11_law_56 : decode cX11_law 56 = .ok (.invokevirtual 82, 3) := by decide +kernel
theorem dX11_law_59 : decode cX11_law 59 = .ok (.ireturn, 1) := by decide +kernel
theorem dX11_lawsPart_0 : decode cX11_lawsPart 0 = .ok (.iload_n 1, 1) := by decide +kernel
theorem dX11_lawsPart_1 : decode cX11_lawsPart 1 = .ok (.iconst 3, 1) := by decide +kernel
theorem dX11_lawsPart_2 : decode cX11_lawsPart 2 = .ok (.invokestatic 64, 3) := by decide +kernel
theorem dX11_lawsPart_5 : decode cX11_lawsPart 5 = .ok (.ifCond .eq 11, 3) := by decide +kernel
theorem dX11_lawsPart_8 : decode cX11_lawsPart 8 = .ok (.iload_n 2, 1) := by decide +kernel
theorem dX11_lawsPart_9 : decode cX11_lawsPart 9 = .ok (.iconst 3, 1) := by decide +kernel
theorem dX11_lawsPart_10 : decode cX11_lawsPart 10 = .ok (.invokestatic 64, 3) := by decide +kernel
theorem dX11_lawsPart_13 : decode cX11_lawsPart 13 = .ok (.ifCond .ne 5, 3) := by decide +kernel
theorem dX11_lawsPart_16 : decode cX11_lawsPart 16 = .ok (.iconst (-1), 1) := by decide +kernel
theorem dX11_lawsPart_17 : decode cX11_lawsPart 17 = .ok (.ireturn, 1) := by decide +kernel
theorem dX11_lawsPart_18 : decode cX11_lawsPart 18 = .ok (.aload_n 0, 1) := by decide +kernel
theorem dX11_lawsPart_19 : decode cX11_lawsPart 19 = .ok (.getfield 24, 3) := by decide +kernel
theorem dX11_lawsPart_22 : decode cX11_lawsPart 22 = .ok (.invokevirtual 188, 3) := by decide +kernel
theorem dX11_lawsPart_25 : decode cX11_lawsPart 25 = .ok (.astore_n 3, 1) := by decide +kernel
theorem dX11_lawsPart_26 : decode cX11_lawsPart 26 = .ok (.iconst 0, 1) := by decide +kernel
theorem dX11_lawsPart_27 : decode cX11_lawsPart 27 = .ok (.istore 4, 2) := by decide +kernel
theorem dX11_lawsPart_29 : decode cX11_lawsPart 29 = .ok (.iconst 0, 1) := by decide +kernel
theorem dX11_lawsPart_30 : decode cX11_lawsPart 30 = .ok (.istore 5, 2) := by decide +kernel
theorem dX11_lawsPart_32 : decode cX11_lawsPart 32 = .ok (.iload 5, 2) := by decide +kernel
theorem dX11_lawsPart_34 : decode cX11_lawsPart 34 = .ok (.bipush 32, 2) := by decide +kernel
theorem dX11_lawsPart_36 : decode cX11_lawsPart 36 = .ok (.if_icmp .ge 37, 3) := by decide +kernel
theorem dX11_lawsPart_39 : decode cX11_lawsPart 39 = .ok (.aload_n 0, 1) := by decide +kernel
theorem dX11_lawsPart_40 : decode cX11_lawsPart 40 = .ok (.getfield 40, 3) := by decide +kernel
theorem dX11_lawsPart_43 : decode cX11_lawsPart 43 = .ok (.iload_n 1, 1) := by decide +kernel
theorem dX11_lawsPart_44 : decode cX11_lawsPart 44 = .ok (.iload 5, 2) := by decide +kernel
theorem dX11_lawsPart_46 : decode cX11_lawsPart 46 = .ok (.aload_n 3, 1) := by decide +kernel
theorem dX11_lawsPart_47 : decode cX11_lawsPart 47 = .ok (.invokevirtual 322, 3) := by decide +kernel
theorem dX11_lawsPart_50 : decode cX11_lawsPart 50 = .ok (.aload_n 0, 1) := by decide +kernel
theorem dX11_lawsPart_51 : decode cX11_lawsPart 51 = .ok (.getfield 40, 3) := by decide +kernel
theorem dX11_lawsPart_54 : decode cX11_lawsPart 54 = .ok (.iload_n 2, 1) := by decide +kernel
theorem dX11_lawsPart_55 : decode cX11_lawsPart 55 = .ok (.iload 5, 2) := by decide +kernel
theorem dX11_lawsPart_57 : decode cX11_lawsPart 57 = .ok (.aload_n 3, 1) := by decide +kernel
theorem dX11_lawsPart_58 : decode cX11_lawsPart 58 = .ok (.invokevirtual 322, 3) := by decide +kernel
theorem dX11_lawsPart_61 : decode cX11_lawsPart 61 = .ok (.if_icmp .eq 6, 3) := by decide +kernel
theorem dX11_lawsPart_64 : decode cX11_lawsPart 64 = .ok (.iinc 4 1, 3) := by decide +kernel
theorem dX11_lawsPart_67 : decode cX11_lawsPart 67 = .ok (.iinc 5 1, 3) := by decide +kernel
theorem dX11_lawsPart_70 : decode cX11_lawsPart 70 = .ok (.goto (-38), 3) := by decide +kernel
theorem dX11_lawsPart_73 : decode cX11_lawsPart 73 = .ok (.iload 4, 2) := by decide +kernel
theorem dX11_lawsPart_75 : decode cX11_lawsPart 75 = .ok (.ireturn, 1) := by decide +kernel
theorem dX11_fresh_0 : decode cX11_fresh 0 = .ok (.aload_n 0, 1) := by decide +kernel
theorem dX11_fresh_1 : decode cX11_fresh 1 = .ok (.getfield 24, 3) := by decide +kernel
theorem dX11_fresh_4 : decode cX11_fresh 4 = .ok (.iload_n 1, 1) := by decide +kernel
theorem dX11_fresh_5 : decode cX11_fresh 5 = .ok (.invokevirtual 111, 3) := by decide +kernel
theorem dX11_fresh_8 : decode cX11_fresh 8 = .ok (.ifCond .eq 12, 3) := by decide +kernel
theorem dX11_fresh_11 : decode cX11_fresh 11 = .ok (.iload_n 2, 1) := by decide +kernel
theorem dX11_fresh_12 : decode cX11_fresh 12 = .ok (.bipush 32, 2) := by decide +kernel
theorem dX11_fresh_14 : decode cX11_fresh 14 = .ok (.invokestatic 64, 3) := by decide +kernel
theorem dX11_fresh_17 : decode cX11_fresh 17 = .ok (.ifCond .ne 5, 3) := by decide +kernel
theorem dX11_fresh_20 : decode cX11_fresh 20 = .ok (.iconst (-1), 1) := by decide +kernel
theorem dX11_fresh_21 : decode cX11_fresh 21 = .ok (.ireturn, 1) := by decide +kernel
theorem dX11_fresh_22 : decode cX11_fresh 22 = .ok (.aload_n 0, 1) := by decide +kernel
theorem dX11_fresh_23 : decode cX11_fresh 23 = .ok (.getfield 24, 3) := by decide +kernel
theorem dX11_fresh_26 : decode cX11_fresh 26 = .ok (.invokevirtual 188, 3) := by decide +kernel
theorem dX11_fresh_29 : decode cX11_fresh 29 = .ok (.iload_n 1, 1) := by decide +kernel
theorem dX11_fresh_30 : decode cX11_fresh 30 = .ok (.aaload, 1) := by decide +kernel
theorem dX11_fresh_31 : decode cX11_fresh 31 = .ok (.getfield 192, 3) := by decide +kernel
theorem dX11_fresh_34 : decode cX11_fresh 34 = .ok (.iload_n 2, 1) := by decide +kernel
theorem dX11_fresh_35 : decode cX11_fresh 35 = .ok (.invokevirtual 329, 3) := by decide +kernel
theorem dX11_fresh_38 : decode cX11_fresh 38 = .ok (.ireturn, 1) := by decide +kernel
theorem dX11_next_0 : decode cX11_next 0 = .ok (.aload_n 0, 1) := by decide +kernel
theorem dX11_next_1 : decode cX11_next 1 = .ok (.getfield 24, 3) := by decide +kernel
theorem dX11_next_4 : decode cX11_next 4 = .ok (.getfield 221, 3) := by decide +kernel
theorem dX11_next_7 : decode cX11_next 7 = .ok (.ifCond .ne 6, 3) := by decide +kernel
theorem dX11_next_10 : decode cX11_next 10 = .ok (.bipush (-9), 2) := by decide +kernel
theorem dX11_next_12 : decode cX11_next 12 = .ok (.ireturn, 1) := by decide +kernel
theorem dX11_next_13 : decode cX11_next 13 = .ok (.aload_n 0, 1) := by decide +kernel
theorem dX11_next_14 : decode cX11_next 14 = .ok (.getfield 24, 3) := by decide +kernel
theorem dX11_next_17 : decode cX11_next 17 = .ok (.invokevirtual 188, 3) := by decide +kernel
theorem dX11_next_20 : decode cX11_next 20 = .ok (.astore_n 1, 1) := by decide +kernel
theorem dX11_next_21 : decode cX11_next 21 = .ok (.iconst 0, 1) := by decide +kernel
theorem dX11_next_22 : decode cX11_next 22 = .ok (.istore_n 2, 1) := by decide +kernel
theorem dX11_next_23 : decode cX11_next 23 = .ok (.iconst (-1), 1) := by decide +kernel
theorem dX11_next_24 : decode cX11_next 24 = .ok (.istore_n 3, 1) := by decide +kernel
theorem dX11_next_25 : decode cX11_next 25 = .ok (.iconst 0, 1) := by decide +kernel
theorem dX11_next_26 : decode cX11_next 26 = .ok (.istore 4, 2) := by decide +kernel
theorem dX11_next_28 : decode cX11_next 28 = .ok (.iload 4, 2) := by decide +kernel
theorem dX11_next_30 : decode cX11_next 30 = .ok (.bipush 32, 2) := by decide +kernel
theorem dX11_next_32 : decode cX11_next 32 = .ok (.if_icmp .ge 33, 3) := by decide +kernel
theorem dX11_next_35 : decode cX11_next 35 = .ok (.aload_n 0, 1) := by decide +kernel
theorem dX11_next_36 : decode cX11_next 36 = .ok (.getfield 24, 3) := by decide +kernel
theorem dX11_next_39 : decode cX11_next 39 = .ok (.iload 4, 2) := by decide +kernel
theorem dX11_next_41 : decode cX11_next 41 = .ok (.aload_n 1, 1) := by decide +kernel
theorem dX11_next_42 : decode cX11_next 42 = .ok (.invokevirtual 332, 3) := by decide +kernel
theorem dX11_next_45 : decode cX11_next 45 = .ok (.istore 5, 2) := by decide +kernel
theorem dX11_next_47 : decode cX11_next 47 = .ok (.iload 5, 2) := by decide +kernel
theorem dX11_next_49 : decode cX11_next 49 = .ok (.iload_n 3, 1) := by decide +kernel
theorem dX11_next_50 : decode cX11_next 50 = .ok (.if_icmp .le 9, 3) := by decide +kernel
theorem dX11_next_53 : decode cX11_next 53 = .ok (.iload 5, 2) := by decide +kernel
theorem dX11_next_55 : decode cX11_next 55 = .ok (.istore_n 3, 1) := by decide +kernel
theorem dX11_next_56 : decode cX11_next 56 = .ok (.iload 4, 2) := by decide +kernel
theorem dX11_next_58 : decode cX11_next 58 = .ok (.istore_n 2, 1) := by decide +kernel
theorem dX11_next_59 : decode cX11_next 59 = .ok (.iinc 4 1, 3) := by decide +kernel
theorem dX11_next_62 : decode cX11_next 62 = .ok (.goto (-34), 3) := by decide +kernel
theorem dX11_next_65 : decode cX11_next 65 = .ok (.aload_n 0, 1) := by decide +kernel
theorem dX11_next_66 : decode cX11_next 66 = .ok (.iload_n 3, 1) := by decide +kernel
theorem dX11_next_67 : decode cX11_next 67 = .ok (.iload_n 2, 1) := by decide +kernel
theorem dX11_next_68 : decode cX11_next 68 = .ok (.invokevirtual 82, 3) := by decide +kernel
theorem dX11_next_71 : decode cX11_next 71 = .ok (.ireturn, 1) := by decide +kernel
theorem dX11_asked_0 : decode cX11_asked 0 = .ok (.aload_n 0, 1) := by decide +kernel
theorem dX11_asked_1 : decode cX11_asked 1 = .ok (.getfield 52, 3) := by decide +kernel
theorem dX11_asked_4 : decode cX11_asked 4 = .ok (.ireturn, 1) := by decide +kernel
theorem dX11_upper_0 : decode cX11_upper 0 = .ok (.aload_n 0, 1) := by decide +kernel
theorem dX11_upper_1 : decode cX11_upper 1 = .ok (.getfield 55, 3) := by decide +kernel
theorem dX11_upper_4 : decode cX11_upper 4 = .ok (.lreturn, 1) := by decide +kernel
theorem dX11_lower_0 : decode cX11_lower 0 = .ok (.aload_n 0, 1) := by decide +kernel
theorem dX11_lower_1 : decode cX11_lower 1 = .ok (.getfield 59, 3) := by decide +kernel
theorem dX11_lower_4 : decode cX11_lower 4 = .ok (.lreturn, 1) := by decide +kernel
theorem dX11_count_0 : decode cX11_count 0 = .ok (.iload_n 1, 1) := by decide +kernel
theorem dX11_count_1 : decode cX11_count 1 = .ok (.bipush 7, 2) := by decide +kernel
theorem dX11_count_3 : decode cX11_count 3 = .ok (.invokestatic 64, 3) := by decide +kernel
theorem dX11_count_6 : decode cX11_count 6 = .ok (.ifCond .eq 11, 3) := by decide +kernel
theorem dX11_count_9 : decode cX11_count 9 = .ok (.aload_n 0, 1) := by decide +kernel
theorem dX11_count_10 : decode cX11_count 10 = .ok (.iload_n 1, 1) := by decide +kernel
theorem dX11_count_11 : decode cX11_count 11 = .ok (.invokevirtual 335, 3) := by decide +kernel
theorem dX11_count_14 : decode cX11_count 14 = .ok (.goto 4, 3) := by decide +kernel
theorem dX11_count_17 : decode cX11_count 17 = .ok (.iconst (-1), 1) := by decide +kernel
theorem dX11_count_18 : decode cX11_count 18 = .ok (.ireturn, 1) := by decide +kernel
theorem dX11_finding_0 : decode cX11_finding 0 = .ok (.aload_n 0, 1) := by decide +kernel
theorem dX11_finding_1 : decode cX11_finding 1 = .ok (.getfield 48, 3) := by decide +kernel
theorem dX11_finding_4 : decode cX11_finding 4 = .ok (.ireturn, 1) := by decide +kernel
theorem dX11_findings_0 : decode cX11_findings 0 = .ok (.iload_n 1, 1) := by decide +kernel
theorem dX11_findings_1 : decode cX11_findings 1 = .ok (.iconst 1, 1) := by decide +kernel
theorem dX11_findings_2 : decode cX11_findings 2 = .ok (.if_icmp .lt 17, 3) := by decide +kernel
theorem dX11_findings_5 : decode cX11_findings 5 = .ok (.iload_n 1, 1) := by decide +kernel
theorem dX11_findings_6 : decode cX11_findings 6 = .ok (.iconst 5, 1) := by decide +kernel
theorem dX11_findings_7 : decode cX11_findings 7 = .ok (.if_icmp .gt 12, 3) := by decide +kernel
theorem dX11_findings_10 : decode cX11_findings 10 = .ok (.aload_n 0, 1) := by decide +kernel
theorem dX11_findings_11 : decode cX11_findings 11 = .ok (.getfield 44, 3) := by decide +kernel
theorem dX11_findings_14 : decode cX11_findings 14 = .ok (.iload_n 1, 1) := by decide +kernel
theorem dX11_findings_15 : decode cX11_findings 15 = .ok (.iaload, 1) := by decide +kernel
theorem dX11_findings_16 : decode cX11_findings 16 = .ok (.goto 4, 3) := by decide +kernel
theorem dX11_findings_19 : decode cX11_findings 19 = .ok (.iconst (-1), 1) := by decide +kernel
theorem dX11_findings_20 : decode cX11_findings 20 = .ok (.ireturn, 1) := by decide +kernel
theorem dX11_digest_0 : decode cX11_digest 0 = .ok (.ldc2_w 338, 3) := by decide +kernel
theorem dX11_digest_3 : decode cX11_digest 3 = .ok (.lstore_n 1, 1) := by decide +kernel
theorem dX11_digest_4 : decode cX11_digest 4 = .ok (.iconst 0, 1) := by decide +kernel
theorem dX11_digest_5 : decode cX11_digest 5 = .ok (.istore_n 3, 1) := by decide +kernel
theorem dX11_digest_6 : decode cX11_digest 6 = .ok (.iload_n 3, 1) := by decide +kernel
theorem dX11_digest_7 : decode cX11_digest 7 = .ok (.bipush 7, 2) := by decide +kernel
theorem dX11_digest_9 : decode cX11_digest 9 = .ok (.if_icmp .ge 22, 3) := by decide +kernel
theorem dX11_digest_12 : decode cX11_digest 12 = .ok (.ldc2_w 340, 3) := by decide +kernel
theorem dX11_digest_15 : decode cX11_digest 15 = .ok (.lload_n 1, 1) := by decide +kernel
theorem dX11_digest_16 : decode cX11_digest 16 = .ok (.lmul, 1) := by decide +kernel
theorem dX11_digest_17 : decode cX11_digest 17 = .ok (.aload_n 0, 1) := by decide +kernel
theorem dX11_digest_18 : decode cX11_digest 18 = .ok (.iload_n 3, 1) := by decide +kernel
theorem dX11_digest_19 : decode cX11_digest 19 = .ok (.invokevirtual 335, 3) := by decide +kernel
theorem dX11_digest_22 : decode cX11_digest 22 = .ok (.i2l, 1) := by decide +kernel
theorem dX11_digest_23 : decode cX11_digest 23 = .ok (.ladd, 1) := by decide +kernel
theorem dX11_digest_24 : decode cX11_digest 24 = .ok (.lstore_n 1, 1) := by decide +kernel
theorem dX11_digest_25 : decode cX11_digest 25 = .ok (.iinc 3 1, 3) := by decide +kernel
theorem dX11_digest_28 : decode cX11_digest 28 = .ok (.goto (-22), 3) := by decide +kernel
theorem dX11_digest_31 : decode cX11_digest 31 = .ok (.aload_n 0, 1) := by decide +kernel
theorem dX11_digest_32 : decode cX11_digest 32 = .ok (.getfield 24, 3) := by decide +kernel
theorem dX11_digest_35 : decode cX11_digest 35 = .ok (.lload_n 1, 1) := by decide +kernel
theorem dX11_digest_36 : decode cX11_digest 36 = .ok (.invokevirtual 342, 3) := by decide +kernel
theorem dX11_digest_39 : decode cX11_digest 39 = .ok (.lstore_n 1, 1) := by decide +kernel
theorem dX11_digest_40 : decode cX11_digest 40 = .ok (.aload_n 0, 1) := by decide +kernel
theorem dX11_digest_41 : decode cX11_digest 41 = .ok (.getfield 33, 3) := by decide +kernel
theorem dX11_digest_44 : decode cX11_digest 44 = .ok (.lload_n 1, 1) := by decide +kernel
theorem dX11_digest_45 : decode cX11_digest 45 = .ok (.invokevirtual 346, 3) := by decide +kernel
theorem dX11_digest_48 : decode cX11_digest 48 = .ok (.lstore_n 1, 1) := by decide +kernel
theorem dX11_digest_49 : decode cX11_digest 49 = .ok (.iconst 0, 1) := by decide +kernel
theorem dX11_digest_50 : decode cX11_digest 50 = .ok (.istore_n 3, 1) := by decide +kernel
theorem dX11_digest_51 : decode cX11_digest 51 = .ok (.iload_n 3, 1) := by decide +kernel
theorem dX11_digest_52 : decode cX11_digest 52 = .ok (.bipush 6, 2) := by decide +kernel
theorem dX11_digest_54 : decode cX11_digest 54 = .ok (.if_icmp .ge 20, 3) := by decide +kernel
theorem dX11_digest_57 : decode cX11_digest 57 = .ok (.aload_n 0, 1) := by decide +kernel
theorem dX11_digest_58 : decode cX11_digest 58 = .ok (.getfield 11, 3) := by decide +kernel
theorem dX11_digest_61 : decode cX11_digest 61 = .ok (.iload_n 3, 1) := by decide +kernel
theorem dX11_digest_62 : decode cX11_digest 62 = .ok (.aaload, 1) := by decide +kernel
theorem dX11_digest_63 : decode cX11_digest 63 = .ok (.lload_n 1, 1) := by decide +kernel
theorem dX11_digest_64 : decode cX11_digest 64 = .ok (.invokevirtual 347, 3) := by decide +kernel
theorem dX11_digest_67 : decode cX11_digest 67 = .ok (.lstore_n 1, 1) := by decide +kernel
theorem dX11_digest_68 : decode cX11_digest 68 = .ok (.iinc 3 1, 3) := by decide +kernel
theorem dX11_digest_71 : decode cX11_digest 71 = .ok (.goto (-20), 3) := by decide +kernel
theorem dX11_digest_74 : decode cX11_digest 74 = .ok (.iconst 0, 1) := by decide +kernel
theorem dX11_digest_75 : decode cX11_digest 75 = .ok (.istore_n 3, 1) := by decide +kernel
theorem dX11_digest_76 : decode cX11_digest 76 = .ok (.iload_n 3, 1) := by decide +kernel
theorem dX11_digest_77 : decode cX11_digest 77 = .ok (.iconst 4, 1) := by decide +kernel
theorem dX11_digest_78 : decode cX11_digest 78 = .ok (.if_icmp .ge 20, 3) := by decide +kernel
theorem dX11_digest_81 : decode cX11_digest 81 = .ok (.aload_n 0, 1) := by decide +kernel
theorem dX11_digest_82 : decode cX11_digest 82 = .ok (.getfield 17, 3) := by decide +kernel
theorem dX11_digest_85 : decode cX11_digest 85 = .ok (.iload_n 3, 1) := by decide +kernel
theorem dX11_digest_86 : decode cX11_digest 86 = .ok (.aaload, 1) := by decide +kernel
theorem dX11_digest_87 : decode cX11_digest 87 = .ok (.lload_n 1, 1) := by decide +kernel
theorem dX11_digest_88 : decode cX11_digest 88 = .ok (.invokevirtual 348, 3) := by decide +kernel
theorem dX11_digest_91 : decode cX11_digest 91 = .ok (.lstore_n 1, 1) := by decide +kernel
theorem dX11_digest_92 : decode cX11_digest 92 = .ok (.iinc 3 1, 3) := by decide +kernel
theorem dX11_digest_95 : decode cX11_digest 95 = .ok (.goto (-19), 3) := by decide +kernel
theorem dX11_digest_98 : decode cX11_digest 98 = .ok (.lload_n 1, 1) := by decide +kernel
theorem dX11_digest_99 : decode cX11_digest 99 = .ok (.lreturn, 1) := by decide +kernel
theorem dX11_within_0 : decode cX11_within 0 = .ok (.iload_n 0, 1) := by decide +kernel
theorem dX11_within_1 : decode cX11_within 1 = .ok (.ifCond .lt 12, 3) := by decide +kernel
theorem dX11_within_4 : decode cX11_within 4 = .ok (.iload_n 0, 1) := by decide +kernel
theorem dX11_within_5 : decode cX11_within 5 = .ok (.iload_n 1, 1) := by decide +kernel
theorem dX11_within_6 : decode cX11_within 6 = .ok (.if_icmp .ge 7, 3) := by decide +kernel
theorem dX11_within_9 : decode cX11_within 9 = .ok (.iconst 1, 1) := by decide +kernel
theorem dX11_within_10 : decode cX11_within 10 = .ok (.goto 4, 3) := by decide +kernel
theorem dX11_within_13 : decode cX11_within 13 = .ok (.iconst 0, 1) := by decide +kernel
theorem dX11_within_14 : decode cX11_within 14 = .ok (.ireturn, 1) := by decide +kernel
theorem dX11_isPrice_0 : decode cX11_isPrice 0 = .ok (.iload_n 0, 1) := by decide +kernel
theorem dX11_isPrice_1 : decode cX11_isPrice 1 = .ok (.ifCond .lt 13, 3) := by decide +kernel
theorem dX11_isPrice_4 : decode cX11_isPrice 4 = .ok (.iload_n 0, 1) := by decide +kernel
theorem dX11_isPrice_5 : decode cX11_isPrice 5 = .ok (.bipush 99, 2) := by decide +kernel
theorem dX11_isPrice_7 : decode cX11_isPrice 7 = .ok (.if_icmp .gt 7, 3) := by decide +kernel
theorem dX11_isPrice_10 : decode cX11_isPrice 10 = .ok (.iconst 1, 1) := by decide +kernel
theorem dX11_isPrice_11 : decode cX11_isPrice 11 = .ok (.goto 4, 3) := by decide +kernel
theorem dX11_isPrice_14 : decode cX11_isPrice 14 = .ok (.iconst 0, 1) := by decide +kernel
theorem dX11_isPrice_15 : decode cX11_isPrice 15 = .ok (.ireturn, 1) := by decide +kernel
theorem dX11_firstTrait_0 : decode cX11_firstTrait 0 = .ok (.iconst 0, 1) := by decide +kernel
theorem dX11_firstTrait_1 : decode cX11_firstTrait 1 = .ok (.istore_n 1, 1) := by decide +kernel
theorem dX11_firstTrait_2 : decode cX11_firstTrait 2 = .ok (.iload_n 1, 1) := by decide +kernel
theorem dX11_firstTrait_3 : decode cX11_firstTrait 3 = .ok (.iconst 5, 1) := by decide +kernel
theorem dX11_firstTrait_4 : decode cX11_firstTrait 4 = .ok (.if_icmp .ge 20, 3) := by decide +kernel
theorem dX11_firstTrait_7 : decode cX11_firstTrait 7 = .ok (.iload_n 0, 1) := by decide +kernel
theorem dX11_firstTrait_8 : decode cX11_firstTrait 8 = .ok (.iload_n 1, 1) := by decide +kernel
theorem dX11_firstTrait_9 : decode cX11_firstTrait 9 = .ok (.iushr, 1) := by decide +kernel
theorem dX11_firstTrait_10 : decode cX11_firstTrait 10 = .ok (.iconst 1, 1) := by decide +kernel
theorem dX11_firstTrait_11 : decode cX11_firstTrait 11 = .ok (.iand, 1) := by decide +kernel
theorem dX11_firstTrait_12 : decode cX11_firstTrait 12 = .ok (.iconst 1, 1) := by decide +kernel
theorem dX11_firstTrait_13 : decode cX11_firstTrait 13 = .ok (.if_icmp .ne 5, 3) := by decide +kernel
theorem dX11_firstTrait_16 : decode cX11_firstTrait 16 = .ok (.iload_n 1, 1) := by decide +kernel
theorem dX11_firstTrait_17 : decode cX11_firstTrait 17 = .ok (.ireturn, 1) := by decide +kernel
theorem dX11_firstTrait_18 : decode cX11_firstTrait 18 = .ok (.iinc 1 1, 3) := by decide +kernel
theorem dX11_firstTrait_21 : decode cX11_firstTrait 21 = .ok (.goto (-19), 3) := by decide +kernel
theorem dX11_firstTrait_24 : decode cX11_firstTrait 24 = .ok (.bipush (-9), 2) := by decide +kernel
theorem dX11_firstTrait_26 : decode cX11_firstTrait 26 = .ok (.ireturn, 1) := by decide +kernel
theorem dX11_refuse_0 : decode cX11_refuse 0 = .ok (.aload_n 0, 1) := by decide +kernel
theorem dX11_refuse_1 : decode cX11_refuse 1 = .ok (.iload_n 1, 1) := by decide +kernel
theorem dX11_refuse_2 : decode cX11_refuse 2 = .ok (.putfield 48, 3) := by decide +kernel
theorem dX11_refuse_5 : decode cX11_refuse 5 = .ok (.aload_n 0, 1) := by decide +kernel
theorem dX11_refuse_6 : decode cX11_refuse 6 = .ok (.getfield 44, 3) := by decide +kernel
theorem dX11_refuse_9 : decode cX11_refuse 9 = .ok (.iload_n 1, 1) := by decide +kernel
theorem dX11_refuse_10 : decode cX11_refuse 10 = .ok (.dup2, 1) := by decide +kernel
theorem dX11_refuse_11 : decode cX11_refuse 11 = .ok (.iaload, 1) := by decide +kernel
theorem dX11_refuse_12 : decode cX11_refuse 12 = .ok (.iconst 1, 1) := by decide +kernel
theorem dX11_refuse_13 : decode cX11_refuse 13 = .ok (.iadd, 1) := by decide +kernel
theorem dX11_refuse_14 : decode cX11_refuse 14 = .ok (.iastore, 1) := by decide +kernel
theorem dX11_refuse_15 : decode cX11_refuse 15 = .ok (.bipush (-3), 2) := by decide +kernel
theorem dX11_refuse_17 : decode cX11_refuse 17 = .ok (.ireturn, 1) := by decide +kernel
theorem dX11_tell_0 : decode cX11_tell 0 = .ok (.aload_n 0, 1) := by decide +kernel
theorem dX11_tell_1 : decode cX11_tell 1 = .ok (.iload_n 1, 1) := by decide +kernel
theorem dX11_tell_2 : decode cX11_tell 2 = .ok (.putfield 52, 3) := by decide +kernel
theorem dX11_tell_5 : decode cX11_tell 5 = .ok (.iload_n 2, 1) := by decide +kernel
theorem dX11_tell_6 : decode cX11_tell 6 = .ok (.ireturn, 1) := by decide +kernel
theorem dX11_tellFraction_0 : decode cX11_tellFraction 0 = .ok (.lload_n 3, 1) := by decide +kernel
theorem dX11_tellFraction_1 : decode cX11_tellFraction 1 = .ok (.lstore 5, 2) := by decide +kernel
theorem dX11_tellFraction_3 : decode cX11_tellFraction 3 = .ok (.lload_n 1, 1) := by decide +kernel
theorem dX11_tellFraction_4 : decode cX11_tellFraction 4 = .ok (.lstore 7, 2) := by decide +kernel
theorem dX11_tellFraction_6 : decode cX11_tellFraction 6 = .ok (.iconst 0, 1) := by decide +kernel
theorem dX11_tellFraction_7 : decode cX11_tellFraction 7 = .ok (.istore 9, 2) := by decide +kernel
theorem dX11_tellFraction_9 : decode cX11_tellFraction 9 = .ok (.iload 9, 2) := by decide +kernel
theorem dX11_tellFraction_11 : decode cX11_tellFraction 11 = .ok (.sipush 200, 3) := by decide +kernel
theorem dX11_tellFraction_14 : decode cX11_tellFraction 14 = .ok (.if_icmp .ge 31, 3) := by decide +kernel
theorem dX11_tellFraction_17 : decode cX11_tellFraction 17 = .ok (.lload 7, 2) := by decide +kernel
theorem dX11_tellFraction_19 : decode cX11_tellFraction 19 = .ok (.lconst 0, 1) := by decide +kernel
theorem dX11_tellFraction_20 : decode cX11_tellFraction 20 = .ok (.lcmp, 1) := by decide +kernel
theorem dX11_tellFraction_21 : decode cX11_tellFraction 21 = .ok (.ifCond .eq 24, 3) := by decide +kernel
theorem dX11_tellFraction_24 : decode cX11_tellFraction 24 = .ok (.lload 5, 2) := by decide +kernel
theorem dX11_tellFraction_26 : decode cX11_tellFraction 26 = .ok (.lload 7, 2) := by decide +kernel
theorem dX11_tellFraction_28 : decode cX11_tellFraction 28 = .ok (.lrem, 1) := by decide +kernel
theorem dX11_tellFraction_29 : decode cX11_tellFraction 29 = .ok (.lstore 10, 2) := by decide +kernel
theorem dX11_tellFraction_31 : decode cX11_tellFraction 31 = .ok (.lload 7, 2) := by decide +kernel
theorem dX11_tellFraction_33 : decode cX11_tellFraction 33 = .ok (.lstore 5, 2) := by decide +kernel
theorem dX11_tellFraction_35 : decode cX11_tellFraction 35 = .ok (.lload 10, 2) := by decide +kernel
theorem dX11_tellFraction_37 : decode cX11_tellFraction 37 = .ok (.lstore 7, 2) := by decide +kernel
theorem dX11_tellFraction_39 : decode cX11_tellFraction 39 = .ok (.iinc 9 1, 3) := by decide +kernel
theorem dX11_tellFraction_42 : decode cX11_tellFraction 42 = .ok (.goto (-33), 3) := by decide +kernel
theorem dX11_tellFraction_45 : decode cX11_tellFraction 45 = .ok (.lload 5, 2) := by decide +kernel
theorem dX11_tellFraction_47 : decode cX11_tellFraction 47 = .ok (.lconst 0, 1) := by decide +kernel
theorem dX11_tellFraction_48 : decode cX11_tellFraction 48 = .ok (.lcmp, 1) := by decide +kernel
theorem dX11_tellFraction_49 : decode cX11_tellFraction 49 = .ok (.ifCond .ne 4, 3) := by decide +kernel
theorem dX11_tellFraction_52 : decode cX11_tellFraction 52 = .ok (.return_, 1) := by decide +kernel
theorem dX11_tellFraction_53 : decode cX11_tellFraction 53 = .ok (.aload_n 0, 1) := by decide +kernel
theorem dX11_tellFraction_54 : decode cX11_tellFraction 54 = .ok (.lload_n 1, 1) := by decide +kernel
theorem dX11_tellFraction_55 : decode cX11_tellFraction 55 = .ok (.lload 5, 2) := by decide +kernel
theorem dX11_tellFraction_57 : decode cX11_tellFraction 57 = .ok (.ldiv, 1) := by decide +kernel
theorem dX11_tellFraction_58 : decode cX11_tellFraction 58 = .ok (.putfield 55, 3) := by decide +kernel
theorem dX11_tellFraction_61 : decode cX11_tellFraction 61 = .ok (.aload_n 0, 1) := by decide +kernel
theorem dX11_tellFraction_62 : decode cX11_tellFraction 62 = .ok (.lload_n 3, 1) := by decide +kernel
theorem dX11_tellFraction_63 : decode cX11_tellFraction 63 = .ok (.lload 5, 2) := by decide +kernel
theorem dX11_tellFraction_65 : decode cX11_tellFraction 65 = .ok (.ldiv, 1) := by decide +kernel
theorem dX11_tellFraction_66 : decode cX11_tellFraction 66 = .ok (.putfield 59, 3) := by decide +kernel
theorem dX11_tellFraction_69 : decode cX11_tellFraction 69 = .ok (.return_, 1) := by decide +kernel
theorem dX11_amount_0 : decode cX11_amount 0 = .ok (.iload_n 1, 1) := by decide +kernel
theorem dX11_amount_1 : decode cX11_amount 1 = .ok (.tableswitch 84 0 5 #[39, 47, 55, 63, 71, 79], 39) := by decide +kernel
theorem dX11_amount_40 : decode cX11_amount 40 = .ok (.aload_n 0, 1) := by decide +kernel
theorem dX11_amount_41 : decode cX11_amount 41 = .ok (.getfield 24, 3) := by decide +kernel
theorem dX11_amount_44 : decode cX11_amount 44 = .ok (.getfield 105, 3) := by decide +kernel
theorem dX11_amount_47 : decode cX11_amount 47 = .ok (.ireturn, 1) := by decide +kernel
theorem dX11_amount_48 : decode cX11_amount 48 = .ok (.aload_n 0, 1) := by decide +kernel
theorem dX11_amount_49 : decode cX11_amount 49 = .ok (.getfield 24, 3) := by decide +kernel
theorem dX11_amount_52 : decode cX11_amount 52 = .ok (.getfield 115, 3) := by decide +kernel
theorem dX11_amount_55 : decode cX11_amount 55 = .ok (.ireturn, 1) := by decide +kernel
theorem dX11_amount_56 : decode cX11_amount 56 = .ok (.aload_n 0, 1) := by decide +kernel
theorem dX11_amount_57 : decode cX11_amount 57 = .ok (.getfield 24, 3) := by decide +kernel
theorem dX11_amount_60 : decode cX11_amount 60 = .ok (.getfield 221, 3) := by decide +kernel
theorem dX11_amount_63 : decode cX11_amount 63 = .ok (.ireturn, 1) := by decide +kernel
theorem dX11_amount_64 : decode cX11_amount 64 = .ok (.aload_n 0, 1) := by decide +kernel
theorem dX11_amount_65 : decode cX11_amount 65 = .ok (.getfield 33, 3) := by decide +kernel
theorem dX11_amount_68 : decode cX11_amount 68 = .ok (.getfield 292, 3) := by decide +kernel
theorem dX11_amount_71 : decode cX11_amount 71 = .ok (.ireturn, 1) := by decide +kernel
theorem dX11_amount_72 : decode cX11_amount 72 = .ok (.aload_n 0, 1) := by decide +kernel
theorem dX11_amount_73 : decode cX11_amount 73 = .ok (.getfield 33, 3) := by decide +kernel
theorem dX11_amount_76 : decode cX11_amount 76 = .ok (.invokevirtual 349, 3) := by decide +kernel
theorem dX11_amount_79 : decode cX11_amount 79 = .ok (.ireturn, 1) := by decide +kernel
theorem dX11_amount_80 : decode cX11_amount 80 = .ok (.aload_n 0, 1) := by decide +kernel
theorem dX11_amount_81 : decode cX11_amount 81 = .ok (.invokevirtual 352, 3) := by decide +kernel
theorem dX11_amount_84 : decode cX11_amount 84 = .ok (.ireturn, 1) := by decide +kernel
theorem dX11_amount_85 : decode cX11_amount 85 = .ok (.aload_n 0, 1) := by decide +kernel
theorem dX11_amount_86 : decode cX11_amount 86 = .ok (.invokevirtual 355, 3) := by decide +kernel
theorem dX11_amount_89 : decode cX11_amount 89 = .ok (.ireturn, 1) := by decide +kernel
theorem dX11_rowsThere_0 : decode cX11_rowsThere 0 = .ok (.iconst 0, 1) := by decide +kernel
theorem dX11_rowsThere_1 : decode cX11_rowsThere 1 = .ok (.istore_n 1, 1) := by decide +kernel
theorem dX11_rowsThere_2 : decode cX11_rowsThere 2 = .ok (.iconst 0, 1) := by decide +kernel
theorem dX11_rowsThere_3 : decode cX11_rowsThere 3 = .ok (.istore_n 2, 1) := by decide +kernel
theorem dX11_rowsThere_4 : decode cX11_rowsThere 4 = .ok (.iload_n 2, 1) := by decide +kernel
theorem dX11_rowsThere_5 : decode cX11_rowsThere 5 = .ok (.bipush 6, 2) := by decide +kernel
theorem dX11_rowsThere_7 : decode cX11_rowsThere 7 = .ok (.if_icmp .ge 25, 3) := by decide +kernel
theorem dX11_rowsThere_10 : decode cX11_rowsThere 10 = .ok (.aload_n 0, 1) := by decide +kernel
theorem dX11_rowsThere_11 : decode cX11_rowsThere 11 = .ok (.getfield 11, 3) := by decide +kernel
theorem dX11_rowsThere_14 : decode cX11_rowsThere 14 = .ok (.iload_n 2, 1) := by decide +kernel
theorem dX11_rowsThere_15 : decode cX11_rowsThere 15 = .ok (.aaload, 1) := by decide +kernel
theorem dX11_rowsThere_16 : decode cX11_rowsThere 16 = .ok (.getfield 76, 3) := by decide +kernel
theorem dX11_rowsThere_19 : decode cX11_rowsThere 19 = .ok (.iconst (-1), 1) := by decide +kernel
theorem dX11_rowsThere_20 : decode cX11_rowsThere 20 = .ok (.if_icmp .eq 6, 3) := by decide +kernel
theorem dX11_rowsThere_23 : decode cX11_rowsThere 23 = .ok (.iinc 1 1, 3) := by decide +kernel
theorem dX11_rowsThere_26 : decode cX11_rowsThere 26 = .ok (.iinc 2 1, 3) := by decide +kernel
theorem dX11_rowsThere_29 : decode cX11_rowsThere 29 = .ok (.goto (-25), 3) := by decide +kernel
theorem dX11_rowsThere_32 : decode cX11_rowsThere 32 = .ok (.iload_n 1, 1) := by decide +kernel
theorem dX11_rowsThere_33 : decode cX11_rowsThere 33 = .ok (.ireturn, 1) := by decide +kernel
theorem dX11_textsThere_0 : decode cX11_textsThere 0 = .ok (.iconst 0, 1) := by decide +kernel
theorem dX11_textsThere_1 : decode cX11_textsThere 1 = .ok (.istore_n 1, 1) := by decide +kernel
theorem dX11_textsThere_2 : decode cX11_textsThere 2 = .ok (.iconst 0, 1) := by decide +kernel
theorem dX11_textsThere_3 : decode cX11_textsThere 3 = .ok (.istore_n 2, 1) := by decide +kernel
theorem dX11_textsThere_4 : decode cX11_textsThere 4 = .ok (.iload_n 2, 1) := by decide +kernel
theorem dX11_textsThere_5 : decode cX11_textsThere 5 = .ok (.iconst 4, 1) := by decide +kernel
theorem dX11_textsThere_6 : decode cX11_textsThere 6 = .ok (.if_icmp .ge 25, 3) := by decide +kernel
theorem dX11_textsThere_9 : decode cX11_textsThere 9 = .ok (.aload_n 0, 1) := by decide +kernel
theorem dX11_textsThere_10 : decode cX11_textsThere 10 = .ok (.getfield 17, 3) := by decide +kernel
theorem dX11_textsThere_13 : decode cX11_textsThere 13 = .ok (.iload_n 2, 1) := by decide +kernel
theorem dX11_textsThere_14 : decode cX11_textsThere 14 = .ok (.aaload, 1) := by decide +kernel
theorem dX11_textsThere_15 : decode cX11_textsThere 15 = .ok (.getfield 100, 3) := by decide +kernel
theorem dX11_textsThere_18 : decode cX11_textsThere 18 = .ok (.iconst (-1), 1) := by decide +kernel
theorem dX11_textsThere_19 : decode cX11_textsThere 19 = .ok (.if_icmp .eq 6, 3) := by decide +kernel
theorem dX11_textsThere_22 : decode cX11_textsThere 22 = .ok (.iinc 1 1, 3) := by decide +kernel
theorem dX11_textsThere_25 : decode cX11_textsThere 25 = .ok (.iinc 2 1, 3) := by decide +kernel
theorem dX11_textsThere_28 : decode cX11_textsThere 28 = .ok (.goto (-24), 3) := by decide +kernel
theorem dX11_textsThere_31 : decode cX11_textsThere 31 = .ok (.iload_n 1, 1) := by decide +kernel
theorem dX11_textsThere_32 : decode cX11_textsThere 32 = .ok (.ireturn, 1) := by decide +kernel
theorem dX12_init_0 : decode cX12_init 0 = .ok (.aload_n 0, 1) := by decide +kernel
theorem dX12_init_1 : decode cX12_init 1 = .ok (.invokespecial 1, 3) := by decide +kernel
theorem dX12_init_4 : decode cX12_init 4 = .ok (.aload_n 0, 1) := by decide +kernel
theorem dX12_init_5 : decode cX12_init 5 = .ok (.bipush 6, 2) := by decide +kernel
theorem dX12_init_7 : decode cX12_init 7 = .ok (.newarray .int, 2) := by decide +kernel
theorem dX12_init_9 : decode cX12_init 9 = .ok (.putfield 7, 3) := by decide +kernel
theorem dX12_init_12 : decode cX12_init 12 = .ok (.aload_n 0, 1) := by decide +kernel
theorem dX12_init_13 : decode cX12_init 13 = .ok (.lconst 1, 1) := by decide +kernel
theorem dX12_init_14 : decode cX12_init 14 = .ok (.putfield 13, 3) := by decide +kernel
theorem dX12_init_17 : decode cX12_init 17 = .ok (.aload_n 0, 1) := by decide +kernel
theorem dX12_init_18 : decode cX12_init 18 = .ok (.bipush 6, 2) := by decide +kernel
theorem dX12_init_20 : decode cX12_init 20 = .ok (.newarray .int, 2) := by decide +kernel
theorem dX12_init_22 : decode cX12_init 22 = .ok (.putfield 17, 3) := by decide +kernel
theorem dX12_init_25 : decode cX12_init 25 = .ok (.aload_n 0, 1) := by decide +kernel
theorem dX12_init_26 : decode cX12_init 26 = .ok (.sipush 240, 3) := by decide +kernel
theorem dX12_init_29 : decode cX12_init 29 = .ok (.newarray .int, 2) := by decide +kernel
theorem dX12_init_31 : decode cX12_init 31 = .ok (.putfield 20, 3) := by decide +kernel
theorem dX12_init_34 : decode cX12_init 34 = .ok (.aload_n 0, 1) := by decide +kernel
theorem dX12_init_35 : decode cX12_init 35 = .ok (.bipush 40, 2) := by decide +kernel
theorem dX12_init_37 : decode cX12_init 37 = .ok (.newarray .int, 2) := by decide +kernel
theorem dX12_init_39 : decode cX12_init 39 = .ok (.putfield 23, 3) := by decide +kernel
theorem dX12_init_42 : decode cX12_init 42 = .ok (.aload_n 0, 1) := by decide +kernel
theorem dX12_init_43 : decode cX12_init 43 = .ok (.iconst 4, 1) := by decide +kernel
theorem dX12_init_44 : decode cX12_init 44 = .ok (.newarray .int, 2) := by decide +kernel
theorem dX12_init_46 : decode cX12_init 46 = .ok (.putfield 26, 3) := by decide +kernel
theorem dX12_init_49 : decode cX12_init 49 = .ok (.aload_n 0, 1) := by decide +kernel
theorem dX12_init_50 : decode cX12_init 50 = .ok (.sipush 160, 3) := by decide +kernel
theorem dX12_init_53 : decode cX12_init 53 = .ok (.newarray .int, 2) := by decide +kernel
theorem dX12_init_55 : decode cX12_init 55 = .ok (.putfield 29, 3) := by decide +kernel
theorem dX12_init_58 : decode cX12_init 58 = .ok (.aload_n 0, 1) := by decide +kernel
theorem dX12_init_59 : decode cX12_init 59 = .ok (.bipush 12, 2) := by decide +kernel
theorem dX12_init_61 : decode cX12_init 61 = .ok (.newarray .int, 2) := by decide +kernel
theorem dX12_init_63 : decode cX12_init 63 = .ok (.putfield 32, 3) := by decide +kernel
theorem dX12_init_66 : decode cX12_init 66 = .ok (.aload_n 0, 1) := by decide +kernel
theorem dX12_init_67 : decode cX12_init 67 = .ok (.bipush 8, 2) := by decide +kernel
theorem dX12_init_69 : decode cX12_init 69 = .ok (.newarray .int, 2) := by decide +kernel
theorem dX12_init_71 : decode cX12_init 71 = .ok (.putfield 35, 3) := by decide +kernel
theorem dX12_init_74 : decode cX12_init 74 = .ok (.aload_n 0, 1) := by decide +kernel
theorem dX12_init_75 : decode cX12_init 75 = .ok (.bipush 8, 2) := by decide +kernel
theorem dX12_init_77 : decode cX12_init 77 = .ok (.newarray .int, 2) := by decide +kernel
theorem dX12_init_79 : decode cX12_init 79 = .ok (.putfield 38, 3) := by decide +kernel
theorem dX12_init_82 : decode cX12_init 82 = .ok (.aload_n 0, 1) := by decide +kernel
theorem dX12_init_83 : decode cX12_init 83 = .ok (.bipush 8, 2) := by decide +kernel
theorem dX12_init_85 : decode cX12_init 85 = .ok (.newarray .int, 2) := by decide +kernel
theorem dX12_init_87 : decode cX12_init 87 = .ok (.putfield 41, 3) := by decide +kernel
theorem dX12_init_90 : decode cX12_init 90 = .ok (.aload_n 0, 1) := by decide +kernel
theorem dX12_init_91 : decode cX12_init 91 = .ok (.bipush 24, 2) := by decide +kernel
theorem dX12_init_93 : decode cX12_init 93 = .ok (.newarray .int, 2) := by decide +kernel
theorem dX12_init_95 : decode cX12_init 95 = .ok (.putfield 44, 3) := by decide +kernel
theorem dX12_init_98 : decode cX12_init 98 = .ok (.aload_n 0, 1) := by decide +kernel
theorem dX12_init_99 : decode cX12_init 99 = .ok (.bipush 24, 2) := by decide +kernel
theorem dX12_init_101 : decode cX12_init 101 = .ok (.newarray .int, 2) := by decide +kernel
theorem dX12_init_103 : decode cX12_init 103 = .ok (.putfield 47, 3) := by decide +kernel
theorem dX12_init_106 : decode cX12_init 106 = .ok (.aload_n 0, 1) := by decide +kernel
theorem dX12_init_107 : decode cX12_init 107 = .ok (.bipush 24, 2) := by decide +kernel
theorem dX12_init_109 : decode cX12_init 109 = .ok (.newarray .int, 2) := by decide +kernel
theorem dX12_init_111 : decode cX12_init 111 = .ok (.putfield 50, 3) := by decide +kernel
theorem dX12_init_114 : decode cX12_init 114 = .ok (.aload_n 0, 1) := by decide +kernel
theorem dX12_init_115 : decode cX12_init 115 = .ok (.bipush 24, 2) := by decide +kernel
theorem dX12_init_117 : decode cX12_init 117 = .ok (.newarray .int, 2) := by decide +kernel
theorem dX12_init_119 : decode cX12_init 119 = .ok (.putfield 53, 3) := by decide +kernel
theorem dX12_init_122 : decode cX12_init 122 = .ok (.aload_n 0, 1) := by decide +kernel
theorem dX12_init_123 : decode cX12_init 123 = .ok (.bipush 24, 2) := by decide +kernel
theorem dX12_init_125 : decode cX12_init 125 = .ok (.newarray .int, 2) := by decide +kernel
theorem dX12_init_127 : decode cX12_init 127 = .ok (.putfield 56, 3) := by decide +kernel
theorem dX12_init_130 : decode cX12_init 130 = .ok (.aload_n 0, 1) := by decide +kernel
theorem dX12_init_131 : decode cX12_init 131 = .ok (.bipush 120, 2) := by decide +kernel
theorem dX12_init_133 : decode cX12_init 133 = .ok (.newarray .int, 2) := by decide +kernel
theorem dX12_init_135 : decode cX12_init 135 = .ok (.putfield 59, 3) := by decide +kernel
theorem dX12_init_138 : decode cX12_init 138 = .ok (.aload_n 0, 1) := by decide +kernel
theorem dX12_init_139 : decode cX12_init 139 = .ok (.iconst 3, 1) := by decide +kernel
theorem dX12_init_140 : decode cX12_init 140 = .ok (.newarray .int, 2) := by decide +kernel
theorem dX12_init_142 : decode cX12_init 142 = .ok (.putfield 62, 3) := by decide +kernel
theorem dX12_init_145 : decode cX12_init 145 = .ok (.aload_n 0, 1) := by decide +kernel
theorem dX12_init_146 : decode cX12_init 146 = .ok (.sipush 2196, 3) := by decide +kernel
theorem dX12_init_149 : decode cX12_init 149 = .ok (.newarray .int, 2) := by decide +kernel
theorem dX12_init_151 : decode cX12_init 151 = .ok (.putfield 65, 3) := by decide +kernel
theorem dX12_init_154 : decode cX12_init 154 = .ok (.aload_n 0, 1) := by decide +kernel
theorem dX12_init_155 : decode cX12_init 155 = .ok (.sipush 244, 3) := by decide +kernel
theorem dX12_init_158 : decode cX12_init 158 = .ok (.newarray .boolean, 2) := by decide +kernel
theorem dX12_init_160 : decode cX12_init 160 = .ok (.putfield 68, 3) := by decide +kernel
theorem dX12_init_163 : decode cX12_init 163 = .ok (.aload_n 0, 1) := by decide +kernel
theorem dX12_init_164 : decode cX12_init 164 = .ok (.bipush 8, 2) := by decide +kernel
theorem dX12_init_166 : decode cX12_init 166 = .ok (.newarray .int, 2) := by decide +kernel
theorem dX12_init_168 : decode cX12_init 168 = .ok (.putfield 72, 3) := by decide +kernel
theorem dX12_init_171 : decode cX12_init 171 = .ok (.aload_n 0, 1) := by decide +kernel
theorem dX12_init_172 : decode cX12_init 172 = .ok (.bipush 40, 2) := by decide +kernel
theorem dX12_init_174 : decode cX12_init 174 = .ok (.newarray .int, 2) := by decide +kernel
theorem dX12_init_176 : decode cX12_init 176 = .ok (.putfield 75, 3) := by decide +kernel
theorem dX12_init_179 : decode cX12_init 179 = .ok (.aload_n 0, 1) := by decide +kernel
theorem dX12_init_180 : decode cX12_init 180 = .ok (.bipush 40, 2) := by decide +kernel
theorem dX12_init_182 : decode cX12_init 182 = .ok (.newarray .int, 2) := by decide +kernel
theorem dX12_init_184 : decode cX12_init 184 = .ok (.putfield 78, 3) := by decide +kernel
theorem dX12_init_187 : decode cX12_init 187 = .ok (.aload_n 0, 1) := by decide +kernel
theorem dX12_init_188 : decode cX12_init 188 = .ok (.bipush 40, 2) := by decide +kernel
theorem dX12_init_190 : decode cX12_init 190 = .ok (.newarray .int, 2) := by decide +kernel
theorem dX12_init_192 : decode cX12_init 192 = .ok (.putfield 81, 3) := by decide +kernel
theorem dX12_init_195 : decode cX12_init 195 = .ok (.aload_n 0, 1) := by decide +kernel
theorem dX12_init_196 : decode cX12_init 196 = .ok (.bipush 40, 2) := by decide +kernel
theorem dX12_init_198 : decode cX12_init 198 = .ok (.newarray .boolean, 2) := by decide +kernel
theorem dX12_init_200 : decode cX12_init 200 = .ok (.putfield 84, 3) := by decide +kernel
theorem dX12_init_203 : decode cX12_init 203 = .ok (.aload_n 0, 1) := by decide +kernel
theorem dX12_init_204 : decode cX12_init 204 = .ok (.bipush 32, 2) := by decide +kernel
theorem dX12_init_206 : decode cX12_init 206 = .ok (.newarray .int, 2) := by decide +kernel
theorem dX12_init_208 : decode cX12_init 208 = .ok (.putfield 87, 3) := by decide +kernel
theorem dX12_init_211 : decode cX12_init 211 = .ok (.iconst 0, 1) := by decide +kernel
theorem dX12_init_212 : decode cX12_init 212 = .ok (.istore_n 1, 1) := by decide +kernel
theorem dX12_init_213 : decode cX12_init 213 = .ok (.iload_n 1, 1) := by decide +kernel
theorem dX12_init_214 : decode cX12_init 214 = .ok (.bipush 6, 2) := by decide +kernel
theorem dX12_init_216 : decode cX12_init 216 = .ok (.if_icmp .ge 17, 3) := by decide +kernel
theorem dX12_init_219 : decode cX12_init 219 = .ok (.aload_n 0, 1) := by decide +kernel
theorem dX12_init_220 : decode cX12_init 220 = .ok (.getfield 17, 3) := by decide +kernel
theorem dX12_init_223 : decode cX12_init 223 = .ok (.iload_n 1, 1) := by decide +kernel
theorem dX12_init_224 : decode cX12_init 224 = .ok (.bipush (-9), 2) := by decide +kernel
theorem dX12_init_226 : decode cX12_init 226 = .ok (.iastore, 1) := by decide +kernel
theorem dX12_init_227 : decode cX12_init 227 = .ok (.iinc 1 1, 3) := by decide +kernel
theorem dX12_init_230 : decode cX12_init 230 = .ok (.goto (-17), 3) := by decide +kernel
theorem dX12_init_233 : decode cX12_init 233 = .ok (.iconst 0, 1) := by decide +kernel
theorem dX12_init_234 : decode cX12_init 234 = .ok (.istore_n 1, 1) := by decide +kernel
theorem dX12_init_235 : decode cX12_init 235 = .ok (.iload_n 1, 1) := by decide +kernel
theorem dX12_init_236 : decode cX12_init 236 = .ok (.iconst 4, 1) := by decide +kernel
theorem dX12_init_237 : decode cX12_init 237 = .ok (.if_icmp .ge 17, 3) := by decide +kernel
theorem dX12_init_240 : decode cX12_init 240 = .ok (.aload_n 0, 1) := by decide +kernel
theorem dX12_init_241 : decode cX12_init 241 = .ok (.getfield 26, 3) := by decide +kernel
theorem dX12_init_244 : decode cX12_init 244 = .ok (.iload_n 1, 1) := by decide +kernel
theorem dX12_init_245 : decode cX12_init 245 = .ok (.bipush (-9), 2) := by decide +kernel
theorem dX12_init_247 : decode cX12_init 247 = .ok (.iastore, 1) := by decide +kernel
theorem dX12_init_248 : decode cX12_init 248 = .ok (.iinc 1 1, 3) := by decide +kernel
theorem dX12_init_251 : decode cX12_init 251 = .ok (.goto (-16), 3) := by decide +kernel
theorem dX12_init_254 : decode cX12_init 254 = .ok (.aload_n 0, 1) := by decide +kernel
theorem dX12_init_255 : decode cX12_init 255 = .ok (.getfield 62, 3) := by decide +kernel
theorem dX12_init_258 : decode cX12_init 258 = .ok (.iconst 0, 1) := by decide +kernel
theorem dX12_init_259 : decode cX12_init 259 = .ok (.iconst 3, 1) := by decide +kernel
theorem dX12_init_260 : decode cX12_init 260 = .ok (.iastore, 1) := by decide +kernel
theorem dX12_init_261 : decode cX12_init 261 = .ok (.aload_n 0, 1) := by decide +kernel
theorem dX12_init_262 : decode cX12_init 262 = .ok (.getfield 62, 3) := by decide +kernel
theorem dX12_init_265 : decode cX12_init 265 = .ok (.iconst 1, 1) := by decide +kernel
theorem dX12_init_266 : decode cX12_init 266 = .ok (.iconst 5, 1) := by decide +kernel
theorem dX12_init_267 : decode cX12_init 267 = .ok (.iastore, 1) := by decide +kernel
theorem dX12_init_268 : decode cX12_init 268 = .ok (.aload_n 0, 1) := by decide +kernel
theorem dX12_init_269 : decode cX12_init 269 = .ok (.getfield 62, 3) := by decide +kernel
theorem dX12_init_272 : decode cX12_init 272 = .ok (.iconst 2, 1) := by decide +kernel
theorem dX12_init_273 : decode cX12_init 273 = .ok (.bipush 7, 2) := by decide +kernel
theorem dX12_init_275 : decode cX12_init 275 = .ok (.iastore, 1) := by decide +kernel
theorem dX12_init_276 : decode cX12_init 276 = .ok (.return_, 1) := by decide +kernel
theorem dX12_in_0 : decode cX12_in 0 = .ok (.iload_n 0, 1) := by decide +kernel
theorem dX12_in_1 : decode cX12_in 1 = .ok (.iload_n 1, 1) := by decide +kernel
theorem dX12_in_2 : decode cX12_in 2 = .ok (.if_icmp .lt 12, 3) := by decide +kernel
theorem dX12_in_5 : decode cX12_in 5 = .ok (.iload_n 0, 1) := by decide +kernel
theorem dX12_in_6 : decode cX12_in 6 = .ok (.iload_n 2, 1) := by decide +kernel
theorem dX12_in_7 : decode cX12_in 7 = .ok (.if_icmp .gt 7, 3) := by decide +kernel
theorem dX12_in_10 : decode cX12_in 10 = .ok (.iconst 1, 1) := by decide +kernel
theorem dX12_in_11 : decode cX12_in 11 = .ok (.goto 4, 3) := by decide +kernel
theorem dX12_in_14 : decode cX12_in 14 = .ok (.iconst 0, 1) := by decide +kernel
theorem dX12_in_15 : decode cX12_in 15 = .ok (.ireturn, 1) := by decide +kernel
theorem dX12_meets_0 : decode cX12_meets 0 = .ok (.aload_n 0, 1) := by decide +kernel
theorem dX12_meets_1 : decode cX12_meets 1 = .ok (.iload_n 1, 1) := by decide +kernel
theorem dX12_meets_2 : decode cX12_meets 2 = .ok (.putfield 90, 3) := by decide +kernel
theorem dX12_meets_5 : decode cX12_meets 5 = .ok (.aload_n 0, 1) := by decide +kernel
theorem dX12_meets_6 : decode cX12_meets 6 = .ok (.getfield 7, 3) := by decide +kernel
theorem dX12_meets_9 : decode cX12_meets 9 = .ok (.iload_n 1, 1) := by decide +kernel
theorem dX12_meets_10 : decode cX12_meets 10 = .ok (.dup2, 1) := by decide +kernel
theorem dX12_meets_11 : decode cX12_meets 11 = .ok (.iaload, 1) := by decide +kernel
theorem dX12_meets_12 : decode cX12_meets 12 = .ok (.iconst 1, 1) := by decide +kernel
theorem dX12_meets_13 : decode cX12_meets 13 = .ok (.iadd, 1) := by decide +kernel
theorem dX12_meets_14 : decode cX12_meets 14 = .ok (.iastore, 1) := by decide +kernel
theorem dX12_meets_15 : decode cX12_meets 15 = .ok (.bipush (-3), 2) := by decide +kernel
theorem dX12_meets_17 : decode cX12_meets 17 = .ok (.ireturn, 1) := by decide +kernel
theorem dX12_ask_0 : decode cX12_ask 0 = .ok (.aload_n 0, 1) := by decide +kernel
theorem dX12_ask_1 : decode cX12_ask 1 = .ok (.iload_n 1, 1) := by decide +kernel
theorem dX12_ask_2 : decode cX12_ask 2 = .ok (.putfield 94, 3) := by decide +kernel
theorem dX12_ask_5 : decode cX12_ask 5 = .ok (.iload_n 2, 1) := by decide +kernel
theorem dX12_ask_6 : decode cX12_ask 6 = .ok (.ireturn, 1) := by decide +kernel
theorem dX12_has_0 : decode cX12_has 0 = .ok (.iload_n 0, 1) := by decide +kernel
theorem dX12_has_1 : decode cX12_has 1 = .ok (.iload_n 1, 1) := by decide +kernel
theorem dX12_has_2 : decode cX12_has 2 = .ok (.ishr, 1) := by decide +kernel
theorem dX12_has_3 : decode cX12_has 3 = .ok (.iconst 1, 1) := by decide +kernel
theorem dX12_has_4 : decode cX12_has 4 = .ok (.iand, 1) := by decide +kernel
theorem dX12_has_5 : decode cX12_has 5 = .ok (.iconst 1, 1) := by decide +kernel
theorem dX12_has_6 : decode cX12_has 6 = .ok (.if_icmp .ne 7, 3) := by decide +kernel
theorem dX12_has_9 : decode cX12_has 9 = .ok (.iconst 1, 1) := by decide +kernel
theorem dX12_has_10 : decode cX12_has 10 = .ok (.goto 4, 3) := by decide +kernel
theorem dX12_has_13 : decode cX12_has 13 = .ok (.iconst 0, 1) := by decide +kernel
theorem dX12_has_14 : decode cX12_has 14 = .ok (.ireturn, 1) := by decide +kernel
theorem dX12_isRow_0 : decode cX12_isRow 0 = .ok (.iload_n 0, 1) := by decide +kernel
theorem dX12_isRow_1 : decode cX12_isRow 1 = .ok (.iconst 0, 1) := by decide +kernel
theorem dX12_isRow_2 : decode cX12_isRow 2 = .ok (.iconst 5, 1) := by decide +kernel
theorem dX12_isRow_3 : decode cX12_isRow 3 = .ok (.invokestatic 97, 3) := by decide +kernel
theorem dX12_isRow_6 : decode cX12_isRow 6 = .ok (.ireturn, 1) := by decide +kernel
theorem dX12_isText_0 : decode cX12_isText 0 = .ok (.iload_n 0, 1) := by decide +kernel
theorem dX12_isText_1 : decode cX12_isText 1 = .ok (.iconst 0, 1) := by decide +kernel
theorem dX12_isText_2 : decode cX12_isText 2 = .ok (.iconst 3, 1) := by decide +kernel
theorem dX12_isText_3 : decode cX12_isText 3 = .ok (.invokestatic 97, 3) := by decide +kernel
theorem dX12_isText_6 : decode cX12_isText 6 = .ok (.ireturn, 1) := by decide +kernel
theorem dX12_askedRow_0 : decode cX12_askedRow 0 = .ok (.iload_n 1, 1) := by decide +kernel
theorem dX12_askedRow_1 : decode cX12_askedRow 1 = .ok (.invokestatic 101, 3) := by decide +kernel
theorem dX12_askedRow_4 : decode cX12_askedRow 4 = .ok (.ifCond .ne 7, 3) := by decide +kernel
theorem dX12_askedRow_7 : decode cX12_askedRow 7 = .ok (.iconst (-1), 1) := by decide +kernel
theorem dX12_askedRow_8 : decode cX12_askedRow 8 = .ok (.goto 21, 3) := by decide +kernel
theorem dX12_askedRow_11 : decode cX12_askedRow 11 = .ok (.aload_n 0, 1) := by decide +kernel
theorem dX12_askedRow_12 : decode cX12_askedRow 12 = .ok (.getfield 17, 3) := by decide +kernel
theorem dX12_askedRow_15 : decode cX12_askedRow 15 = .ok (.iload_n 1, 1) := by decide +kernel
theorem dX12_askedRow_16 : decode cX12_askedRow 16 = .ok (.iaload, 1) := by decide +kernel
theorem dX12_askedRow_17 : decode cX12_askedRow 17 = .ok (.ifCond .ge 11, 3) := by decide +kernel
theorem dX12_askedRow_20 : decode cX12_askedRow 20 = .ok (.aload_n 0, 1) := by decide +kernel
theorem dX12_askedRow_21 : decode cX12_askedRow 21 = .ok (.iconst 1, 1) := by decide +kernel
theorem dX12_askedRow_22 : decode cX12_askedRow 22 = .ok (.invokevirtual 105, 3) := by decide +kernel
theorem dX12_askedRow_25 : decode cX12_askedRow 25 = .ok (.goto 4, 3) := by decide +kernel
theorem dX12_askedRow_28 : decode cX12_askedRow 28 = .ok (.iconst 0, 1) := by decide +kernel
theorem dX12_askedRow_29 : decode cX12_askedRow 29 = .ok (.ireturn, 1) := by decide +kernel
theorem dX12_askedText_0 : decode cX12_askedText 0 = .ok (.iload_n 1, 1) := by decide +kernel
theorem dX12_askedText_1 : decode cX12_askedText 1 = .ok (.invokestatic 109, 3) := by decide +kernel
theorem dX12_askedText_4 : decode cX12_askedText 4 = .ok (.ifCond .ne 7, 3) := by decide +kernel
theorem dX12_askedText_7 : decode cX12_askedText 7 = .ok (.iconst (-1), 1) := by decide +kernel
theorem dX12_askedText_8 : decode cX12_askedText 8 = .ok (.goto 21, 3) := by decide +kernel
theorem dX12_askedText_11 : decode cX12_askedText 11 = .ok (.aload_n 0, 1) := by decide +kernel
theorem dX12_askedText_12 : decode cX12_askedText 12 = .ok (.getfield 26, 3) := by decide +kernel
theorem dX12_askedText_15 : decode cX12_askedText 15 = .ok (.iload_n 1, 1) := by decide +kernel
theorem dX12_askedText_16 : decode cX12_askedText 16 = .ok (.iaload, 1) := by decide +kernel
theorem dX12_askedText_17 : decode cX12_askedText 17 = .ok (.ifCond .ge 11, 3) := by decide +kernel
theorem dX12_askedText_20 : decode cX12_askedText 20 = .ok (.aload_n 0, 1) := by decide +kernel
theorem dX12_askedText_21 : decode cX12_askedText 21 = .ok (.iconst 1, 1) := by decide +kernel
theorem dX12_askedText_22 : decode cX12_askedText 22 = .ok (.invokevirtual 105, 3) := by decide +kernel
theorem dX12_askedText_25 : decode cX12_askedText 25 = .ok (.goto 4, 3) := by decide +kernel
theorem dX12_askedText_28 : decode cX12_askedText 28 = .ok (.iconst 0, 1) := by decide +kernel
theorem dX12_askedText_29 : decode cX12_askedText 29 = .ok (.ireturn, 1) := by decide +kernel
theorem dX12_rowAt_0 : decode cX12_rowAt 0 = .ok (.aload_n 0, 1) := by decide +kernel
theorem dX12_rowAt_1 : decode cX12_rowAt 1 = .ok (.getfield 20, 3) := by decide +kernel
theorem dX12_rowAt_4 : decode cX12_rowAt 4 = .ok (.bipush 40, 2) := by decide +kernel
theorem dX12_rowAt_6 : decode cX12_rowAt 6 = .ok (.iload_n 1, 1) := by decide +kernel
theorem dX12_rowAt_7 : decode cX12_rowAt 7 = .ok (.imul, 1) := by decide +kernel
theorem dX12_rowAt_8 : decode cX12_rowAt 8 = .ok (.iload_n 2, 1) := by decide +kernel
theorem dX12_rowAt_9 : decode cX12_rowAt 9 = .ok (.iadd, 1) := by decide +kernel
theorem dX12_rowAt_10 : decode cX12_rowAt 10 = .ok (.iaload, 1) := by decide +kernel
theorem dX12_rowAt_11 : decode cX12_rowAt 11 = .ok (.ireturn, 1) := by decide +kernel
theorem dX12_row_0 : decode cX12_row 0 = .ok (.iload_n 1, 1) := by decide +kernel
theorem dX12_row_1 : decode cX12_row 1 = .ok (.invokestatic 101, 3) := by decide +kernel
theorem dX12_row_4 : decode cX12_row 4 = .ok (.ifCond .eq 9, 3) := by decide +kernel
theorem dX12_row_7 : decode cX12_row 7 = .ok (.iload_n 2, 1) := by decide +kernel
theorem dX12_row_8 : decode cX12_row 8 = .ok (.bipush 40, 2) := by decide +kernel
theorem dX12_row_10 : decode cX12_row 10 = .ok (.if_icmp .le 5, 3) := by decide +kernel
theorem dX12_row_13 : decode cX12_row 13 = .ok (.iconst (-1), 1) := by decide +kernel
theorem dX12_row_14 : decode cX12_row 14 = .ok (.ireturn, 1) := by decide +kernel
theorem dX12_row_15 : decode cX12_row 15 = .ok (.iload_n 2, 1) := by decide +kernel
theorem dX12_row_16 : decode cX12_row 16 = .ok (.ifCond .ge 9, 3) := by decide +kernel
theorem dX12_row_19 : decode cX12_row 19 = .ok (.aload_n 0, 1) := by decide +kernel
theorem dX12_row_20 : decode cX12_row 20 = .ok (.iconst 5, 1) := by decide +kernel
theorem dX12_row_21 : decode cX12_row 21 = .ok (.invokevirtual 105, 3) := by decide +kernel
theorem dX12_row_24 : decode cX12_row 24 = .ok (.ireturn, 1) := by decide +kernel
theorem dX12_row_25 : decode cX12_row 25 = .ok (.aload_n 0, 1) := by decide +kernel
theorem dX12_row_26 : decode cX12_row 26 = .ok (.getfield 17, 3) := by decide +kernel
theorem dX12_row_29 : decode cX12_row 29 = .ok (.iload_n 1, 1) := by decide +kernel
theorem dX12_row_30 : decode cX12_row 30 = .ok (.iload_n 2, 1) := by decide +kernel
theorem dX12_row_31 : decode cX12_row 31 = .ok (.iastore, 1) := by decide +kernel
theorem dX12_row_32 : decode cX12_row 32 = .ok (.iconst 0, 1) := by decide +kernel
theorem dX12_row_33 : decode cX12_row 33 = .ok (.istore_n 3, 1) := by decide +kernel
theorem dX12_row_34 : decode cX12_row 34 = .ok (.iload_n 3, 1) := by decide +kernel
theorem dX12_row_35 : decode cX12_row 35 = .ok (.bipush 40, 2) := by decide +kernel
theorem dX12_row_37 : decode cX12_row 37 = .ok (.if_icmp .ge 21, 3) := by decide +kernel
theorem dX12_row_40 : decode cX12_row 40 = .ok (.aload_n 0, 1) := by decide +kernel
theorem dX12_row_41 : decode cX12_row 41 = .ok (.getfield 20, 3) := by decide +kernel
theorem dX12_row_44 : decode cX12_row 44 = .ok (.bipush 40, 2) := by decide +kernel
theorem dX12_row_46 : decode cX12_row 46 = .ok (.iload_n 1, 1) := by decide +kernel
theorem dX12_row_47 : decode cX12_row 47 = .ok (.imul, 1) := by decide +kernel
theorem dX12_row_48 : decode cX12_row 48 = .ok (.iload_n 3, 1) := by decide +kernel
theorem dX12_row_49 : decode cX12_row 49 = .ok (.iadd, 1) := by decide +kernel
theorem dX12_row_50 : decode cX12_row 50 = .ok (.iconst 0, 1) := by decide +kernel
theorem dX12_row_51 : decode cX12_row 51 = .ok (.iastore, 1) := by decide +kernel
theorem dX12_row_52 : decode cX12_row 52 = .ok (.iinc 3 1, 3) := by decide +kernel
theorem dX12_row_55 : decode cX12_row 55 = .ok (.goto (-21), 3) := by decide +kernel
theorem dX12_row_58 : decode cX12_row 58 = .ok (.iload_n 2, 1) := by decide +kernel
theorem dX12_row_59 : decode cX12_row 59 = .ok (.ireturn, 1) := by decide +kernel
theorem dX12_lay_0 : decode cX12_lay 0 = .ok (.aload_n 0, 1) := by decide +kernel
theorem dX12_lay_1 : decode cX12_lay 1 = .ok (.iload_n 1, 1) := by decide +kernel
theorem dX12_lay_2 : decode cX12_lay 2 = .ok (.invokevirtual 112, 3) := by decide +kernel
theorem dX12_lay_5 : decode cX12_lay 5 = .ok (.istore 4, 2) := by decide +kernel
theorem dX12_lay_7 : decode cX12_lay 7 = .ok (.iload 4, 2) := by decide +kernel
theorem dX12_lay_9 : decode cX12_lay 9 = .ok (.ifCond .ge 6, 3) := by decide +kernel
theorem dX12_lay_12 : decode cX12_lay 12 = .ok (.iload 4, 2) := by decide +kernel
theorem dX12_lay_14 : decode cX12_lay 14 = .ok (.ireturn, 1) := by decide +kernel
theorem dX12_lay_15 : decode cX12_lay 15 = .ok (.iload_n 2, 1) := by decide +kernel
theorem dX12_lay_16 : decode cX12_lay 16 = .ok (.iconst 0, 1) := by decide +kernel
theorem dX12_lay_17 : decode cX12_lay 17 = .ok (.aload_n 0, 1) := by decide +kernel
theorem dX12_lay_18 : decode cX12_lay 18 = .ok (.getfield 17, 3) := by decide +kernel
theorem dX12_lay_21 : decode cX12_lay 21 = .ok (.iload_n 1, 1) := by decide +kernel
theorem dX12_lay_22 : decode cX12_lay 22 = .ok (.iaload, 1) := by decide +kernel
theorem dX12_lay_23 : decode cX12_lay 23 = .ok (.iconst 1, 1) := by decide +kernel
theorem dX12_lay_24 : decode cX12_lay 24 = .ok (.isub, 1) := by decide +kernel
theorem dX12_lay_25 : decode cX12_lay 25 = .ok (.invokestatic 97, 3) := by decide +kernel
theorem dX12_lay_28 : decode cX12_lay 28 = .ok (.ifCond .ne 9, 3) := by decide +kernel
theorem dX12_lay_31 : decode cX12_lay 31 = .ok (.aload_n 0, 1) := by decide +kernel
theorem dX12_lay_32 : decode cX12_lay 32 = .ok (.iconst 2, 1) := by decide +kernel
theorem dX12_lay_33 : decode cX12_lay 33 = .ok (.invokevirtual 105, 3) := by decide +kernel
theorem dX12_lay_36 : decode cX12_lay 36 = .ok (.ireturn, 1) := by decide +kernel
theorem dX12_lay_37 : decode cX12_lay 37 = .ok (.aload_n 0, 1) := by decide +kernel
theorem dX12_lay_38 : decode cX12_lay 38 = .ok (.aload_n 0, 1) := by decide +kernel
theorem dX12_lay_39 : decode cX12_lay 39 = .ok (.iload_n 1, 1) := by decide +kernel
theorem dX12_lay_40 : decode cX12_lay 40 = .ok (.iload_n 2, 1) := by decide +kernel
theorem dX12_lay_41 : decode cX12_lay 41 = .ok (.invokevirtual 115, 3) := by decide +kernel
theorem dX12_lay_44 : decode cX12_lay 44 = .ok (.putfield 94, 3) := by decide +kernel
theorem dX12_lay_47 : decode cX12_lay 47 = .ok (.aload_n 0, 1) := by decide +kernel
theorem dX12_lay_48 : decode cX12_lay 48 = .ok (.getfield 20, 3) := by decide +kernel
theorem dX12_lay_51 : decode cX12_lay 51 = .ok (.bipush 40, 2) := by decide +kernel
theorem dX12_lay_53 : decode cX12_lay 53 = .ok (.iload_n 1, 1) := by decide +kernel
theorem dX12_lay_54 : decode cX12_lay 54 = .ok (.imul, 1) := by decide +kernel
theorem dX12_lay_55 : decode cX12_lay 55 = .ok (.iload_n 2, 1) := by decide +kernel
theorem dX12_lay_56 : decode cX12_lay 56 = .ok (.iadd, 1) := by decide +kernel
theorem dX12_lay_57 : decode cX12_lay 57 = .ok (.iload_n 3, 1) := by decide +kernel
theorem dX12_lay_58 : decode cX12_lay 58 = .ok (.iastore, 1) := by decide +kernel
theorem dX12_lay_59 : decode cX12_lay 59 = .ok (.iconst 1, 1) := by decide +kernel
theorem dX12_lay_60 : decode cX12_lay 60 = .ok (.ireturn, 1) := by decide +kernel
theorem dX12_tear_0 : decode cX12_tear 0 = .ok (.aload_n 0, 1) := by decide +kernel
theorem dX12_tear_1 : decode cX12_tear 1 = .ok (.iload_n 1, 1) := by decide +kernel
theorem dX12_tear_2 : decode cX12_tear 2 = .ok (.invokevirtual 112, 3) := by decide +kernel
theorem dX12_tear_5 : decode cX12_tear 5 = .ok (.istore_n 2, 1) := by decide +kernel
theorem dX12_tear_6 : decode cX12_tear 6 = .ok (.iload_n 2, 1) := by decide +kernel
theorem dX12_tear_7 : decode cX12_tear 7 = .ok (.ifCond .ge 5, 3) := by decide +kernel
theorem dX12_tear_10 : decode cX12_tear 10 = .ok (.iload_n 2, 1) := by decide +kernel
theorem dX12_tear_11 : decode cX12_tear 11 = .ok (.ireturn, 1) := by decide +kernel
theorem dX12_tear_12 : decode cX12_tear 12 = .ok (.aload_n 0, 1) := by decide +kernel
theorem dX12_tear_13 : decode cX12_tear 13 = .ok (.getfield 17, 3) := by decide +kernel
theorem dX12_tear_16 : decode cX12_tear 16 = .ok (.iload_n 1, 1) := by decide +kernel
theorem dX12_tear_17 : decode cX12_tear 17 = .ok (.bipush (-9), 2) := by decide +kernel
theorem dX12_tear_19 : decode cX12_tear 19 = .ok (.iastore, 1) := by decide +kernel
theorem dX12_tear_20 : decode cX12_tear 20 = .ok (.iconst 1, 1) := by decide +kernel
theorem dX12_tear_21 : decode cX12_tear 21 = .ok (.ireturn, 1) := by decide +kernel
theorem dX12_copy_0 : decode cX12_copy 0 = .ok (.iload_n 1, 1) := by decide +kernel
theorem dX12_copy_1 : decode cX12_copy 1 = .ok (.invokestatic 101, 3) := by decide +kernel
theorem dX12_copy_4 : decode cX12_copy 4 = .ok (.ifCond .eq 10, 3) := by decide +kernel
theorem dX12_copy_7 : decode cX12_copy 7 = .ok (.iload_n 3, 1) := by decide +kernel
theorem dX12_copy_8 : decode cX12_copy 8 = .ok (.invokestatic 101, 3) := by decide +kernel
theorem dX12_copy_11 : decode cX12_copy 11 = .ok (.ifCond .ne 5, 3) := by decide +kernel
theorem dX12_copy_14 : decode cX12_copy 14 = .ok (.iconst (-1), 1) := by decide +kernel
theorem dX12_copy_15 : decode cX12_copy 15 = .ok (.ireturn, 1) := by decide +kernel
theorem dX12_copy_16 : decode cX12_copy 16 = .ok (.iload 5, 2) := by decide +kernel
theorem dX12_copy_18 : decode cX12_copy 18 = .ok (.ifCond .ge 9, 3) := by decide +kernel
theorem dX12_copy_21 : decode cX12_copy 21 = .ok (.aload_n 0, 1) := by decide +kernel
theorem dX12_copy_22 : decode cX12_copy 22 = .ok (.iconst 5, 1) := by decide +kernel
theorem dX12_copy_23 : decode cX12_copy 23 = .ok (.invokevirtual 105, 3) := by decide +kernel
theorem dX12_copy_26 : decode cX12_copy 26 = .ok (.ireturn, 1) := by decide +kernel
theorem dX12_copy_27 : decode cX12_copy 27 = .ok (.aload_n 0, 1) := by decide +kernel
theorem dX12_copy_28 : decode cX12_copy 28 = .ok (.getfield 17, 3) := by decide +kernel
theorem dX12_copy_31 : decode cX12_copy 31 = .ok (.iload_n 1, 1) := by decide +kernel
theorem dX12_copy_32 : decode cX12_copy 32 = .ok (.iaload, 1) := by decide +kernel
theorem dX12_copy_33 : decode cX12_copy 33 = .ok (.ifCond .lt 12, 3) := by decide +kernel
theorem dX12_copy_36 : decode cX12_copy 36 = .ok (.aload_n 0, 1) := by decide +kernel
theorem dX12_copy_37 : decode cX12_copy 37 = .ok (.getfield 17, 3) := by decide +kernel
theorem dX12_copy_40 : decode cX12_copy 40 = .ok (.iload_n 3, 1) := by decide +kernel
theorem dX12_copy_41 : decode cX12_copy 41 = .ok (.iaload, 1) := by decide +kernel
theorem dX12_copy_42 : decode cX12_copy 42 = .ok (.ifCond .ge 9, 3) := by decide +kernel
theorem dX12_copy_45 : decode cX12_copy 45 = .ok (.aload_n 0, 1) := by decide +kernel
theorem dX12_copy_46 : decode cX12_copy 46 = .ok (.iconst 1, 1) := by decide +kernel
theorem dX12_copy_47 : decode cX12_copy 47 = .ok (.invokevirtual 105, 3) := by decide +kernel
theorem dX12_copy_50 : decode cX12_copy 50 = .ok (.ireturn, 1) := by decide +kernel
theorem dX12_copy_51 : decode cX12_copy 51 = .ok (.iload_n 2, 1) := by decide +kernel
theorem dX12_copy_52 : decode cX12_copy 52 = .ok (.ifCond .lt 43, 3) := by decide +kernel
theorem dX12_copy_55 : decode cX12_copy 55 = .ok (.iload 4, 2) := by decide +kernel
theorem dX12_copy_57 : decode cX12_copy 57 = .ok (.ifCond .lt 38, 3) := by decide +kernel
theorem dX12_copy_60 : decode cX12_copy 60 = .ok (.iload_n 2, 1) := by decide +kernel
theorem dX12_copy_61 : decode cX12_copy 61 = .ok (.i2l, 1) := by decide +kernel
theorem dX12_copy_62 : decode cX12_copy 62 = .ok (.iload 5, 2) := by decide +kernel
theorem dX12_copy_64 : decode cX12_copy 64 = .ok (.i2l, 1) := by decide +kernel
theorem dX12_copy_65 : decode cX12_copy 65 = .ok (.ladd, 1) := by decide +kernel
theorem dX12_copy_66 : decode cX12_copy 66 = .ok (.aload_n 0, 1) := by decide +kernel
theorem dX12_copy_67 : decode cX12_copy 67 = .ok (.getfield 17, 3) := by decide +kernel
theorem dX12_copy_70 : decode cX12_copy 70 = .ok (.iload_n 1, 1) := by decide +kernel
theorem dX12_copy_71 : decode cX12_copy 71 = .ok (.iaload, 1) := by decide +kernel
theorem dX12_copy_72 : decode cX12_copy 72 = .ok (.i2l, 1) := by decide +kernel
theorem dX12_copy_73 : decode cX12_copy 73 = .ok (.lcmp, 1) := by decide +kernel
theorem dX12_copy_74 : decode cX12_copy 74 = .ok (.ifCond .gt 21, 3) := by decide +kernel
theorem dX12_copy_77 : decode cX12_copy 77 = .ok (.iload 4, 2) := by decide +kernel
theorem dX12_copy_79 : decode cX12_copy 79 = .ok (.i2l, 1) := by decide +kernel
theorem dX12_copy_80 : decode cX12_copy 80 = .ok (.iload 5, 2) := by decide +kernel
theorem dX12_copy_82 : decode cX12_copy 82 = .ok (.i2l, 1) := by decide +kernel
theorem dX12_copy_83 : decode cX12_copy 83 = .ok (.ladd, 1) := by decide +kernel
theorem dX12_copy_84 : decode cX12_copy 84 = .ok (.aload_n 0, 1) := by decide +kernel
theorem dX12_copy_85 : decode cX12_copy 85 = .ok (.getfield 17, 3) := by decide +kernel
theorem dX12_copy_88 : decode cX12_copy 88 = .ok (.iload_n 3, 1) := by decide +kernel
theorem dX12_copy_89 : decode cX12_copy 89 = .ok (.iaload, 1) := by decide +kernel
theorem dX12_copy_90 : decode cX12_copy 90 = .ok (.i2l, 1) := by decide +kernel
theorem dX12_copy_91 : decode cX12_copy 91 = .ok (.lcmp, 1) := by decide +kernel
theorem dX12_copy_92 : decode cX12_copy 92 = .ok (.ifCond .le 9, 3) := by decide +kernel
theorem dX12_copy_95 : decode cX12_copy 95 = .ok (.aload_n 0, 1) := by decide +kernel
theorem dX12_copy_96 : decode cX12_copy 96 = .ok (.iconst 2, 1) := by decide +kernel
theorem dX12_copy_97 : decode cX12_copy 97 = .ok (.invokevirtual 105, 3) := by decide +kernel
theorem dX12_copy_100 : decode cX12_copy 100 = .ok (.ireturn, 1) := by decide +kernel
theorem dX12_copy_101 : decode cX12_copy 101 = .ok (.iconst 0, 1) := by decide +kernel
theorem dX12_copy_102 : decode cX12_copy 102 = .ok (.istore 6, 2) := by decide +kernel
theorem dX12_copy_104 : decode cX12_copy 104 = .ok (.iload 6, 2) := by decide +kernel
theorem dX12_copy_106 : decode cX12_copy 106 = .ok (.iload 5, 2) := by decide +kernel
theorem dX12_copy_108 : decode cX12_copy 108 = .ok (.if_icmp .ge 25, 3) := by decide +kernel
theorem dX12_copy_111 : decode cX12_copy 111 = .ok (.aload_n 0, 1) := by decide +kernel
theorem dX12_copy_112 : decode cX12_copy 112 = .ok (.getfield 23, 3) := by decide +kernel
theorem dX12_copy_115 : decode cX12_copy 115 = .ok (.iload 6, 2) := by decide +kernel
theorem dX12_copy_117 : decode cX12_copy 117 = .ok (.aload_n 0, 1) := by decide +kernel
theorem dX12_copy_118 : decode cX12_copy 118 = .ok (.iload_n 1, 1) := by decide +kernel
theorem dX12_copy_119 : decode cX12_copy 119 = .ok (.iload_n 2, 1) := by decide +kernel
theorem dX12_copy_120 : decode cX12_copy 120 = .ok (.iload 6, 2) := by decide +kernel
theorem dX12_copy_122 : decode cX12_copy 122 = .ok (.iadd, 1) := by decide +kernel
theorem dX12_copy_123 : decode cX12_copy 123 = .ok (.invokevirtual 115, 3) := by decide +kernel
theorem dX12_copy_126 : decode cX12_copy 126 = .ok (.iastore, 1) := by decide +kernel
theorem dX12_copy_127 : decode cX12_copy 127 = .ok (.iinc 6 1, 3) := by decide +kernel
theorem dX12_copy_130 : decode cX12_copy 130 = .ok (.goto (-26), 3) := by decide +kernel
theorem dX12_copy_133 : decode cX12_copy 133 = .ok (.iconst 0, 1) := by decide +kernel
theorem dX12_copy_134 : decode cX12_copy 134 = .ok (.istore 6, 2) := by decide +kernel
theorem dX12_copy_136 : decode cX12_copy 136 = .ok (.iload 6, 2) := by decide +kernel
theorem dX12_copy_138 : decode cX12_copy 138 = .ok (.iload 5, 2) := by decide +kernel
theorem dX12_copy_140 : decode cX12_copy 140 = .ok (.if_icmp .ge 31, 3) := by decide +kernel
theorem dX12_copy_143 : decode cX12_copy 143 = .ok (.aload_n 0, 1) := by decide +kernel
theorem dX12_copy_144 : decode cX12_copy 144 = .ok (.getfield 20, 3) := by decide +kernel
theorem dX12_copy_147 : decode cX12_copy 147 = .ok (.bipush 40, 2) := by decide +kernel
theorem dX12_copy_149 : decode cX12_copy 149 = .ok (.iload_n 3, 1) := by decide +kernel
theorem dX12_copy_150 : decode cX12_copy 150 = .ok (.imul, 1) := by decide +kernel
theorem dX12_copy_151 : decode cX12_copy 151 = .ok (.iload 4, 2) := by decide +kernel
theorem dX12_copy_153 : decode cX12_copy 153 = .ok (.iadd, 1) := by decide +kernel
theorem dX12_copy_154 : decode cX12_copy 154 = .ok (.iload 6, 2) := by decide +kernel
theorem dX12_copy_156 : decode cX12_copy 156 = .ok (.iadd, 1) := by decide +kernel
theorem dX12_copy_157 : decode cX12_copy 157 = .ok (.aload_n 0, 1) := by decide +kernel
theorem dX12_copy_158 : decode cX12_copy 158 = .ok (.getfield 23, 3) := by decide +kernel
theorem dX12_copy_161 : decode cX12_copy 161 = .ok (.iload 6, 2) := by decide +kernel
theorem dX12_copy_163 : decode cX12_copy 163 = .ok (.iaload, 1) := by decide +kernel
theorem dX12_copy_164 : decode cX12_copy 164 = .ok (.iastore, 1) := by decide +kernel
theorem dX12_copy_165 : decode cX12_copy 165 = .ok (.iinc 6 1, 3) := by decide +kernel
theorem dX12_copy_168 : decode cX12_copy 168 = .ok (.goto (-32), 3) := by decide +kernel
theorem dX12_copy_171 : decode cX12_copy 171 = .ok (.iconst 1, 1) := by decide +kernel
theorem dX12_copy_172 : decode cX12_copy 172 = .ok (.ireturn, 1) := by decide +kernel
theorem dX12_mean_0 : decode cX12_mean 0 = .ok (.aload_n 0, 1) := by decide +kernel
theorem dX12_mean_1 : decode cX12_mean 1 = .ok (.iload_n 1, 1) := by decide +kernel
theorem dX12_mean_2 : decode cX12_mean 2 = .ok (.invokevirtual 112, 3) := by decide +kernel
theorem dX12_mean_5 : decode cX12_mean 5 = .ok (.istore_n 2, 1) := by decide +kernel
theorem dX12_mean_6 : decode cX12_mean 6 = .ok (.iload_n 2, 1) := by decide +kernel
theorem dX12_mean_7 : decode cX12_mean 7 = .ok (.ifCond .ge 5, 3) := by decide +kernel
theorem dX12_mean_10 : decode cX12_mean 10 = .ok (.iload_n 2, 1) := by decide +kernel
theorem dX12_mean_11 : decode cX12_mean 11 = .ok (.ireturn, 1) := by decide +kernel
theorem dX12_mean_12 : decode cX12_mean 12 = .ok (.lconst 0, 1) := by decide +kernel
theorem dX12_mean_13 : decode cX12_mean 13 = .ok (.lstore_n 3, 1) := by decide +kernel
theorem dX12_mean_14 : decode cX12_mean 14 = .ok (.iconst 0, 1) := by decide +kernel
theorem dX12_mean_15 : decode cX12_mean 15 = .ok (.istore 5, 2) := by decide +kernel
theorem dX12_mean_17 : decode cX12_mean 17 = .ok (.iload 5, 2) := by decide +kernel
theorem dX12_mean_19 : decode cX12_mean 19 = .ok (.aload_n 0, 1) := by decide +kernel
theorem dX12_mean_20 : decode cX12_mean 20 = .ok (.getfield 17, 3) := by decide +kernel
theorem dX12_mean_23 : decode cX12_mean 23 = .ok (.iload_n 1, 1) := by decide +kernel
theorem dX12_mean_24 : decode cX12_mean 24 = .ok (.iaload, 1) := by decide +kernel
theorem dX12_mean_25 : decode cX12_mean 25 = .ok (.if_icmp .ge 20, 3) := by decide +kernel
theorem dX12_mean_28 : decode cX12_mean 28 = .ok (.lload_n 3, 1) := by decide +kernel
theorem dX12_mean_29 : decode cX12_mean 29 = .ok (.aload_n 0, 1) := by decide +kernel
theorem dX12_mean_30 : decode cX12_mean 30 = .ok (.iload_n 1, 1) := by decide +kernel
theorem dX12_mean_31 : decode cX12_mean 31 = .ok (.iload 5, 2) := by decide +kernel
theorem dX12_mean_33 : decode cX12_mean 33 = .ok (.invokevirtual 115, 3) := by decide +kernel
theorem dX12_mean_36 : decode cX12_mean 36 = .ok (.i2l, 1) := by decide +kernel
theorem dX12_mean_37 : decode cX12_mean 37 = .ok (.ladd, 1) := by decide +kernel
theorem dX12_mean_38 : decode cX12_mean 38 = .ok (.lstore_n 3, 1) := by decide +kernel
theorem dX12_mean_39 : decode cX12_mean 39 = .ok (.iinc 5 1, 3) := by decide +kernel
theorem dX12_mean_42 : decode cX12_mean 42 = .ok (.goto (-25), 3) := by decide +kernel
theorem dX12_mean_45 : decode cX12_mean 45 = .ok (.aload_n 0, 1) := by decide +kernel
theorem dX12_mean_46 : decode cX12_mean 46 = .ok (.getfield 17, 3) := by decide +kernel
theorem dX12_mean_49 : decode cX12_mean 49 = .ok (.iload_n 1, 1) := by decide +kernel
theorem dX12_mean_50 : decode cX12_mean 50 = .ok (.iaload, 1) := by decide +kernel
theorem dX12_mean_51 : decode cX12_mean 51 = .ok (.ifCond .ne 11, 3) := by decide +kernel
theorem dX12_mean_54 : decode cX12_mean 54 = .ok (.aload_n 0, 1) := by decide +kernel
theorem dX12_mean_55 : decode cX12_mean 55 = .ok (.iconst 4, 1) := by decide +kernel
theorem dX12_mean_56 : decode cX12_mean 56 = .ok (.invokevirtual 105, 3) := by decide +kernel
theorem dX12_mean_59 : decode cX12_mean 59 = .ok (.goto 18, 3) := by decide +kernel
theorem dX12_mean_62 : decode cX12_mean 62 = .ok (.aload_n 0, 1) := by decide +kernel
theorem dX12_mean_63 : decode cX12_mean 63 = .ok (.lload_n 3, 1) := by decide +kernel
theorem dX12_mean_64 : decode cX12_mean 64 = .ok (.aload_n 0, 1) := by decide +kernel
theorem dX12_mean_65 : decode cX12_mean 65 = .ok (.getfield 17, 3) := by decide +kernel
theorem dX12_mean_68 : decode cX12_mean 68 = .ok (.iload_n 1, 1) := by decide +kernel
theorem dX12_mean_69 : decode cX12_mean 69 = .ok (.iaload, 1) := by decide +kernel
theorem dX12_mean_70 : decode cX12_mean 70 = .ok (.i2l, 1) := by decide +kernel
theorem dX12_mean_71 : decode cX12_mean 71 = .ok (.ldiv, 1) := by decide +kernel
theorem dX12_mean_72 : decode cX12_mean 72 = .ok (.l2i, 1) := by decide +kernel
theorem dX12_mean_73 : decode cX12_mean 73 = .ok (.iconst 1, 1) := by decide +kernel
theorem dX12_mean_74 : decode cX12_mean 74 = .ok (.invokevirtual 119, 3) := by decide +kernel
theorem dX12_mean_77 : decode cX12_mean 77 = .ok (.ireturn, 1) := by decide +kernel
theorem dX12_text_0 : decode cX12_text 0 = .ok (.iload_n 1, 1) := by decide +kernel
theorem dX12_text_1 : decode cX12_text 1 = .ok (.invokestatic 109, 3) := by decide +kernel
theorem dX12_text_4 : decode cX12_text 4 = .ok (.ifCond .eq 9, 3) := by decide +kernel
theorem dX12_text_7 : decode cX12_text 7 = .ok (.iload_n 2, 1) := by decide +kernel
theorem dX12_text_8 : decode cX12_text 8 = .ok (.bipush 40, 2) := by decide +kernel
theorem dX12_text_10 : decode cX12_text 10 = .ok (.if_icmp .le 5, 3) := by decide +kernel
theorem dX12_text_13 : decode cX12_text 13 = .ok (.iconst (-1), 1) := by decide +kernel
theorem dX12_text_14 : decode cX12_text 14 = .ok (.ireturn, 1) := by decide +kernel
theorem dX12_text_15 : decode cX12_text 15 = .ok (.iload_n 2, 1) := by decide +kernel
theorem dX12_text_16 : decode cX12_text 16 = .ok (.ifCond .ge 9, 3) := by decide +kernel
theorem dX12_text_19 : decode cX12_text 19 = .ok (.aload_n 0, 1) := by decide +kernel
theorem dX12_text_20 : decode cX12_text 20 = .ok (.iconst 5, 1) := by decide +kernel
theorem dX12_text_21 : decode cX12_text 21 = .ok (.invokevirtual 105, 3) := by decide +kernel
theorem dX12_text_24 : decode cX12_text 24 = .ok (.ireturn, 1) := by decide +kernel
theorem dX12_text_25 : decode cX12_text 25 = .ok (.aload_n 0, 1) := by decide +kernel
theorem dX12_text_26 : decode cX12_text 26 = .ok (.getfield 26, 3) := by decide +kernel
theorem dX12_text_29 : decode cX12_text 29 = .ok (.iload_n 1, 1) := by decide +kernel
theorem dX12_text_30 : decode cX12_text 30 = .ok (.iload_n 2, 1) := by decide +kernel
theorem dX12_text_31 : decode cX12_text 31 = .ok (.iastore, 1) := by decide +kernel
theorem dX12_text_32 : decode cX12_text 32 = .ok (.iconst 0, 1) := by decide +kernel
theorem dX12_text_33 : decode cX12_text 33 = .ok (.istore_n 3, 1) := by decide +kernel
theorem dX12_text_34 : decode cX12_text 34 = .ok (.iload_n 3, 1) := by decide +kernel
