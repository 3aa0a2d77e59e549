theorem dX10_pledge_37 : decode cX10_pledge 37 = .ok (.iconst 0, 1) := by decide +kernel
theorem dX10_pledge_38 : decode cX10_pledge 38 = .ok (.goto 4, 3) := by decide +kernel
theorem dX10_pledge_41 : decode cX10_pledge 41 = .ok (.iload_n 3, 1) := by decide +kernel
theorem dX10_pledge_42 : decode cX10_pledge 42 = .ok (.invokevirtual 176, 3) := by decide +kernel
theorem dX10_pledge_45 : decode cX10_pledge 45 = .ok (.iconst 1, 1) := by decide +kernel
theorem dX10_pledge_46 : decode cX10_pledge 46 = .ok (.ireturn, 1) := by decide +kernel
theorem dX10_stone_0 : decode cX10_stone 0 = .ok (.aload_n 0, 1) := by decide +kernel
theorem dX10_stone_1 : decode cX10_stone 1 = .ok (.getfield 34, 3) := by decide +kernel
theorem dX10_stone_4 : decode cX10_stone 4 = .ok (.getfield 81, 3) := by decide +kernel
theorem dX10_stone_7 : decode cX10_stone 7 = .ok (.iload_n 1, 1) := by decide +kernel
theorem dX10_stone_8 : decode cX10_stone 8 = .ok (.invokevirtual 99, 3) := by decide +kernel
theorem dX10_stone_11 : decode cX10_stone 11 = .ok (.ifCond .ne 5, 3) := by decide +kernel
theorem dX10_stone_14 : decode cX10_stone 14 = .ok (.iconst 0, 1) := by decide +kernel
theorem dX10_stone_15 : decode cX10_stone 15 = .ok (.ireturn, 1) := by decide +kernel
theorem dX10_stone_16 : decode cX10_stone 16 = .ok (.aload_n 0, 1) := by decide +kernel
theorem dX10_stone_17 : decode cX10_stone 17 = .ok (.iload_n 1, 1) := by decide +kernel
theorem dX10_stone_18 : decode cX10_stone 18 = .ok (.iload_n 2, 1) := by decide +kernel
theorem dX10_stone_19 : decode cX10_stone 19 = .ok (.invokevirtual 180, 3) := by decide +kernel
theorem dX10_stone_22 : decode cX10_stone 22 = .ok (.iconst 1, 1) := by decide +kernel
theorem dX10_stone_23 : decode cX10_stone 23 = .ok (.ireturn, 1) := by decide +kernel
theorem dX10_odds_0 : decode cX10_odds 0 = .ok (.aload_n 0, 1) := by decide +kernel
theorem dX10_odds_1 : decode cX10_odds 1 = .ok (.iload_n 1, 1) := by decide +kernel
theorem dX10_odds_2 : decode cX10_odds 2 = .ok (.invokevirtual 184, 3) := by decide +kernel
theorem dX10_odds_5 : decode cX10_odds 5 = .ok (.ifCond .eq 28, 3) := by decide +kernel
theorem dX10_odds_8 : decode cX10_odds 8 = .ok (.aload_n 0, 1) := by decide +kernel
theorem dX10_odds_9 : decode cX10_odds 9 = .ok (.getfield 34, 3) := by decide +kernel
theorem dX10_odds_12 : decode cX10_odds 12 = .ok (.getfield 81, 3) := by decide +kernel
theorem dX10_odds_15 : decode cX10_odds 15 = .ok (.iload_n 2, 1) := by decide +kernel
theorem dX10_odds_16 : decode cX10_odds 16 = .ok (.invokevirtual 119, 3) := by decide +kernel
theorem dX10_odds_19 : decode cX10_odds 19 = .ok (.ifCond .eq 14, 3) := by decide +kernel
theorem dX10_odds_22 : decode cX10_odds 22 = .ok (.iload_n 3, 1) := by decide +kernel
theorem dX10_odds_23 : decode cX10_odds 23 = .ok (.invokestatic 159, 3) := by decide +kernel
theorem dX10_odds_26 : decode cX10_odds 26 = .ok (.ifCond .eq 7, 3) := by decide +kernel
theorem dX10_odds_29 : decode cX10_odds 29 = .ok (.iconst 1, 1) := by decide +kernel
theorem dX10_odds_30 : decode cX10_odds 30 = .ok (.goto 4, 3) := by decide +kernel
theorem dX10_odds_33 : decode cX10_odds 33 = .ok (.iconst 0, 1) := by decide +kernel
theorem dX10_odds_34 : decode cX10_odds 34 = .ok (.invokestatic 122, 3) := by decide +kernel
theorem dX10_odds_37 : decode cX10_odds 37 = .ok (.aload_n 0, 1) := by decide +kernel
theorem dX10_odds_38 : decode cX10_odds 38 = .ok (.getfield 47, 3) := by decide +kernel
theorem dX10_odds_41 : decode cX10_odds 41 = .ok (.iconst 0, 1) := by decide +kernel
theorem dX10_odds_42 : decode cX10_odds 42 = .ok (.invokevirtual 148, 3) := by decide +kernel
theorem dX10_odds_45 : decode cX10_odds 45 = .ok (.aload_n 0, 1) := by decide +kernel
theorem dX10_odds_46 : decode cX10_odds 46 = .ok (.getfield 56, 3) := by decide +kernel
theorem dX10_odds_49 : decode cX10_odds 49 = .ok (.iload_n 1, 1) := by decide +kernel
theorem dX10_odds_50 : decode cX10_odds 50 = .ok (.iconst 1, 1) := by decide +kernel
theorem dX10_odds_51 : decode cX10_odds 51 = .ok (.iadd, 1) := by decide +kernel
theorem dX10_odds_52 : decode cX10_odds 52 = .ok (.invokevirtual 187, 3) := by decide +kernel
theorem dX10_odds_55 : decode cX10_odds 55 = .ok (.aload_n 0, 1) := by decide +kernel
theorem dX10_odds_56 : decode cX10_odds 56 = .ok (.getfield 56, 3) := by decide +kernel
theorem dX10_odds_59 : decode cX10_odds 59 = .ok (.iload_n 2, 1) := by decide +kernel
theorem dX10_odds_60 : decode cX10_odds 60 = .ok (.invokevirtual 190, 3) := by decide +kernel
theorem dX10_odds_63 : decode cX10_odds 63 = .ok (.ldc2_w 194, 3) := by decide +kernel
theorem dX10_odds_66 : decode cX10_odds 66 = .ok (.iload_n 3, 1) := by decide +kernel
theorem dX10_odds_67 : decode cX10_odds 67 = .ok (.invokestatic 168, 3) := by decide +kernel
theorem dX10_odds_70 : decode cX10_odds 70 = .ok (.lreturn, 1) := by decide +kernel
theorem dX10_stir_0 : decode cX10_stir 0 = .ok (.aload_n 0, 1) := by decide +kernel
theorem dX10_stir_1 : decode cX10_stir 1 = .ok (.iload_n 1, 1) := by decide +kernel
theorem dX10_stir_2 : decode cX10_stir 2 = .ok (.invokevirtual 184, 3) := by decide +kernel
theorem dX10_stir_5 : decode cX10_stir 5 = .ok (.ifCond .eq 14, 3) := by decide +kernel
theorem dX10_stir_8 : decode cX10_stir 8 = .ok (.iload_n 2, 1) := by decide +kernel
theorem dX10_stir_9 : decode cX10_stir 9 = .ok (.invokestatic 159, 3) := by decide +kernel
theorem dX10_stir_12 : decode cX10_stir 12 = .ok (.ifCond .eq 7, 3) := by decide +kernel
theorem dX10_stir_15 : decode cX10_stir 15 = .ok (.iconst 1, 1) := by decide +kernel
theorem dX10_stir_16 : decode cX10_stir 16 = .ok (.goto 4, 3) := by decide +kernel
theorem dX10_stir_19 : decode cX10_stir 19 = .ok (.iconst 0, 1) := by decide +kernel
theorem dX10_stir_20 : decode cX10_stir 20 = .ok (.invokestatic 122, 3) := by decide +kernel
theorem dX10_stir_23 : decode cX10_stir 23 = .ok (.aload_n 0, 1) := by decide +kernel
theorem dX10_stir_24 : decode cX10_stir 24 = .ok (.getfield 47, 3) := by decide +kernel
theorem dX10_stir_27 : decode cX10_stir 27 = .ok (.iconst 0, 1) := by decide +kernel
theorem dX10_stir_28 : decode cX10_stir 28 = .ok (.invokevirtual 148, 3) := by decide +kernel
theorem dX10_stir_31 : decode cX10_stir 31 = .ok (.aload_n 0, 1) := by decide +kernel
theorem dX10_stir_32 : decode cX10_stir 32 = .ok (.getfield 56, 3) := by decide +kernel
theorem dX10_stir_35 : decode cX10_stir 35 = .ok (.iload_n 1, 1) := by decide +kernel
theorem dX10_stir_36 : decode cX10_stir 36 = .ok (.iconst 1, 1) := by decide +kernel
theorem dX10_stir_37 : decode cX10_stir 37 = .ok (.iadd, 1) := by decide +kernel
theorem dX10_stir_38 : decode cX10_stir 38 = .ok (.invokevirtual 187, 3) := by decide +kernel
theorem dX10_stir_41 : decode cX10_stir 41 = .ok (.aload_n 0, 1) := by decide +kernel
theorem dX10_stir_42 : decode cX10_stir 42 = .ok (.getfield 56, 3) := by decide +kernel
theorem dX10_stir_45 : decode cX10_stir 45 = .ok (.invokevirtual 196, 3) := by decide +kernel
theorem dX10_stir_48 : decode cX10_stir 48 = .ok (.ldc2_w 194, 3) := by decide +kernel
theorem dX10_stir_51 : decode cX10_stir 51 = .ok (.iload_n 2, 1) := by decide +kernel
theorem dX10_stir_52 : decode cX10_stir 52 = .ok (.invokestatic 168, 3) := by decide +kernel
theorem dX10_stir_55 : decode cX10_stir 55 = .ok (.lreturn, 1) := by decide +kernel
theorem dX10_settled_0 : decode cX10_settled 0 = .ok (.aload_n 0, 1) := by decide +kernel
theorem dX10_settled_1 : decode cX10_settled 1 = .ok (.getfield 34, 3) := by decide +kernel
theorem dX10_settled_4 : decode cX10_settled 4 = .ok (.getfield 81, 3) := by decide +kernel
theorem dX10_settled_7 : decode cX10_settled 7 = .ok (.astore_n 2, 1) := by decide +kernel
theorem dX10_settled_8 : decode cX10_settled 8 = .ok (.aload_n 2, 1) := by decide +kernel
theorem dX10_settled_9 : decode cX10_settled 9 = .ok (.iload_n 1, 1) := by decide +kernel
theorem dX10_settled_10 : decode cX10_settled 10 = .ok (.invokevirtual 119, 3) := by decide +kernel
theorem dX10_settled_13 : decode cX10_settled 13 = .ok (.ifCond .ne 5, 3) := by decide +kernel
theorem dX10_settled_16 : decode cX10_settled 16 = .ok (.iconst (-1), 1) := by decide +kernel
theorem dX10_settled_17 : decode cX10_settled 17 = .ok (.ireturn, 1) := by decide +kernel
theorem dX10_settled_18 : decode cX10_settled 18 = .ok (.aload_n 0, 1) := by decide +kernel
theorem dX10_settled_19 : decode cX10_settled 19 = .ok (.getfield 47, 3) := by decide +kernel
theorem dX10_settled_22 : decode cX10_settled 22 = .ok (.iconst 0, 1) := by decide +kernel
theorem dX10_settled_23 : decode cX10_settled 23 = .ok (.invokevirtual 148, 3) := by decide +kernel
theorem dX10_settled_26 : decode cX10_settled 26 = .ok (.iconst 0, 1) := by decide +kernel
theorem dX10_settled_27 : decode cX10_settled 27 = .ok (.istore_n 3, 1) := by decide +kernel
theorem dX10_settled_28 : decode cX10_settled 28 = .ok (.iload_n 3, 1) := by decide +kernel
theorem dX10_settled_29 : decode cX10_settled 29 = .ok (.aload_n 2, 1) := by decide +kernel
theorem dX10_settled_30 : decode cX10_settled 30 = .ok (.getfield 200, 3) := by decide +kernel
theorem dX10_settled_33 : decode cX10_settled 33 = .ok (.if_icmp .ge 20, 3) := by decide +kernel
theorem dX10_settled_36 : decode cX10_settled 36 = .ok (.aload_n 0, 1) := by decide +kernel
theorem dX10_settled_37 : decode cX10_settled 37 = .ok (.iload_n 3, 1) := by decide +kernel
theorem dX10_settled_38 : decode cX10_settled 38 = .ok (.iload_n 1, 1) := by decide +kernel
theorem dX10_settled_39 : decode cX10_settled 39 = .ok (.invokevirtual 203, 3) := by decide +kernel
theorem dX10_settled_42 : decode cX10_settled 42 = .ok (.ifCond .eq 5, 3) := by decide +kernel
theorem dX10_settled_45 : decode cX10_settled 45 = .ok (.iconst 0, 1) := by decide +kernel
theorem dX10_settled_46 : decode cX10_settled 46 = .ok (.ireturn, 1) := by decide +kernel
theorem dX10_settled_47 : decode cX10_settled 47 = .ok (.iinc 3 1, 3) := by decide +kernel
theorem dX10_settled_50 : decode cX10_settled 50 = .ok (.goto (-22), 3) := by decide +kernel
theorem dX10_settled_53 : decode cX10_settled 53 = .ok (.iconst 1, 1) := by decide +kernel
theorem dX10_settled_54 : decode cX10_settled 54 = .ok (.ireturn, 1) := by decide +kernel
theorem dX10_price_0 : decode cX10_price 0 = .ok (.aload_n 0, 1) := by decide +kernel
theorem dX10_price_1 : decode cX10_price 1 = .ok (.iload_n 1, 1) := by decide +kernel
theorem dX10_price_2 : decode cX10_price 2 = .ok (.iload_n 2, 1) := by decide +kernel
theorem dX10_price_3 : decode cX10_price 3 = .ok (.iload_n 3, 1) := by decide +kernel
theorem dX10_price_4 : decode cX10_price 4 = .ok (.iload 4, 2) := by decide +kernel
theorem dX10_price_6 : decode cX10_price 6 = .ok (.invokevirtual 206, 3) := by decide +kernel
theorem dX10_price_9 : decode cX10_price 9 = .ok (.ifCond .eq 15, 3) := by decide +kernel
theorem dX10_price_12 : decode cX10_price 12 = .ok (.iload 5, 2) := by decide +kernel
theorem dX10_price_14 : decode cX10_price 14 = .ok (.invokestatic 159, 3) := by decide +kernel
theorem dX10_price_17 : decode cX10_price 17 = .ok (.ifCond .eq 7, 3) := by decide +kernel
theorem dX10_price_20 : decode cX10_price 20 = .ok (.iconst 1, 1) := by decide +kernel
theorem dX10_price_21 : decode cX10_price 21 = .ok (.goto 4, 3) := by decide +kernel
theorem dX10_price_24 : decode cX10_price 24 = .ok (.iconst 0, 1) := by decide +kernel
theorem dX10_price_25 : decode cX10_price 25 = .ok (.invokestatic 122, 3) := by decide +kernel
theorem dX10_price_28 : decode cX10_price 28 = .ok (.aload_n 0, 1) := by decide +kernel
theorem dX10_price_29 : decode cX10_price 29 = .ok (.getfield 47, 3) := by decide +kernel
theorem dX10_price_32 : decode cX10_price 32 = .ok (.iload_n 1, 1) := by decide +kernel
theorem dX10_price_33 : decode cX10_price 33 = .ok (.invokevirtual 148, 3) := by decide +kernel
theorem dX10_price_36 : decode cX10_price 36 = .ok (.aload_n 0, 1) := by decide +kernel
theorem dX10_price_37 : decode cX10_price 37 = .ok (.iload_n 1, 1) := by decide +kernel
theorem dX10_price_38 : decode cX10_price 38 = .ok (.iload_n 2, 1) := by decide +kernel
theorem dX10_price_39 : decode cX10_price 39 = .ok (.iload_n 3, 1) := by decide +kernel
theorem dX10_price_40 : decode cX10_price 40 = .ok (.iload 4, 2) := by decide +kernel
theorem dX10_price_42 : decode cX10_price 42 = .ok (.invokevirtual 209, 3) := by decide +kernel
theorem dX10_price_45 : decode cX10_price 45 = .ok (.ldc2_w 166, 3) := by decide +kernel
theorem dX10_price_48 : decode cX10_price 48 = .ok (.iload 5, 2) := by decide +kernel
theorem dX10_price_50 : decode cX10_price 50 = .ok (.invokestatic 168, 3) := by decide +kernel
theorem dX10_price_53 : decode cX10_price 53 = .ok (.lreturn, 1) := by decide +kernel
theorem dX10_gain_0 : decode cX10_gain 0 = .ok (.aload_n 0, 1) := by decide +kernel
theorem dX10_gain_1 : decode cX10_gain 1 = .ok (.iload_n 1, 1) := by decide +kernel
theorem dX10_gain_2 : decode cX10_gain 2 = .ok (.iload_n 2, 1) := by decide +kernel
theorem dX10_gain_3 : decode cX10_gain 3 = .ok (.iload_n 3, 1) := by decide +kernel
theorem dX10_gain_4 : decode cX10_gain 4 = .ok (.iload 4, 2) := by decide +kernel
theorem dX10_gain_6 : decode cX10_gain 6 = .ok (.invokevirtual 206, 3) := by decide +kernel
theorem dX10_gain_9 : decode cX10_gain 9 = .ok (.ifCond .eq 26, 3) := by decide +kernel
theorem dX10_gain_12 : decode cX10_gain 12 = .ok (.aload_n 0, 1) := by decide +kernel
theorem dX10_gain_13 : decode cX10_gain 13 = .ok (.iload 5, 2) := by decide +kernel
theorem dX10_gain_15 : decode cX10_gain 15 = .ok (.iload 6, 2) := by decide +kernel
theorem dX10_gain_17 : decode cX10_gain 17 = .ok (.invokevirtual 213, 3) := by decide +kernel
theorem dX10_gain_20 : decode cX10_gain 20 = .ok (.ifCond .eq 15, 3) := by decide +kernel
theorem dX10_gain_23 : decode cX10_gain 23 = .ok (.iload 7, 2) := by decide +kernel
theorem dX10_gain_25 : decode cX10_gain 25 = .ok (.invokestatic 159, 3) := by decide +kernel
theorem dX10_gain_28 : decode cX10_gain 28 = .ok (.ifCond .eq 7, 3) := by decide +kernel
theorem dX10_gain_31 : decode cX10_gain 31 = .ok (.iconst 1, 1) := by decide +kernel
theorem dX10_gain_32 : decode cX10_gain 32 = .ok (.goto 4, 3) := by decide +kernel
theorem dX10_gain_35 : decode cX10_gain 35 = .ok (.iconst 0, 1) := by decide +kernel
theorem dX10_gain_36 : decode cX10_gain 36 = .ok (.invokestatic 122, 3) := by decide +kernel
theorem dX10_gain_39 : decode cX10_gain 39 = .ok (.aload_n 0, 1) := by decide +kernel
theorem dX10_gain_40 : decode cX10_gain 40 = .ok (.getfield 47, 3) := by decide +kernel
theorem dX10_gain_43 : decode cX10_gain 43 = .ok (.iload_n 1, 1) := by decide +kernel
theorem dX10_gain_44 : decode cX10_gain 44 = .ok (.invokevirtual 148, 3) := by decide +kernel
theorem dX10_gain_47 : decode cX10_gain 47 = .ok (.aload_n 0, 1) := by decide +kernel
theorem dX10_gain_48 : decode cX10_gain 48 = .ok (.getfield 47, 3) := by decide +kernel
theorem dX10_gain_51 : decode cX10_gain 51 = .ok (.iload_n 1, 1) := by decide +kernel
theorem dX10_gain_52 : decode cX10_gain 52 = .ok (.iload_n 2, 1) := by decide +kernel
theorem dX10_gain_53 : decode cX10_gain 53 = .ok (.iload_n 3, 1) := by decide +kernel
theorem dX10_gain_54 : decode cX10_gain 54 = .ok (.invokevirtual 152, 3) := by decide +kernel
theorem dX10_gain_57 : decode cX10_gain 57 = .ok (.istore 8, 2) := by decide +kernel
theorem dX10_gain_59 : decode cX10_gain 59 = .ok (.aload_n 0, 1) := by decide +kernel
theorem dX10_gain_60 : decode cX10_gain 60 = .ok (.iload_n 1, 1) := by decide +kernel
theorem dX10_gain_61 : decode cX10_gain 61 = .ok (.iload 8, 2) := by decide +kernel
theorem dX10_gain_63 : decode cX10_gain 63 = .ok (.iload 4, 2) := by decide +kernel
theorem dX10_gain_65 : decode cX10_gain 65 = .ok (.iload 5, 2) := by decide +kernel
theorem dX10_gain_67 : decode cX10_gain 67 = .ok (.iload 6, 2) := by decide +kernel
theorem dX10_gain_69 : decode cX10_gain 69 = .ok (.invokevirtual 216, 3) := by decide +kernel
theorem dX10_gain_72 : decode cX10_gain 72 = .ok (.ldc2_w 166, 3) := by decide +kernel
theorem dX10_gain_75 : decode cX10_gain 75 = .ok (.iload 7, 2) := by decide +kernel
theorem dX10_gain_77 : decode cX10_gain 77 = .ok (.invokestatic 168, 3) := by decide +kernel
theorem dX10_gain_80 : decode cX10_gain 80 = .ok (.lreturn, 1) := by decide +kernel
theorem dX10_lets_0 : decode cX10_lets 0 = .ok (.aload_n 0, 1) := by decide +kernel
theorem dX10_lets_1 : decode cX10_lets 1 = .ok (.iload_n 1, 1) := by decide +kernel
theorem dX10_lets_2 : decode cX10_lets 2 = .ok (.iload_n 2, 1) := by decide +kernel
theorem dX10_lets_3 : decode cX10_lets 3 = .ok (.iload_n 3, 1) := by decide +kernel
theorem dX10_lets_4 : decode cX10_lets 4 = .ok (.iload 4, 2) := by decide +kernel
theorem dX10_lets_6 : decode cX10_lets 6 = .ok (.invokevirtual 206, 3) := by decide +kernel
theorem dX10_lets_9 : decode cX10_lets 9 = .ok (.ifCond .eq 26, 3) := by decide +kernel
theorem dX10_lets_12 : decode cX10_lets 12 = .ok (.aload_n 0, 1) := by decide +kernel
theorem dX10_lets_13 : decode cX10_lets 13 = .ok (.iload 5, 2) := by decide +kernel
theorem dX10_lets_15 : decode cX10_lets 15 = .ok (.iload 6, 2) := by decide +kernel
theorem dX10_lets_17 : decode cX10_lets 17 = .ok (.invokevirtual 213, 3) := by decide +kernel
theorem dX10_lets_20 : decode cX10_lets 20 = .ok (.ifCond .eq 15, 3) := by decide +kernel
theorem dX10_lets_23 : decode cX10_lets 23 = .ok (.iload 7, 2) := by decide +kernel
theorem dX10_lets_25 : decode cX10_lets 25 = .ok (.invokestatic 159, 3) := by decide +kernel
theorem dX10_lets_28 : decode cX10_lets 28 = .ok (.ifCond .eq 7, 3) := by decide +kernel
theorem dX10_lets_31 : decode cX10_lets 31 = .ok (.iconst 1, 1) := by decide +kernel
theorem dX10_lets_32 : decode cX10_lets 32 = .ok (.goto 4, 3) := by decide +kernel
theorem dX10_lets_35 : decode cX10_lets 35 = .ok (.iconst 0, 1) := by decide +kernel
theorem dX10_lets_36 : decode cX10_lets 36 = .ok (.invokestatic 122, 3) := by decide +kernel
theorem dX10_lets_39 : decode cX10_lets 39 = .ok (.aload_n 0, 1) := by decide +kernel
theorem dX10_lets_40 : decode cX10_lets 40 = .ok (.getfield 47, 3) := by decide +kernel
theorem dX10_lets_43 : decode cX10_lets 43 = .ok (.iload_n 1, 1) := by decide +kernel
theorem dX10_lets_44 : decode cX10_lets 44 = .ok (.invokevirtual 148, 3) := by decide +kernel
theorem dX10_lets_47 : decode cX10_lets 47 = .ok (.aload_n 0, 1) := by decide +kernel
theorem dX10_lets_48 : decode cX10_lets 48 = .ok (.getfield 47, 3) := by decide +kernel
theorem dX10_lets_51 : decode cX10_lets 51 = .ok (.iload_n 1, 1) := by decide +kernel
theorem dX10_lets_52 : decode cX10_lets 52 = .ok (.iload_n 2, 1) := by decide +kernel
theorem dX10_lets_53 : decode cX10_lets 53 = .ok (.iload_n 3, 1) := by decide +kernel
theorem dX10_lets_54 : decode cX10_lets 54 = .ok (.invokevirtual 152, 3) := by decide +kernel
theorem dX10_lets_57 : decode cX10_lets 57 = .ok (.istore 8, 2) := by decide +kernel
theorem dX10_lets_59 : decode cX10_lets 59 = .ok (.aload_n 0, 1) := by decide +kernel
theorem dX10_lets_60 : decode cX10_lets 60 = .ok (.iload_n 1, 1) := by decide +kernel
theorem dX10_lets_61 : decode cX10_lets 61 = .ok (.iload 8, 2) := by decide +kernel
theorem dX10_lets_63 : decode cX10_lets 63 = .ok (.iload 4, 2) := by decide +kernel
theorem dX10_lets_65 : decode cX10_lets 65 = .ok (.iload 5, 2) := by decide +kernel
theorem dX10_lets_67 : decode cX10_lets 67 = .ok (.iload 6, 2) := by decide +kernel
theorem dX10_lets_69 : decode cX10_lets 69 = .ok (.invokevirtual 216, 3) := by decide +kernel
theorem dX10_lets_72 : decode cX10_lets 72 = .ok (.aload_n 0, 1) := by decide +kernel
theorem dX10_lets_73 : decode cX10_lets 73 = .ok (.iload_n 1, 1) := by decide +kernel
theorem dX10_lets_74 : decode cX10_lets 74 = .ok (.iload_n 2, 1) := by decide +kernel
theorem dX10_lets_75 : decode cX10_lets 75 = .ok (.iload_n 3, 1) := by decide +kernel
theorem dX10_lets_76 : decode cX10_lets 76 = .ok (.iload 4, 2) := by decide +kernel
theorem dX10_lets_78 : decode cX10_lets 78 = .ok (.invokevirtual 209, 3) := by decide +kernel
theorem dX10_lets_81 : decode cX10_lets 81 = .ok (.lsub, 1) := by decide +kernel
theorem dX10_lets_82 : decode cX10_lets 82 = .ok (.lstore 9, 2) := by decide +kernel
theorem dX10_lets_84 : decode cX10_lets 84 = .ok (.lload 9, 2) := by decide +kernel
theorem dX10_lets_86 : decode cX10_lets 86 = .ok (.ldc2_w 166, 3) := by decide +kernel
theorem dX10_lets_89 : decode cX10_lets 89 = .ok (.iload 7, 2) := by decide +kernel
theorem dX10_lets_91 : decode cX10_lets 91 = .ok (.invokestatic 168, 3) := by decide +kernel
theorem dX10_lets_94 : decode cX10_lets 94 = .ok (.lreturn, 1) := by decide +kernel
theorem dX10_present_0 : decode cX10_present 0 = .ok (.aload_n 0, 1) := by decide +kernel
theorem dX10_present_1 : decode cX10_present 1 = .ok (.iload_n 1, 1) := by decide +kernel
theorem dX10_present_2 : decode cX10_present 2 = .ok (.iload_n 2, 1) := by decide +kernel
theorem dX10_present_3 : decode cX10_present 3 = .ok (.iload_n 3, 1) := by decide +kernel
theorem dX10_present_4 : decode cX10_present 4 = .ok (.invokevirtual 144, 3) := by decide +kernel
theorem dX10_present_7 : decode cX10_present 7 = .ok (.ifCond .eq 18, 3) := by decide +kernel
theorem dX10_present_10 : decode cX10_present 10 = .ok (.iload 4, 2) := by decide +kernel
theorem dX10_present_12 : decode cX10_present 12 = .ok (.ifCond .lt 13, 3) := by decide +kernel
theorem dX10_present_15 : decode cX10_present 15 = .ok (.iload 4, 2) := by decide +kernel
theorem dX10_present_17 : decode cX10_present 17 = .ok (.iconst 4, 1) := by decide +kernel
theorem dX10_present_18 : decode cX10_present 18 = .ok (.if_icmp .gt 7, 3) := by decide +kernel
theorem dX10_present_21 : decode cX10_present 21 = .ok (.iconst 1, 1) := by decide +kernel
theorem dX10_present_22 : decode cX10_present 22 = .ok (.goto 4, 3) := by decide +kernel
theorem dX10_present_25 : decode cX10_present 25 = .ok (.iconst 0, 1) := by decide +kernel
theorem dX10_present_26 : decode cX10_present 26 = .ok (.invokestatic 122, 3) := by decide +kernel
theorem dX10_present_29 : decode cX10_present 29 = .ok (.aload_n 0, 1) := by decide +kernel
theorem dX10_present_30 : decode cX10_present 30 = .ok (.getfield 34, 3) := by decide +kernel
theorem dX10_present_33 : decode cX10_present 33 = .ok (.iload_n 1, 1) := by decide +kernel
theorem dX10_present_34 : decode cX10_present 34 = .ok (.invokevirtual 220, 3) := by decide +kernel
theorem dX10_present_37 : decode cX10_present 37 = .ok (.ifCond .ne 21, 3) := by decide +kernel
theorem dX10_present_40 : decode cX10_present 40 = .ok (.aload_n 0, 1) := by decide +kernel
theorem dX10_present_41 : decode cX10_present 41 = .ok (.getfield 34, 3) := by decide +kernel
theorem dX10_present_44 : decode cX10_present 44 = .ok (.getfield 81, 3) := by decide +kernel
theorem dX10_present_47 : decode cX10_present 47 = .ok (.getfield 223, 3) := by decide +kernel
theorem dX10_present_50 : decode cX10_present 50 = .ok (.iconst 1, 1) := by decide +kernel
theorem dX10_present_51 : decode cX10_present 51 = .ok (.if_icmp .le 7, 3) := by decide +kernel
theorem dX10_present_54 : decode cX10_present 54 = .ok (.iconst 1, 1) := by decide +kernel
theorem dX10_present_55 : decode cX10_present 55 = .ok (.goto 4, 3) := by decide +kernel
theorem dX10_present_58 : decode cX10_present 58 = .ok (.iconst 0, 1) := by decide +kernel
theorem dX10_present_59 : decode cX10_present 59 = .ok (.invokestatic 122, 3) := by decide +kernel
theorem dX10_present_62 : decode cX10_present 62 = .ok (.aload_n 0, 1) := by decide +kernel
theorem dX10_present_63 : decode cX10_present 63 = .ok (.getfield 47, 3) := by decide +kernel
theorem dX10_present_66 : decode cX10_present 66 = .ok (.iload_n 1, 1) := by decide +kernel
theorem dX10_present_67 : decode cX10_present 67 = .ok (.invokevirtual 148, 3) := by decide +kernel
theorem dX10_present_70 : decode cX10_present 70 = .ok (.aload_n 0, 1) := by decide +kernel
theorem dX10_present_71 : decode cX10_present 71 = .ok (.getfield 34, 3) := by decide +kernel
theorem dX10_present_74 : decode cX10_present 74 = .ok (.iload_n 1, 1) := by decide +kernel
theorem dX10_present_75 : decode cX10_present 75 = .ok (.iload_n 3, 1) := by decide +kernel
theorem dX10_present_76 : decode cX10_present 76 = .ok (.invokevirtual 226, 3) := by decide +kernel
theorem dX10_present_79 : decode cX10_present 79 = .ok (.new 229, 3) := by decide +kernel
theorem dX10_present_82 : decode cX10_present 82 = .ok (.dup, 1) := by decide +kernel
theorem dX10_present_83 : decode cX10_present 83 = .ok (.invokespecial 231, 3) := by decide +kernel
theorem dX10_present_86 : decode cX10_present 86 = .ok (.astore 5, 2) := by decide +kernel
theorem dX10_present_88 : decode cX10_present 88 = .ok (.iconst 0, 1) := by decide +kernel
theorem dX10_present_89 : decode cX10_present 89 = .ok (.istore 6, 2) := by decide +kernel
theorem dX10_present_91 : decode cX10_present 91 = .ok (.iload 6, 2) := by decide +kernel
theorem dX10_present_93 : decode cX10_present 93 = .ok (.aload_n 0, 1) := by decide +kernel
theorem dX10_present_94 : decode cX10_present 94 = .ok (.getfield 34, 3) := by decide +kernel
theorem dX10_present_97 : decode cX10_present 97 = .ok (.getfield 232, 3) := by decide +kernel
theorem dX10_present_100 : decode cX10_present 100 = .ok (.if_icmp .ge 28, 3) := by decide +kernel
theorem dX10_present_103 : decode cX10_present 103 = .ok (.aload_n 0, 1) := by decide +kernel
theorem dX10_present_104 : decode cX10_present 104 = .ok (.aload 5, 2) := by decide +kernel
theorem dX10_present_106 : decode cX10_present 106 = .ok (.iload_n 1, 1) := by decide +kernel
theorem dX10_present_107 : decode cX10_present 107 = .ok (.iload_n 2, 1) := by decide +kernel
theorem dX10_present_108 : decode cX10_present 108 = .ok (.iload_n 3, 1) := by decide +kernel
theorem dX10_present_109 : decode cX10_present 109 = .ok (.aload_n 0, 1) := by decide +kernel
theorem dX10_present_110 : decode cX10_present 110 = .ok (.getfield 34, 3) := by decide +kernel
theorem dX10_present_113 : decode cX10_present 113 = .ok (.getfield 235, 3) := by decide +kernel
theorem dX10_present_116 : decode cX10_present 116 = .ok (.iload 6, 2) := by decide +kernel
theorem dX10_present_118 : decode cX10_present 118 = .ok (.iaload, 1) := by decide +kernel
theorem dX10_present_119 : decode cX10_present 119 = .ok (.invokevirtual 238, 3) := by decide +kernel
theorem dX10_present_122 : decode cX10_present 122 = .ok (.iinc 6 1, 3) := by decide +kernel
theorem dX10_present_125 : decode cX10_present 125 = .ok (.goto (-34), 3) := by decide +kernel
theorem dX10_present_128 : decode cX10_present 128 = .ok (.iload 4, 2) := by decide +kernel
theorem dX10_present_130 : decode cX10_present 130 = .ok (.tableswitch 47 0 2 #[26, 33, 40], 26) := by decide +kernel
theorem dX10_present_156 : decode cX10_present 156 = .ok (.aload 5, 2) := by decide +kernel
theorem dX10_present_158 : decode cX10_present 158 = .ok (.getfield 242, 3) := by decide +kernel
theorem dX10_present_161 : decode cX10_present 161 = .ok (.i2l, 1) := by decide +kernel
theorem dX10_present_162 : decode cX10_present 162 = .ok (.lreturn, 1) := by decide +kernel
theorem dX10_present_163 : decode cX10_present 163 = .ok (.aload 5, 2) := by decide +kernel
theorem dX10_present_165 : decode cX10_present 165 = .ok (.getfield 245, 3) := by decide +kernel
theorem dX10_present_168 : decode cX10_present 168 = .ok (.i2l, 1) := by decide +kernel
theorem dX10_present_169 : decode cX10_present 169 = .ok (.lreturn, 1) := by decide +kernel
theorem dX10_present_170 : decode cX10_present 170 = .ok (.aload 5, 2) := by decide +kernel
theorem dX10_present_172 : decode cX10_present 172 = .ok (.getfield 248, 3) := by decide +kernel
theorem dX10_present_175 : decode cX10_present 175 = .ok (.i2l, 1) := by decide +kernel
theorem dX10_present_176 : decode cX10_present 176 = .ok (.lreturn, 1) := by decide +kernel
theorem dX10_present_177 : decode cX10_present 177 = .ok (.aload 5, 2) := by decide +kernel
theorem dX10_present_179 : decode cX10_present 179 = .ok (.getfield 251, 3) := by decide +kernel
theorem dX10_present_182 : decode cX10_present 182 = .ok (.ldc2_w 166, 3) := by decide +kernel
theorem dX10_present_185 : decode cX10_present 185 = .ok (.iload 4, 2) := by decide +kernel
theorem dX10_present_187 : decode cX10_present 187 = .ok (.iconst 3, 1) := by decide +kernel
theorem dX10_present_188 : decode cX10_present 188 = .ok (.isub, 1) := by decide +kernel
theorem dX10_present_189 : decode cX10_present 189 = .ok (.invokestatic 168, 3) := by decide +kernel
theorem dX10_present_192 : decode cX10_present 192 = .ok (.lreturn, 1) := by decide +kernel
theorem dX10_hopes_0 : decode cX10_hopes 0 = .ok (.aload_n 0, 1) := by decide +kernel
theorem dX10_hopes_1 : decode cX10_hopes 1 = .ok (.iload_n 1, 1) := by decide +kernel
theorem dX10_hopes_2 : decode cX10_hopes 2 = .ok (.invokevirtual 184, 3) := by decide +kernel
theorem dX10_hopes_5 : decode cX10_hopes 5 = .ok (.ifCond .eq 28, 3) := by decide +kernel
theorem dX10_hopes_8 : decode cX10_hopes 8 = .ok (.aload_n 0, 1) := by decide +kernel
theorem dX10_hopes_9 : decode cX10_hopes 9 = .ok (.getfield 34, 3) := by decide +kernel
theorem dX10_hopes_12 : decode cX10_hopes 12 = .ok (.getfield 81, 3) := by decide +kernel
theorem dX10_hopes_15 : decode cX10_hopes 15 = .ok (.iload_n 2, 1) := by decide +kernel
theorem dX10_hopes_16 : decode cX10_hopes 16 = .ok (.invokevirtual 116, 3) := by decide +kernel
theorem dX10_hopes_19 : decode cX10_hopes 19 = .ok (.ifCond .eq 14, 3) := by decide +kernel
theorem dX10_hopes_22 : decode cX10_hopes 22 = .ok (.iload_n 3, 1) := by decide +kernel
theorem dX10_hopes_23 : decode cX10_hopes 23 = .ok (.invokestatic 159, 3) := by decide +kernel
theorem dX10_hopes_26 : decode cX10_hopes 26 = .ok (.ifCond .eq 7, 3) := by decide +kernel
theorem dX10_hopes_29 : decode cX10_hopes 29 = .ok (.iconst 1, 1) := by decide +kernel
theorem dX10_hopes_30 : decode cX10_hopes 30 = .ok (.goto 4, 3) := by decide +kernel
theorem dX10_hopes_33 : decode cX10_hopes 33 = .ok (.iconst 0, 1) := by decide +kernel
theorem dX10_hopes_34 : decode cX10_hopes 34 = .ok (.invokestatic 122, 3) := by decide +kernel
theorem dX10_hopes_37 : decode cX10_hopes 37 = .ok (.aload_n 0, 1) := by decide +kernel
theorem dX10_hopes_38 : decode cX10_hopes 38 = .ok (.getfield 47, 3) := by decide +kernel
theorem dX10_hopes_41 : decode cX10_hopes 41 = .ok (.iconst 0, 1) := by decide +kernel
theorem dX10_hopes_42 : decode cX10_hopes 42 = .ok (.invokevirtual 148, 3) := by decide +kernel
theorem dX10_hopes_45 : decode cX10_hopes 45 = .ok (.aload_n 0, 1) := by decide +kernel
theorem dX10_hopes_46 : decode cX10_hopes 46 = .ok (.getfield 56, 3) := by decide +kernel
theorem dX10_hopes_49 : decode cX10_hopes 49 = .ok (.iload_n 1, 1) := by decide +kernel
theorem dX10_hopes_50 : decode cX10_hopes 50 = .ok (.iload_n 2, 1) := by decide +kernel
theorem dX10_hopes_51 : decode cX10_hopes 51 = .ok (.invokevirtual 255, 3) := by decide +kernel
theorem dX10_hopes_54 : decode cX10_hopes 54 = .ok (.ldc2_w 259, 3) := by decide +kernel
theorem dX10_hopes_57 : decode cX10_hopes 57 = .ok (.iload_n 3, 1) := by decide +kernel
theorem dX10_hopes_58 : decode cX10_hopes 58 = .ok (.invokestatic 168, 3) := by decide +kernel
theorem dX10_hopes_61 : decode cX10_hopes 61 = .ok (.lreturn, 1) := by decide +kernel
theorem dX10_vow_0 : decode cX10_vow 0 = .ok (.aload_n 0, 1) := by decide +kernel
theorem dX10_vow_1 : decode cX10_vow 1 = .ok (.getfield 34, 3) := by decide +kernel
theorem dX10_vow_4 : decode cX10_vow 4 = .ok (.getfield 81, 3) := by decide +kernel
theorem dX10_vow_7 : decode cX10_vow 7 = .ok (.astore 4, 2) := by decide +kernel
theorem dX10_vow_9 : decode cX10_vow 9 = .ok (.aload_n 0, 1) := by decide +kernel
theorem dX10_vow_10 : decode cX10_vow 10 = .ok (.iload_n 1, 1) := by decide +kernel
theorem dX10_vow_11 : decode cX10_vow 11 = .ok (.invokevirtual 184, 3) := by decide +kernel
theorem dX10_vow_14 : decode cX10_vow 14 = .ok (.ifCond .eq 33, 3) := by decide +kernel
theorem dX10_vow_17 : decode cX10_vow 17 = .ok (.aload 4, 2) := by decide +kernel
theorem dX10_vow_19 : decode cX10_vow 19 = .ok (.iload_n 2, 1) := by decide +kernel
theorem dX10_vow_20 : decode cX10_vow 20 = .ok (.invokevirtual 116, 3) := by decide +kernel
theorem dX10_vow_23 : decode cX10_vow 23 = .ok (.ifCond .eq 24, 3) := by decide +kernel
theorem dX10_vow_26 : decode cX10_vow 26 = .ok (.aload 4, 2) := by decide +kernel
theorem dX10_vow_28 : decode cX10_vow 28 = .ok (.getfield 261, 3) := by decide +kernel
theorem dX10_vow_31 : decode cX10_vow 31 = .ok (.ifCond .le 16, 3) := by decide +kernel
theorem dX10_vow_34 : decode cX10_vow 34 = .ok (.iload_n 3, 1) := by decide +kernel
theorem dX10_vow_35 : decode cX10_vow 35 = .ok (.ifCond .lt 12, 3) := by decide +kernel
theorem dX10_vow_38 : decode cX10_vow 38 = .ok (.iload_n 3, 1) := by decide +kernel
theorem dX10_vow_39 : decode cX10_vow 39 = .ok (.iconst 2, 1) := by decide +kernel
theorem dX10_vow_40 : decode cX10_vow 40 = .ok (.if_icmp .gt 7, 3) := by decide +kernel
theorem dX10_vow_43 : decode cX10_vow 43 = .ok (.iconst 1, 1) := by decide +kernel
theorem dX10_vow_44 : decode cX10_vow 44 = .ok (.goto 4, 3) := by decide +kernel
theorem dX10_vow_47 : decode cX10_vow 47 = .ok (.iconst 0, 1) := by decide +kernel
theorem dX10_vow_48 : decode cX10_vow 48 = .ok (.invokestatic 122, 3) := by decide +kernel
theorem dX10_vow_51 : decode cX10_vow 51 = .ok (.aload_n 0, 1) := by decide +kernel
theorem dX10_vow_52 : decode cX10_vow 52 = .ok (.getfield 34, 3) := by decide +kernel
theorem dX10_vow_55 : decode cX10_vow 55 = .ok (.getfield 264, 3) := by decide +kernel
theorem dX10_vow_58 : decode cX10_vow 58 = .ok (.iload_n 1, 1) := by decide +kernel
theorem dX10_vow_59 : decode cX10_vow 59 = .ok (.iaload, 1) := by decide +kernel
theorem dX10_vow_60 : decode cX10_vow 60 = .ok (.istore 5, 2) := by decide +kernel
theorem dX10_vow_62 : decode cX10_vow 62 = .ok (.aload_n 0, 1) := by decide +kernel
theorem dX10_vow_63 : decode cX10_vow 63 = .ok (.getfield 34, 3) := by decide +kernel
theorem dX10_vow_66 : decode cX10_vow 66 = .ok (.getfield 267, 3) := by decide +kernel
theorem dX10_vow_69 : decode cX10_vow 69 = .ok (.iload_n 1, 1) := by decide +kernel
theorem dX10_vow_70 : decode cX10_vow 70 = .ok (.iaload, 1) := by decide +kernel
theorem dX10_vow_71 : decode cX10_vow 71 = .ok (.istore 6, 2) := by decide +kernel
theorem dX10_vow_73 : decode cX10_vow 73 = .ok (.aload_n 0, 1) := by decide +kernel
theorem dX10_vow_74 : decode cX10_vow 74 = .ok (.iload_n 1, 1) := by decide +kernel
theorem dX10_vow_75 : decode cX10_vow 75 = .ok (.iload_n 2, 1) := by decide +kernel
theorem dX10_vow_76 : decode cX10_vow 76 = .ok (.iconst (-1), 1) := by decide +kernel
theorem dX10_vow_77 : decode cX10_vow 77 = .ok (.iconst 0, 1) := by decide +kernel
theorem dX10_vow_78 : decode cX10_vow 78 = .ok (.invokevirtual 270, 3) := by decide +kernel
theorem dX10_vow_81 : decode cX10_vow 81 = .ok (.lstore 7, 2) := by decide +kernel
theorem dX10_vow_83 : decode cX10_vow 83 = .ok (.lconst 0, 1) := by decide +kernel
theorem dX10_vow_84 : decode cX10_vow 84 = .ok (.lstore 9, 2) := by decide +kernel
theorem dX10_vow_86 : decode cX10_vow 86 = .ok (.iconst (-1), 1) := by decide +kernel
theorem dX10_vow_87 : decode cX10_vow 87 = .ok (.istore 11, 2) := by decide +kernel
theorem dX10_vow_89 : decode cX10_vow 89 = .ok (.iconst 0, 1) := by decide +kernel
theorem dX10_vow_90 : decode cX10_vow 90 = .ok (.istore 12, 2) := by decide +kernel
theorem dX10_vow_92 : decode cX10_vow 92 = .ok (.iload 12, 2) := by decide +kernel
theorem dX10_vow_94 : decode cX10_vow 94 = .ok (.aload 4, 2) := by decide +kernel
theorem dX10_vow_96 : decode cX10_vow 96 = .ok (.getfield 261, 3) := by decide +kernel
theorem dX10_vow_99 : decode cX10_vow 99 = .ok (.if_icmp .ge 70, 3) := by decide +kernel
theorem dX10_vow_102 : decode cX10_vow 102 = .ok (.iconst 0, 1) := by decide +kernel
theorem dX10_vow_103 : decode cX10_vow 103 = .ok (.istore 13, 2) := by decide +kernel
theorem dX10_vow_105 : decode cX10_vow 105 = .ok (.iload 13, 2) := by decide +kernel
theorem dX10_vow_107 : decode cX10_vow 107 = .ok (.aload 4, 2) := by decide +kernel
theorem dX10_vow_109 : decode cX10_vow 109 = .ok (.getfield 103, 3) := by decide +kernel
theorem dX10_vow_112 : decode cX10_vow 112 = .ok (.iload 12, 2) := by decide +kernel
theorem dX10_vow_114 : decode cX10_vow 114 = .ok (.iaload, 1) := by decide +kernel
theorem dX10_vow_115 : decode cX10_vow 115 = .ok (.if_icmp .ge 48, 3) := by decide +kernel
theorem dX10_vow_118 : decode cX10_vow 118 = .ok (.aload_n 0, 1) := by decide +kernel
theorem dX10_vow_119 : decode cX10_vow 119 = .ok (.iload_n 1, 1) := by decide +kernel
theorem dX10_vow_120 : decode cX10_vow 120 = .ok (.iload_n 2, 1) := by decide +kernel
theorem dX10_vow_121 : decode cX10_vow 121 = .ok (.iload 12, 2) := by decide +kernel
theorem dX10_vow_123 : decode cX10_vow 123 = .ok (.iload 13, 2) := by decide +kernel
theorem dX10_vow_125 : decode cX10_vow 125 = .ok (.invokevirtual 270, 3) := by decide +kernel
theorem dX10_vow_128 : decode cX10_vow 128 = .ok (.lstore 14, 2) := by decide +kernel
theorem dX10_vow_130 : decode cX10_vow 130 = .ok (.iload 11, 2) := by decide +kernel
theorem dX10_vow_132 : decode cX10_vow 132 = .ok (.iconst (-1), 1) := by decide +kernel
theorem dX10_vow_133 : decode cX10_vow 133 = .ok (.if_icmp .eq 11, 3) := by decide +kernel
theorem dX10_vow_136 : decode cX10_vow 136 = .ok (.lload 14, 2) := by decide +kernel
theorem dX10_vow_138 : decode cX10_vow 138 = .ok (.lload 9, 2) := by decide +kernel
theorem dX10_vow_140 : decode cX10_vow 140 = .ok (.lcmp, 1) := by decide +kernel
theorem dX10_vow_141 : decode cX10_vow 141 = .ok (.ifCond .le 16, 3) := by decide +kernel
theorem dX10_vow_144 : decode cX10_vow 144 = .ok (.lload 14, 2) := by decide +kernel
theorem dX10_vow_146 : decode cX10_vow 146 = .ok (.lstore 9, 2) := by decide +kernel
theorem dX10_vow_148 : decode cX10_vow 148 = .ok (.iload 12, 2) := by decide +kernel
theorem dX10_vow_150 : decode cX10_vow 150 = .ok (.iconst 3, 1) := by decide +kernel
theorem dX10_vow_151 : decode cX10_vow 151 = .ok (.imul, 1) := by decide +kernel
theorem dX10_vow_152 : decode cX10_vow 152 = .ok (.iload 13, 2) := by decide +kernel
theorem dX10_vow_154 : decode cX10_vow 154 = .ok (.iadd, 1) := by decide +kernel
theorem dX10_vow_155 : decode cX10_vow 155 = .ok (.istore 11, 2) := by decide +kernel
theorem dX10_vow_157 : decode cX10_vow 157 = .ok (.iinc 13 1, 3) := by decide +kernel
theorem dX10_vow_160 : decode cX10_vow 160 = .ok (.goto (-55), 3) := by decide +kernel
theorem dX10_vow_163 : decode cX10_vow 163 = .ok (.iinc 12 1, 3) := by decide +kernel
theorem dX10_vow_166 : decode cX10_vow 166 = .ok (.goto (-74), 3) := by decide +kernel
theorem dX10_vow_169 : decode cX10_vow 169 = .ok (.aload_n 0, 1) := by decide +kernel
theorem dX10_vow_170 : decode cX10_vow 170 = .ok (.iload_n 1, 1) := by decide +kernel
theorem dX10_vow_171 : decode cX10_vow 171 = .ok (.iload 5, 2) := by decide +kernel
theorem dX10_vow_173 : decode cX10_vow 173 = .ok (.iload 6, 2) := by decide +kernel
theorem dX10_vow_175 : decode cX10_vow 175 = .ok (.invokevirtual 176, 3) := by decide +kernel
theorem dX10_vow_178 : decode cX10_vow 178 = .ok (.iload_n 3, 1) := by decide +kernel
theorem dX10_vow_179 : decode cX10_vow 179 = .ok (.ifCond .ne 9, 3) := by decide +kernel
theorem dX10_vow_182 : decode cX10_vow 182 = .ok (.iload 11, 2) := by decide +kernel
theorem dX10_vow_184 : decode cX10_vow 184 = .ok (.i2l, 1) := by decide +kernel
theorem dX10_vow_185 : decode cX10_vow 185 = .ok (.goto 17, 3) := by decide +kernel
theorem dX10_vow_188 : decode cX10_vow 188 = .ok (.lload 9, 2) := by decide +kernel
theorem dX10_vow_190 : decode cX10_vow 190 = .ok (.lload 7, 2) := by decide +kernel
theorem dX10_vow_192 : decode cX10_vow 192 = .ok (.lsub, 1) := by decide +kernel
theorem dX10_vow_193 : decode cX10_vow 193 = .ok (.ldc2_w 259, 3) := by decide +kernel
theorem dX10_vow_196 : decode cX10_vow 196 = .ok (.iload_n 3, 1) := by decide +kernel
theorem dX10_vow_197 : decode cX10_vow 197 = .ok (.iconst 1, 1) := by decide +kernel
theorem dX10_vow_198 : decode cX10_vow 198 = .ok (.isub, 1) := by decide +kernel
theorem dX10_vow_199 : decode cX10_vow 199 = .ok (.invokestatic 168, 3) := by decide +kernel
theorem dX10_vow_202 : decode cX10_vow 202 = .ok (.lreturn, 1) := by decide +kernel
theorem dX10_bind_0 : decode cX10_bind 0 = .ok (.aload_n 0, 1) := by decide +kernel
theorem dX10_bind_1 : decode cX10_bind 1 = .ok (.getfield 34, 3) := by decide +kernel
theorem dX10_bind_4 : decode cX10_bind 4 = .ok (.getfield 81, 3) := by decide +kernel
theorem dX10_bind_7 : decode cX10_bind 7 = .ok (.iload_n 1, 1) := by decide +kernel
theorem dX10_bind_8 : decode cX10_bind 8 = .ok (.invokevirtual 99, 3) := by decide +kernel
theorem dX10_bind_11 : decode cX10_bind 11 = .ok (.ifCond .eq 26, 3) := by decide +kernel
theorem dX10_bind_14 : decode cX10_bind 14 = .ok (.aload_n 0, 1) := by decide +kernel
theorem dX10_bind_15 : decode cX10_bind 15 = .ok (.iload_n 2, 1) := by decide +kernel
theorem dX10_bind_16 : decode cX10_bind 16 = .ok (.iload_n 3, 1) := by decide +kernel
theorem dX10_bind_17 : decode cX10_bind 17 = .ok (.iload 4, 2) := by decide +kernel
theorem dX10_bind_19 : decode cX10_bind 19 = .ok (.invokevirtual 144, 3) := by decide +kernel
theorem dX10_bind_22 : decode cX10_bind 22 = .ok (.ifCond .eq 15, 3) := by decide +kernel
theorem dX10_bind_25 : decode cX10_bind 25 = .ok (.iload 5, 2) := by decide +kernel
theorem dX10_bind_27 : decode cX10_bind 27 = .ok (.invokestatic 159, 3) := by decide +kernel
theorem dX10_bind_30 : decode cX10_bind 30 = .ok (.ifCond .eq 7, 3) := by decide +kernel
theorem dX10_bind_33 : decode cX10_bind 33 = .ok (.iconst 1, 1) := by decide +kernel
theorem dX10_bind_34 : decode cX10_bind 34 = .ok (.goto 4, 3) := by decide +kernel
theorem dX10_bind_37 : decode cX10_bind 37 = .ok (.iconst 0, 1) := by decide +kernel
theorem dX10_bind_38 : decode cX10_bind 38 = .ok (.invokestatic 122, 3) := by decide +kernel
theorem dX10_bind_41 : decode cX10_bind 41 = .ok (.aload_n 0, 1) := by decide +kernel
theorem dX10_bind_42 : decode cX10_bind 42 = .ok (.getfield 34, 3) := by decide +kernel
theorem dX10_bind_45 : decode cX10_bind 45 = .ok (.getfield 112, 3) := by decide +kernel
theorem dX10_bind_48 : decode cX10_bind 48 = .ok (.iload_n 1, 1) := by decide +kernel
theorem dX10_bind_49 : decode cX10_bind 49 = .ok (.baload, 1) := by decide +kernel
theorem dX10_bind_50 : decode cX10_bind 50 = .ok (.istore 6, 2) := by decide +kernel
theorem dX10_bind_52 : decode cX10_bind 52 = .ok (.aload_n 0, 1) := by decide +kernel
theorem dX10_bind_53 : decode cX10_bind 53 = .ok (.iload_n 1, 1) := by decide +kernel
theorem dX10_bind_54 : decode cX10_bind 54 = .ok (.iconst 1, 1) := by decide +kernel
theorem dX10_bind_55 : decode cX10_bind 55 = .ok (.invokevirtual 180, 3) := by decide +kernel
theorem dX10_bind_58 : decode cX10_bind 58 = .ok (.aload_n 0, 1) := by decide +kernel
theorem dX10_bind_59 : decode cX10_bind 59 = .ok (.iload_n 2, 1) := by decide +kernel
theorem dX10_bind_60 : decode cX10_bind 60 = .ok (.iload_n 3, 1) := by decide +kernel
theorem dX10_bind_61 : decode cX10_bind 61 = .ok (.iload 4, 2) := by decide +kernel
theorem dX10_bind_63 : decode cX10_bind 63 = .ok (.invokevirtual 273, 3) := by decide +kernel
theorem dX10_bind_66 : decode cX10_bind 66 = .ok (.lstore 7, 2) := by decide +kernel
theorem dX10_bind_68 : decode cX10_bind 68 = .ok (.aload_n 0, 1) := by decide +kernel
theorem dX10_bind_69 : decode cX10_bind 69 = .ok (.iload_n 1, 1) := by decide +kernel
theorem dX10_bind_70 : decode cX10_bind 70 = .ok (.iconst 0, 1) := by decide +kernel
theorem dX10_bind_71 : decode cX10_bind 71 = .ok (.invokevirtual 180, 3) := by decide +kernel
theorem dX10_bind_74 : decode cX10_bind 74 = .ok (.aload_n 0, 1) := by decide +kernel
theorem dX10_bind_75 : decode cX10_bind 75 = .ok (.iload_n 2, 1) := by decide +kernel
theorem dX10_bind_76 : decode cX10_bind 76 = .ok (.iload_n 3, 1) := by decide +kernel
theorem dX10_bind_77 : decode cX10_bind 77 = .ok (.iload 4, 2) := by decide +kernel
theorem dX10_bind_79 : decode cX10_bind 79 = .ok (.invokevirtual 273, 3) := by decide +kernel
theorem dX10_bind_82 : decode cX10_bind 82 = .ok (.lstore 9, 2) := by decide +kernel
theorem dX10_bind_84 : decode cX10_bind 84 = .ok (.aload_n 0, 1) := by decide +kernel
theorem dX10_bind_85 : decode cX10_bind 85 = .ok (.iload_n 1, 1) := by decide +kernel
theorem dX10_bind_86 : decode cX10_bind 86 = .ok (.iload 6, 2) := by decide +kernel
theorem dX10_bind_88 : decode cX10_bind 88 = .ok (.invokevirtual 180, 3) := by decide +kernel
theorem dX10_bind_91 : decode cX10_bind 91 = .ok (.lload 7, 2) := by decide +kernel
theorem dX10_bind_93 : decode cX10_bind 93 = .ok (.lload 9, 2) := by decide +kernel
theorem dX10_bind_95 : decode cX10_bind 95 = .ok (.lsub, 1) := by decide +kernel
theorem dX10_bind_96 : decode cX10_bind 96 = .ok (.ldc2_w 166, 3) := by decide +kernel
theorem dX10_bind_99 : decode cX10_bind 99 = .ok (.iload 5, 2) := by decide +kernel
theorem dX10_bind_101 : decode cX10_bind 101 = .ok (.invokestatic 168, 3) := by decide +kernel
theorem dX10_bind_104 : decode cX10_bind 104 = .ok (.lreturn, 1) := by decide +kernel
theorem dX10_order_0 : decode cX10_order 0 = .ok (.aload_n 0, 1) := by decide +kernel
theorem dX10_order_1 : decode cX10_order 1 = .ok (.getfield 34, 3) := by decide +kernel
theorem dX10_order_4 : decode cX10_order 4 = .ok (.getfield 81, 3) := by decide +kernel
theorem dX10_order_7 : decode cX10_order 7 = .ok (.astore 7, 2) := by decide +kernel
theorem dX10_order_9 : decode cX10_order 9 = .ok (.aload 7, 2) := by decide +kernel
theorem dX10_order_11 : decode cX10_order 11 = .ok (.iload_n 1, 1) := by decide +kernel
theorem dX10_order_12 : decode cX10_order 12 = .ok (.invokevirtual 99, 3) := by decide +kernel
theorem dX10_order_15 : decode cX10_order 15 = .ok (.ifCond .eq 29, 3) := by decide +kernel
theorem dX10_order_18 : decode cX10_order 18 = .ok (.aload 7, 2) := by decide +kernel
theorem dX10_order_20 : decode cX10_order 20 = .ok (.iload_n 2, 1) := by decide +kernel
theorem dX10_order_21 : decode cX10_order 21 = .ok (.invokevirtual 99, 3) := by decide +kernel
theorem dX10_order_24 : decode cX10_order 24 = .ok (.ifCond .eq 20, 3) := by decide +kernel
theorem dX10_order_27 : decode cX10_order 27 = .ok (.iload_n 1, 1) := by decide +kernel
theorem dX10_order_28 : decode cX10_order 28 = .ok (.iload_n 2, 1) := by decide +kernel
theorem dX10_order_29 : decode cX10_order 29 = .ok (.if_icmp .eq 15, 3) := by decide +kernel
theorem dX10_order_32 : decode cX10_order 32 = .ok (.iload 6, 2) := by decide +kernel
theorem dX10_order_34 : decode cX10_order 34 = .ok (.invokestatic 159, 3) := by decide +kernel
theorem dX10_order_37 : decode cX10_order 37 = .ok (.ifCond .eq 7, 3) := by decide +kernel
theorem dX10_order_40 : decode cX10_order 40 = .ok (.iconst 1, 1) := by decide +kernel
theorem dX10_order_41 : decode cX10_order 41 = .ok (.goto 4, 3) := by decide +kernel
theorem dX10_order_44 : decode cX10_order 44 = .ok (.iconst 0, 1) := by decide +kernel
theorem dX10_order_45 : decode cX10_order 45 = .ok (.invokestatic 122, 3) := by decide +kernel
theorem dX10_order_48 : decode cX10_order 48 = .ok (.aload_n 0, 1) := by decide +kernel
theorem dX10_order_49 : decode cX10_order 49 = .ok (.iload_n 3, 1) := by decide +kernel
theorem dX10_order_50 : decode cX10_order 50 = .ok (.iload 4, 2) := by decide +kernel
theorem dX10_order_52 : decode cX10_order 52 = .ok (.iload 5, 2) := by decide +kernel
theorem dX10_order_54 : decode cX10_order 54 = .ok (.invokevirtual 144, 3) := by decide +kernel
theorem dX10_order_57 : decode cX10_order 57 = .ok (.ifCond .eq 18, 3) := by decide +kernel
theorem dX10_order_60 : decode cX10_order 60 = .ok (.aload 7, 2) := by decide +kernel
theorem dX10_order_62 : decode cX10_order 62 = .ok (.iload_n 3, 1) := by decide +kernel
theorem dX10_order_63 : decode cX10_order 63 = .ok (.iconst 1, 1) := by decide +kernel
theorem dX10_order_64 : decode cX10_order 64 = .ok (.iadd, 1) := by decide +kernel
theorem dX10_order_65 : decode cX10_order 65 = .ok (.invokevirtual 133, 3) := by decide +kernel
theorem dX10_order_68 : decode cX10_order 68 = .ok (.ifCond .eq 7, 3) := by decide +kernel
theorem dX10_order_71 : decode cX10_order 71 = .ok (.iconst 1, 1) := by decide +kernel
theorem dX10_order_72 : decode cX10_order 72 = .ok (.goto 4, 3) := by decide +kernel
theorem dX10_order_75 : decode cX10_order 75 = .ok (.iconst 0, 1) := by decide +kernel
theorem dX10_order_76 : decode cX10_order 76 = .ok (.invokestatic 122, 3) := by decide +kernel
theorem dX10_order_79 : decode cX10_order 79 = .ok (.aload_n 0, 1) := by decide +kernel
theorem dX10_order_80 : decode cX10_order 80 = .ok (.getfield 34, 3) := by decide +kernel
theorem dX10_order_83 : decode cX10_order 83 = .ok (.getfield 276, 3) := by decide +kernel
theorem dX10_order_86 : decode cX10_order 86 = .ok (.iload_n 3, 1) := by decide +kernel
theorem dX10_order_87 : decode cX10_order 87 = .ok (.iaload, 1) := by decide +kernel
theorem dX10_order_88 : decode cX10_order 88 = .ok (.istore 8, 2) := by decide +kernel
theorem dX10_order_90 : decode cX10_order 90 = .ok (.aload_n 0, 1) := by decide +kernel
theorem dX10_order_91 : decode cX10_order 91 = .ok (.getfield 34, 3) := by decide +kernel
theorem dX10_order_94 : decode cX10_order 94 = .ok (.getfield 276, 3) := by decide +kernel
theorem dX10_order_97 : decode cX10_order 97 = .ok (.iload_n 3, 1) := by decide +kernel
theorem dX10_order_98 : decode cX10_order 98 = .ok (.iconst 1, 1) := by decide +kernel
theorem dX10_order_99 : decode cX10_order 99 = .ok (.iadd, 1) := by decide +kernel
theorem dX10_order_100 : decode cX10_order 100 = .ok (.iaload, 1) := by decide +kernel
theorem dX10_order_101 : decode cX10_order 101 = .ok (.istore 9, 2) := by decide +kernel
theorem dX10_order_103 : decode cX10_order 103 = .ok (.aload_n 0, 1) := by decide +kernel
theorem dX10_order_104 : decode cX10_order 104 = .ok (.iload_n 3, 1) := by decide +kernel
theorem dX10_order_105 : decode cX10_order 105 = .ok (.iload_n 1, 1) := by decide +kernel
theorem dX10_order_106 : decode cX10_order 106 = .ok (.invokevirtual 172, 3) := by decide +kernel
theorem dX10_order_109 : decode cX10_order 109 = .ok (.aload_n 0, 1) := by decide +kernel
theorem dX10_order_110 : decode cX10_order 110 = .ok (.iload_n 3, 1) := by decide +kernel
theorem dX10_order_111 : decode cX10_order 111 = .ok (.iconst 1, 1) := by decide +kernel
theorem dX10_order_112 : decode cX10_order 112 = .ok (.iadd, 1) := by decide +kernel
theorem dX10_order_113 : decode cX10_order 113 = .ok (.iload_n 2, 1) := by decide +kernel
theorem dX10_order_114 : decode cX10_order 114 = .ok (.invokevirtual 172, 3) := by decide +kernel
theorem dX10_order_117 : decode cX10_order 117 = .ok (.aload_n 0, 1) := by decide +kernel
theorem dX10_order_118 : decode cX10_order 118 = .ok (.iload_n 3, 1) := by decide +kernel
theorem dX10_order_119 : decode cX10_order 119 = .ok (.iload 4, 2) := by decide +kernel
theorem dX10_order_121 : decode cX10_order 121 = .ok (.iload 5, 2) := by decide +kernel
theorem dX10_order_123 : decode cX10_order 123 = .ok (.invokevirtual 273, 3) := by decide +kernel
theorem dX10_order_126 : decode cX10_order 126 = .ok (.lstore 10, 2) := by decide +kernel
theorem dX10_order_128 : decode cX10_order 128 = .ok (.aload_n 0, 1) := by decide +kernel
theorem dX10_order_129 : decode cX10_order 129 = .ok (.iload_n 3, 1) := by decide +kernel
theorem dX10_order_130 : decode cX10_order 130 = .ok (.iload_n 2, 1) := by decide +kernel
theorem dX10_order_131 : decode cX10_order 131 = .ok (.invokevirtual 172, 3) := by decide +kernel
theorem dX10_order_134 : decode cX10_order 134 = .ok (.aload_n 0, 1) := by decide +kernel
theorem dX10_order_135 : decode cX10_order 135 = .ok (.iload_n 3, 1) := by decide +kernel
theorem dX10_order_136 : decode cX10_order 136 = .ok (.iconst 1, 1) := by decide +kernel
theorem dX10_order_137 : decode cX10_order 137 = .ok (.iadd, 1) := by decide +kernel
theorem dX10_order_138 : decode cX10_order 138 = .ok (.iload_n 1, 1) := by decide +kernel
theorem dX10_order_139 : decode cX10_order 139 = .ok (.invokevirtual 172, 3) := by decide +kernel
theorem dX10_order_142 : decode cX10_order 142 = .ok (.aload_n 0, 1) := by decide +kernel
theorem dX10_order_143 : decode cX10_order 143 = .ok (.iload_n 3, 1) := by decide +kernel
theorem dX10_order_144 : decode cX10_order 144 = .ok (.iload 4, 2) := by decide +kernel
theorem dX10_order_146 : decode cX10_order 146 = .ok (.iload 5, 2) := by decide +kernel
theorem dX10_order_148 : decode cX10_order 148 = .ok (.invokevirtual 273, 3) := by decide +kernel
theorem dX10_order_151 : decode cX10_order 151 = .ok (.lstore 12, 2) := by decide +kernel
theorem dX10_order_153 : decode cX10_order 153 = .ok (.aload_n 0, 1) := by decide +kernel
theorem dX10_order_154 : decode cX10_order 154 = .ok (.iload_n 3, 1) := by decide +kernel
theorem dX10_order_155 : decode cX10_order 155 = .ok (.iload 8, 2) := by decide +kernel
theorem dX10_order_157 : decode cX10_order 157 = .ok (.invokevirtual 172, 3) := by decide +kernel
theorem dX10_order_160 : decode cX10_order 160 = .ok (.aload_n 0, 1) := by decide +kernel
theorem dX10_order_161 : decode cX10_order 161 = .ok (.iload_n 3, 1) := by decide +kernel
theorem dX10_order_162 : decode cX10_order 162 = .ok (.iconst 1, 1) := by decide +kernel
theorem dX10_order_163 : decode cX10_order 163 = .ok (.iadd, 1) := by decide +kernel
theorem dX10_order_164 : decode cX10_order 164 = .ok (.iload 9, 2) := by decide +kernel
theorem dX10_order_166 : decode cX10_order 166 = .ok (.invokevirtual 172, 3) := by decide +kernel
theorem dX10_order_169 : decode cX10_order 169 = .ok (.lload 10, 2) := by decide +kernel
theorem dX10_order_171 : decode cX10_order 171 = .ok (.lload 12, 2) := by decide +kernel
theorem dX10_order_173 : decode cX10_order 173 = .ok (.lsub, 1) := by decide +kernel
theorem dX10_order_174 : decode cX10_order 174 = .ok (.ldc2_w 166, 3) := by decide +kernel
theorem dX10_order_177 : decode cX10_order 177 = .ok (.iload 6, 2) := by decide +kernel
theorem dX10_order_179 : decode cX10_order 179 = .ok (.invokestatic 168, 3) := by decide +kernel
theorem dX10_order_182 : decode cX10_order 182 = .ok (.lreturn, 1) := by decide +kernel
theorem dX10_century_0 : decode cX10_century 0 = .ok (.aload_n 0, 1) := by decide +kernel
theorem dX10_century_1 : decode cX10_century 1 = .ok (.iload_n 1, 1) := by decide +kernel
theorem dX10_century_2 : decode cX10_century 2 = .ok (.iload_n 2, 1) := by decide +kernel
theorem dX10_century_3 : decode cX10_century 3 = .ok (.invokevirtual 279, 3) := by decide +kernel
theorem dX10_century_6 : decode cX10_century 6 = .ok (.ifCond .eq 32, 3) := by decide +kernel
theorem dX10_century_9 : decode cX10_century 9 = .ok (.aload_n 0, 1) := by decide +kernel
theorem dX10_century_10 : decode cX10_century 10 = .ok (.getfield 34, 3) := by decide +kernel
theorem dX10_century_13 : decode cX10_century 13 = .ok (.getfield 81, 3) := by decide +kernel
theorem dX10_century_16 : decode cX10_century 16 = .ok (.iload_n 3, 1) := by decide +kernel
theorem dX10_century_17 : decode cX10_century 17 = .ok (.invokevirtual 133, 3) := by decide +kernel
theorem dX10_century_20 : decode cX10_century 20 = .ok (.ifCond .eq 18, 3) := by decide +kernel
theorem dX10_century_23 : decode cX10_century 23 = .ok (.iload 4, 2) := by decide +kernel
theorem dX10_century_25 : decode cX10_century 25 = .ok (.ifCond .lt 13, 3) := by decide +kernel
theorem dX10_century_28 : decode cX10_century 28 = .ok (.iload 4, 2) := by decide +kernel
theorem dX10_century_30 : decode cX10_century 30 = .ok (.iconst 3, 1) := by decide +kernel
theorem dX10_century_31 : decode cX10_century 31 = .ok (.if_icmp .gt 7, 3) := by decide +kernel
theorem dX10_century_34 : decode cX10_century 34 = .ok (.iconst 1, 1) := by decide +kernel
theorem dX10_century_35 : decode cX10_century 35 = .ok (.goto 4, 3) := by decide +kernel
theorem dX10_century_38 : decode cX10_century 38 = .ok (.iconst 0, 1) := by decide +kernel
theorem dX10_century_39 : decode cX10_century 39 = .ok (.invokestatic 122, 3) := by decide +kernel
theorem dX10_century_42 : decode cX10_century 42 = .ok (.aload_n 0, 1) := by decide +kernel
theorem dX10_century_43 : decode cX10_century 43 = .ok (.getfield 63, 3) := by decide +kernel
theorem dX10_century_46 : decode cX10_century 46 = .ok (.iload_n 1, 1) := by decide +kernel
theorem dX10_century_47 : decode cX10_century 47 = .ok (.iload_n 2, 1) := by decide +kernel
theorem dX10_century_48 : decode cX10_century 48 = .ok (.invokevirtual 282, 3) := by decide +kernel
theorem dX10_century_51 : decode cX10_century 51 = .ok (.iload 4, 2) := by decide +kernel
theorem dX10_century_53 : decode cX10_century 53 = .ok (.tableswitch 57 0 2 #[27, 37, 47], 27) := by decide +kernel
theorem dX10_century_80 : decode cX10_century 80 = .ok (.aload_n 0, 1) := by decide +kernel
theorem dX10_century_81 : decode cX10_century 81 = .ok (.getfield 63, 3) := by decide +kernel
theorem dX10_century_84 : decode cX10_century 84 = .ok (.getfield 285, 3) := by decide +kernel
theorem dX10_century_87 : decode cX10_century 87 = .ok (.iload_n 3, 1) := by decide +kernel
theorem dX10_century_88 : decode cX10_century 88 = .ok (.iaload, 1) := by decide +kernel
theorem dX10_century_89 : decode cX10_century 89 = .ok (.ireturn, 1) := by decide +kernel
theorem dX10_century_90 : decode cX10_century 90 = .ok (.aload_n 0, 1) := by decide +kernel
theorem dX10_century_91 : decode cX10_century 91 = .ok (.getfield 63, 3) := by decide +kernel
theorem dX10_century_94 : decode cX10_century 94 = .ok (.getfield 288, 3) := by decide +kernel
theorem dX10_century_97 : decode cX10_century 97 = .ok (.iload_n 3, 1) := by decide +kernel
theorem dX10_century_98 : decode cX10_century 98 = .ok (.iaload, 1) := by decide +kernel
theorem dX10_century_99 : decode cX10_century 99 = .ok (.ireturn, 1) := by decide +kernel
theorem dX10_century_100 : decode cX10_century 100 = .ok (.aload_n 0, 1) := by decide +kernel
theorem dX10_century_101 : decode cX10_century 101 = .ok (.getfield 63, 3) := by decide +kernel
theorem dX10_century_104 : decode cX10_century 104 = .ok (.getfield 291, 3) := by decide +kernel
theorem dX10_century_107 : decode cX10_century 107 = .ok (.iload_n 3, 1) := by decide +kernel
theorem dX10_century_108 : decode cX10_century 108 = .ok (.iaload, 1) := by decide +kernel
theorem dX10_century_109 : decode cX10_century 109 = .ok (.ireturn, 1) := by decide +kernel
theorem dX10_century_110 : decode cX10_century 110 = .ok (.aload_n 0, 1) := by decide +kernel
theorem dX10_century_111 : decode cX10_century 111 = .ok (.getfield 63, 3) := by decide +kernel
theorem dX10_century_114 : decode cX10_century 114 = .ok (.getfield 294, 3) := by decide +kernel
theorem dX10_century_117 : decode cX10_century 117 = .ok (.iload_n 3, 1) := by decide +kernel
theorem dX10_century_118 : decode cX10_century 118 = .ok (.iaload, 1) := by decide +kernel
theorem dX10_century_119 : decode cX10_century 119 = .ok (.ireturn, 1) := by decide +kernel
theorem dX10_fares_0 : decode cX10_fares 0 = .ok (.aload_n 0, 1) := by decide +kernel
theorem dX10_fares_1 : decode cX10_fares 1 = .ok (.iload_n 1, 1) := by decide +kernel
theorem dX10_fares_2 : decode cX10_fares 2 = .ok (.iload_n 2, 1) := by decide +kernel
theorem dX10_fares_3 : decode cX10_fares 3 = .ok (.invokevirtual 279, 3) := by decide +kernel
theorem dX10_fares_6 : decode cX10_fares 6 = .ok (.ifCond .eq 21, 3) := by decide +kernel
theorem dX10_fares_9 : decode cX10_fares 9 = .ok (.aload_n 0, 1) := by decide +kernel
theorem dX10_fares_10 : decode cX10_fares 10 = .ok (.getfield 34, 3) := by decide +kernel
theorem dX10_fares_13 : decode cX10_fares 13 = .ok (.getfield 81, 3) := by decide +kernel
theorem dX10_fares_16 : decode cX10_fares 16 = .ok (.iload_n 3, 1) := by decide +kernel
theorem dX10_fares_17 : decode cX10_fares 17 = .ok (.invokevirtual 133, 3) := by decide +kernel
theorem dX10_fares_20 : decode cX10_fares 20 = .ok (.ifCond .eq 7, 3) := by decide +kernel
theorem dX10_fares_23 : decode cX10_fares 23 = .ok (.iconst 1, 1) := by decide +kernel
theorem dX10_fares_24 : decode cX10_fares 24 = .ok (.goto 4, 3) := by decide +kernel
theorem dX10_fares_27 : decode cX10_fares 27 = .ok (.iconst 0, 1) := by decide +kernel
theorem dX10_fares_28 : decode cX10_fares 28 = .ok (.invokestatic 122, 3) := by decide +kernel
theorem dX10_fares_31 : decode cX10_fares 31 = .ok (.aload_n 0, 1) := by decide +kernel
theorem dX10_fares_32 : decode cX10_fares 32 = .ok (.getfield 63, 3) := by decide +kernel
theorem dX10_fares_35 : decode cX10_fares 35 = .ok (.iload_n 1, 1) := by decide +kernel
theorem dX10_fares_36 : decode cX10_fares 36 = .ok (.iload_n 2, 1) := by decide +kernel
theorem dX10_fares_37 : decode cX10_fares 37 = .ok (.invokevirtual 282, 3) := by decide +kernel
theorem dX10_fares_40 : decode cX10_fares 40 = .ok (.aload_n 0, 1) := by decide +kernel
theorem dX10_fares_41 : decode cX10_fares 41 = .ok (.getfield 63, 3) := by decide +kernel
theorem dX10_fares_44 : decode cX10_fares 44 = .ok (.getfield 288, 3) := by decide +kernel
theorem dX10_fares_47 : decode cX10_fares 47 = .ok (.iload_n 3, 1) := by decide +kernel
theorem dX10_fares_48 : decode cX10_fares 48 = .ok (.iaload, 1) := by decide +kernel
theorem dX10_fares_49 : decode cX10_fares 49 = .ok (.iconst (-1), 1) := by decide +kernel
theorem dX10_fares_50 : decode cX10_fares 50 = .ok (.if_icmp .eq 7, 3) := by decide +kernel
theorem dX10_fares_53 : decode cX10_fares 53 = .ok (.iconst 1, 1) := by decide +kernel
theorem dX10_fares_54 : decode cX10_fares 54 = .ok (.goto 4, 3) := by decide +kernel
theorem dX10_fares_57 : decode cX10_fares 57 = .ok (.iconst 0, 1) := by decide +kernel
theorem dX10_fares_58 : decode cX10_fares 58 = .ok (.invokestatic 122, 3) := by decide +kernel
theorem dX10_fares_61 : decode cX10_fares 61 = .ok (.aload_n 0, 1) := by decide +kernel
theorem dX10_fares_62 : decode cX10_fares 62 = .ok (.getfield 63, 3) := by decide +kernel
theorem dX10_fares_65 : decode cX10_fares 65 = .ok (.iload_n 3, 1) := by decide +kernel
theorem dX10_fares_66 : decode cX10_fares 66 = .ok (.invokevirtual 297, 3) := by decide +kernel
theorem dX10_fares_69 : decode cX10_fares 69 = .ok (.ireturn, 1) := by decide +kernel
theorem dX10_told_0 : decode cX10_told 0 = .ok (.aload_n 0, 1) := by decide +kernel
theorem dX10_told_1 : decode cX10_told 1 = .ok (.iload_n 1, 1) := by decide +kernel
theorem dX10_told_2 : decode cX10_told 2 = .ok (.iload_n 2, 1) := by decide +kernel
theorem dX10_told_3 : decode cX10_told 3 = .ok (.invokevirtual 279, 3) := by decide +kernel
theorem dX10_told_6 : decode cX10_told 6 = .ok (.ifCond .eq 16, 3) := by decide +kernel
theorem dX10_told_9 : decode cX10_told 9 = .ok (.iload_n 3, 1) := by decide +kernel
theorem dX10_told_10 : decode cX10_told 10 = .ok (.ifCond .lt 12, 3) := by decide +kernel
theorem dX10_told_13 : decode cX10_told 13 = .ok (.iload_n 3, 1) := by decide +kernel
theorem dX10_told_14 : decode cX10_told 14 = .ok (.iconst 5, 1) := by decide +kernel
theorem dX10_told_15 : decode cX10_told 15 = .ok (.if_icmp .gt 7, 3) := by decide +kernel
theorem dX10_told_18 : decode cX10_told 18 = .ok (.iconst 1, 1) := by decide +kernel
theorem dX10_told_19 : decode cX10_told 19 = .ok (.goto 4, 3) := by decide +kernel
theorem dX10_told_22 : decode cX10_told 22 = .ok (.iconst 0, 1) := by decide +kernel
theorem dX10_told_23 : decode cX10_told 23 = .ok (.invokestatic 122, 3) := by decide +kernel
theorem dX10_told_26 : decode cX10_told 26 = .ok (.aload_n 0, 1) := by decide +kernel
theorem dX10_told_27 : decode cX10_told 27 = .ok (.getfield 63, 3) := by decide +kernel
theorem dX10_told_30 : decode cX10_told 30 = .ok (.iload_n 1, 1) := by decide +kernel
theorem dX10_told_31 : decode cX10_told 31 = .ok (.iload_n 2, 1) := by decide +kernel
theorem dX10_told_32 : decode cX10_told 32 = .ok (.invokevirtual 282, 3) := by decide +kernel
theorem dX10_told_35 : decode cX10_told 35 = .ok (.iload_n 3, 1) := by decide +kernel
theorem dX10_told_36 : decode cX10_told 36 = .ok (.tableswitch 78 0 4 #[36, 44, 52, 60, 69], 36) := by decide +kernel
theorem dX10_told_72 : decode cX10_told 72 = .ok (.aload_n 0, 1) := by decide +kernel
theorem dX10_told_73 : decode cX10_told 73 = .ok (.getfield 63, 3) := by decide +kernel
theorem dX10_told_76 : decode cX10_told 76 = .ok (.invokevirtual 301, 3) := by decide +kernel
theorem dX10_told_79 : decode cX10_told 79 = .ok (.ireturn, 1) := by decide +kernel
theorem dX10_told_80 : decode cX10_told 80 = .ok (.aload_n 0, 1) := by decide +kernel
theorem dX10_told_81 : decode cX10_told 81 = .ok (.getfield 63, 3) := by decide +kernel
theorem dX10_told_84 : decode cX10_told 84 = .ok (.invokevirtual 305, 3) := by decide +kernel
theorem dX10_told_87 : decode cX10_told 87 = .ok (.ireturn, 1) := by decide +kernel
theorem dX10_told_88 : decode cX10_told 88 = .ok (.aload_n 0, 1) := by decide +kernel
theorem dX10_told_89 : decode cX10_told 89 = .ok (.getfield 63, 3) := by decide +kernel
theorem dX10_told_92 : decode cX10_told 92 = .ok (.invokevirtual 308, 3) := by decide +kernel
theorem dX10_told_95 : decode cX10_told 95 = .ok (.ireturn, 1) := by decide +kernel
theorem dX10_told_96 : decode cX10_told 96 = .ok (.aload_n 0, 1) := by decide +kernel
theorem dX10_told_97 : decode cX10_told 97 = .ok (.getfield 63, 3) := by decide +kernel
theorem dX10_told_100 : decode cX10_told 100 = .ok (.iconst 1, 1) := by decide +kernel
theorem dX10_told_101 : decode cX10_told 101 = .ok (.invokevirtual 311, 3) := by decide +kernel
theorem dX10_told_104 : decode cX10_told 104 = .ok (.ireturn, 1) := by decide +kernel
theorem dX10_told_105 : decode cX10_told 105 = .ok (.aload_n 0, 1) := by decide +kernel
theorem dX10_told_106 : decode cX10_told 106 = .ok (.getfield 63, 3) := by decide +kernel
theorem dX10_told_109 : decode cX10_told 109 = .ok (.iconst 0, 1) := by decide +kernel
theorem dX10_told_110 : decode cX10_told 110 = .ok (.invokevirtual 311, 3) := by decide +kernel
theorem dX10_told_113 : decode cX10_told 113 = .ok (.ireturn, 1) := by decide +kernel
theorem dX10_told_114 : decode cX10_told 114 = .ok (.aload_n 0, 1) := by decide +kernel
theorem dX10_told_115 : decode cX10_told 115 = .ok (.getfield 63, 3) := by decide +kernel
theorem dX10_told_118 : decode cX10_told 118 = .ok (.getfield 315, 3) := by decide +kernel
theorem dX10_told_121 : decode cX10_told 121 = .ok (.ireturn, 1) := by decide +kernel
theorem dX10_bestRule_0 : decode cX10_bestRule 0 = .ok (.iload_n 1, 1) := by decide +kernel
theorem dX10_bestRule_1 : decode cX10_bestRule 1 = .ok (.iconst 1, 1) := by decide +kernel
theorem dX10_bestRule_2 : decode cX10_bestRule 2 = .ok (.if_icmp .lt 22, 3) := by decide +kernel
theorem dX10_bestRule_5 : decode cX10_bestRule 5 = .ok (.iload_n 1, 1) := by decide +kernel
theorem dX10_bestRule_6 : decode cX10_bestRule 6 = .ok (.bipush 12, 2) := by decide +kernel
theorem dX10_bestRule_8 : decode cX10_bestRule 8 = .ok (.if_icmp .gt 16, 3) := by decide +kernel
theorem dX10_bestRule_11 : decode cX10_bestRule 11 = .ok (.aload_n 0, 1) := by decide +kernel
theorem dX10_bestRule_12 : decode cX10_bestRule 12 = .ok (.getfield 34, 3) := by decide +kernel
theorem dX10_bestRule_15 : decode cX10_bestRule 15 = .ok (.getfield 81, 3) := by decide +kernel
theorem dX10_bestRule_18 : decode cX10_bestRule 18 = .ok (.getfield 318, 3) := by decide +kernel
theorem dX10_bestRule_21 : decode cX10_bestRule 21 = .ok (.ifCond .ne 5, 3) := by decide +kernel
theorem dX10_bestRule_24 : decode cX10_bestRule 24 = .ok (.iconst (-1), 1) := by decide +kernel
theorem dX10_bestRule_25 : decode cX10_bestRule 25 = .ok (.ireturn, 1) := by decide +kernel
theorem dX10_bestRule_26 : decode cX10_bestRule 26 = .ok (.iconst (-1), 1) := by decide +kernel
theorem dX10_bestRule_27 : decode cX10_bestRule 27 = .ok (.istore_n 2, 1) := by decide +kernel
theorem dX10_bestRule_28 : decode cX10_bestRule 28 = .ok (.lconst 0, 1) := by decide +kernel
theorem dX10_bestRule_29 : decode cX10_bestRule 29 = .ok (.lstore_n 3, 1) := by decide +kernel
theorem dX10_bestRule_30 : decode cX10_bestRule 30 = .ok (.iconst 0, 1) := by decide +kernel
theorem dX10_bestRule_31 : decode cX10_bestRule 31 = .ok (.istore 5, 2) := by decide +kernel
theorem dX10_bestRule_33 : decode cX10_bestRule 33 = .ok (.iload 5, 2) := by decide +kernel
theorem dX10_bestRule_35 : decode cX10_bestRule 35 = .ok (.bipush 6, 2) := by decide +kernel
theorem dX10_bestRule_37 : decode cX10_bestRule 37 = .ok (.if_icmp .ge 69, 3) := by decide +kernel
theorem dX10_bestRule_40 : decode cX10_bestRule 40 = .ok (.lconst 0, 1) := by decide +kernel
theorem dX10_bestRule_41 : decode cX10_bestRule 41 = .ok (.lstore 6, 2) := by decide +kernel
theorem dX10_bestRule_43 : decode cX10_bestRule 43 = .ok (.iconst 0, 1) := by decide +kernel
theorem dX10_bestRule_44 : decode cX10_bestRule 44 = .ok (.istore 8, 2) := by decide +kernel
theorem dX10_bestRule_46 : decode cX10_bestRule 46 = .ok (.iload 8, 2) := by decide +kernel
theorem dX10_bestRule_48 : decode cX10_bestRule 48 = .ok (.iload_n 1, 1) := by decide +kernel
theorem dX10_bestRule_49 : decode cX10_bestRule 49 = .ok (.if_icmp .ge 33, 3) := by decide +kernel
theorem dX10_bestRule_52 : decode cX10_bestRule 52 = .ok (.aload_n 0, 1) := by decide +kernel
theorem dX10_bestRule_53 : decode cX10_bestRule 53 = .ok (.getfield 63, 3) := by decide +kernel
theorem dX10_bestRule_56 : decode cX10_bestRule 56 = .ok (.iload 8, 2) := by decide +kernel
theorem dX10_bestRule_58 : decode cX10_bestRule 58 = .ok (.iload 5, 2) := by decide +kernel
theorem dX10_bestRule_60 : decode cX10_bestRule 60 = .ok (.invokevirtual 282, 3) := by decide +kernel
theorem dX10_bestRule_63 : decode cX10_bestRule 63 = .ok (.lload 6, 2) := by decide +kernel
theorem dX10_bestRule_65 : decode cX10_bestRule 65 = .ok (.aload_n 0, 1) := by decide +kernel
theorem dX10_bestRule_66 : decode cX10_bestRule 66 = .ok (.getfield 63, 3) := by decide +kernel
theorem dX10_bestRule_69 : decode cX10_bestRule 69 = .ok (.invokevirtual 308, 3) := by decide +kernel
theorem dX10_bestRule_72 : decode cX10_bestRule 72 = .ok (.i2l, 1) := by decide +kernel
theorem dX10_bestRule_73 : decode cX10_bestRule 73 = .ok (.ladd, 1) := by decide +kernel
theorem dX10_bestRule_74 : decode cX10_bestRule 74 = .ok (.lstore 6, 2) := by decide +kernel
theorem dX10_bestRule_76 : decode cX10_bestRule 76 = .ok (.iinc 8 1, 3) := by decide +kernel
theorem dX10_bestRule_79 : decode cX10_bestRule 79 = .ok (.goto (-33), 3) := by decide +kernel
theorem dX10_bestRule_82 : decode cX10_bestRule 82 = .ok (.iload_n 2, 1) := by decide +kernel
theorem dX10_bestRule_83 : decode cX10_bestRule 83 = .ok (.iconst (-1), 1) := by decide +kernel
theorem dX10_bestRule_84 : decode cX10_bestRule 84 = .ok (.if_icmp .eq 10, 3) := by decide +kernel
theorem dX10_bestRule_87 : decode cX10_bestRule 87 = .ok (.lload 6, 2) := by decide +kernel
theorem dX10_bestRule_89 : decode cX10_bestRule 89 = .ok (.lload_n 3, 1) := by decide +kernel
theorem dX10_bestRule_90 : decode cX10_bestRule 90 = .ok (.lcmp, 1) := by decide +kernel
theorem dX10_bestRule_91 : decode cX10_bestRule 91 = .ok (.ifCond .le 9, 3) := by decide +kernel
theorem dX10_bestRule_94 : decode cX10_bestRule 94 = .ok (.iload 5, 2) := by decide +kernel
theorem dX10_bestRule_96 : decode cX10_bestRule 96 = .ok (.istore_n 2, 1) := by decide +kernel
theorem dX10_bestRule_97 : decode cX10_bestRule 97 = .ok (.lload 6, 2) := by decide +kernel
theorem dX10_bestRule_99 : decode cX10_bestRule 99 = .ok (.lstore_n 3, 1) := by decide +kernel
theorem dX10_bestRule_100 : decode cX10_bestRule 100 = .ok (.iinc 5 1, 3) := by decide +kernel
theorem dX10_bestRule_103 : decode cX10_bestRule 103 = .ok (.goto (-70), 3) := by decide +kernel
theorem dX10_bestRule_106 : decode cX10_bestRule 106 = .ok (.iload_n 2, 1) := by decide +kernel
theorem dX10_bestRule_107 : decode cX10_bestRule 107 = .ok (.ireturn, 1) := by decide +kernel
theorem dX10_brought_0 : decode cX10_brought 0 = .ok (.aload_n 0, 1) := by decide +kernel
theorem dX10_brought_1 : decode cX10_brought 1 = .ok (.iload_n 1, 1) := by decide +kernel
theorem dX10_brought_2 : decode cX10_brought 2 = .ok (.invokevirtual 321, 3) := by decide +kernel
theorem dX10_brought_5 : decode cX10_brought 5 = .ok (.ifCond .ne 5, 3) := by decide +kernel
theorem dX10_brought_8 : decode cX10_brought 8 = .ok (.iconst (-1), 1) := by decide +kernel
theorem dX10_brought_9 : decode cX10_brought 9 = .ok (.ireturn, 1) := by decide +kernel
theorem dX10_brought_10 : decode cX10_brought 10 = .ok (.aload_n 0, 1) := by decide +kernel
theorem dX10_brought_11 : decode cX10_brought 11 = .ok (.iload_n 1, 1) := by decide +kernel
theorem dX10_brought_12 : decode cX10_brought 12 = .ok (.invokevirtual 324, 3) := by decide +kernel
theorem dX10_brought_15 : decode cX10_brought 15 = .ok (.iconst 0, 1) := by decide +kernel
theorem dX10_brought_16 : decode cX10_brought 16 = .ok (.istore_n 2, 1) := by decide +kernel
theorem dX10_brought_17 : decode cX10_brought 17 = .ok (.iconst 0, 1) := by decide +kernel
theorem dX10_brought_18 : decode cX10_brought 18 = .ok (.istore_n 3, 1) := by decide +kernel
theorem dX10_brought_19 : decode cX10_brought 19 = .ok (.iload_n 3, 1) := by decide +kernel
theorem dX10_brought_20 : decode cX10_brought 20 = .ok (.bipush 27, 2) := by decide +kernel
theorem dX10_brought_22 : decode cX10_brought 22 = .ok (.if_icmp .ge 22, 3) := by decide +kernel
theorem dX10_brought_25 : decode cX10_brought 25 = .ok (.aload_n 0, 1) := by decide +kernel
theorem dX10_brought_26 : decode cX10_brought 26 = .ok (.getfield 74, 3) := by decide +kernel
theorem dX10_brought_29 : decode cX10_brought 29 = .ok (.iload_n 3, 1) := by decide +kernel
theorem dX10_brought_30 : decode cX10_brought 30 = .ok (.iaload, 1) := by decide +kernel
theorem dX10_brought_31 : decode cX10_brought 31 = .ok (.iconst (-1), 1) := by decide +kernel
theorem dX10_brought_32 : decode cX10_brought 32 = .ok (.if_icmp .eq 6, 3) := by decide +kernel
theorem dX10_brought_35 : decode cX10_brought 35 = .ok (.iinc 2 1, 3) := by decide +kernel
theorem dX10_brought_38 : decode cX10_brought 38 = .ok (.iinc 3 1, 3) := by decide +kernel
theorem dX10_brought_41 : decode cX10_brought 41 = .ok (.goto (-22), 3) := by decide +kernel
theorem dX10_brought_44 : decode cX10_brought 44 = .ok (.iload_n 2, 1) := by decide +kernel
theorem dX10_brought_45 : decode cX10_brought 45 = .ok (.ireturn, 1) := by decide +kernel
theorem dX10_rowFor_0 : decode cX10_rowFor 0 = .ok (.aload_n 0, 1) := by decide +kernel
theorem dX10_rowFor_1 : decode cX10_rowFor 1 = .ok (.iload_n 1, 1) := by decide +kernel
theorem dX10_rowFor_2 : decode cX10_rowFor 2 = .ok (.invokevirtual 321, 3) := by decide +kernel
theorem dX10_rowFor_5 : decode cX10_rowFor 5 = .ok (.ifCond .eq 17, 3) := by decide +kernel
theorem dX10_rowFor_8 : decode cX10_rowFor 8 = .ok (.aload_n 0, 1) := by decide +kernel
theorem dX10_rowFor_9 : decode cX10_rowFor 9 = .ok (.getfield 34, 3) := by decide +kernel
theorem dX10_rowFor_12 : decode cX10_rowFor 12 = .ok (.getfield 81, 3) := by decide +kernel
theorem dX10_rowFor_15 : decode cX10_rowFor 15 = .ok (.iload_n 2, 1) := by decide +kernel
theorem dX10_rowFor_16 : decode cX10_rowFor 16 = .ok (.invokevirtual 119, 3) := by decide +kernel
theorem dX10_rowFor_19 : decode cX10_rowFor 19 = .ok (.ifCond .ne 5, 3) := by decide +kernel
theorem dX10_rowFor_22 : decode cX10_rowFor 22 = .ok (.iconst (-1), 1) := by decide +kernel
theorem dX10_rowFor_23 : decode cX10_rowFor 23 = .ok (.ireturn, 1) := by decide +kernel
theorem dX10_rowFor_24 : decode cX10_rowFor 24 = .ok (.aload_n 0, 1) := by decide +kernel
theorem dX10_rowFor_25 : decode cX10_rowFor 25 = .ok (.iload_n 1, 1) := by decide +kernel
theorem dX10_rowFor_26 : decode cX10_rowFor 26 = .ok (.invokevirtual 324, 3) := by decide +kernel
theorem dX10_rowFor_29 : decode cX10_rowFor 29 = .ok (.aload_n 0, 1) := by decide +kernel
theorem dX10_rowFor_30 : decode cX10_rowFor 30 = .ok (.getfield 74, 3) := by decide +kernel
theorem dX10_rowFor_33 : decode cX10_rowFor 33 = .ok (.iload_n 2, 1) := by decide +kernel
theorem dX10_rowFor_34 : decode cX10_rowFor 34 = .ok (.iaload, 1) := by decide +kernel
theorem dX10_rowFor_35 : decode cX10_rowFor 35 = .ok (.ireturn, 1) := by decide +kernel
theorem dX10_bestRow_0 : decode cX10_bestRow 0 = .ok (.aload_n 0, 1) := by decide +kernel
theorem dX10_bestRow_1 : decode cX10_bestRow 1 = .ok (.getfield 34, 3) := by decide +kernel
theorem dX10_bestRow_4 : decode cX10_bestRow 4 = .ok (.getfield 81, 3) := by decide +kernel
theorem dX10_bestRow_7 : decode cX10_bestRow 7 = .ok (.astore_n 3, 1) := by decide +kernel
theorem dX10_bestRow_8 : decode cX10_bestRow 8 = .ok (.aload_n 0, 1) := by decide +kernel
theorem dX10_bestRow_9 : decode cX10_bestRow 9 = .ok (.iload_n 1, 1) := by decide +kernel
theorem dX10_bestRow_10 : decode cX10_bestRow 10 = .ok (.invokevirtual 321, 3) := by decide +kernel
theorem dX10_bestRow_13 : decode cX10_bestRow 13 = .ok (.ifCond .eq 11, 3) := by decide +kernel
theorem dX10_bestRow_16 : decode cX10_bestRow 16 = .ok (.aload_n 3, 1) := by decide +kernel
theorem dX10_bestRow_17 : decode cX10_bestRow 17 = .ok (.iload_n 2, 1) := by decide +kernel
theorem dX10_bestRow_18 : decode cX10_bestRow 18 = .ok (.invokevirtual 116, 3) := by decide +kernel
theorem dX10_bestRow_21 : decode cX10_bestRow 21 = .ok (.ifCond .ne 5, 3) := by decide +kernel
theorem dX10_bestRow_24 : decode cX10_bestRow 24 = .ok (.iconst (-1), 1) := by decide +kernel
theorem dX10_bestRow_25 : decode cX10_bestRow 25 = .ok (.ireturn, 1) := by decide +kernel
theorem dX10_bestRow_26 : decode cX10_bestRow 26 = .ok (.aload_n 0, 1) := by decide +kernel
theorem dX10_bestRow_27 : decode cX10_bestRow 27 = .ok (.iload_n 1, 1) := by decide +kernel
theorem dX10_bestRow_28 : decode cX10_bestRow 28 = .ok (.invokevirtual 327, 3) := by decide +kernel
theorem dX10_bestRow_31 : decode cX10_bestRow 31 = .ok (.aload_n 0, 1) := by decide +kernel
theorem dX10_bestRow_32 : decode cX10_bestRow 32 = .ok (.iload_n 1, 1) := by decide +kernel
theorem dX10_bestRow_33 : decode cX10_bestRow 33 = .ok (.invokevirtual 330, 3) := by decide +kernel
theorem dX10_bestRow_36 : decode cX10_bestRow 36 = .ok (.istore 4, 2) := by decide +kernel
theorem dX10_bestRow_38 : decode cX10_bestRow 38 = .ok (.iconst (-1), 1) := by decide +kernel
theorem dX10_bestRow_39 : decode cX10_bestRow 39 = .ok (.istore 5, 2) := by decide +kernel
theorem dX10_bestRow_41 : decode cX10_bestRow 41 = .ok (.lconst 0, 1) := by decide +kernel
theorem dX10_bestRow_42 : decode cX10_bestRow 42 = .ok (.lstore 6, 2) := by decide +kernel
theorem dX10_bestRow_44 : decode cX10_bestRow 44 = .ok (.iconst 0, 1) := by decide +kernel
theorem dX10_bestRow_45 : decode cX10_bestRow 45 = .ok (.istore 8, 2) := by decide +kernel
theorem dX10_bestRow_47 : decode cX10_bestRow 47 = .ok (.iload 8, 2) := by decide +kernel
theorem dX10_bestRow_49 : decode cX10_bestRow 49 = .ok (.iload 4, 2) := by decide +kernel
theorem dX10_bestRow_51 : decode cX10_bestRow 51 = .ok (.if_icmp .ge 50, 3) := by decide +kernel
theorem dX10_bestRow_54 : decode cX10_bestRow 54 = .ok (.aload_n 0, 1) := by decide +kernel
theorem dX10_bestRow_55 : decode cX10_bestRow 55 = .ok (.iload_n 1, 1) := by decide +kernel
theorem dX10_bestRow_56 : decode cX10_bestRow 56 = .ok (.iload 8, 2) := by decide +kernel
theorem dX10_bestRow_58 : decode cX10_bestRow 58 = .ok (.invokevirtual 333, 3) := by decide +kernel
theorem dX10_bestRow_61 : decode cX10_bestRow 61 = .ok (.aload_n 0, 1) := by decide +kernel
theorem dX10_bestRow_62 : decode cX10_bestRow 62 = .ok (.iconst 0, 1) := by decide +kernel
theorem dX10_bestRow_63 : decode cX10_bestRow 63 = .ok (.iload_n 2, 1) := by decide +kernel
theorem dX10_bestRow_64 : decode cX10_bestRow 64 = .ok (.aload_n 3, 1) := by decide +kernel
theorem dX10_bestRow_65 : decode cX10_bestRow 65 = .ok (.invokevirtual 336, 3) := by decide +kernel
theorem dX10_bestRow_68 : decode cX10_bestRow 68 = .ok (.invokevirtual 273, 3) := by decide +kernel
theorem dX10_bestRow_71 : decode cX10_bestRow 71 = .ok (.lstore 9, 2) := by decide +kernel
theorem dX10_bestRow_73 : decode cX10_bestRow 73 = .ok (.iload 5, 2) := by decide +kernel
theorem dX10_bestRow_75 : decode cX10_bestRow 75 = .ok (.iconst (-1), 1) := by decide +kernel
theorem dX10_bestRow_76 : decode cX10_bestRow 76 = .ok (.if_icmp .eq 11, 3) := by decide +kernel
theorem dX10_bestRow_79 : decode cX10_bestRow 79 = .ok (.lload 9, 2) := by decide +kernel
theorem dX10_bestRow_81 : decode cX10_bestRow 81 = .ok (.lload 6, 2) := by decide +kernel
theorem dX10_bestRow_83 : decode cX10_bestRow 83 = .ok (.lcmp, 1) := by decide +kernel
theorem dX10_bestRow_84 : decode cX10_bestRow 84 = .ok (.ifCond .le 11, 3) := by decide +kernel
theorem dX10_bestRow_87 : decode cX10_bestRow 87 = .ok (.iload 8, 2) := by decide +kernel
theorem dX10_bestRow_89 : decode cX10_bestRow 89 = .ok (.istore 5, 2) := by decide +kernel
theorem dX10_bestRow_91 : decode cX10_bestRow 91 = .ok (.lload 9, 2) := by decide +kernel
theorem dX10_bestRow_93 : decode cX10_bestRow 93 = .ok (.lstore 6, 2) := by decide +kernel
theorem dX10_bestRow_95 : decode cX10_bestRow 95 = .ok (.iinc 8 1, 3) := by decide +kernel
theorem dX10_bestRow_98 : decode cX10_bestRow 98 = .ok (.goto (-51), 3) := by decide +kernel
theorem dX10_bestRow_101 : decode cX10_bestRow 101 = .ok (.aload_n 0, 1) := by decide +kernel
theorem dX10_bestRow_102 : decode cX10_bestRow 102 = .ok (.iload_n 1, 1) := by decide +kernel
theorem dX10_bestRow_103 : decode cX10_bestRow 103 = .ok (.invokevirtual 339, 3) := by decide +kernel
theorem dX10_bestRow_106 : decode cX10_bestRow 106 = .ok (.iload 5, 2) := by decide +kernel
theorem dX10_bestRow_108 : decode cX10_bestRow 108 = .ok (.ireturn, 1) := by decide +kernel
theorem dX10_row_0 : decode cX10_row 0 = .ok (.aload_n 0, 1) := by decide +kernel
theorem dX10_row_1 : decode cX10_row 1 = .ok (.getfield 34, 3) := by decide +kernel
theorem dX10_row_4 : decode cX10_row 4 = .ok (.iload_n 1, 1) := by decide +kernel
theorem dX10_row_5 : decode cX10_row 5 = .ok (.iload_n 2, 1) := by decide +kernel
theorem dX10_row_6 : decode cX10_row 6 = .ok (.iload_n 3, 1) := by decide +kernel
theorem dX10_row_7 : decode cX10_row 7 = .ok (.invokevirtual 342, 3) := by decide +kernel
theorem dX10_row_10 : decode cX10_row 10 = .ok (.ireturn, 1) := by decide +kernel
theorem dX10_clear_0 : decode cX10_clear 0 = .ok (.aload_n 0, 1) := by decide +kernel
theorem dX10_clear_1 : decode cX10_clear 1 = .ok (.getfield 34, 3) := by decide +kernel
theorem dX10_clear_4 : decode cX10_clear 4 = .ok (.iconst 0, 1) := by decide +kernel
theorem dX10_clear_5 : decode cX10_clear 5 = .ok (.putfield 345, 3) := by decide +kernel
theorem dX10_clear_8 : decode cX10_clear 8 = .ok (.iconst 1, 1) := by decide +kernel
theorem dX10_clear_9 : decode cX10_clear 9 = .ok (.ireturn, 1) := by decide +kernel
theorem dX10_judged_0 : decode cX10_judged 0 = .ok (.iload_n 1, 1) := by decide +kernel
theorem dX10_judged_1 : decode cX10_judged 1 = .ok (.ifCond .lt 25, 3) := by decide +kernel
theorem dX10_judged_4 : decode cX10_judged 4 = .ok (.iload_n 1, 1) := by decide +kernel
theorem dX10_judged_5 : decode cX10_judged 5 = .ok (.iconst 5, 1) := by decide +kernel
theorem dX10_judged_6 : decode cX10_judged 6 = .ok (.if_icmp .gt 20, 3) := by decide +kernel
theorem dX10_judged_9 : decode cX10_judged 9 = .ok (.aload_n 0, 1) := by decide +kernel
theorem dX10_judged_10 : decode cX10_judged 10 = .ok (.getfield 34, 3) := by decide +kernel
theorem dX10_judged_13 : decode cX10_judged 13 = .ok (.getfield 81, 3) := by decide +kernel
theorem dX10_judged_16 : decode cX10_judged 16 = .ok (.getfield 318, 3) := by decide +kernel
theorem dX10_judged_19 : decode cX10_judged 19 = .ok (.ifCond .le 7, 3) := by decide +kernel
theorem dX10_judged_22 : decode cX10_judged 22 = .ok (.iconst 1, 1) := by decide +kernel
theorem dX10_judged_23 : decode cX10_judged 23 = .ok (.goto 4, 3) := by decide +kernel
theorem dX10_judged_26 : decode cX10_judged 26 = .ok (.iconst 0, 1) := by decide +kernel
theorem dX10_judged_27 : decode cX10_judged 27 = .ok (.invokestatic 122, 3) := by decide +kernel
theorem dX10_judged_30 : decode cX10_judged 30 = .ok (.aload_n 0, 1) := by decide +kernel
theorem dX10_judged_31 : decode cX10_judged 31 = .ok (.getfield 47, 3) := by decide +kernel
theorem dX10_judged_34 : decode cX10_judged 34 = .ok (.iconst 0, 1) := by decide +kernel
theorem dX10_judged_35 : decode cX10_judged 35 = .ok (.invokevirtual 148, 3) := by decide +kernel
theorem dX10_judged_38 : decode cX10_judged 38 = .ok (.aload_n 0, 1) := by decide +kernel
theorem dX10_judged_39 : decode cX10_judged 39 = .ok (.getfield 70, 3) := by decide +kernel
theorem dX10_judged_42 : decode cX10_judged 42 = .ok (.invokevirtual 348, 3) := by decide +kernel
theorem dX10_judged_45 : decode cX10_judged 45 = .ok (.iload_n 1, 1) := by decide +kernel
theorem dX10_judged_46 : decode cX10_judged 46 = .ok (.tableswitch 82 0 3 #[30, 55, 64, 73], 30) := by decide +kernel
theorem dX10_judged_76 : decode cX10_judged 76 = .ok (.aload_n 0, 1) := by decide +kernel
theorem dX10_judged_77 : decode cX10_judged 77 = .ok (.getfield 70, 3) := by decide +kernel
theorem dX10_judged_80 : decode cX10_judged 80 = .ok (.getfield 351, 3) := by decide +kernel
theorem dX10_judged_83 : decode cX10_judged 83 = .ok (.ifCond .ne 9, 3) := by decide +kernel
theorem dX10_judged_86 : decode cX10_judged 86 = .ok (.ldc2_w 354, 3) := by decide +kernel
theorem dX10_judged_89 : decode cX10_judged 89 = .ok (.goto 11, 3) := by decide +kernel
theorem dX10_judged_92 : decode cX10_judged 92 = .ok (.aload_n 0, 1) := by decide +kernel
theorem dX10_judged_93 : decode cX10_judged 93 = .ok (.getfield 70, 3) := by decide +kernel
theorem dX10_judged_96 : decode cX10_judged 96 = .ok (.getfield 356, 3) := by decide +kernel
theorem dX10_judged_99 : decode cX10_judged 99 = .ok (.i2l, 1) := by decide +kernel
theorem dX10_judged_100 : decode cX10_judged 100 = .ok (.lreturn, 1) := by decide +kernel
theorem dX10_judged_101 : decode cX10_judged 101 = .ok (.aload_n 0, 1) := by decide +kernel
theorem dX10_judged_102 : decode cX10_judged 102 = .ok (.getfield 70, 3) := by decide +kernel
theorem dX10_judged_105 : decode cX10_judged 105 = .ok (.getfield 351, 3) := by decide +kernel
theorem dX10_judged_108 : decode cX10_judged 108 = .ok (.i2l, 1) := by decide +kernel
theorem dX10_judged_109 : decode cX10_judged 109 = .ok (.lreturn, 1) := by decide +kernel
theorem dX10_judged_110 : decode cX10_judged 110 = .ok (.aload_n 0, 1) := by decide +kernel
theorem dX10_judged_111 : decode cX10_judged 111 = .ok (.getfield 70, 3) := by decide +kernel
theorem dX10_judged_114 : decode cX10_judged 114 = .ok (.invokevirtual 359, 3) := by decide +kernel
theorem dX10_judged_117 : decode cX10_judged 117 = .ok (.i2l, 1) := by decide +kernel
theorem dX10_judged_118 : decode cX10_judged 118 = .ok (.lreturn, 1) := by decide +kernel
theorem dX10_judged_119 : decode cX10_judged 119 = .ok (.aload_n 0, 1) := by decide +kernel
theorem dX10_judged_120 : decode cX10_judged 120 = .ok (.getfield 70, 3) := by decide +kernel
theorem dX10_judged_123 : decode cX10_judged 123 = .ok (.invokevirtual 362, 3) := by decide +kernel
theorem dX10_judged_126 : decode cX10_judged 126 = .ok (.i2l, 1) := by decide +kernel
theorem dX10_judged_127 : decode cX10_judged 127 = .ok (.lreturn, 1) := by decide +kernel
theorem dX10_judged_128 : decode cX10_judged 128 = .ok (.aload_n 0, 1) := by decide +kernel
theorem dX10_judged_129 : decode cX10_judged 129 = .ok (.getfield 70, 3) := by decide +kernel
theorem dX10_judged_132 : decode cX10_judged 132 = .ok (.invokevirtual 365, 3) := by decide +kernel
theorem dX10_judged_135 : decode cX10_judged 135 = .ok (.aload_n 0, 1) := by decide +kernel
theorem dX10_judged_136 : decode cX10_judged 136 = .ok (.getfield 70, 3) := by decide +kernel
theorem dX10_judged_139 : decode cX10_judged 139 = .ok (.invokevirtual 368, 3) := by decide +kernel
theorem dX10_judged_142 : decode cX10_judged 142 = .ok (.iload_n 1, 1) := by decide +kernel
theorem dX10_judged_143 : decode cX10_judged 143 = .ok (.iconst 4, 1) := by decide +kernel
theorem dX10_judged_144 : decode cX10_judged 144 = .ok (.isub, 1) := by decide +kernel
theorem dX10_judged_145 : decode cX10_judged 145 = .ok (.invokestatic 168, 3) := by decide +kernel
theorem dX10_judged_148 : decode cX10_judged 148 = .ok (.lreturn, 1) := by decide +kernel
theorem dX10_rowFares_0 : decode cX10_rowFares 0 = .ok (.aload_n 0, 1) := by decide +kernel
theorem dX10_rowFares_1 : decode cX10_rowFares 1 = .ok (.getfield 47, 3) := by decide +kernel
theorem dX10_rowFares_4 : decode cX10_rowFares 4 = .ok (.iconst 0, 1) := by decide +kernel
theorem dX10_rowFares_5 : decode cX10_rowFares 5 = .ok (.invokevirtual 148, 3) := by decide +kernel
theorem dX10_rowFares_8 : decode cX10_rowFares 8 = .ok (.aload_n 0, 1) := by decide +kernel
theorem dX10_rowFares_9 : decode cX10_rowFares 9 = .ok (.getfield 70, 3) := by decide +kernel
theorem dX10_rowFares_12 : decode cX10_rowFares 12 = .ok (.invokevirtual 348, 3) := by decide +kernel
theorem dX10_rowFares_15 : decode cX10_rowFares 15 = .ok (.iload_n 1, 1) := by decide +kernel
theorem dX10_rowFares_16 : decode cX10_rowFares 16 = .ok (.ifCond .lt 31, 3) := by decide +kernel
theorem dX10_rowFares_19 : decode cX10_rowFares 19 = .ok (.iload_n 1, 1) := by decide +kernel
theorem dX10_rowFares_20 : decode cX10_rowFares 20 = .ok (.aload_n 0, 1) := by decide +kernel
theorem dX10_rowFares_21 : decode cX10_rowFares 21 = .ok (.getfield 70, 3) := by decide +kernel
theorem dX10_rowFares_24 : decode cX10_rowFares 24 = .ok (.getfield 356, 3) := by decide +kernel
theorem dX10_rowFares_27 : decode cX10_rowFares 27 = .ok (.if_icmp .ge 20, 3) := by decide +kernel
theorem dX10_rowFares_30 : decode cX10_rowFares 30 = .ok (.aload_n 0, 1) := by decide +kernel
theorem dX10_rowFares_31 : decode cX10_rowFares 31 = .ok (.getfield 34, 3) := by decide +kernel
theorem dX10_rowFares_34 : decode cX10_rowFares 34 = .ok (.getfield 371, 3) := by decide +kernel
theorem dX10_rowFares_37 : decode cX10_rowFares 37 = .ok (.iload_n 1, 1) := by decide +kernel
theorem dX10_rowFares_38 : decode cX10_rowFares 38 = .ok (.iaload, 1) := by decide +kernel
theorem dX10_rowFares_39 : decode cX10_rowFares 39 = .ok (.iconst (-1), 1) := by decide +kernel
theorem dX10_rowFares_40 : decode cX10_rowFares 40 = .ok (.if_icmp .eq 7, 3) := by decide +kernel
theorem dX10_rowFares_43 : decode cX10_rowFares 43 = .ok (.iconst 1, 1) := by decide +kernel
theorem dX10_rowFares_44 : decode cX10_rowFares 44 = .ok (.goto 4, 3) := by decide +kernel
theorem dX10_rowFares_47 : decode cX10_rowFares 47 = .ok (.iconst 0, 1) := by decide +kernel
theorem dX10_rowFares_48 : decode cX10_rowFares 48 = .ok (.invokestatic 122, 3) := by decide +kernel
theorem dX10_rowFares_51 : decode cX10_rowFares 51 = .ok (.iload_n 2, 1) := by decide +kernel
theorem dX10_rowFares_52 : decode cX10_rowFares 52 = .ok (.ifCond .eq 14, 3) := by decide +kernel
theorem dX10_rowFares_55 : decode cX10_rowFares 55 = .ok (.aload_n 0, 1) := by decide +kernel
theorem dX10_rowFares_56 : decode cX10_rowFares 56 = .ok (.getfield 70, 3) := by decide +kernel
theorem dX10_rowFares_59 : decode cX10_rowFares 59 = .ok (.iload_n 1, 1) := by decide +kernel
theorem dX10_rowFares_60 : decode cX10_rowFares 60 = .ok (.invokevirtual 374, 3) := by decide +kernel
theorem dX10_rowFares_63 : decode cX10_rowFares 63 = .ok (.goto 11, 3) := by decide +kernel
theorem dX10_rowFares_66 : decode cX10_rowFares 66 = .ok (.aload_n 0, 1) := by decide +kernel
theorem dX10_rowFares_67 : decode cX10_rowFares 67 = .ok (.getfield 70, 3) := by decide +kernel
theorem dX10_rowFares_70 : decode cX10_rowFares 70 = .ok (.iload_n 1, 1) := by decide +kernel
theorem dX10_rowFares_71 : decode cX10_rowFares 71 = .ok (.invokevirtual 377, 3) := by decide +kernel
theorem dX10_rowFares_74 : decode cX10_rowFares 74 = .ok (.ireturn, 1) := by decide +kernel
theorem dX10_when_0 : decode cX10_when 0 = .ok (.aload_n 0, 1) := by decide +kernel
theorem dX10_when_1 : decode cX10_when 1 = .ok (.getfield 34, 3) := by decide +kernel
theorem dX10_when_4 : decode cX10_when 4 = .ok (.getfield 81, 3) := by decide +kernel
theorem dX10_when_7 : decode cX10_when 7 = .ok (.iload_n 1, 1) := by decide +kernel
theorem dX10_when_8 : decode cX10_when 8 = .ok (.invokevirtual 116, 3) := by decide +kernel
theorem dX10_when_11 : decode cX10_when 11 = .ok (.ifCond .eq 16, 3) := by decide +kernel
theorem dX10_when_14 : decode cX10_when 14 = .ok (.iload_n 2, 1) := by decide +kernel
theorem dX10_when_15 : decode cX10_when 15 = .ok (.ifCond .lt 12, 3) := by decide +kernel
theorem dX10_when_18 : decode cX10_when 18 = .ok (.iload_n 2, 1) := by decide +kernel
theorem dX10_when_19 : decode cX10_when 19 = .ok (.iconst 2, 1) := by decide +kernel
theorem dX10_when_20 : decode cX10_when 20 = .ok (.if_icmp .gt 7, 3) := by decide +kernel
theorem dX10_when_23 : decode cX10_when 23 = .ok (.iconst 1, 1) := by decide +kernel
theorem dX10_when_24 : decode cX10_when 24 = .ok (.goto 4, 3) := by decide +kernel
theorem dX10_when_27 : decode cX10_when 27 = .ok (.iconst 0, 1) := by decide +kernel
theorem dX10_when_28 : decode cX10_when 28 = .ok (.invokestatic 122, 3) := by decide +kernel
theorem dX10_when_31 : decode cX10_when 31 = .ok (.aload_n 0, 1) := by decide +kernel
theorem dX10_when_32 : decode cX10_when 32 = .ok (.getfield 47, 3) := by decide +kernel
theorem dX10_when_35 : decode cX10_when 35 = .ok (.iconst 0, 1) := by decide +kernel
theorem dX10_when_36 : decode cX10_when 36 = .ok (.invokevirtual 148, 3) := by decide +kernel
theorem dX10_when_39 : decode cX10_when 39 = .ok (.iconst (-1), 1) := by decide +kernel
theorem dX10_when_40 : decode cX10_when 40 = .ok (.istore_n 3, 1) := by decide +kernel
theorem dX10_when_41 : decode cX10_when 41 = .ok (.lconst 0, 1) := by decide +kernel
theorem dX10_when_42 : decode cX10_when 42 = .ok (.lstore 4, 2) := by decide +kernel
theorem dX10_when_44 : decode cX10_when 44 = .ok (.iconst 0, 1) := by decide +kernel
theorem dX10_when_45 : decode cX10_when 45 = .ok (.istore 6, 2) := by decide +kernel
theorem dX10_when_47 : decode cX10_when 47 = .ok (.iload 6, 2) := by decide +kernel
theorem dX10_when_49 : decode cX10_when 49 = .ok (.bipush 6, 2) := by decide +kernel
theorem dX10_when_51 : decode cX10_when 51 = .ok (.if_icmp .gt 66, 3) := by decide +kernel
theorem dX10_when_54 : decode cX10_when 54 = .ok (.aload_n 0, 1) := by decide +kernel
theorem dX10_when_55 : decode cX10_when 55 = .ok (.iload 6, 2) := by decide +kernel
theorem dX10_when_57 : decode cX10_when 57 = .ok (.invokevirtual 184, 3) := by decide +kernel
theorem dX10_when_60 : decode cX10_when 60 = .ok (.ifCond .eq 51, 3) := by decide +kernel
theorem dX10_when_63 : decode cX10_when 63 = .ok (.aload_n 0, 1) := by decide +kernel
theorem dX10_when_64 : decode cX10_when 64 = .ok (.getfield 34, 3) := by decide +kernel
theorem dX10_when_67 : decode cX10_when 67 = .ok (.getfield 81, 3) := by decide +kernel
theorem dX10_when_70 : decode cX10_when 70 = .ok (.iload 6, 2) := by decide +kernel
theorem dX10_when_72 : decode cX10_when 72 = .ok (.iload_n 1, 1) := by decide +kernel
theorem dX10_when_73 : decode cX10_when 73 = .ok (.invokevirtual 378, 3) := by decide +kernel
theorem dX10_when_76 : decode cX10_when 76 = .ok (.ifCond .le 35, 3) := by decide +kernel
theorem dX10_when_79 : decode cX10_when 79 = .ok (.aload_n 0, 1) := by decide +kernel
theorem dX10_when_80 : decode cX10_when 80 = .ok (.getfield 56, 3) := by decide +kernel
theorem dX10_when_83 : decode cX10_when 83 = .ok (.iload 6, 2) := by decide +kernel
theorem dX10_when_85 : decode cX10_when 85 = .ok (.iload_n 1, 1) := by decide +kernel
theorem dX10_when_86 : decode cX10_when 86 = .ok (.invokevirtual 255, 3) := by decide +kernel
theorem dX10_when_89 : decode cX10_when 89 = .ok (.lstore 7, 2) := by decide +kernel
theorem dX10_when_91 : decode cX10_when 91 = .ok (.iload_n 3, 1) := by decide +kernel
theorem dX10_when_92 : decode cX10_when 92 = .ok (.iconst (-1), 1) := by decide +kernel
theorem dX10_when_93 : decode cX10_when 93 = .ok (.if_icmp .eq 11, 3) := by decide +kernel
theorem dX10_when_96 : decode cX10_when 96 = .ok (.lload 7, 2) := by decide +kernel
theorem dX10_when_98 : decode cX10_when 98 = .ok (.lload 4, 2) := by decide +kernel
theorem dX10_when_100 : decode cX10_when 100 = .ok (.lcmp, 1) := by decide +kernel
theorem dX10_when_101 : decode cX10_when 101 = .ok (.ifCond .le 10, 3) := by decide +kernel
theorem dX10_when_104 : decode cX10_when 104 = .ok (.iload 6, 2) := by decide +kernel
theorem dX10_when_106 : decode cX10_when 106 = .ok (.istore_n 3, 1) := by decide +kernel
theorem dX10_when_107 : decode cX10_when 107 = .ok (.lload 7, 2) := by decide +kernel
theorem dX10_when_109 : decode cX10_when 109 = .ok (.lstore 4, 2) := by decide +kernel
theorem dX10_when_111 : decode cX10_when 111 = .ok (.iinc 6 1, 3) := by decide +kernel
theorem dX10_when_114 : decode cX10_when 114 = .ok (.goto (-67), 3) := by decide +kernel
theorem dX10_when_117 : decode cX10_when 117 = .ok (.iload_n 3, 1) := by decide +kernel
theorem dX10_when_118 : decode cX10_when 118 = .ok (.iconst (-1), 1) := by decide +kernel
theorem dX10_when_119 : decode cX10_when 119 = .ok (.if_icmp .eq 7, 3) := by decide +kernel
theorem dX10_when_122 : decode cX10_when 122 = .ok (.iconst 1, 1) := by decide +kernel
theorem dX10_when_123 : decode cX10_when 123 = .ok (.goto 4, 3) := by decide +kernel
theorem dX10_when_126 : decode cX10_when 126 = .ok (.iconst 0, 1) := by decide +kernel
theorem dX10_when_127 : decode cX10_when 127 = .ok (.invokestatic 122, 3) := by decide +kernel
theorem dX10_when_130 : decode cX10_when 130 = .ok (.iload_n 2, 1) := by decide +kernel
theorem dX10_when_131 : decode cX10_when 131 = .ok (.ifCond .ne 8, 3) := by decide +kernel
theorem dX10_when_134 : decode cX10_when 134 = .ok (.iload_n 3, 1) := by decide +kernel
theorem dX10_when_135 : decode cX10_when 135 = .ok (.i2l, 1) := by decide +kernel
theorem dX10_when_136 : decode cX10_when 136 = .ok (.goto 14, 3) := by decide +kernel
theorem dX10_when_139 : decode cX10_when 139 = .ok (.lload 4, 2) := by decide +kernel
theorem dX10_when_141 : decode cX10_when 141 = .ok (.ldc2_w 259, 3) := by decide +kernel
theorem dX10_when_144 : decode cX10_when 144 = .ok (.iload_n 2, 1) := by decide +kernel
theorem dX10_when_145 : decode cX10_when 145 = .ok (.iconst 1, 1) := by decide +kernel
theorem dX10_when_146 : decode cX10_when 146 = .ok (.isub, 1) := by decide +kernel
theorem dX10_when_147 : decode cX10_when 147 = .ok (.invokestatic 168, 3) := by decide +kernel
theorem dX10_when_150 : decode cX10_when 150 = .ok (.lreturn, 1) := by decide +kernel
theorem dX10_mark_0 : decode cX10_mark 0 = .ok (.iload_n 1, 1) := by decide +kernel
theorem dX10_mark_1 : decode cX10_mark 1 = .ok (.ifCond .lt 24, 3) := by decide +kernel
theorem dX10_mark_4 : decode cX10_mark 4 = .ok (.iload_n 1, 1) := by decide +kernel
theorem dX10_mark_5 : decode cX10_mark 5 = .ok (.iconst 4, 1) := by decide +kernel
theorem dX10_mark_6 : decode cX10_mark 6 = .ok (.if_icmp .ge 19, 3) := by decide +kernel
theorem dX10_mark_9 : decode cX10_mark 9 = .ok (.iload_n 2, 1) := by decide +kernel
theorem dX10_mark_10 : decode cX10_mark 10 = .ok (.ifCond .eq 17, 3) := by decide +kernel
theorem dX10_mark_13 : decode cX10_mark 13 = .ok (.aload_n 0, 1) := by decide +kernel
theorem dX10_mark_14 : decode cX10_mark 14 = .ok (.getfield 38, 3) := by decide +kernel
theorem dX10_mark_17 : decode cX10_mark 17 = .ok (.iload_n 1, 1) := by decide +kernel
theorem dX10_mark_18 : decode cX10_mark 18 = .ok (.aaload, 1) := by decide +kernel
theorem dX10_mark_19 : decode cX10_mark 19 = .ok (.getfield 382, 3) := by decide +kernel
theorem dX10_mark_22 : decode cX10_mark 22 = .ok (.ifCond .ne 5, 3) := by decide +kernel
theorem dX10_mark_25 : decode cX10_mark 25 = .ok (.iconst 0, 1) := by decide +kernel
theorem dX10_mark_26 : decode cX10_mark 26 = .ok (.ireturn, 1) := by decide +kernel
theorem dX10_mark_27 : decode cX10_mark 27 = .ok (.iload_n 2, 1) := by decide +kernel
theorem dX10_mark_28 : decode cX10_mark 28 = .ok (.ifCond .eq 26, 3) := by decide +kernel
theorem dX10_mark_31 : decode cX10_mark 31 = .ok (.aload_n 0, 1) := by decide +kernel
theorem dX10_mark_32 : decode cX10_mark 32 = .ok (.getfield 34, 3) := by decide +kernel
theorem dX10_mark_35 : decode cX10_mark 35 = .ok (.aload_n 0, 1) := by decide +kernel
theorem dX10_mark_36 : decode cX10_mark 36 = .ok (.getfield 38, 3) := by decide +kernel
theorem dX10_mark_39 : decode cX10_mark 39 = .ok (.iload_n 1, 1) := by decide +kernel
theorem dX10_mark_40 : decode cX10_mark 40 = .ok (.aaload, 1) := by decide +kernel
theorem dX10_mark_41 : decode cX10_mark 41 = .ok (.invokevirtual 386, 3) := by decide +kernel
theorem dX10_mark_44 : decode cX10_mark 44 = .ok (.aload_n 0, 1) := by decide +kernel
theorem dX10_mark_45 : decode cX10_mark 45 = .ok (.getfield 47, 3) := by decide +kernel
theorem dX10_mark_48 : decode cX10_mark 48 = .ok (.invokevirtual 85, 3) := by decide +kernel
theorem dX10_mark_51 : decode cX10_mark 51 = .ok (.goto 26, 3) := by decide +kernel
theorem dX10_mark_54 : decode cX10_mark 54 = .ok (.aload_n 0, 1) := by decide +kernel
theorem dX10_mark_55 : decode cX10_mark 55 = .ok (.getfield 38, 3) := by decide +kernel
theorem dX10_mark_58 : decode cX10_mark 58 = .ok (.iload_n 1, 1) := by decide +kernel
theorem dX10_mark_59 : decode cX10_mark 59 = .ok (.aaload, 1) := by decide +kernel
theorem dX10_mark_60 : decode cX10_mark 60 = .ok (.aload_n 0, 1) := by decide +kernel
theorem dX10_mark_61 : decode cX10_mark 61 = .ok (.getfield 34, 3) := by decide +kernel
theorem dX10_mark_64 : decode cX10_mark 64 = .ok (.invokevirtual 386, 3) := by decide +kernel
theorem dX10_mark_67 : decode cX10_mark 67 = .ok (.aload_n 0, 1) := by decide +kernel
theorem dX10_mark_68 : decode cX10_mark 68 = .ok (.getfield 38, 3) := by decide +kernel
theorem dX10_mark_71 : decode cX10_mark 71 = .ok (.iload_n 1, 1) := by decide +kernel
theorem dX10_mark_72 : decode cX10_mark 72 = .ok (.aaload, 1) := by decide +kernel
theorem dX10_mark_73 : decode cX10_mark 73 = .ok (.iconst 1, 1) := by decide +kernel
theorem dX10_mark_74 : decode cX10_mark 74 = .ok (.putfield 382, 3) := by decide +kernel
theorem dX10_mark_77 : decode cX10_mark 77 = .ok (.iconst 1, 1) := by decide +kernel
theorem dX10_mark_78 : decode cX10_mark 78 = .ok (.ireturn, 1) := by decide +kernel
theorem dX10_count_0 : decode cX10_count 0 = .ok (.aload_n 0, 1) := by decide +kernel
theorem dX10_count_1 : decode cX10_count 1 = .ok (.getfield 34, 3) := by decide +kernel
theorem dX10_count_4 : decode cX10_count 4 = .ok (.getfield 81, 3) := by decide +kernel
theorem dX10_count_7 : decode cX10_count 7 = .ok (.astore_n 2, 1) := by decide +kernel
theorem dX10_count_8 : decode cX10_count 8 = .ok (.iload_n 1, 1) := by decide +kernel
theorem dX10_count_9 : decode cX10_count 9 = .ok (.tableswitch 138 0 11 #[63, 68, 73, 78, 83, 88, 93, 98, 103, 114, 125, 130], 63) := by decide +kernel
theorem dX10_count_72 : decode cX10_count 72 = .ok (.aload_n 2, 1) := by decide +kernel
theorem dX10_count_73 : decode cX10_count 73 = .ok (.getfield 261, 3) := by decide +kernel
theorem dX10_count_76 : decode cX10_count 76 = .ok (.ireturn, 1) := by decide +kernel
theorem dX10_count_77 : decode cX10_count 77 = .ok (.aload_n 2, 1) := by decide +kernel
theorem dX10_count_78 : decode cX10_count 78 = .ok (.getfield 318, 3) := by decide +kernel
theorem dX10_count_81 : decode cX10_count 81 = .ok (.ireturn, 1) := by decide +kernel
theorem dX10_count_82 : decode cX10_count 82 = .ok (.aload_n 2, 1) := by decide +kernel
theorem dX10_count_83 : decode cX10_count 83 = .ok (.getfield 200, 3) := by decide +kernel
theorem dX10_count_86 : decode cX10_count 86 = .ok (.ireturn, 1) := by decide +kernel
theorem dX10_count_87 : decode cX10_count 87 = .ok (.aload_n 2, 1) := by decide +kernel
theorem dX10_count_88 : decode cX10_count 88 = .ok (.getfield 223, 3) := by decide +kernel
theorem dX10_count_91 : decode cX10_count 91 = .ok (.ireturn, 1) := by decide +kernel
theorem dX10_count_92 : decode cX10_count 92 = .ok (.aload_n 2, 1) := by decide +kernel
theorem dX10_count_93 : decode cX10_count 93 = .ok (.getfield 389, 3) := by decide +kernel
theorem dX10_count_96 : decode cX10_count 96 = .ok (.ireturn, 1) := by decide +kernel
theorem dX10_count_97 : decode cX10_count 97 = .ok (.aload_n 2, 1) := by decide +kernel
theorem dX10_count_98 : decode cX10_count 98 = .ok (.invokevirtual 336, 3) := by decide +kernel
theorem dX10_count_101 : decode cX10_count 101 = .ok (.ireturn, 1) := by decide +kernel
theorem dX10_count_102 : decode cX10_count 102 = .ok (.aload_n 2, 1) := by decide +kernel
theorem dX10_count_103 : decode cX10_count 103 = .ok (.getfield 392, 3) := by decide +kernel
theorem dX10_count_106 : decode cX10_count 106 = .ok (.ireturn, 1) := by decide +kernel
theorem dX10_count_107 : decode cX10_count 107 = .ok (.aload_n 2, 1) := by decide +kernel
theorem dX10_count_108 : decode cX10_count 108 = .ok (.invokevirtual 395, 3) := by decide +kernel
theorem dX10_count_111 : decode cX10_count 111 = .ok (.ireturn, 1) := by decide +kernel
theorem dX10_count_112 : decode cX10_count 112 = .ok (.aload_n 0, 1) := by decide +kernel
theorem dX10_count_113 : decode cX10_count 113 = .ok (.getfield 34, 3) := by decide +kernel
theorem dX10_count_116 : decode cX10_count 116 = .ok (.getfield 264, 3) := by decide +kernel
theorem dX10_count_119 : decode cX10_count 119 = .ok (.invokestatic 398, 3) := by decide +kernel
theorem dX10_count_122 : decode cX10_count 122 = .ok (.ireturn, 1) := by decide +kernel
theorem dX10_count_123 : decode cX10_count 123 = .ok (.aload_n 0, 1) := by decide +kernel
theorem dX10_count_124 : decode cX10_count 124 = .ok (.getfield 34, 3) := by decide +kernel
theorem dX10_count_127 : decode cX10_count 127 = .ok (.getfield 276, 3) := by decide +kernel
theorem dX10_count_130 : decode cX10_count 130 = .ok (.invokestatic 398, 3) := by decide +kernel
theorem dX10_count_133 : decode cX10_count 133 = .ok (.ireturn, 1) := by decide +kernel
theorem dX10_count_134 : decode cX10_count 134 = .ok (.aload_n 0, 1) := by decide +kernel
theorem dX10_count_135 : decode cX10_count 135 = .ok (.getfield 13, 3) := by decide +kernel
theorem dX10_count_138 : decode cX10_count 138 = .ok (.ireturn, 1) := by decide +kernel
theorem dX10_count_139 : decode cX10_count 139 = .ok (.aload_n 0, 1) := by decide +kernel
theorem dX10_count_140 : decode cX10_count 140 = .ok (.getfield 34, 3) := by decide +kernel
theorem dX10_count_143 : decode cX10_count 143 = .ok (.getfield 345, 3) := by decide +kernel
theorem dX10_count_146 : decode cX10_count 146 = .ok (.ireturn, 1) := by decide +kernel
theorem dX10_count_147 : decode cX10_count 147 = .ok (.iconst (-1), 1) := by decide +kernel
theorem dX10_count_148 : decode cX10_count 148 = .ok (.ireturn, 1) := by decide +kernel
theorem dX10_need_0 : decode cX10_need 0 = .ok (.iload_n 0, 1) := by decide +kernel
theorem dX10_need_1 : decode cX10_need 1 = .ok (.ifCond .ne 14, 3) := by decide +kernel
theorem dX10_need_4 : decode cX10_need 4 = .ok (.new 402, 3) := by decide +kernel
theorem dX10_need_7 : decode cX10_need 7 = .ok (.dup, 1) := by decide +kernel
theorem dX10_need_8 : decode cX10_need 8 = .ok (.ldc_w 404, 3) := by decide +kernel
theorem dX10_need_11 : decode cX10_need 11 = .ok (.invokespecial 406, 3) := by decide +kernel
theorem dX10_need_14 : decode cX10_need 14 = .ok (.athrow, 1) := by decide +kernel
theorem dX10_need_15 : decode cX10_need 15 = .ok (.return_, 1) := by decide +kernel
theorem dX10_lowestTerms_0 : decode cX10_lowestTerms 0 = .ok (.lload_n 2, 1) := by decide +kernel
theorem dX10_lowestTerms_1 : decode cX10_lowestTerms 1 = .ok (.lstore 5, 2) := by decide +kernel
theorem dX10_lowestTerms_3 : decode cX10_lowestTerms 3 = .ok (.lload_n 0, 1) := by decide +kernel
theorem dX10_lowestTerms_4 : decode cX10_lowestTerms 4 = .ok (.invokestatic 409, 3) := by decide +kernel
theorem dX10_lowestTerms_7 : decode cX10_lowestTerms 7 = .ok (.lstore 7, 2) := by decide +kernel
theorem dX10_lowestTerms_9 : decode cX10_lowestTerms 9 = .ok (.iconst 0, 1) := by decide +kernel
theorem dX10_lowestTerms_10 : decode cX10_lowestTerms 10 = .ok (.istore 9, 2) := by decide +kernel
theorem dX10_lowestTerms_12 : decode cX10_lowestTerms 12 = .ok (.iload 9, 2) := by decide +kernel
theorem dX10_lowestTerms_14 : decode cX10_lowestTerms 14 = .ok (.sipush 200, 3) := by decide +kernel
theorem dX10_lowestTerms_17 : decode cX10_lowestTerms 17 = .ok (.if_icmp .ge 31, 3) := by decide +kernel
theorem dX10_lowestTerms_20 : decode cX10_lowestTerms 20 = .ok (.lload 7, 2) := by decide +kernel
theorem dX10_lowestTerms_22 : decode cX10_lowestTerms 22 = .ok (.lconst 0, 1) := by decide +kernel
theorem dX10_lowestTerms_23 : decode cX10_lowestTerms 23 = .ok (.lcmp, 1) := by decide +kernel
theorem dX10_lowestTerms_24 : decode cX10_lowestTerms 24 = .ok (.ifCond .eq 24, 3) := by decide +kernel
theorem dX10_lowestTerms_27 : decode cX10_lowestTerms 27 = .ok (.lload 5, 2) := by decide +kernel
theorem dX10_lowestTerms_29 : decode cX10_lowestTerms 29 = .ok (.lload 7, 2) := by decide +kernel
theorem dX10_lowestTerms_31 : decode cX10_lowestTerms 31 = .ok (.lrem, 1) := by decide +kernel
theorem dX10_lowestTerms_32 : decode cX10_lowestTerms 32 = .ok (.lstore 10, 2) := by decide +kernel
theorem dX10_lowestTerms_34 : decode cX10_lowestTerms 34 = .ok (.lload 7, 2) := by decide +kernel
theorem dX10_lowestTerms_36 : decode cX10_lowestTerms 36 = .ok (.lstore 5, 2) := by decide +kernel
theorem dX10_lowestTerms_38 : decode cX10_lowestTerms 38 = .ok (.lload 10, 2) := by decide +kernel
theorem dX10_lowestTerms_40 : decode cX10_lowestTerms 40 = .ok (.lstore 7, 2) := by decide +kernel
theorem dX10_lowestTerms_42 : decode cX10_lowestTerms 42 = .ok (.iinc 9 1, 3) := by decide +kernel
theorem dX10_lowestTerms_45 : decode cX10_lowestTerms 45 = .ok (.goto (-33), 3) := by decide +kernel
theorem dX10_lowestTerms_48 : decode cX10_lowestTerms 48 = .ok (.lload 5, 2) := by decide +kernel
theorem dX10_lowestTerms_50 : decode cX10_lowestTerms 50 = .ok (.lconst 1, 1) := by decide +kernel
theorem dX10_lowestTerms_51 : decode cX10_lowestTerms 51 = .ok (.lcmp, 1) := by decide +kernel
theorem dX10_lowestTerms_52 : decode cX10_lowestTerms 52 = .ok (.ifCond .ge 5, 3) := by decide +kernel
theorem dX10_lowestTerms_55 : decode cX10_lowestTerms 55 = .ok (.lconst 0, 1) := by decide +kernel
theorem dX10_lowestTerms_56 : decode cX10_lowestTerms 56 = .ok (.lreturn, 1) := by decide +kernel
theorem dX10_lowestTerms_57 : decode cX10_lowestTerms 57 = .ok (.iload 4, 2) := by decide +kernel
theorem dX10_lowestTerms_59 : decode cX10_lowestTerms 59 = .ok (.ifCond .ne 10, 3) := by decide +kernel
theorem dX10_lowestTerms_62 : decode cX10_lowestTerms 62 = .ok (.lload_n 0, 1) := by decide +kernel
theorem dX10_lowestTerms_63 : decode cX10_lowestTerms 63 = .ok (.lload 5, 2) := by decide +kernel
theorem dX10_lowestTerms_65 : decode cX10_lowestTerms 65 = .ok (.ldiv, 1) := by decide +kernel
theorem dX10_lowestTerms_66 : decode cX10_lowestTerms 66 = .ok (.goto 7, 3) := by decide +kernel
theorem dX10_lowestTerms_69 : decode cX10_lowestTerms 69 = .ok (.lload_n 2, 1) := by decide +kernel
theorem dX10_lowestTerms_70 : decode cX10_lowestTerms 70 = .ok (.lload 5, 2) := by decide +kernel
theorem dX10_lowestTerms_72 : decode cX10_lowestTerms 72 = .ok (.ldiv, 1) := by decide +kernel
theorem dX10_lowestTerms_73 : decode cX10_lowestTerms 73 = .ok (.lreturn, 1) := by decide +kernel
theorem dX10_takeSigns_0 : decode cX10_takeSigns 0 = .ok (.bipush 56, 2) := by decide +kernel
theorem dX10_takeSigns_2 : decode cX10_takeSigns 2 = .ok (.istore_n 3, 1) := by decide +kernel
theorem dX10_takeSigns_3 : decode cX10_takeSigns 3 = .ok (.iload_n 3, 1) := by decide +kernel
theorem dX10_takeSigns_4 : decode cX10_takeSigns 4 = .ok (.ifCond .lt 84, 3) := by decide +kernel
theorem dX10_takeSigns_7 : decode cX10_takeSigns 7 = .ok (.lload_n 1, 1) := by decide +kernel
theorem dX10_takeSigns_8 : decode cX10_takeSigns 8 = .ok (.iload_n 3, 1) := by decide +kernel
theorem dX10_takeSigns_9 : decode cX10_takeSigns 9 = .ok (.lushr, 1) := by decide +kernel
theorem dX10_takeSigns_10 : decode cX10_takeSigns 10 = .ok (.l2i, 1) := by decide +kernel
theorem dX10_takeSigns_11 : decode cX10_takeSigns 11 = .ok (.sipush 255, 3) := by decide +kernel
theorem dX10_takeSigns_14 : decode cX10_takeSigns 14 = .ok (.iand, 1) := by decide +kernel
theorem dX10_takeSigns_15 : decode cX10_takeSigns 15 = .ok (.istore 4, 2) := by decide +kernel
theorem dX10_takeSigns_17 : decode cX10_takeSigns 17 = .ok (.iload 4, 2) := by decide +kernel
theorem dX10_takeSigns_19 : decode cX10_takeSigns 19 = .ok (.bipush 10, 2) := by decide +kernel
theorem dX10_takeSigns_21 : decode cX10_takeSigns 21 = .ok (.if_icmp .eq 17, 3) := by decide +kernel
theorem dX10_takeSigns_24 : decode cX10_takeSigns 24 = .ok (.iload 4, 2) := by decide +kernel
theorem dX10_takeSigns_26 : decode cX10_takeSigns 26 = .ok (.bipush 32, 2) := by decide +kernel
theorem dX10_takeSigns_28 : decode cX10_takeSigns 28 = .ok (.if_icmp .lt 14, 3) := by decide +kernel
theorem dX10_takeSigns_31 : decode cX10_takeSigns 31 = .ok (.iload 4, 2) := by decide +kernel
theorem dX10_takeSigns_33 : decode cX10_takeSigns 33 = .ok (.bipush 126, 2) := by decide +kernel
theorem dX10_takeSigns_35 : decode cX10_takeSigns 35 = .ok (.if_icmp .gt 7, 3) := by decide +kernel
theorem dX10_takeSigns_38 : decode cX10_takeSigns 38 = .ok (.iconst 1, 1) := by decide +kernel
theorem dX10_takeSigns_39 : decode cX10_takeSigns 39 = .ok (.goto 4, 3) := by decide +kernel
theorem dX10_takeSigns_42 : decode cX10_takeSigns 42 = .ok (.iconst 0, 1) := by decide +kernel
theorem dX10_takeSigns_43 : decode cX10_takeSigns 43 = .ok (.istore 5, 2) := by decide +kernel
theorem dX10_takeSigns_45 : decode cX10_takeSigns 45 = .ok (.iload 5, 2) := by decide +kernel
theorem dX10_takeSigns_47 : decode cX10_takeSigns 47 = .ok (.ifCond .eq 35, 3) := by decide +kernel
theorem dX10_takeSigns_50 : decode cX10_takeSigns 50 = .ok (.aload_n 0, 1) := by decide +kernel
theorem dX10_takeSigns_51 : decode cX10_takeSigns 51 = .ok (.getfield 13, 3) := by decide +kernel
theorem dX10_takeSigns_54 : decode cX10_takeSigns 54 = .ok (.sipush 1000, 3) := by decide +kernel
theorem dX10_takeSigns_57 : decode cX10_takeSigns 57 = .ok (.if_icmp .ge 25, 3) := by decide +kernel
theorem dX10_takeSigns_60 : decode cX10_takeSigns 60 = .ok (.aload_n 0, 1) := by decide +kernel
theorem dX10_takeSigns_61 : decode cX10_takeSigns 61 = .ok (.getfield 9, 3) := by decide +kernel
theorem dX10_takeSigns_64 : decode cX10_takeSigns 64 = .ok (.aload_n 0, 1) := by decide +kernel
theorem dX10_takeSigns_65 : decode cX10_takeSigns 65 = .ok (.getfield 13, 3) := by decide +kernel
theorem dX10_takeSigns_68 : decode cX10_takeSigns 68 = .ok (.iload 4, 2) := by decide +kernel
theorem dX10_takeSigns_70 : decode cX10_takeSigns 70 = .ok (.i2c, 1) := by decide +kernel
theorem dX10_takeSigns_71 : decode cX10_takeSigns 71 = .ok (.castore, 1) := by decide +kernel
theorem dX10_takeSigns_72 : decode cX10_takeSigns 72 = .ok (.aload_n 0, 1) := by decide +kernel
theorem dX10_takeSigns_73 : decode cX10_takeSigns 73 = .ok (.dup, 1) := by decide +kernel
theorem dX10_takeSigns_74 : decode cX10_takeSigns 74 = .ok (.getfield 13, 3) := by decide +kernel
theorem dX10_takeSigns_77 : decode cX10_takeSigns 77 = .ok (.iconst 1, 1) := by decide +kernel
theorem dX10_takeSigns_78 : decode cX10_takeSigns 78 = .ok (.iadd, 1) := by decide +kernel
theorem dX10_takeSigns_79 : decode cX10_takeSigns 79 = .ok (.putfield 13, 3) := by decide +kernel
theorem dX10_takeSigns_82 : decode cX10_takeSigns 82 = .ok (.iinc 3 (-8), 3) := by decide +kernel
theorem dX10_takeSigns_85 : decode cX10_takeSigns 85 = .ok (.goto (-82), 3) := by decide +kernel
theorem dX10_takeSigns_88 : decode cX10_takeSigns 88 = .ok (.return_, 1) := by decide +kernel
theorem dX10_inCalendar_0 : decode cX10_inCalendar 0 = .ok (.iload_n 0, 1) := by decide +kernel
theorem dX10_inCalendar_1 : decode cX10_inCalendar 1 = .ok (.ifCond .lt 13, 3) := by decide +kernel
theorem dX10_inCalendar_4 : decode cX10_inCalendar 4 = .ok (.iload_n 0, 1) := by decide +kernel
theorem dX10_inCalendar_5 : decode cX10_inCalendar 5 = .ok (.bipush 16, 2) := by decide +kernel
theorem dX10_inCalendar_7 : decode cX10_inCalendar 7 = .ok (.if_icmp .ge 7, 3) := by decide +kernel
theorem dX10_inCalendar_10 : decode cX10_inCalendar 10 = .ok (.iconst 1, 1) := by decide +kernel
theorem dX10_inCalendar_11 : decode cX10_inCalendar 11 = .ok (.goto 4, 3) := by decide +kernel
theorem dX10_inCalendar_14 : decode cX10_inCalendar 14 = .ok (.iconst 0, 1) := by decide +kernel
theorem dX10_inCalendar_15 : decode cX10_inCalendar 15 = .ok (.ireturn, 1) := by decide +kernel
theorem dX10_isPart_0 : decode cX10_isPart 0 = .ok (.iload_n 0, 1) := by decide +kernel
theorem dX10_isPart_1 : decode cX10_isPart 1 = .ok (.ifCond .eq 8, 3) := by decide +kernel
theorem dX10_isPart_4 : decode cX10_isPart 4 = .ok (.iload_n 0, 1) := by decide +kernel
theorem dX10_isPart_5 : decode cX10_isPart 5 = .ok (.iconst 1, 1) := by decide +kernel
theorem dX10_isPart_6 : decode cX10_isPart 6 = .ok (.if_icmp .ne 7, 3) := by decide +kernel
theorem dX10_isPart_9 : decode cX10_isPart 9 = .ok (.iconst 1, 1) := by decide +kernel
theorem dX10_isPart_10 : decode cX10_isPart 10 = .ok (.goto 4, 3) := by decide +kernel
theorem dX10_isPart_13 : decode cX10_isPart 13 = .ok (.iconst 0, 1) := by decide +kernel
theorem dX10_isPart_14 : decode cX10_isPart 14 = .ok (.ireturn, 1) := by decide +kernel
theorem dX10_isScene_0 : decode cX10_isScene 0 = .ok (.aload_n 0, 1) := by decide +kernel
theorem dX10_isScene_1 : decode cX10_isScene 1 = .ok (.getfield 34, 3) := by decide +kernel
theorem dX10_isScene_4 : decode cX10_isScene 4 = .ok (.getfield 81, 3) := by decide +kernel
theorem dX10_isScene_7 : decode cX10_isScene 7 = .ok (.astore 4, 2) := by decide +kernel
theorem dX10_isScene_9 : decode cX10_isScene 9 = .ok (.aload 4, 2) := by decide +kernel
theorem dX10_isScene_11 : decode cX10_isScene 11 = .ok (.iload_n 1, 1) := by decide +kernel
theorem dX10_isScene_12 : decode cX10_isScene 12 = .ok (.invokevirtual 133, 3) := by decide +kernel
theorem dX10_isScene_15 : decode cX10_isScene 15 = .ok (.ifCond .eq 25, 3) := by decide +kernel
theorem dX10_isScene_18 : decode cX10_isScene 18 = .ok (.aload 4, 2) := by decide +kernel
theorem dX10_isScene_20 : decode cX10_isScene 20 = .ok (.iload_n 2, 1) := by decide +kernel
theorem dX10_isScene_21 : decode cX10_isScene 21 = .ok (.invokevirtual 116, 3) := by decide +kernel
theorem dX10_isScene_24 : decode cX10_isScene 24 = .ok (.ifCond .eq 16, 3) := by decide +kernel
theorem dX10_isScene_27 : decode cX10_isScene 27 = .ok (.aload 4, 2) := by decide +kernel
theorem dX10_isScene_29 : decode cX10_isScene 29 = .ok (.iload_n 3, 1) := by decide +kernel
theorem dX10_isScene_30 : decode cX10_isScene 30 = .ok (.invokevirtual 119, 3) := by decide +kernel
theorem dX10_isScene_33 : decode cX10_isScene 33 = .ok (.ifCond .eq 7, 3) := by decide +kernel
theorem dX10_isScene_36 : decode cX10_isScene 36 = .ok (.iconst 1, 1) := by decide +kernel
theorem dX10_isScene_37 : decode cX10_isScene 37 = .ok (.goto 4, 3) := by decide +kernel
theorem dX10_isScene_40 : decode cX10_isScene 40 = .ok (.iconst 0, 1) := by decide +kernel
theorem dX10_isScene_41 : decode cX10_isScene 41 = .ok (.ireturn, 1) := by decide +kernel
theorem dX10_isForeseen_0 : decode cX10_isForeseen 0 = .ok (.iload_n 1, 1) := by decide +kernel
theorem dX10_isForeseen_1 : decode cX10_isForeseen 1 = .ok (.bipush 6, 2) := by decide +kernel
theorem dX10_isForeseen_3 : decode cX10_isForeseen 3 = .ok (.if_icmp .gt 34, 3) := by decide +kernel
theorem dX10_isForeseen_6 : decode cX10_isForeseen 6 = .ok (.aload_n 0, 1) := by decide +kernel
theorem dX10_isForeseen_7 : decode cX10_isForeseen 7 = .ok (.getfield 34, 3) := by decide +kernel
theorem dX10_isForeseen_10 : decode cX10_isForeseen 10 = .ok (.getfield 81, 3) := by decide +kernel
theorem dX10_isForeseen_13 : decode cX10_isForeseen 13 = .ok (.iload_n 1, 1) := by decide +kernel
theorem dX10_isForeseen_14 : decode cX10_isForeseen 14 = .ok (.invokevirtual 133, 3) := by decide +kernel
theorem dX10_isForeseen_17 : decode cX10_isForeseen 17 = .ok (.ifCond .eq 20, 3) := by decide +kernel
theorem dX10_isForeseen_20 : decode cX10_isForeseen 20 = .ok (.aload_n 0, 1) := by decide +kernel
theorem dX10_isForeseen_21 : decode cX10_isForeseen 21 = .ok (.getfield 34, 3) := by decide +kernel
theorem dX10_isForeseen_24 : decode cX10_isForeseen 24 = .ok (.getfield 81, 3) := by decide +kernel
theorem dX10_isForeseen_27 : decode cX10_isForeseen 27 = .ok (.getfield 318, 3) := by decide +kernel
theorem dX10_isForeseen_30 : decode cX10_isForeseen 30 = .ok (.ifCond .le 7, 3) := by decide +kernel
theorem dX10_isForeseen_33 : decode cX10_isForeseen 33 = .ok (.iconst 1, 1) := by decide +kernel
theorem dX10_isForeseen_34 : decode cX10_isForeseen 34 = .ok (.goto 4, 3) := by decide +kernel
theorem dX10_isForeseen_37 : decode cX10_isForeseen 37 = .ok (.iconst 0, 1) := by decide +kernel
theorem dX10_isForeseen_38 : decode cX10_isForeseen 38 = .ok (.ireturn, 1) := by decide +kernel
theorem dX10_isCentury_0 : decode cX10_isCentury 0 = .ok (.iload_n 1, 1) := by decide +kernel
theorem dX10_isCentury_1 : decode cX10_isCentury 1 = .ok (.ifCond .lt 37, 3) := by decide +kernel
theorem dX10_isCentury_4 : decode cX10_isCentury 4 = .ok (.iload_n 1, 1) := by decide +kernel
theorem dX10_isCentury_5 : decode cX10_isCentury 5 = .ok (.sipush 9999, 3) := by decide +kernel
theorem dX10_isCentury_8 : decode cX10_isCentury 8 = .ok (.if_icmp .gt 30, 3) := by decide +kernel
theorem dX10_isCentury_11 : decode cX10_isCentury 11 = .ok (.iload_n 2, 1) := by decide +kernel
theorem dX10_isCentury_12 : decode cX10_isCentury 12 = .ok (.ifCond .lt 26, 3) := by decide +kernel
theorem dX10_isCentury_15 : decode cX10_isCentury 15 = .ok (.iload_n 2, 1) := by decide +kernel
theorem dX10_isCentury_16 : decode cX10_isCentury 16 = .ok (.bipush 6, 2) := by decide +kernel
theorem dX10_isCentury_18 : decode cX10_isCentury 18 = .ok (.if_icmp .ge 20, 3) := by decide +kernel
theorem dX10_isCentury_21 : decode cX10_isCentury 21 = .ok (.aload_n 0, 1) := by decide +kernel
theorem dX10_isCentury_22 : decode cX10_isCentury 22 = .ok (.getfield 34, 3) := by decide +kernel
theorem dX10_isCentury_25 : decode cX10_isCentury 25 = .ok (.getfield 81, 3) := by decide +kernel
theorem dX10_isCentury_28 : decode cX10_isCentury 28 = .ok (.getfield 318, 3) := by decide +kernel
theorem dX10_isCentury_31 : decode cX10_isCentury 31 = .ok (.ifCond .le 7, 3) := by decide +kernel
theorem dX10_isCentury_34 : decode cX10_isCentury 34 = .ok (.iconst 1, 1) := by decide +kernel
theorem dX10_isCentury_35 : decode cX10_isCentury 35 = .ok (.goto 4, 3) := by decide +kernel
theorem dX10_isCentury_38 : decode cX10_isCentury 38 = .ok (.iconst 0, 1) := by decide +kernel
theorem dX10_isCentury_39 : decode cX10_isCentury 39 = .ok (.ireturn, 1) := by decide +kernel
theorem dX10_isElder_0 : decode cX10_isElder 0 = .ok (.aload_n 0, 1) := by decide +kernel
theorem dX10_isElder_1 : decode cX10_isElder 1 = .ok (.getfield 34, 3) := by decide +kernel
theorem dX10_isElder_4 : decode cX10_isElder 4 = .ok (.getfield 81, 3) := by decide +kernel
theorem dX10_isElder_7 : decode cX10_isElder 7 = .ok (.iload_n 1, 1) := by decide +kernel
theorem dX10_isElder_8 : decode cX10_isElder 8 = .ok (.invokevirtual 116, 3) := by decide +kernel
theorem dX10_isElder_11 : decode cX10_isElder 11 = .ok (.ifCond .eq 26, 3) := by decide +kernel
theorem dX10_isElder_14 : decode cX10_isElder 14 = .ok (.iload_n 2, 1) := by decide +kernel
theorem dX10_isElder_15 : decode cX10_isElder 15 = .ok (.iconst 1, 1) := by decide +kernel
theorem dX10_isElder_16 : decode cX10_isElder 16 = .ok (.if_icmp .lt 21, 3) := by decide +kernel
theorem dX10_isElder_19 : decode cX10_isElder 19 = .ok (.iload_n 2, 1) := by decide +kernel
theorem dX10_isElder_20 : decode cX10_isElder 20 = .ok (.aload_n 0, 1) := by decide +kernel
theorem dX10_isElder_21 : decode cX10_isElder 21 = .ok (.getfield 34, 3) := by decide +kernel
theorem dX10_isElder_24 : decode cX10_isElder 24 = .ok (.getfield 81, 3) := by decide +kernel
theorem dX10_isElder_27 : decode cX10_isElder 27 = .ok (.getfield 223, 3) := by decide +kernel
theorem dX10_isElder_30 : decode cX10_isElder 30 = .ok (.if_icmp .ge 7, 3) := by decide +kernel
theorem dX10_isElder_33 : decode cX10_isElder 33 = .ok (.iconst 1, 1) := by decide +kernel
theorem dX10_isElder_34 : decode cX10_isElder 34 = .ok (.goto 4, 3) := by decide +kernel
theorem dX10_isElder_37 : decode cX10_isElder 37 = .ok (.iconst 0, 1) := by decide +kernel
theorem dX10_isElder_38 : decode cX10_isElder 38 = .ok (.ireturn, 1) := by decide +kernel
theorem dX10_isFreeAct_0 : decode cX10_isFreeAct 0 = .ok (.aload_n 0, 1) := by decide +kernel
theorem dX10_isFreeAct_1 : decode cX10_isFreeAct 1 = .ok (.iload_n 1, 1) := by decide +kernel
theorem dX10_isFreeAct_2 : decode cX10_isFreeAct 2 = .ok (.iload_n 2, 1) := by decide +kernel
theorem dX10_isFreeAct_3 : decode cX10_isFreeAct 3 = .ok (.iload_n 3, 1) := by decide +kernel
theorem dX10_isFreeAct_4 : decode cX10_isFreeAct 4 = .ok (.invokevirtual 144, 3) := by decide +kernel
theorem dX10_isFreeAct_7 : decode cX10_isFreeAct 7 = .ok (.ifCond .eq 47, 3) := by decide +kernel
theorem dX10_isFreeAct_10 : decode cX10_isFreeAct 10 = .ok (.aload_n 0, 1) := by decide +kernel
theorem dX10_isFreeAct_11 : decode cX10_isFreeAct 11 = .ok (.getfield 34, 3) := by decide +kernel
theorem dX10_isFreeAct_14 : decode cX10_isFreeAct 14 = .ok (.getfield 81, 3) := by decide +kernel
theorem dX10_isFreeAct_17 : decode cX10_isFreeAct 17 = .ok (.iload 4, 2) := by decide +kernel
theorem dX10_isFreeAct_19 : decode cX10_isFreeAct 19 = .ok (.invokevirtual 119, 3) := by decide +kernel
theorem dX10_isFreeAct_22 : decode cX10_isFreeAct 22 = .ok (.ifCond .eq 32, 3) := by decide +kernel
theorem dX10_isFreeAct_25 : decode cX10_isFreeAct 25 = .ok (.aload_n 0, 1) := by decide +kernel
theorem dX10_isFreeAct_26 : decode cX10_isFreeAct 26 = .ok (.getfield 34, 3) := by decide +kernel
theorem dX10_isFreeAct_29 : decode cX10_isFreeAct 29 = .ok (.iload_n 1, 1) := by decide +kernel
theorem dX10_isFreeAct_30 : decode cX10_isFreeAct 30 = .ok (.invokevirtual 220, 3) := by decide +kernel
theorem dX10_isFreeAct_33 : decode cX10_isFreeAct 33 = .ok (.ifCond .ne 21, 3) := by decide +kernel
theorem dX10_isFreeAct_36 : decode cX10_isFreeAct 36 = .ok (.aload_n 0, 1) := by decide +kernel
theorem dX10_isFreeAct_37 : decode cX10_isFreeAct 37 = .ok (.getfield 34, 3) := by decide +kernel
theorem dX10_isFreeAct_40 : decode cX10_isFreeAct 40 = .ok (.iload_n 1, 1) := by decide +kernel
theorem dX10_isFreeAct_41 : decode cX10_isFreeAct 41 = .ok (.iload_n 3, 1) := by decide +kernel
theorem dX10_isFreeAct_42 : decode cX10_isFreeAct 42 = .ok (.iload 4, 2) := by decide +kernel
theorem dX10_isFreeAct_44 : decode cX10_isFreeAct 44 = .ok (.invokevirtual 415, 3) := by decide +kernel
theorem dX10_isFreeAct_47 : decode cX10_isFreeAct 47 = .ok (.ifCond .eq 7, 3) := by decide +kernel
theorem dX10_isFreeAct_50 : decode cX10_isFreeAct 50 = .ok (.iconst 1, 1) := by decide +kernel
theorem dX10_isFreeAct_51 : decode cX10_isFreeAct 51 = .ok (.goto 4, 3) := by decide +kernel
theorem dX10_isFreeAct_54 : decode cX10_isFreeAct 54 = .ok (.iconst 0, 1) := by decide +kernel
theorem dX10_isFreeAct_55 : decode cX10_isFreeAct 55 = .ok (.ireturn, 1) := by decide +kernel
theorem dX10_setQuestion_0 : decode cX10_setQuestion 0 = .ok (.aload_n 0, 1) := by decide +kernel
theorem dX10_setQuestion_1 : decode cX10_setQuestion 1 = .ok (.getfield 34, 3) := by decide +kernel
theorem dX10_setQuestion_4 : decode cX10_setQuestion 4 = .ok (.getfield 276, 3) := by decide +kernel
theorem dX10_setQuestion_7 : decode cX10_setQuestion 7 = .ok (.iload_n 1, 1) := by decide +kernel
theorem dX10_setQuestion_8 : decode cX10_setQuestion 8 = .ok (.iload_n 2, 1) := by decide +kernel
theorem dX10_setQuestion_9 : decode cX10_setQuestion 9 = .ok (.iastore, 1) := by decide +kernel
theorem dX10_setQuestion_10 : decode cX10_setQuestion 10 = .ok (.aload_n 0, 1) := by decide +kernel
theorem dX10_setQuestion_11 : decode cX10_setQuestion 11 = .ok (.getfield 47, 3) := by decide +kernel
theorem dX10_setQuestion_14 : decode cX10_setQuestion 14 = .ok (.iload_n 1, 1) := by decide +kernel
theorem dX10_setQuestion_15 : decode cX10_setQuestion 15 = .ok (.invokevirtual 418, 3) := by decide +kernel
theorem dX10_setQuestion_18 : decode cX10_setQuestion 18 = .ok (.return_, 1) := by decide +kernel
theorem dX10_setPledge_0 : decode cX10_setPledge 0 = .ok (.aload_n 0, 1) := by decide +kernel
theorem dX10_setPledge_1 : decode cX10_setPledge 1 = .ok (.getfield 34, 3) := by decide +kernel
theorem dX10_setPledge_4 : decode cX10_setPledge 4 = .ok (.getfield 264, 3) := by decide +kernel
theorem dX10_setPledge_7 : decode cX10_setPledge 7 = .ok (.iload_n 1, 1) := by decide +kernel
theorem dX10_setPledge_8 : decode cX10_setPledge 8 = .ok (.iload_n 2, 1) := by decide +kernel
theorem dX10_setPledge_9 : decode cX10_setPledge 9 = .ok (.iastore, 1) := by decide +kernel
theorem dX10_setPledge_10 : decode cX10_setPledge 10 = .ok (.aload_n 0, 1) := by decide +kernel
theorem dX10_setPledge_11 : decode cX10_setPledge 11 = .ok (.getfield 34, 3) := by decide +kernel
theorem dX10_setPledge_14 : decode cX10_setPledge 14 = .ok (.getfield 267, 3) := by decide +kernel
theorem dX10_setPledge_17 : decode cX10_setPledge 17 = .ok (.iload_n 1, 1) := by decide +kernel
theorem dX10_setPledge_18 : decode cX10_setPledge 18 = .ok (.iload_n 3, 1) := by decide +kernel
theorem dX10_setPledge_19 : decode cX10_setPledge 19 = .ok (.iastore, 1) := by decide +kernel
theorem dX10_setPledge_20 : decode cX10_setPledge 20 = .ok (.aload_n 0, 1) := by decide +kernel
theorem dX10_setPledge_21 : decode cX10_setPledge 21 = .ok (.getfield 47, 3) := by decide +kernel
theorem dX10_setPledge_24 : decode cX10_setPledge 24 = .ok (.iload_n 1, 1) := by decide +kernel
theorem dX10_setPledge_25 : decode cX10_setPledge 25 = .ok (.invokevirtual 418, 3) := by decide +kernel
theorem dX10_setPledge_28 : decode cX10_setPledge 28 = .ok (.return_, 1) := by decide +kernel
theorem dX10_setStone_0 : decode cX10_setStone 0 = .ok (.aload_n 0, 1) := by decide +kernel
theorem dX10_setStone_1 : decode cX10_setStone 1 = .ok (.getfield 34, 3) := by decide +kernel
theorem dX10_setStone_4 : decode cX10_setStone 4 = .ok (.getfield 112, 3) := by decide +kernel
theorem dX10_setStone_7 : decode cX10_setStone 7 = .ok (.iload_n 1, 1) := by decide +kernel
theorem dX10_setStone_8 : decode cX10_setStone 8 = .ok (.baload, 1) := by decide +kernel
theorem dX10_setStone_9 : decode cX10_setStone 9 = .ok (.iload_n 2, 1) := by decide +kernel
theorem dX10_setStone_10 : decode cX10_setStone 10 = .ok (.if_icmp .eq 20, 3) := by decide +kernel
theorem dX10_setStone_13 : decode cX10_setStone 13 = .ok (.aload_n 0, 1) := by decide +kernel
theorem dX10_setStone_14 : decode cX10_setStone 14 = .ok (.getfield 34, 3) := by decide +kernel
theorem dX10_setStone_17 : decode cX10_setStone 17 = .ok (.getfield 112, 3) := by decide +kernel
theorem dX10_setStone_20 : decode cX10_setStone 20 = .ok (.iload_n 1, 1) := by decide +kernel
theorem dX10_setStone_21 : decode cX10_setStone 21 = .ok (.iload_n 2, 1) := by decide +kernel
theorem dX10_setStone_22 : decode cX10_setStone 22 = .ok (.bastore, 1) := by decide +kernel
theorem dX10_setStone_23 : decode cX10_setStone 23 = .ok (.aload_n 0, 1) := by decide +kernel
theorem dX10_setStone_24 : decode cX10_setStone 24 = .ok (.getfield 47, 3) := by decide +kernel
theorem dX10_setStone_27 : decode cX10_setStone 27 = .ok (.invokevirtual 421, 3) := by decide +kernel
theorem dX10_setStone_30 : decode cX10_setStone 30 = .ok (.return_, 1) := by decide +kernel
theorem dX10_wouldStir_0 : decode cX10_wouldStir 0 = .ok (.iconst 0, 1) := by decide +kernel
theorem dX10_wouldStir_1 : decode cX10_wouldStir 1 = .ok (.istore_n 3, 1) := by decide +kernel
theorem dX10_wouldStir_2 : decode cX10_wouldStir 2 = .ok (.iload_n 3, 1) := by decide +kernel
theorem dX10_wouldStir_3 : decode cX10_wouldStir 3 = .ok (.aload_n 0, 1) := by decide +kernel
theorem dX10_wouldStir_4 : decode cX10_wouldStir 4 = .ok (.getfield 34, 3) := by decide +kernel
theorem dX10_wouldStir_7 : decode cX10_wouldStir 7 = .ok (.getfield 81, 3) := by decide +kernel
theorem dX10_wouldStir_10 : decode cX10_wouldStir 10 = .ok (.getfield 318, 3) := by decide +kernel
theorem dX10_wouldStir_13 : decode cX10_wouldStir 13 = .ok (.if_icmp .ge 40, 3) := by decide +kernel
theorem dX10_wouldStir_16 : decode cX10_wouldStir 16 = .ok (.aload_n 0, 1) := by decide +kernel
theorem dX10_wouldStir_17 : decode cX10_wouldStir 17 = .ok (.getfield 34, 3) := by decide +kernel
theorem dX10_wouldStir_20 : decode cX10_wouldStir 20 = .ok (.getfield 81, 3) := by decide +kernel
theorem dX10_wouldStir_23 : decode cX10_wouldStir 23 = .ok (.iload_n 1, 1) := by decide +kernel
theorem dX10_wouldStir_24 : decode cX10_wouldStir 24 = .ok (.iload_n 3, 1) := by decide +kernel
theorem dX10_wouldStir_25 : decode cX10_wouldStir 25 = .ok (.invokevirtual 378, 3) := by decide +kernel
theorem dX10_wouldStir_28 : decode cX10_wouldStir 28 = .ok (.ifCond .le 19, 3) := by decide +kernel
theorem dX10_wouldStir_31 : decode cX10_wouldStir 31 = .ok (.aload_n 0, 1) := by decide +kernel
theorem dX10_wouldStir_32 : decode cX10_wouldStir 32 = .ok (.getfield 47, 3) := by decide +kernel
theorem dX10_wouldStir_35 : decode cX10_wouldStir 35 = .ok (.iload_n 1, 1) := by decide +kernel
theorem dX10_wouldStir_36 : decode cX10_wouldStir 36 = .ok (.iload_n 3, 1) := by decide +kernel
theorem dX10_wouldStir_37 : decode cX10_wouldStir 37 = .ok (.iload_n 2, 1) := by decide +kernel
theorem dX10_wouldStir_38 : decode cX10_wouldStir 38 = .ok (.invokevirtual 152, 3) := by decide +kernel
theorem dX10_wouldStir_41 : decode cX10_wouldStir 41 = .ok (.iload_n 2, 1) := by decide +kernel
theorem dX10_wouldStir_42 : decode cX10_wouldStir 42 = .ok (.if_icmp .eq 5, 3) := by decide +kernel
theorem dX10_wouldStir_45 : decode cX10_wouldStir 45 = .ok (.iconst 1, 1) := by decide +kernel
theorem dX10_wouldStir_46 : decode cX10_wouldStir 46 = .ok (.ireturn, 1) := by decide +kernel
theorem dX10_wouldStir_47 : decode cX10_wouldStir 47 = .ok (.iinc 3 1, 3) := by decide +kernel
theorem dX10_wouldStir_50 : decode cX10_wouldStir 50 = .ok (.goto (-48), 3) := by decide +kernel
theorem dX10_wouldStir_53 : decode cX10_wouldStir 53 = .ok (.iconst 0, 1) := by decide +kernel
theorem dX10_wouldStir_54 : decode cX10_wouldStir 54 = .ok (.ireturn, 1) := by decide +kernel
theorem dX10_valueAnew_0 : decode cX10_valueAnew 0 = .ok (.aload_n 0, 1) := by decide +kernel
theorem dX10_valueAnew_1 : decode cX10_valueAnew 1 = .ok (.getfield 47, 3) := by decide +kernel
theorem dX10_valueAnew_4 : decode cX10_valueAnew 4 = .ok (.iload_n 1, 1) := by decide +kernel
theorem dX10_valueAnew_5 : decode cX10_valueAnew 5 = .ok (.invokevirtual 148, 3) := by decide +kernel
theorem dX10_valueAnew_8 : decode cX10_valueAnew 8 = .ok (.aload_n 0, 1) := by decide +kernel
theorem dX10_valueAnew_9 : decode cX10_valueAnew 9 = .ok (.getfield 47, 3) := by decide +kernel
theorem dX10_valueAnew_12 : decode cX10_valueAnew 12 = .ok (.iload_n 1, 1) := by decide +kernel
theorem dX10_valueAnew_13 : decode cX10_valueAnew 13 = .ok (.iload_n 2, 1) := by decide +kernel
theorem dX10_valueAnew_14 : decode cX10_valueAnew 14 = .ok (.iload_n 3, 1) := by decide +kernel
theorem dX10_valueAnew_15 : decode cX10_valueAnew 15 = .ok (.invokevirtual 162, 3) := by decide +kernel
theorem dX10_valueAnew_18 : decode cX10_valueAnew 18 = .ok (.lreturn, 1) := by decide +kernel
theorem dX10_priceOf_0 : decode cX10_priceOf 0 = .ok (.aload_n 0, 1) := by decide +kernel
theorem dX10_priceOf_1 : decode cX10_priceOf 1 = .ok (.getfield 47, 3) := by decide +kernel
theorem dX10_priceOf_4 : decode cX10_priceOf 4 = .ok (.iload_n 1, 1) := by decide +kernel
theorem dX10_priceOf_5 : decode cX10_priceOf 5 = .ok (.iload_n 2, 1) := by decide +kernel
theorem dX10_priceOf_6 : decode cX10_priceOf 6 = .ok (.iload_n 3, 1) := by decide +kernel
theorem dX10_priceOf_7 : decode cX10_priceOf 7 = .ok (.invokevirtual 162, 3) := by decide +kernel
theorem dX10_priceOf_10 : decode cX10_priceOf 10 = .ok (.aload_n 0, 1) := by decide +kernel
theorem dX10_priceOf_11 : decode cX10_priceOf 11 = .ok (.getfield 47, 3) := by decide +kernel
theorem dX10_priceOf_14 : decode cX10_priceOf 14 = .ok (.iload_n 1, 1) := by decide +kernel
theorem dX10_priceOf_15 : decode cX10_priceOf 15 = .ok (.iload_n 2, 1) := by decide +kernel
theorem dX10_priceOf_16 : decode cX10_priceOf 16 = .ok (.iload_n 3, 1) := by decide +kernel
