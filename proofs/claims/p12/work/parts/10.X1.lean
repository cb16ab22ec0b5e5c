theorem d_P_kindOf_0 : decode prog_4_method_18_code 0 = .ok (.iload_n 1, 1) := by decide +kernel
theorem d_P_kindOf_1 : decode prog_4_method_18_code 1 = .ok (.iconst 1, 1) := by decide +kernel
theorem d_P_kindOf_2 : decode prog_4_method_18_code 2 = .ok (.if_icmp .lt 27, 3) := by decide +kernel
theorem d_P_kindOf_5 : decode prog_4_method_18_code 5 = .ok (.iload_n 1, 1) := by decide +kernel
theorem d_P_kindOf_6 : decode prog_4_method_18_code 6 = .ok (.aload_n 0, 1) := by decide +kernel
theorem d_P_kindOf_7 : decode prog_4_method_18_code 7 = .ok (.getfield 60, 3) := by decide +kernel
theorem d_P_kindOf_10 : decode prog_4_method_18_code 10 = .ok (.if_icmp .ge 19, 3) := by decide +kernel
theorem d_P_kindOf_13 : decode prog_4_method_18_code 13 = .ok (.iload_n 1, 1) := by decide +kernel
theorem d_P_kindOf_14 : decode prog_4_method_18_code 14 = .ok (.sipush 300, 3) := by decide +kernel
theorem d_P_kindOf_17 : decode prog_4_method_18_code 17 = .ok (.if_icmp .ge 12, 3) := by decide +kernel
theorem d_P_kindOf_20 : decode prog_4_method_18_code 20 = .ok (.aload_n 0, 1) := by decide +kernel
theorem d_P_kindOf_21 : decode prog_4_method_18_code 21 = .ok (.getfield 9, 3) := by decide +kernel
theorem d_P_kindOf_24 : decode prog_4_method_18_code 24 = .ok (.iload_n 1, 1) := by decide +kernel
theorem d_P_kindOf_25 : decode prog_4_method_18_code 25 = .ok (.iaload, 1) := by decide +kernel
theorem d_P_kindOf_26 : decode prog_4_method_18_code 26 = .ok (.goto 4, 3) := by decide +kernel
theorem d_P_kindOf_29 : decode prog_4_method_18_code 29 = .ok (.iconst 0, 1) := by decide +kernel
theorem d_P_kindOf_30 : decode prog_4_method_18_code 30 = .ok (.ireturn, 1) := by decide +kernel
theorem d_P_factsOf_0 : decode prog_4_method_19_code 0 = .ok (.iload_n 1, 1) := by decide +kernel
theorem d_P_factsOf_1 : decode prog_4_method_19_code 1 = .ok (.iconst 1, 1) := by decide +kernel
theorem d_P_factsOf_2 : decode prog_4_method_19_code 2 = .ok (.if_icmp .lt 27, 3) := by decide +kernel
theorem d_P_factsOf_5 : decode prog_4_method_19_code 5 = .ok (.iload_n 1, 1) := by decide +kernel
theorem d_P_factsOf_6 : decode prog_4_method_19_code 6 = .ok (.aload_n 0, 1) := by decide +kernel
theorem d_P_factsOf_7 : decode prog_4_method_19_code 7 = .ok (.getfield 60, 3) := by decide +kernel
theorem d_P_factsOf_10 : decode prog_4_method_19_code 10 = .ok (.if_icmp .ge 19, 3) := by decide +kernel
theorem d_P_factsOf_13 : decode prog_4_method_19_code 13 = .ok (.iload_n 1, 1) := by decide +kernel
theorem d_P_factsOf_14 : decode prog_4_method_19_code 14 = .ok (.sipush 300, 3) := by decide +kernel
theorem d_P_factsOf_17 : decode prog_4_method_19_code 17 = .ok (.if_icmp .ge 12, 3) := by decide +kernel
theorem d_P_factsOf_20 : decode prog_4_method_19_code 20 = .ok (.aload_n 0, 1) := by decide +kernel
theorem d_P_factsOf_21 : decode prog_4_method_19_code 21 = .ok (.getfield 16, 3) := by decide +kernel
theorem d_P_factsOf_24 : decode prog_4_method_19_code 24 = .ok (.iload_n 1, 1) := by decide +kernel
theorem d_P_factsOf_25 : decode prog_4_method_19_code 25 = .ok (.iaload, 1) := by decide +kernel
theorem d_P_factsOf_26 : decode prog_4_method_19_code 26 = .ok (.goto 4, 3) := by decide +kernel
theorem d_P_factsOf_29 : decode prog_4_method_19_code 29 = .ok (.iconst 0, 1) := by decide +kernel
theorem d_P_factsOf_30 : decode prog_4_method_19_code 30 = .ok (.ireturn, 1) := by decide +kernel
theorem d_P_measureOf_0 : decode prog_4_method_20_code 0 = .ok (.iload_n 1, 1) := by decide +kernel
theorem d_P_measureOf_1 : decode prog_4_method_20_code 1 = .ok (.iconst 1, 1) := by decide +kernel
theorem d_P_measureOf_2 : decode prog_4_method_20_code 2 = .ok (.if_icmp .lt 27, 3) := by decide +kernel
theorem d_P_measureOf_5 : decode prog_4_method_20_code 5 = .ok (.iload_n 1, 1) := by decide +kernel
theorem d_P_measureOf_6 : decode prog_4_method_20_code 6 = .ok (.aload_n 0, 1) := by decide +kernel
theorem d_P_measureOf_7 : decode prog_4_method_20_code 7 = .ok (.getfield 60, 3) := by decide +kernel
theorem d_P_measureOf_10 : decode prog_4_method_20_code 10 = .ok (.if_icmp .ge 19, 3) := by decide +kernel
theorem d_P_measureOf_13 : decode prog_4_method_20_code 13 = .ok (.iload_n 1, 1) := by decide +kernel
theorem d_P_measureOf_14 : decode prog_4_method_20_code 14 = .ok (.sipush 300, 3) := by decide +kernel
theorem d_P_measureOf_17 : decode prog_4_method_20_code 17 = .ok (.if_icmp .ge 12, 3) := by decide +kernel
theorem d_P_measureOf_20 : decode prog_4_method_20_code 20 = .ok (.aload_n 0, 1) := by decide +kernel
theorem d_P_measureOf_21 : decode prog_4_method_20_code 21 = .ok (.getfield 19, 3) := by decide +kernel
theorem d_P_measureOf_24 : decode prog_4_method_20_code 24 = .ok (.iload_n 1, 1) := by decide +kernel
theorem d_P_measureOf_25 : decode prog_4_method_20_code 25 = .ok (.iaload, 1) := by decide +kernel
theorem d_P_measureOf_26 : decode prog_4_method_20_code 26 = .ok (.goto 4, 3) := by decide +kernel
theorem d_P_measureOf_29 : decode prog_4_method_20_code 29 = .ok (.iconst 0, 1) := by decide +kernel
theorem d_P_measureOf_30 : decode prog_4_method_20_code 30 = .ok (.ireturn, 1) := by decide +kernel
theorem d_P_within_0 : decode prog_4_method_17_code 0 = .ok (.iload_n 1, 1) := by decide +kernel
theorem d_P_within_1 : decode prog_4_method_17_code 1 = .ok (.iconst 1, 1) := by decide +kernel
theorem d_P_within_2 : decode prog_4_method_17_code 2 = .ok (.if_icmp .lt 22, 3) := by decide +kernel
theorem d_P_within_5 : decode prog_4_method_17_code 5 = .ok (.iload_n 1, 1) := by decide +kernel
theorem d_P_within_6 : decode prog_4_method_17_code 6 = .ok (.aload_n 0, 1) := by decide +kernel
theorem d_P_within_7 : decode prog_4_method_17_code 7 = .ok (.getfield 60, 3) := by decide +kernel
theorem d_P_within_10 : decode prog_4_method_17_code 10 = .ok (.if_icmp .ge 14, 3) := by decide +kernel
theorem d_P_within_13 : decode prog_4_method_17_code 13 = .ok (.iload_n 1, 1) := by decide +kernel
theorem d_P_within_14 : decode prog_4_method_17_code 14 = .ok (.sipush 300, 3) := by decide +kernel
theorem d_P_within_17 : decode prog_4_method_17_code 17 = .ok (.if_icmp .ge 7, 3) := by decide +kernel
theorem d_P_within_20 : decode prog_4_method_17_code 20 = .ok (.iconst 1, 1) := by decide +kernel
theorem d_P_within_21 : decode prog_4_method_17_code 21 = .ok (.goto 4, 3) := by decide +kernel
theorem d_P_within_24 : decode prog_4_method_17_code 24 = .ok (.iconst 0, 1) := by decide +kernel
theorem d_P_within_25 : decode prog_4_method_17_code 25 = .ok (.ireturn, 1) := by decide +kernel
theorem d_P_firstOf_0 : decode prog_4_method_21_code 0 = .ok (.aload_n 0, 1) := by decide +kernel
theorem d_P_firstOf_1 : decode prog_4_method_21_code 1 = .ok (.iload_n 1, 1) := by decide +kernel
theorem d_P_firstOf_2 : decode prog_4_method_21_code 2 = .ok (.invokevirtual 149, 3) := by decide +kernel
theorem d_P_firstOf_5 : decode prog_4_method_21_code 5 = .ok (.ifCond .eq 22, 3) := by decide +kernel
theorem d_P_firstOf_8 : decode prog_4_method_21_code 8 = .ok (.aload_n 0, 1) := by decide +kernel
theorem d_P_firstOf_9 : decode prog_4_method_21_code 9 = .ok (.getfield 25, 3) := by decide +kernel
theorem d_P_firstOf_12 : decode prog_4_method_21_code 12 = .ok (.aload_n 0, 1) := by decide +kernel
theorem d_P_firstOf_13 : decode prog_4_method_21_code 13 = .ok (.getfield 13, 3) := by decide +kernel
theorem d_P_firstOf_16 : decode prog_4_method_21_code 16 = .ok (.iload_n 1, 1) := by decide +kernel
theorem d_P_firstOf_17 : decode prog_4_method_21_code 17 = .ok (.iaload, 1) := by decide +kernel
theorem d_P_firstOf_18 : decode prog_4_method_21_code 18 = .ok (.iconst 1, 1) := by decide +kernel
theorem d_P_firstOf_19 : decode prog_4_method_21_code 19 = .ok (.iadd, 1) := by decide +kernel
theorem d_P_firstOf_20 : decode prog_4_method_21_code 20 = .ok (.iconst 2, 1) := by decide +kernel
theorem d_P_firstOf_21 : decode prog_4_method_21_code 21 = .ok (.invokevirtual 71, 3) := by decide +kernel
theorem d_P_firstOf_24 : decode prog_4_method_21_code 24 = .ok (.goto 4, 3) := by decide +kernel
theorem d_P_firstOf_27 : decode prog_4_method_21_code 27 = .ok (.iconst 0, 1) := by decide +kernel
theorem d_P_firstOf_28 : decode prog_4_method_21_code 28 = .ok (.ireturn, 1) := by decide +kernel
theorem d_P_spells_0 : decode prog_4_method_24_code 0 = .ok (.aload_n 0, 1) := by decide +kernel
theorem d_P_spells_1 : decode prog_4_method_24_code 1 = .ok (.iload_n 1, 1) := by decide +kernel
theorem d_P_spells_2 : decode prog_4_method_24_code 2 = .ok (.invokevirtual 84, 3) := by decide +kernel
theorem d_P_spells_5 : decode prog_4_method_24_code 5 = .ok (.aload_n 2, 1) := by decide +kernel
theorem d_P_spells_6 : decode prog_4_method_24_code 6 = .ok (.invokevirtual 153, 3) := by decide +kernel
theorem d_P_spells_9 : decode prog_4_method_24_code 9 = .ok (.if_icmp .eq 5, 3) := by decide +kernel
theorem d_P_spells_12 : decode prog_4_method_24_code 12 = .ok (.iconst 0, 1) := by decide +kernel
theorem d_P_spells_13 : decode prog_4_method_24_code 13 = .ok (.ireturn, 1) := by decide +kernel
theorem d_P_spells_14 : decode prog_4_method_24_code 14 = .ok (.iconst 0, 1) := by decide +kernel
theorem d_P_spells_15 : decode prog_4_method_24_code 15 = .ok (.istore_n 3, 1) := by decide +kernel
theorem d_P_spells_16 : decode prog_4_method_24_code 16 = .ok (.iload_n 3, 1) := by decide +kernel
theorem d_P_spells_17 : decode prog_4_method_24_code 17 = .ok (.aload_n 2, 1) := by decide +kernel
theorem d_P_spells_18 : decode prog_4_method_24_code 18 = .ok (.invokevirtual 153, 3) := by decide +kernel
theorem d_P_spells_21 : decode prog_4_method_24_code 21 = .ok (.if_icmp .ge 37, 3) := by decide +kernel
theorem d_P_spells_24 : decode prog_4_method_24_code 24 = .ok (.aload_n 0, 1) := by decide +kernel
theorem d_P_spells_25 : decode prog_4_method_24_code 25 = .ok (.getfield 25, 3) := by decide +kernel
theorem d_P_spells_28 : decode prog_4_method_24_code 28 = .ok (.aload_n 0, 1) := by decide +kernel
theorem d_P_spells_29 : decode prog_4_method_24_code 29 = .ok (.getfield 13, 3) := by decide +kernel
theorem d_P_spells_32 : decode prog_4_method_24_code 32 = .ok (.iload_n 1, 1) := by decide +kernel
theorem d_P_spells_33 : decode prog_4_method_24_code 33 = .ok (.iaload, 1) := by decide +kernel
theorem d_P_spells_34 : decode prog_4_method_24_code 34 = .ok (.iconst 3, 1) := by decide +kernel
theorem d_P_spells_35 : decode prog_4_method_24_code 35 = .ok (.iadd, 1) := by decide +kernel
theorem d_P_spells_36 : decode prog_4_method_24_code 36 = .ok (.iload_n 3, 1) := by decide +kernel
theorem d_P_spells_37 : decode prog_4_method_24_code 37 = .ok (.iadd, 1) := by decide +kernel
theorem d_P_spells_38 : decode prog_4_method_24_code 38 = .ok (.iconst 1, 1) := by decide +kernel
theorem d_P_spells_39 : decode prog_4_method_24_code 39 = .ok (.invokevirtual 71, 3) := by decide +kernel
theorem d_P_spells_42 : decode prog_4_method_24_code 42 = .ok (.aload_n 2, 1) := by decide +kernel
theorem d_P_spells_43 : decode prog_4_method_24_code 43 = .ok (.iload_n 3, 1) := by decide +kernel
theorem d_P_spells_44 : decode prog_4_method_24_code 44 = .ok (.invokevirtual 158, 3) := by decide +kernel
theorem d_P_spells_47 : decode prog_4_method_24_code 47 = .ok (.if_icmp .eq 5, 3) := by decide +kernel
theorem d_P_spells_50 : decode prog_4_method_24_code 50 = .ok (.iconst 0, 1) := by decide +kernel
theorem d_P_spells_51 : decode prog_4_method_24_code 51 = .ok (.ireturn, 1) := by decide +kernel
theorem d_P_spells_52 : decode prog_4_method_24_code 52 = .ok (.iinc 3 1, 3) := by decide +kernel
theorem d_P_spells_55 : decode prog_4_method_24_code 55 = .ok (.goto (-39), 3) := by decide +kernel
theorem d_P_spells_58 : decode prog_4_method_24_code 58 = .ok (.iconst 1, 1) := by decide +kernel
theorem d_P_spells_59 : decode prog_4_method_24_code 59 = .ok (.ireturn, 1) := by decide +kernel
theorem d_P_take_0 : decode prog_4_method_15_code 0 = .ok (.aload_n 0, 1) := by decide +kernel
theorem d_P_take_1 : decode prog_4_method_15_code 1 = .ok (.getfield 25, 3) := by decide +kernel
theorem d_P_take_4 : decode prog_4_method_15_code 4 = .ok (.getfield 44, 3) := by decide +kernel
theorem d_P_take_7 : decode prog_4_method_15_code 7 = .ok (.istore_n 2, 1) := by decide +kernel
theorem d_P_take_8 : decode prog_4_method_15_code 8 = .ok (.aload_n 0, 1) := by decide +kernel
theorem d_P_take_9 : decode prog_4_method_15_code 9 = .ok (.getfield 25, 3) := by decide +kernel
theorem d_P_take_12 : decode prog_4_method_15_code 12 = .ok (.iconst 2, 1) := by decide +kernel
theorem d_P_take_13 : decode prog_4_method_15_code 13 = .ok (.invokevirtual 48, 3) := by decide +kernel
theorem d_P_take_16 : decode prog_4_method_15_code 16 = .ok (.istore_n 3, 1) := by decide +kernel
theorem d_P_take_17 : decode prog_4_method_15_code 17 = .ok (.aload_n 0, 1) := by decide +kernel
theorem d_P_take_18 : decode prog_4_method_15_code 18 = .ok (.getfield 25, 3) := by decide +kernel
theorem d_P_take_21 : decode prog_4_method_15_code 21 = .ok (.aload_n 0, 1) := by decide +kernel
theorem d_P_take_22 : decode prog_4_method_15_code 22 = .ok (.iload_n 3, 1) := by decide +kernel
theorem d_P_take_23 : decode prog_4_method_15_code 23 = .ok (.invokevirtual 146, 3) := by decide +kernel
theorem d_P_take_26 : decode prog_4_method_15_code 26 = .ok (.iload_n 1, 1) := by decide +kernel
theorem d_P_take_27 : decode prog_4_method_15_code 27 = .ok (.if_icmp .ne 7, 3) := by decide +kernel
theorem d_P_take_30 : decode prog_4_method_15_code 30 = .ok (.iconst 1, 1) := by decide +kernel
theorem d_P_take_31 : decode prog_4_method_15_code 31 = .ok (.goto 4, 3) := by decide +kernel
theorem d_P_take_34 : decode prog_4_method_15_code 34 = .ok (.iconst 0, 1) := by decide +kernel
theorem d_P_take_35 : decode prog_4_method_15_code 35 = .ok (.bipush 8, 2) := by decide +kernel
theorem d_P_take_37 : decode prog_4_method_15_code 37 = .ok (.iload_n 2, 1) := by decide +kernel
theorem d_P_take_38 : decode prog_4_method_15_code 38 = .ok (.invokevirtual 52, 3) := by decide +kernel
theorem d_P_take_41 : decode prog_4_method_15_code 41 = .ok (.iload_n 3, 1) := by decide +kernel
theorem d_P_take_42 : decode prog_4_method_15_code 42 = .ok (.ireturn, 1) := by decide +kernel
theorem d_P_alike_0 : decode prog_4_method_25_code 0 = .ok (.iload_n 1, 1) := by decide +kernel
theorem d_P_alike_1 : decode prog_4_method_25_code 1 = .ok (.iload_n 2, 1) := by decide +kernel
theorem d_P_alike_2 : decode prog_4_method_25_code 2 = .ok (.if_icmp .eq 34, 3) := by decide +kernel
theorem d_P_alike_5 : decode prog_4_method_25_code 5 = .ok (.aload_n 0, 1) := by decide +kernel
theorem d_P_alike_6 : decode prog_4_method_25_code 6 = .ok (.iload_n 1, 1) := by decide +kernel
theorem d_P_alike_7 : decode prog_4_method_25_code 7 = .ok (.invokevirtual 149, 3) := by decide +kernel
theorem d_P_alike_10 : decode prog_4_method_25_code 10 = .ok (.ifCond .eq 26, 3) := by decide +kernel
theorem d_P_alike_13 : decode prog_4_method_25_code 13 = .ok (.aload_n 0, 1) := by decide +kernel
theorem d_P_alike_14 : decode prog_4_method_25_code 14 = .ok (.iload_n 2, 1) := by decide +kernel
theorem d_P_alike_15 : decode prog_4_method_25_code 15 = .ok (.invokevirtual 149, 3) := by decide +kernel
theorem d_P_alike_18 : decode prog_4_method_25_code 18 = .ok (.ifCond .eq 18, 3) := by decide +kernel
theorem d_P_alike_21 : decode prog_4_method_25_code 21 = .ok (.aload_n 0, 1) := by decide +kernel
theorem d_P_alike_22 : decode prog_4_method_25_code 22 = .ok (.getfield 22, 3) := by decide +kernel
theorem d_P_alike_25 : decode prog_4_method_25_code 25 = .ok (.iload_n 1, 1) := by decide +kernel
theorem d_P_alike_26 : decode prog_4_method_25_code 26 = .ok (.iaload, 1) := by decide +kernel
theorem d_P_alike_27 : decode prog_4_method_25_code 27 = .ok (.aload_n 0, 1) := by decide +kernel
theorem d_P_alike_28 : decode prog_4_method_25_code 28 = .ok (.getfield 22, 3) := by decide +kernel
theorem d_P_alike_31 : decode prog_4_method_25_code 31 = .ok (.iload_n 2, 1) := by decide +kernel
theorem d_P_alike_32 : decode prog_4_method_25_code 32 = .ok (.iaload, 1) := by decide +kernel
theorem d_P_alike_33 : decode prog_4_method_25_code 33 = .ok (.if_icmp .eq 14, 3) := by decide +kernel
theorem d_P_alike_36 : decode prog_4_method_25_code 36 = .ok (.iload_n 1, 1) := by decide +kernel
theorem d_P_alike_37 : decode prog_4_method_25_code 37 = .ok (.iload_n 2, 1) := by decide +kernel
theorem d_P_alike_38 : decode prog_4_method_25_code 38 = .ok (.if_icmp .ne 7, 3) := by decide +kernel
theorem d_P_alike_41 : decode prog_4_method_25_code 41 = .ok (.iconst 1, 1) := by decide +kernel
theorem d_P_alike_42 : decode prog_4_method_25_code 42 = .ok (.goto 4, 3) := by decide +kernel
theorem d_P_alike_45 : decode prog_4_method_25_code 45 = .ok (.iconst 0, 1) := by decide +kernel
theorem d_P_alike_46 : decode prog_4_method_25_code 46 = .ok (.ireturn, 1) := by decide +kernel
theorem d_P_alike_47 : decode prog_4_method_25_code 47 = .ok (.aload_n 0, 1) := by decide +kernel
theorem d_P_alike_48 : decode prog_4_method_25_code 48 = .ok (.iload_n 1, 1) := by decide +kernel
theorem d_P_alike_49 : decode prog_4_method_25_code 49 = .ok (.invokevirtual 84, 3) := by decide +kernel
theorem d_P_alike_52 : decode prog_4_method_25_code 52 = .ok (.istore_n 3, 1) := by decide +kernel
theorem d_P_alike_53 : decode prog_4_method_25_code 53 = .ok (.iload_n 3, 1) := by decide +kernel
theorem d_P_alike_54 : decode prog_4_method_25_code 54 = .ok (.aload_n 0, 1) := by decide +kernel
theorem d_P_alike_55 : decode prog_4_method_25_code 55 = .ok (.iload_n 2, 1) := by decide +kernel
theorem d_P_alike_56 : decode prog_4_method_25_code 56 = .ok (.invokevirtual 84, 3) := by decide +kernel
theorem d_P_alike_59 : decode prog_4_method_25_code 59 = .ok (.if_icmp .eq 5, 3) := by decide +kernel
theorem d_P_alike_62 : decode prog_4_method_25_code 62 = .ok (.iconst 0, 1) := by decide +kernel
theorem d_P_alike_63 : decode prog_4_method_25_code 63 = .ok (.ireturn, 1) := by decide +kernel
theorem d_P_alike_64 : decode prog_4_method_25_code 64 = .ok (.iconst 0, 1) := by decide +kernel
theorem d_P_alike_65 : decode prog_4_method_25_code 65 = .ok (.istore 4, 2) := by decide +kernel
theorem d_P_alike_67 : decode prog_4_method_25_code 67 = .ok (.iload 4, 2) := by decide +kernel
theorem d_P_alike_69 : decode prog_4_method_25_code 69 = .ok (.iload_n 3, 1) := by decide +kernel
theorem d_P_alike_70 : decode prog_4_method_25_code 70 = .ok (.if_icmp .ge 56, 3) := by decide +kernel
theorem d_P_alike_73 : decode prog_4_method_25_code 73 = .ok (.aload_n 0, 1) := by decide +kernel
theorem d_P_alike_74 : decode prog_4_method_25_code 74 = .ok (.getfield 25, 3) := by decide +kernel
theorem d_P_alike_77 : decode prog_4_method_25_code 77 = .ok (.aload_n 0, 1) := by decide +kernel
theorem d_P_alike_78 : decode prog_4_method_25_code 78 = .ok (.getfield 13, 3) := by decide +kernel
theorem d_P_alike_81 : decode prog_4_method_25_code 81 = .ok (.iload_n 1, 1) := by decide +kernel
theorem d_P_alike_82 : decode prog_4_method_25_code 82 = .ok (.iaload, 1) := by decide +kernel
theorem d_P_alike_83 : decode prog_4_method_25_code 83 = .ok (.iconst 3, 1) := by decide +kernel
theorem d_P_alike_84 : decode prog_4_method_25_code 84 = .ok (.iadd, 1) := by decide +kernel
theorem d_P_alike_85 : decode prog_4_method_25_code 85 = .ok (.iload 4, 2) := by decide +kernel
theorem d_P_alike_87 : decode prog_4_method_25_code 87 = .ok (.iadd, 1) := by decide +kernel
theorem d_P_alike_88 : decode prog_4_method_25_code 88 = .ok (.iconst 1, 1) := by decide +kernel
theorem d_P_alike_89 : decode prog_4_method_25_code 89 = .ok (.invokevirtual 71, 3) := by decide +kernel
theorem d_P_alike_92 : decode prog_4_method_25_code 92 = .ok (.istore 5, 2) := by decide +kernel
theorem d_P_alike_94 : decode prog_4_method_25_code 94 = .ok (.iload 5, 2) := by decide +kernel
theorem d_P_alike_96 : decode prog_4_method_25_code 96 = .ok (.aload_n 0, 1) := by decide +kernel
theorem d_P_alike_97 : decode prog_4_method_25_code 97 = .ok (.getfield 25, 3) := by decide +kernel
theorem d_P_alike_100 : decode prog_4_method_25_code 100 = .ok (.aload_n 0, 1) := by decide +kernel
theorem d_P_alike_101 : decode prog_4_method_25_code 101 = .ok (.getfield 13, 3) := by decide +kernel
theorem d_P_alike_104 : decode prog_4_method_25_code 104 = .ok (.iload_n 2, 1) := by decide +kernel
theorem d_P_alike_105 : decode prog_4_method_25_code 105 = .ok (.iaload, 1) := by decide +kernel
theorem d_P_alike_106 : decode prog_4_method_25_code 106 = .ok (.iconst 3, 1) := by decide +kernel
theorem d_P_alike_107 : decode prog_4_method_25_code 107 = .ok (.iadd, 1) := by decide +kernel
theorem d_P_alike_108 : decode prog_4_method_25_code 108 = .ok (.iload 4, 2) := by decide +kernel
theorem d_P_alike_110 : decode prog_4_method_25_code 110 = .ok (.iadd, 1) := by decide +kernel
theorem d_P_alike_111 : decode prog_4_method_25_code 111 = .ok (.iconst 1, 1) := by decide +kernel
theorem d_P_alike_112 : decode prog_4_method_25_code 112 = .ok (.invokevirtual 71, 3) := by decide +kernel
theorem d_P_alike_115 : decode prog_4_method_25_code 115 = .ok (.if_icmp .eq 5, 3) := by decide +kernel
theorem d_P_alike_118 : decode prog_4_method_25_code 118 = .ok (.iconst 0, 1) := by decide +kernel
theorem d_P_alike_119 : decode prog_4_method_25_code 119 = .ok (.ireturn, 1) := by decide +kernel
theorem d_P_alike_120 : decode prog_4_method_25_code 120 = .ok (.iinc 4 1, 3) := by decide +kernel
theorem d_P_alike_123 : decode prog_4_method_25_code 123 = .ok (.goto (-56), 3) := by decide +kernel
theorem d_P_alike_126 : decode prog_4_method_25_code 126 = .ok (.iconst 1, 1) := by decide +kernel
theorem d_P_alike_127 : decode prog_4_method_25_code 127 = .ok (.ireturn, 1) := by decide +kernel
theorem d_P_needType_0 : decode prog_4_method_16_code 0 = .ok (.aload_n 0, 1) := by decide +kernel
theorem d_P_needType_1 : decode prog_4_method_16_code 1 = .ok (.getfield 25, 3) := by decide +kernel
theorem d_P_needType_4 : decode prog_4_method_16_code 4 = .ok (.aload_n 0, 1) := by decide +kernel
theorem d_P_needType_5 : decode prog_4_method_16_code 5 = .ok (.iload_n 1, 1) := by decide +kernel
theorem d_P_needType_6 : decode prog_4_method_16_code 6 = .ok (.invokevirtual 129, 3) := by decide +kernel
theorem d_P_needType_9 : decode prog_4_method_16_code 9 = .ok (.iload_n 2, 1) := by decide +kernel
theorem d_P_needType_10 : decode prog_4_method_16_code 10 = .ok (.iand, 1) := by decide +kernel
theorem d_P_needType_11 : decode prog_4_method_16_code 11 = .ok (.ifCond .eq 7, 3) := by decide +kernel
theorem d_P_needType_14 : decode prog_4_method_16_code 14 = .ok (.iconst 1, 1) := by decide +kernel
theorem d_P_needType_15 : decode prog_4_method_16_code 15 = .ok (.goto 4, 3) := by decide +kernel
theorem d_P_needType_18 : decode prog_4_method_16_code 18 = .ok (.iconst 0, 1) := by decide +kernel
theorem d_P_needType_19 : decode prog_4_method_16_code 19 = .ok (.bipush 11, 2) := by decide +kernel
theorem d_P_needType_21 : decode prog_4_method_16_code 21 = .ok (.iload_n 3, 1) := by decide +kernel
theorem d_P_needType_22 : decode prog_4_method_16_code 22 = .ok (.invokevirtual 52, 3) := by decide +kernel
theorem d_P_needType_25 : decode prog_4_method_16_code 25 = .ok (.aload_n 0, 1) := by decide +kernel
theorem d_P_needType_26 : decode prog_4_method_16_code 26 = .ok (.getfield 25, 3) := by decide +kernel
theorem d_P_needType_29 : decode prog_4_method_16_code 29 = .ok (.aload_n 0, 1) := by decide +kernel
theorem d_P_needType_30 : decode prog_4_method_16_code 30 = .ok (.iload_n 1, 1) := by decide +kernel
theorem d_P_needType_31 : decode prog_4_method_16_code 31 = .ok (.invokevirtual 129, 3) := by decide +kernel
theorem d_P_needType_34 : decode prog_4_method_16_code 34 = .ok (.bipush 64, 2) := by decide +kernel
theorem d_P_needType_36 : decode prog_4_method_16_code 36 = .ok (.iand, 1) := by decide +kernel
theorem d_P_needType_37 : decode prog_4_method_16_code 37 = .ok (.ifCond .ne 7, 3) := by decide +kernel
theorem d_P_needType_40 : decode prog_4_method_16_code 40 = .ok (.iconst 1, 1) := by decide +kernel
theorem d_P_needType_41 : decode prog_4_method_16_code 41 = .ok (.goto 4, 3) := by decide +kernel
theorem d_P_needType_44 : decode prog_4_method_16_code 44 = .ok (.iconst 0, 1) := by decide +kernel
theorem d_P_needType_45 : decode prog_4_method_16_code 45 = .ok (.bipush 12, 2) := by decide +kernel
theorem d_P_needType_47 : decode prog_4_method_16_code 47 = .ok (.iload_n 3, 1) := by decide +kernel
theorem d_P_needType_48 : decode prog_4_method_16_code 48 = .ok (.invokevirtual 52, 3) := by decide +kernel
theorem d_P_needType_51 : decode prog_4_method_16_code 51 = .ok (.return_, 1) := by decide +kernel
theorem d_D_nameFacts_0 : decode prog_7_method_2_code 0 = .ok (.iconst 0, 1) := by decide +kernel
theorem d_D_nameFacts_1 : decode prog_7_method_2_code 1 = .ok (.istore_n 3, 1) := by decide +kernel
theorem d_D_nameFacts_2 : decode prog_7_method_2_code 2 = .ok (.iconst 3, 1) := by decide +kernel
theorem d_D_nameFacts_3 : decode prog_7_method_2_code 3 = .ok (.istore 4, 2) := by decide +kernel
theorem d_D_nameFacts_5 : decode prog_7_method_2_code 5 = .ok (.iload_n 1, 1) := by decide +kernel
theorem d_D_nameFacts_6 : decode prog_7_method_2_code 6 = .ok (.istore 5, 2) := by decide +kernel
theorem d_D_nameFacts_8 : decode prog_7_method_2_code 8 = .ok (.iload 5, 2) := by decide +kernel
theorem d_D_nameFacts_10 : decode prog_7_method_2_code 10 = .ok (.iload_n 2, 1) := by decide +kernel
theorem d_D_nameFacts_11 : decode prog_7_method_2_code 11 = .ok (.if_icmp .ge 94, 3) := by decide +kernel
theorem d_D_nameFacts_14 : decode prog_7_method_2_code 14 = .ok (.aload_n 0, 1) := by decide +kernel
theorem d_D_nameFacts_15 : decode prog_7_method_2_code 15 = .ok (.getfield 9, 3) := by decide +kernel
theorem d_D_nameFacts_18 : decode prog_7_method_2_code 18 = .ok (.iload 5, 2) := by decide +kernel
theorem d_D_nameFacts_20 : decode prog_7_method_2_code 20 = .ok (.baload, 1) := by decide +kernel
theorem d_D_nameFacts_21 : decode prog_7_method_2_code 21 = .ok (.lookupswitch 75 #[(46, 73), (47, 59), (59, 73), (60, 73), (62, 73), (91, 73)], 59) := by decide +kernel
theorem d_D_nameFacts_80 : decode prog_7_method_2_code 80 = .ok (.iload_n 3, 1) := by decide +kernel
theorem d_D_nameFacts_81 : decode prog_7_method_2_code 81 = .ok (.ifCond .ne 5, 3) := by decide +kernel
theorem d_D_nameFacts_84 : decode prog_7_method_2_code 84 = .ok (.iconst 0, 1) := by decide +kernel
theorem d_D_nameFacts_85 : decode prog_7_method_2_code 85 = .ok (.ireturn, 1) := by decide +kernel
theorem d_D_nameFacts_86 : decode prog_7_method_2_code 86 = .ok (.iconst 0, 1) := by decide +kernel
theorem d_D_nameFacts_87 : decode prog_7_method_2_code 87 = .ok (.istore_n 3, 1) := by decide +kernel
theorem d_D_nameFacts_88 : decode prog_7_method_2_code 88 = .ok (.iconst 2, 1) := by decide +kernel
theorem d_D_nameFacts_89 : decode prog_7_method_2_code 89 = .ok (.istore 4, 2) := by decide +kernel
theorem d_D_nameFacts_91 : decode prog_7_method_2_code 91 = .ok (.goto 8, 3) := by decide +kernel
theorem d_D_nameFacts_94 : decode prog_7_method_2_code 94 = .ok (.iconst 0, 1) := by decide +kernel
theorem d_D_nameFacts_95 : decode prog_7_method_2_code 95 = .ok (.ireturn, 1) := by decide +kernel
theorem d_D_nameFacts_96 : decode prog_7_method_2_code 96 = .ok (.iinc 3 1, 3) := by decide +kernel
theorem d_D_nameFacts_99 : decode prog_7_method_2_code 99 = .ok (.iinc 5 1, 3) := by decide +kernel
theorem d_D_nameFacts_102 : decode prog_7_method_2_code 102 = .ok (.goto (-94), 3) := by decide +kernel
theorem d_D_nameFacts_105 : decode prog_7_method_2_code 105 = .ok (.iload_n 3, 1) := by decide +kernel
theorem d_D_nameFacts_106 : decode prog_7_method_2_code 106 = .ok (.ifCond .ne 7, 3) := by decide +kernel
theorem d_D_nameFacts_109 : decode prog_7_method_2_code 109 = .ok (.iconst 0, 1) := by decide +kernel
theorem d_D_nameFacts_110 : decode prog_7_method_2_code 110 = .ok (.goto 5, 3) := by decide +kernel
theorem d_D_nameFacts_113 : decode prog_7_method_2_code 113 = .ok (.iload 4, 2) := by decide +kernel
theorem d_D_nameFacts_115 : decode prog_7_method_2_code 115 = .ok (.ireturn, 1) := by decide +kernel
theorem d_D_slotsOf_0 : decode prog_7_method_4_code 0 = .ok (.iload_n 0, 1) := by decide +kernel
theorem d_D_slotsOf_1 : decode prog_7_method_4_code 1 = .ok (.bipush 8, 2) := by decide +kernel
theorem d_D_slotsOf_3 : decode prog_7_method_4_code 3 = .ok (.ishr, 1) := by decide +kernel
theorem d_D_slotsOf_4 : decode prog_7_method_4_code 4 = .ok (.ireturn, 1) := by decide +kernel
theorem d_D_floatFacts_0 : decode prog_7_method_9_code 0 = .ok (.aload_n 0, 1) := by decide +kernel
theorem d_D_floatFacts_1 : decode prog_7_method_9_code 1 = .ok (.getfield 9, 3) := by decide +kernel
theorem d_D_floatFacts_4 : decode prog_7_method_9_code 4 = .ok (.iload_n 1, 1) := by decide +kernel
theorem d_D_floatFacts_5 : decode prog_7_method_9_code 5 = .ok (.iconst 1, 1) := by decide +kernel
theorem d_D_floatFacts_6 : decode prog_7_method_9_code 6 = .ok (.isub, 1) := by decide +kernel
theorem d_D_floatFacts_7 : decode prog_7_method_9_code 7 = .ok (.baload, 1) := by decide +kernel
theorem d_D_floatFacts_8 : decode prog_7_method_9_code 8 = .ok (.bipush 70, 2) := by decide +kernel
theorem d_D_floatFacts_10 : decode prog_7_method_9_code 10 = .ok (.if_icmp .eq 16, 3) := by decide +kernel
theorem d_D_floatFacts_13 : decode prog_7_method_9_code 13 = .ok (.aload_n 0, 1) := by decide +kernel
theorem d_D_floatFacts_14 : decode prog_7_method_9_code 14 = .ok (.getfield 9, 3) := by decide +kernel
theorem d_D_floatFacts_17 : decode prog_7_method_9_code 17 = .ok (.iload_n 1, 1) := by decide +kernel
theorem d_D_floatFacts_18 : decode prog_7_method_9_code 18 = .ok (.iconst 1, 1) := by decide +kernel
theorem d_D_floatFacts_19 : decode prog_7_method_9_code 19 = .ok (.isub, 1) := by decide +kernel
theorem d_D_floatFacts_20 : decode prog_7_method_9_code 20 = .ok (.baload, 1) := by decide +kernel
theorem d_D_floatFacts_21 : decode prog_7_method_9_code 21 = .ok (.bipush 68, 2) := by decide +kernel
theorem d_D_floatFacts_23 : decode prog_7_method_9_code 23 = .ok (.if_icmp .ne 8, 3) := by decide +kernel
theorem d_D_floatFacts_26 : decode prog_7_method_9_code 26 = .ok (.bipush 64, 2) := by decide +kernel
theorem d_D_floatFacts_28 : decode prog_7_method_9_code 28 = .ok (.goto 4, 3) := by decide +kernel
theorem d_D_floatFacts_31 : decode prog_7_method_9_code 31 = .ok (.iconst 0, 1) := by decide +kernel
theorem d_D_floatFacts_32 : decode prog_7_method_9_code 32 = .ok (.ireturn, 1) := by decide +kernel
theorem d_D_slotsBetween_0 : decode prog_7_method_10_code 0 = .ok (.iload_n 2, 1) := by decide +kernel
theorem d_D_slotsBetween_1 : decode prog_7_method_10_code 1 = .ok (.iload_n 1, 1) := by decide +kernel
theorem d_D_slotsBetween_2 : decode prog_7_method_10_code 2 = .ok (.isub, 1) := by decide +kernel
theorem d_D_slotsBetween_3 : decode prog_7_method_10_code 3 = .ok (.iconst 1, 1) := by decide +kernel
theorem d_D_slotsBetween_4 : decode prog_7_method_10_code 4 = .ok (.if_icmp .ne 18, 3) := by decide +kernel
theorem d_D_slotsBetween_7 : decode prog_7_method_10_code 7 = .ok (.aload_n 0, 1) := by decide +kernel
theorem d_D_slotsBetween_8 : decode prog_7_method_10_code 8 = .ok (.getfield 9, 3) := by decide +kernel
theorem d_D_slotsBetween_11 : decode prog_7_method_10_code 11 = .ok (.iload_n 1, 1) := by decide +kernel
theorem d_D_slotsBetween_12 : decode prog_7_method_10_code 12 = .ok (.baload, 1) := by decide +kernel
theorem d_D_slotsBetween_13 : decode prog_7_method_10_code 13 = .ok (.bipush 74, 2) := by decide +kernel
theorem d_D_slotsBetween_15 : decode prog_7_method_10_code 15 = .ok (.if_icmp .ne 7, 3) := by decide +kernel
theorem d_D_slotsBetween_18 : decode prog_7_method_10_code 18 = .ok (.iconst 2, 1) := by decide +kernel
theorem d_D_slotsBetween_19 : decode prog_7_method_10_code 19 = .ok (.goto 4, 3) := by decide +kernel
theorem d_D_slotsBetween_22 : decode prog_7_method_10_code 22 = .ok (.iconst 1, 1) := by decide +kernel
theorem d_D_slotsBetween_23 : decode prog_7_method_10_code 23 = .ok (.ireturn, 1) := by decide +kernel
theorem d_D_isSimple_0 : decode prog_7_method_8_code 0 = .ok (.iload_n 0, 1) := by decide +kernel
theorem d_D_isSimple_1 : decode prog_7_method_8_code 1 = .ok (.tableswitch 117 66 90 #[115, 115, 115, 117, 115, 117, 117, 115, 115, 117, 117, 117, 117, 117, 117, 117, 117, 115, 117, 117, 117, 117, 117, 117, 115], 115) := by decide +kernel
theorem d_D_isSimple_116 : decode prog_7_method_8_code 116 = .ok (.iconst 1, 1) := by decide +kernel
theorem d_D_isSimple_117 : decode prog_7_method_8_code 117 = .ok (.ireturn, 1) := by decide +kernel
theorem d_D_isSimple_118 : decode prog_7_method_8_code 118 = .ok (.iconst 0, 1) := by decide +kernel
theorem d_D_isSimple_119 : decode prog_7_method_8_code 119 = .ok (.ireturn, 1) := by decide +kernel
theorem d_D_typeEnd_0 : decode prog_7_method_7_code 0 = .ok (.iload_n 1, 1) := by decide +kernel
theorem d_D_typeEnd_1 : decode prog_7_method_7_code 1 = .ok (.istore_n 3, 1) := by decide +kernel
theorem d_D_typeEnd_2 : decode prog_7_method_7_code 2 = .ok (.iload_n 3, 1) := by decide +kernel
theorem d_D_typeEnd_3 : decode prog_7_method_7_code 3 = .ok (.iload_n 2, 1) := by decide +kernel
theorem d_D_typeEnd_4 : decode prog_7_method_7_code 4 = .ok (.if_icmp .ge 20, 3) := by decide +kernel
theorem d_D_typeEnd_7 : decode prog_7_method_7_code 7 = .ok (.aload_n 0, 1) := by decide +kernel
theorem d_D_typeEnd_8 : decode prog_7_method_7_code 8 = .ok (.getfield 9, 3) := by decide +kernel
theorem d_D_typeEnd_11 : decode prog_7_method_7_code 11 = .ok (.iload_n 3, 1) := by decide +kernel
theorem d_D_typeEnd_12 : decode prog_7_method_7_code 12 = .ok (.baload, 1) := by decide +kernel
theorem d_D_typeEnd_13 : decode prog_7_method_7_code 13 = .ok (.bipush 91, 2) := by decide +kernel
theorem d_D_typeEnd_15 : decode prog_7_method_7_code 15 = .ok (.if_icmp .ne 9, 3) := by decide +kernel
theorem d_D_typeEnd_18 : decode prog_7_method_7_code 18 = .ok (.iinc 3 1, 3) := by decide +kernel
theorem d_D_typeEnd_21 : decode prog_7_method_7_code 21 = .ok (.goto (-19), 3) := by decide +kernel
theorem d_D_typeEnd_24 : decode prog_7_method_7_code 24 = .ok (.iload_n 3, 1) := by decide +kernel
theorem d_D_typeEnd_25 : decode prog_7_method_7_code 25 = .ok (.iload_n 2, 1) := by decide +kernel
theorem d_D_typeEnd_26 : decode prog_7_method_7_code 26 = .ok (.if_icmp .ge 11, 3) := by decide +kernel
theorem d_D_typeEnd_29 : decode prog_7_method_7_code 29 = .ok (.iload_n 3, 1) := by decide +kernel
theorem d_D_typeEnd_30 : decode prog_7_method_7_code 30 = .ok (.iload_n 1, 1) := by decide +kernel
theorem d_D_typeEnd_31 : decode prog_7_method_7_code 31 = .ok (.isub, 1) := by decide +kernel
theorem d_D_typeEnd_32 : decode prog_7_method_7_code 32 = .ok (.bipush 8, 2) := by decide +kernel
theorem d_D_typeEnd_34 : decode prog_7_method_7_code 34 = .ok (.if_icmp .le 5, 3) := by decide +kernel
theorem d_D_typeEnd_37 : decode prog_7_method_7_code 37 = .ok (.iconst (-1), 1) := by decide +kernel
theorem d_D_typeEnd_38 : decode prog_7_method_7_code 38 = .ok (.ireturn, 1) := by decide +kernel
theorem d_D_typeEnd_39 : decode prog_7_method_7_code 39 = .ok (.aload_n 0, 1) := by decide +kernel
theorem d_D_typeEnd_40 : decode prog_7_method_7_code 40 = .ok (.getfield 9, 3) := by decide +kernel
theorem d_D_typeEnd_43 : decode prog_7_method_7_code 43 = .ok (.iload_n 3, 1) := by decide +kernel
theorem d_D_typeEnd_44 : decode prog_7_method_7_code 44 = .ok (.baload, 1) := by decide +kernel
theorem d_D_typeEnd_45 : decode prog_7_method_7_code 45 = .ok (.bipush 76, 2) := by decide +kernel
theorem d_D_typeEnd_47 : decode prog_7_method_7_code 47 = .ok (.if_icmp .eq 23, 3) := by decide +kernel
theorem d_D_typeEnd_50 : decode prog_7_method_7_code 50 = .ok (.aload_n 0, 1) := by decide +kernel
theorem d_D_typeEnd_51 : decode prog_7_method_7_code 51 = .ok (.getfield 9, 3) := by decide +kernel
theorem d_D_typeEnd_54 : decode prog_7_method_7_code 54 = .ok (.iload_n 3, 1) := by decide +kernel
theorem d_D_typeEnd_55 : decode prog_7_method_7_code 55 = .ok (.baload, 1) := by decide +kernel
theorem d_D_typeEnd_56 : decode prog_7_method_7_code 56 = .ok (.invokestatic 27, 3) := by decide +kernel
theorem d_D_typeEnd_59 : decode prog_7_method_7_code 59 = .ok (.ifCond .eq 9, 3) := by decide +kernel
theorem d_D_typeEnd_62 : decode prog_7_method_7_code 62 = .ok (.iload_n 3, 1) := by decide +kernel
theorem d_D_typeEnd_63 : decode prog_7_method_7_code 63 = .ok (.iconst 1, 1) := by decide +kernel
theorem d_D_typeEnd_64 : decode prog_7_method_7_code 64 = .ok (.iadd, 1) := by decide +kernel
theorem d_D_typeEnd_65 : decode prog_7_method_7_code 65 = .ok (.goto 4, 3) := by decide +kernel
theorem d_D_typeEnd_68 : decode prog_7_method_7_code 68 = .ok (.iconst (-1), 1) := by decide +kernel
theorem d_D_typeEnd_69 : decode prog_7_method_7_code 69 = .ok (.ireturn, 1) := by decide +kernel
theorem d_D_typeEnd_70 : decode prog_7_method_7_code 70 = .ok (.iload_n 3, 1) := by decide +kernel
theorem d_D_typeEnd_71 : decode prog_7_method_7_code 71 = .ok (.iconst 1, 1) := by decide +kernel
theorem d_D_typeEnd_72 : decode prog_7_method_7_code 72 = .ok (.iadd, 1) := by decide +kernel
theorem d_D_typeEnd_73 : decode prog_7_method_7_code 73 = .ok (.istore 4, 2) := by decide +kernel
theorem d_D_typeEnd_75 : decode prog_7_method_7_code 75 = .ok (.iload_n 3, 1) := by decide +kernel
theorem d_D_typeEnd_76 : decode prog_7_method_7_code 76 = .ok (.iload_n 2, 1) := by decide +kernel
theorem d_D_typeEnd_77 : decode prog_7_method_7_code 77 = .ok (.if_icmp .ge 20, 3) := by decide +kernel
theorem d_D_typeEnd_80 : decode prog_7_method_7_code 80 = .ok (.aload_n 0, 1) := by decide +kernel
theorem d_D_typeEnd_81 : decode prog_7_method_7_code 81 = .ok (.getfield 9, 3) := by decide +kernel
theorem d_D_typeEnd_84 : decode prog_7_method_7_code 84 = .ok (.iload_n 3, 1) := by decide +kernel
theorem d_D_typeEnd_85 : decode prog_7_method_7_code 85 = .ok (.baload, 1) := by decide +kernel
theorem d_D_typeEnd_86 : decode prog_7_method_7_code 86 = .ok (.bipush 59, 2) := by decide +kernel
theorem d_D_typeEnd_88 : decode prog_7_method_7_code 88 = .ok (.if_icmp .eq 9, 3) := by decide +kernel
theorem d_D_typeEnd_91 : decode prog_7_method_7_code 91 = .ok (.iinc 3 1, 3) := by decide +kernel
theorem d_D_typeEnd_94 : decode prog_7_method_7_code 94 = .ok (.goto (-19), 3) := by decide +kernel
theorem d_D_typeEnd_97 : decode prog_7_method_7_code 97 = .ok (.iload_n 3, 1) := by decide +kernel
theorem d_D_typeEnd_98 : decode prog_7_method_7_code 98 = .ok (.iload_n 2, 1) := by decide +kernel
theorem d_D_typeEnd_99 : decode prog_7_method_7_code 99 = .ok (.if_icmp .ge 19, 3) := by decide +kernel
theorem d_D_typeEnd_102 : decode prog_7_method_7_code 102 = .ok (.aload_n 0, 1) := by decide +kernel
theorem d_D_typeEnd_103 : decode prog_7_method_7_code 103 = .ok (.iload 4, 2) := by decide +kernel
theorem d_D_typeEnd_105 : decode prog_7_method_7_code 105 = .ok (.iload_n 3, 1) := by decide +kernel
theorem d_D_typeEnd_106 : decode prog_7_method_7_code 106 = .ok (.invokevirtual 31, 3) := by decide +kernel
theorem d_D_typeEnd_109 : decode prog_7_method_7_code 109 = .ok (.ifCond .eq 9, 3) := by decide +kernel
theorem d_D_typeEnd_112 : decode prog_7_method_7_code 112 = .ok (.iload_n 3, 1) := by decide +kernel
theorem d_D_typeEnd_113 : decode prog_7_method_7_code 113 = .ok (.iconst 1, 1) := by decide +kernel
theorem d_D_typeEnd_114 : decode prog_7_method_7_code 114 = .ok (.iadd, 1) := by decide +kernel
theorem d_D_typeEnd_115 : decode prog_7_method_7_code 115 = .ok (.goto 4, 3) := by decide +kernel
theorem d_D_typeEnd_118 : decode prog_7_method_7_code 118 = .ok (.iconst (-1), 1) := by decide +kernel
theorem d_D_typeEnd_119 : decode prog_7_method_7_code 119 = .ok (.ireturn, 1) := by decide +kernel
theorem d_D_methodFacts_0 : decode prog_7_method_6_code 0 = .ok (.bipush 32, 2) := by decide +kernel
theorem d_D_methodFacts_2 : decode prog_7_method_6_code 2 = .ok (.istore_n 3, 1) := by decide +kernel
theorem d_D_methodFacts_3 : decode prog_7_method_6_code 3 = .ok (.iconst 0, 1) := by decide +kernel
theorem d_D_methodFacts_4 : decode prog_7_method_6_code 4 = .ok (.istore 4, 2) := by decide +kernel
theorem d_D_methodFacts_6 : decode prog_7_method_6_code 6 = .ok (.iload_n 1, 1) := by decide +kernel
theorem d_D_methodFacts_7 : decode prog_7_method_6_code 7 = .ok (.istore 5, 2) := by decide +kernel
theorem d_D_methodFacts_9 : decode prog_7_method_6_code 9 = .ok (.iload 5, 2) := by decide +kernel
theorem d_D_methodFacts_11 : decode prog_7_method_6_code 11 = .ok (.iload_n 2, 1) := by decide +kernel
theorem d_D_methodFacts_12 : decode prog_7_method_6_code 12 = .ok (.if_icmp .ge 62, 3) := by decide +kernel
theorem d_D_methodFacts_15 : decode prog_7_method_6_code 15 = .ok (.aload_n 0, 1) := by decide +kernel
theorem d_D_methodFacts_16 : decode prog_7_method_6_code 16 = .ok (.getfield 9, 3) := by decide +kernel
theorem d_D_methodFacts_19 : decode prog_7_method_6_code 19 = .ok (.iload 5, 2) := by decide +kernel
theorem d_D_methodFacts_21 : decode prog_7_method_6_code 21 = .ok (.baload, 1) := by decide +kernel
theorem d_D_methodFacts_22 : decode prog_7_method_6_code 22 = .ok (.bipush 41, 2) := by decide +kernel
theorem d_D_methodFacts_24 : decode prog_7_method_6_code 24 = .ok (.if_icmp .eq 50, 3) := by decide +kernel
theorem d_D_methodFacts_27 : decode prog_7_method_6_code 27 = .ok (.aload_n 0, 1) := by decide +kernel
theorem d_D_methodFacts_28 : decode prog_7_method_6_code 28 = .ok (.iload 5, 2) := by decide +kernel
theorem d_D_methodFacts_30 : decode prog_7_method_6_code 30 = .ok (.iload_n 2, 1) := by decide +kernel
theorem d_D_methodFacts_31 : decode prog_7_method_6_code 31 = .ok (.invokevirtual 17, 3) := by decide +kernel
theorem d_D_methodFacts_34 : decode prog_7_method_6_code 34 = .ok (.istore 6, 2) := by decide +kernel
theorem d_D_methodFacts_36 : decode prog_7_method_6_code 36 = .ok (.iload 6, 2) := by decide +kernel
theorem d_D_methodFacts_38 : decode prog_7_method_6_code 38 = .ok (.iload 5, 2) := by decide +kernel
theorem d_D_methodFacts_40 : decode prog_7_method_6_code 40 = .ok (.if_icmp .gt 5, 3) := by decide +kernel
theorem d_D_methodFacts_43 : decode prog_7_method_6_code 43 = .ok (.iconst 0, 1) := by decide +kernel
theorem d_D_methodFacts_44 : decode prog_7_method_6_code 44 = .ok (.ireturn, 1) := by decide +kernel
theorem d_D_methodFacts_45 : decode prog_7_method_6_code 45 = .ok (.iload 4, 2) := by decide +kernel
theorem d_D_methodFacts_47 : decode prog_7_method_6_code 47 = .ok (.aload_n 0, 1) := by decide +kernel
theorem d_D_methodFacts_48 : decode prog_7_method_6_code 48 = .ok (.iload 5, 2) := by decide +kernel
theorem d_D_methodFacts_50 : decode prog_7_method_6_code 50 = .ok (.iload 6, 2) := by decide +kernel
theorem d_D_methodFacts_52 : decode prog_7_method_6_code 52 = .ok (.invokevirtual 24, 3) := by decide +kernel
theorem d_D_methodFacts_55 : decode prog_7_method_6_code 55 = .ok (.iadd, 1) := by decide +kernel
theorem d_D_methodFacts_56 : decode prog_7_method_6_code 56 = .ok (.istore 4, 2) := by decide +kernel
theorem d_D_methodFacts_58 : decode prog_7_method_6_code 58 = .ok (.iload_n 3, 1) := by decide +kernel
theorem d_D_methodFacts_59 : decode prog_7_method_6_code 59 = .ok (.aload_n 0, 1) := by decide +kernel
theorem d_D_methodFacts_60 : decode prog_7_method_6_code 60 = .ok (.iload 6, 2) := by decide +kernel
theorem d_D_methodFacts_62 : decode prog_7_method_6_code 62 = .ok (.invokevirtual 20, 3) := by decide +kernel
theorem d_D_methodFacts_65 : decode prog_7_method_6_code 65 = .ok (.ior, 1) := by decide +kernel
theorem d_D_methodFacts_66 : decode prog_7_method_6_code 66 = .ok (.istore_n 3, 1) := by decide +kernel
theorem d_D_methodFacts_67 : decode prog_7_method_6_code 67 = .ok (.iload 6, 2) := by decide +kernel
theorem d_D_methodFacts_69 : decode prog_7_method_6_code 69 = .ok (.istore 5, 2) := by decide +kernel
theorem d_D_methodFacts_71 : decode prog_7_method_6_code 71 = .ok (.goto (-62), 3) := by decide +kernel
theorem d_D_methodFacts_74 : decode prog_7_method_6_code 74 = .ok (.iload 4, 2) := by decide +kernel
theorem d_D_methodFacts_76 : decode prog_7_method_6_code 76 = .ok (.sipush 250, 3) := by decide +kernel
theorem d_D_methodFacts_79 : decode prog_7_method_6_code 79 = .ok (.if_icmp .gt 11, 3) := by decide +kernel
theorem d_D_methodFacts_82 : decode prog_7_method_6_code 82 = .ok (.iload 5, 2) := by decide +kernel
theorem d_D_methodFacts_84 : decode prog_7_method_6_code 84 = .ok (.iconst 1, 1) := by decide +kernel
theorem d_D_methodFacts_85 : decode prog_7_method_6_code 85 = .ok (.iadd, 1) := by decide +kernel
theorem d_D_methodFacts_86 : decode prog_7_method_6_code 86 = .ok (.iload_n 2, 1) := by decide +kernel
theorem d_D_methodFacts_87 : decode prog_7_method_6_code 87 = .ok (.if_icmp .lt 5, 3) := by decide +kernel
theorem d_D_methodFacts_90 : decode prog_7_method_6_code 90 = .ok (.iconst 0, 1) := by decide +kernel
theorem d_D_methodFacts_91 : decode prog_7_method_6_code 91 = .ok (.ireturn, 1) := by decide +kernel
theorem d_D_methodFacts_92 : decode prog_7_method_6_code 92 = .ok (.iload_n 3, 1) := by decide +kernel
theorem d_D_methodFacts_93 : decode prog_7_method_6_code 93 = .ok (.iload 4, 2) := by decide +kernel
theorem d_D_methodFacts_95 : decode prog_7_method_6_code 95 = .ok (.bipush 8, 2) := by decide +kernel
theorem d_D_methodFacts_97 : decode prog_7_method_6_code 97 = .ok (.ishl, 1) := by decide +kernel
theorem d_D_methodFacts_98 : decode prog_7_method_6_code 98 = .ok (.ior, 1) := by decide +kernel
theorem d_D_methodFacts_99 : decode prog_7_method_6_code 99 = .ok (.istore_n 3, 1) := by decide +kernel
theorem d_D_methodFacts_100 : decode prog_7_method_6_code 100 = .ok (.iinc 5 1, 3) := by decide +kernel
theorem d_D_methodFacts_103 : decode prog_7_method_6_code 103 = .ok (.aload_n 0, 1) := by decide +kernel
theorem d_D_methodFacts_104 : decode prog_7_method_6_code 104 = .ok (.getfield 9, 3) := by decide +kernel
theorem d_D_methodFacts_107 : decode prog_7_method_6_code 107 = .ok (.iload 5, 2) := by decide +kernel
theorem d_D_methodFacts_109 : decode prog_7_method_6_code 109 = .ok (.baload, 1) := by decide +kernel
theorem d_D_methodFacts_110 : decode prog_7_method_6_code 110 = .ok (.bipush 86, 2) := by decide +kernel
theorem d_D_methodFacts_112 : decode prog_7_method_6_code 112 = .ok (.if_icmp .ne 21, 3) := by decide +kernel
theorem d_D_methodFacts_115 : decode prog_7_method_6_code 115 = .ok (.iload 5, 2) := by decide +kernel
theorem d_D_methodFacts_117 : decode prog_7_method_6_code 117 = .ok (.iconst 1, 1) := by decide +kernel
theorem d_D_methodFacts_118 : decode prog_7_method_6_code 118 = .ok (.iadd, 1) := by decide +kernel
theorem d_D_methodFacts_119 : decode prog_7_method_6_code 119 = .ok (.iload_n 2, 1) := by decide +kernel
theorem d_D_methodFacts_120 : decode prog_7_method_6_code 120 = .ok (.if_icmp .ne 11, 3) := by decide +kernel
theorem d_D_methodFacts_123 : decode prog_7_method_6_code 123 = .ok (.iload_n 3, 1) := by decide +kernel
theorem d_D_methodFacts_124 : decode prog_7_method_6_code 124 = .ok (.sipush 128, 3) := by decide +kernel
theorem d_D_methodFacts_127 : decode prog_7_method_6_code 127 = .ok (.ior, 1) := by decide +kernel
theorem d_D_methodFacts_128 : decode prog_7_method_6_code 128 = .ok (.goto 4, 3) := by decide +kernel
theorem d_D_methodFacts_131 : decode prog_7_method_6_code 131 = .ok (.iconst 0, 1) := by decide +kernel
theorem d_D_methodFacts_132 : decode prog_7_method_6_code 132 = .ok (.ireturn, 1) := by decide +kernel
theorem d_D_methodFacts_133 : decode prog_7_method_6_code 133 = .ok (.aload_n 0, 1) := by decide +kernel
theorem d_D_methodFacts_134 : decode prog_7_method_6_code 134 = .ok (.iload 5, 2) := by decide +kernel
theorem d_D_methodFacts_136 : decode prog_7_method_6_code 136 = .ok (.iload_n 2, 1) := by decide +kernel
theorem d_D_methodFacts_137 : decode prog_7_method_6_code 137 = .ok (.invokevirtual 17, 3) := by decide +kernel
theorem d_D_methodFacts_140 : decode prog_7_method_6_code 140 = .ok (.iload_n 2, 1) := by decide +kernel
theorem d_D_methodFacts_141 : decode prog_7_method_6_code 141 = .ok (.if_icmp .ne 13, 3) := by decide +kernel
theorem d_D_methodFacts_144 : decode prog_7_method_6_code 144 = .ok (.iload_n 3, 1) := by decide +kernel
theorem d_D_methodFacts_145 : decode prog_7_method_6_code 145 = .ok (.aload_n 0, 1) := by decide +kernel
theorem d_D_methodFacts_146 : decode prog_7_method_6_code 146 = .ok (.iload_n 2, 1) := by decide +kernel
theorem d_D_methodFacts_147 : decode prog_7_method_6_code 147 = .ok (.invokevirtual 20, 3) := by decide +kernel
theorem d_D_methodFacts_150 : decode prog_7_method_6_code 150 = .ok (.ior, 1) := by decide +kernel
theorem d_D_methodFacts_151 : decode prog_7_method_6_code 151 = .ok (.goto 4, 3) := by decide +kernel
theorem d_D_methodFacts_154 : decode prog_7_method_6_code 154 = .ok (.iconst 0, 1) := by decide +kernel
theorem d_D_methodFacts_155 : decode prog_7_method_6_code 155 = .ok (.ireturn, 1) := by decide +kernel
theorem d_D_typeFacts_0 : decode prog_7_method_3_code 0 = .ok (.iload_n 1, 1) := by decide +kernel
theorem d_D_typeFacts_1 : decode prog_7_method_3_code 1 = .ok (.iload_n 2, 1) := by decide +kernel
theorem d_D_typeFacts_2 : decode prog_7_method_3_code 2 = .ok (.if_icmp .lt 5, 3) := by decide +kernel
theorem d_D_typeFacts_5 : decode prog_7_method_3_code 5 = .ok (.iconst 0, 1) := by decide +kernel
theorem d_D_typeFacts_6 : decode prog_7_method_3_code 6 = .ok (.ireturn, 1) := by decide +kernel
theorem d_D_typeFacts_7 : decode prog_7_method_3_code 7 = .ok (.aload_n 0, 1) := by decide +kernel
theorem d_D_typeFacts_8 : decode prog_7_method_3_code 8 = .ok (.getfield 9, 3) := by decide +kernel
theorem d_D_typeFacts_11 : decode prog_7_method_3_code 11 = .ok (.iload_n 1, 1) := by decide +kernel
theorem d_D_typeFacts_12 : decode prog_7_method_3_code 12 = .ok (.baload, 1) := by decide +kernel
theorem d_D_typeFacts_13 : decode prog_7_method_3_code 13 = .ok (.bipush 40, 2) := by decide +kernel
theorem d_D_typeFacts_15 : decode prog_7_method_3_code 15 = .ok (.if_icmp .ne 12, 3) := by decide +kernel
theorem d_D_typeFacts_18 : decode prog_7_method_3_code 18 = .ok (.aload_n 0, 1) := by decide +kernel
theorem d_D_typeFacts_19 : decode prog_7_method_3_code 19 = .ok (.iload_n 1, 1) := by decide +kernel
theorem d_D_typeFacts_20 : decode prog_7_method_3_code 20 = .ok (.iconst 1, 1) := by decide +kernel
theorem d_D_typeFacts_21 : decode prog_7_method_3_code 21 = .ok (.iadd, 1) := by decide +kernel
theorem d_D_typeFacts_22 : decode prog_7_method_3_code 22 = .ok (.iload_n 2, 1) := by decide +kernel
theorem d_D_typeFacts_23 : decode prog_7_method_3_code 23 = .ok (.invokevirtual 13, 3) := by decide +kernel
theorem d_D_typeFacts_26 : decode prog_7_method_3_code 26 = .ok (.ireturn, 1) := by decide +kernel
theorem d_D_typeFacts_27 : decode prog_7_method_3_code 27 = .ok (.aload_n 0, 1) := by decide +kernel
theorem d_D_typeFacts_28 : decode prog_7_method_3_code 28 = .ok (.iload_n 1, 1) := by decide +kernel
theorem d_D_typeFacts_29 : decode prog_7_method_3_code 29 = .ok (.iload_n 2, 1) := by decide +kernel
theorem d_D_typeFacts_30 : decode prog_7_method_3_code 30 = .ok (.invokevirtual 17, 3) := by decide +kernel
theorem d_D_typeFacts_33 : decode prog_7_method_3_code 33 = .ok (.iload_n 2, 1) := by decide +kernel
theorem d_D_typeFacts_34 : decode prog_7_method_3_code 34 = .ok (.if_icmp .ne 14, 3) := by decide +kernel
theorem d_D_typeFacts_37 : decode prog_7_method_3_code 37 = .ok (.bipush 16, 2) := by decide +kernel
theorem d_D_typeFacts_39 : decode prog_7_method_3_code 39 = .ok (.aload_n 0, 1) := by decide +kernel
theorem d_D_typeFacts_40 : decode prog_7_method_3_code 40 = .ok (.iload_n 2, 1) := by decide +kernel
theorem d_D_typeFacts_41 : decode prog_7_method_3_code 41 = .ok (.invokevirtual 20, 3) := by decide +kernel
theorem d_D_typeFacts_44 : decode prog_7_method_3_code 44 = .ok (.ior, 1) := by decide +kernel
theorem d_D_typeFacts_45 : decode prog_7_method_3_code 45 = .ok (.goto 4, 3) := by decide +kernel
theorem d_D_typeFacts_48 : decode prog_7_method_3_code 48 = .ok (.iconst 0, 1) := by decide +kernel
theorem d_D_typeFacts_49 : decode prog_7_method_3_code 49 = .ok (.ireturn, 1) := by decide +kernel
theorem d_D_withoutSlots_0 : decode prog_7_method_5_code 0 = .ok (.iload_n 0, 1) := by decide +kernel
theorem d_D_withoutSlots_1 : decode prog_7_method_5_code 1 = .ok (.sipush 255, 3) := by decide +kernel
theorem d_D_withoutSlots_4 : decode prog_7_method_5_code 4 = .ok (.iand, 1) := by decide +kernel
theorem d_D_withoutSlots_5 : decode prog_7_method_5_code 5 = .ok (.ireturn, 1) := by decide +kernel
theorem d_P_noteText_0 : decode prog_4_method_8_code 0 = .ok (.aload_n 0, 1) := by decide +kernel
theorem d_P_noteText_1 : decode prog_4_method_8_code 1 = .ok (.getfield 13, 3) := by decide +kernel
theorem d_P_noteText_4 : decode prog_4_method_8_code 4 = .ok (.iload_n 1, 1) := by decide +kernel
theorem d_P_noteText_5 : decode prog_4_method_8_code 5 = .ok (.iaload, 1) := by decide +kernel
theorem d_P_noteText_6 : decode prog_4_method_8_code 6 = .ok (.iconst 3, 1) := by decide +kernel
theorem d_P_noteText_7 : decode prog_4_method_8_code 7 = .ok (.iadd, 1) := by decide +kernel
theorem d_P_noteText_8 : decode prog_4_method_8_code 8 = .ok (.istore_n 2, 1) := by decide +kernel
theorem d_P_noteText_9 : decode prog_4_method_8_code 9 = .ok (.iload_n 2, 1) := by decide +kernel
theorem d_P_noteText_10 : decode prog_4_method_8_code 10 = .ok (.aload_n 0, 1) := by decide +kernel
theorem d_P_noteText_11 : decode prog_4_method_8_code 11 = .ok (.iload_n 1, 1) := by decide +kernel
theorem d_P_noteText_12 : decode prog_4_method_8_code 12 = .ok (.invokevirtual 84, 3) := by decide +kernel
theorem d_P_noteText_15 : decode prog_4_method_8_code 15 = .ok (.iadd, 1) := by decide +kernel
theorem d_P_noteText_16 : decode prog_4_method_8_code 16 = .ok (.aload_n 0, 1) := by decide +kernel
theorem d_P_noteText_17 : decode prog_4_method_8_code 17 = .ok (.getfield 25, 3) := by decide +kernel
theorem d_P_noteText_20 : decode prog_4_method_8_code 20 = .ok (.getfield 87, 3) := by decide +kernel
theorem d_P_noteText_23 : decode prog_4_method_8_code 23 = .ok (.invokestatic 90, 3) := by decide +kernel
theorem d_P_noteText_26 : decode prog_4_method_8_code 26 = .ok (.istore_n 3, 1) := by decide +kernel
theorem d_P_noteText_27 : decode prog_4_method_8_code 27 = .ok (.aload_n 0, 1) := by decide +kernel
theorem d_P_noteText_28 : decode prog_4_method_8_code 28 = .ok (.getfield 40, 3) := by decide +kernel
theorem d_P_noteText_31 : decode prog_4_method_8_code 31 = .ok (.iload_n 2, 1) := by decide +kernel
theorem d_P_noteText_32 : decode prog_4_method_8_code 32 = .ok (.iload_n 3, 1) := by decide +kernel
theorem d_P_noteText_33 : decode prog_4_method_8_code 33 = .ok (.invokevirtual 95, 3) := by decide +kernel
theorem d_P_noteText_36 : decode prog_4_method_8_code 36 = .ok (.istore 4, 2) := by decide +kernel
theorem d_P_noteText_38 : decode prog_4_method_8_code 38 = .ok (.aload_n 0, 1) := by decide +kernel
theorem d_P_noteText_39 : decode prog_4_method_8_code 39 = .ok (.getfield 40, 3) := by decide +kernel
theorem d_P_noteText_42 : decode prog_4_method_8_code 42 = .ok (.iload_n 2, 1) := by decide +kernel
theorem d_P_noteText_43 : decode prog_4_method_8_code 43 = .ok (.iload_n 3, 1) := by decide +kernel
theorem d_P_noteText_44 : decode prog_4_method_8_code 44 = .ok (.invokevirtual 98, 3) := by decide +kernel
theorem d_P_noteText_47 : decode prog_4_method_8_code 47 = .ok (.istore 5, 2) := by decide +kernel
theorem d_P_noteText_49 : decode prog_4_method_8_code 49 = .ok (.aload_n 0, 1) := by decide +kernel
theorem d_P_noteText_50 : decode prog_4_method_8_code 50 = .ok (.iload_n 1, 1) := by decide +kernel
theorem d_P_noteText_51 : decode prog_4_method_8_code 51 = .ok (.ldc 101, 2) := by decide +kernel
theorem d_P_noteText_53 : decode prog_4_method_8_code 53 = .ok (.invokevirtual 102, 3) := by decide +kernel
theorem d_P_noteText_56 : decode prog_4_method_8_code 56 = .ok (.ifCond .eq 6, 3) := by decide +kernel
theorem d_P_noteText_59 : decode prog_4_method_8_code 59 = .ok (.iconst 4, 1) := by decide +kernel
theorem d_P_noteText_60 : decode prog_4_method_8_code 60 = .ok (.istore 5, 2) := by decide +kernel
theorem d_P_noteText_62 : decode prog_4_method_8_code 62 = .ok (.aload_n 0, 1) := by decide +kernel
theorem d_P_noteText_63 : decode prog_4_method_8_code 63 = .ok (.iload_n 1, 1) := by decide +kernel
theorem d_P_noteText_64 : decode prog_4_method_8_code 64 = .ok (.ldc 106, 2) := by decide +kernel
theorem d_P_noteText_66 : decode prog_4_method_8_code 66 = .ok (.invokevirtual 102, 3) := by decide +kernel
theorem d_P_noteText_69 : decode prog_4_method_8_code 69 = .ok (.ifCond .eq 7, 3) := by decide +kernel
theorem d_P_noteText_72 : decode prog_4_method_8_code 72 = .ok (.bipush 8, 2) := by decide +kernel
theorem d_P_noteText_74 : decode prog_4_method_8_code 74 = .ok (.istore 5, 2) := by decide +kernel
theorem d_P_noteText_76 : decode prog_4_method_8_code 76 = .ok (.aload_n 0, 1) := by decide +kernel
theorem d_P_noteText_77 : decode prog_4_method_8_code 77 = .ok (.getfield 16, 3) := by decide +kernel
theorem d_P_noteText_80 : decode prog_4_method_8_code 80 = .ok (.iload_n 1, 1) := by decide +kernel
theorem d_P_noteText_81 : decode prog_4_method_8_code 81 = .ok (.iload 5, 2) := by decide +kernel
theorem d_P_noteText_83 : decode prog_4_method_8_code 83 = .ok (.iload 4, 2) := by decide +kernel
theorem d_P_noteText_85 : decode prog_4_method_8_code 85 = .ok (.invokestatic 108, 3) := by decide +kernel
theorem d_P_noteText_88 : decode prog_4_method_8_code 88 = .ok (.ior, 1) := by decide +kernel
theorem d_P_noteText_89 : decode prog_4_method_8_code 89 = .ok (.iastore, 1) := by decide +kernel
theorem d_P_noteText_90 : decode prog_4_method_8_code 90 = .ok (.aload_n 0, 1) := by decide +kernel
theorem d_P_noteText_91 : decode prog_4_method_8_code 91 = .ok (.getfield 19, 3) := by decide +kernel
theorem d_P_noteText_94 : decode prog_4_method_8_code 94 = .ok (.iload_n 1, 1) := by decide +kernel
theorem d_P_noteText_95 : decode prog_4_method_8_code 95 = .ok (.iload 4, 2) := by decide +kernel
theorem d_P_noteText_97 : decode prog_4_method_8_code 97 = .ok (.invokestatic 111, 3) := by decide +kernel
theorem d_P_noteText_100 : decode prog_4_method_8_code 100 = .ok (.iastore, 1) := by decide +kernel
theorem d_P_noteText_101 : decode prog_4_method_8_code 101 = .ok (.return_, 1) := by decide +kernel
theorem d_P_noteTexts_0 : decode prog_4_method_7_code 0 = .ok (.iconst 1, 1) := by decide +kernel
theorem d_P_noteTexts_1 : decode prog_4_method_7_code 1 = .ok (.istore_n 1, 1) := by decide +kernel
theorem d_P_noteTexts_2 : decode prog_4_method_7_code 2 = .ok (.iload_n 1, 1) := by decide +kernel
theorem d_P_noteTexts_3 : decode prog_4_method_7_code 3 = .ok (.aload_n 0, 1) := by decide +kernel
theorem d_P_noteTexts_4 : decode prog_4_method_7_code 4 = .ok (.getfield 60, 3) := by decide +kernel
theorem d_P_noteTexts_7 : decode prog_4_method_7_code 7 = .ok (.if_icmp .ge 34, 3) := by decide +kernel
theorem d_P_noteTexts_10 : decode prog_4_method_7_code 10 = .ok (.aload_n 0, 1) := by decide +kernel
theorem d_P_noteTexts_11 : decode prog_4_method_7_code 11 = .ok (.getfield 25, 3) := by decide +kernel
theorem d_P_noteTexts_14 : decode prog_4_method_7_code 14 = .ok (.invokevirtual 56, 3) := by decide +kernel
theorem d_P_noteTexts_17 : decode prog_4_method_7_code 17 = .ok (.ifCond .eq 24, 3) := by decide +kernel
theorem d_P_noteTexts_20 : decode prog_4_method_7_code 20 = .ok (.aload_n 0, 1) := by decide +kernel
theorem d_P_noteTexts_21 : decode prog_4_method_7_code 21 = .ok (.getfield 9, 3) := by decide +kernel
theorem d_P_noteTexts_24 : decode prog_4_method_7_code 24 = .ok (.iload_n 1, 1) := by decide +kernel
theorem d_P_noteTexts_25 : decode prog_4_method_7_code 25 = .ok (.iaload, 1) := by decide +kernel
theorem d_P_noteTexts_26 : decode prog_4_method_7_code 26 = .ok (.iconst 1, 1) := by decide +kernel
theorem d_P_noteTexts_27 : decode prog_4_method_7_code 27 = .ok (.if_icmp .ne 8, 3) := by decide +kernel
theorem d_P_noteTexts_30 : decode prog_4_method_7_code 30 = .ok (.aload_n 0, 1) := by decide +kernel
theorem d_P_noteTexts_31 : decode prog_4_method_7_code 31 = .ok (.iload_n 1, 1) := by decide +kernel
theorem d_P_noteTexts_32 : decode prog_4_method_7_code 32 = .ok (.invokevirtual 81, 3) := by decide +kernel
theorem d_P_noteTexts_35 : decode prog_4_method_7_code 35 = .ok (.iinc 1 1, 3) := by decide +kernel
theorem d_P_noteTexts_38 : decode prog_4_method_7_code 38 = .ok (.goto (-36), 3) := by decide +kernel
theorem d_P_noteTexts_41 : decode prog_4_method_7_code 41 = .ok (.return_, 1) := by decide +kernel
theorem d_P_clear_0 : decode prog_4_method_3_code 0 = .ok (.aload_n 0, 1) := by decide +kernel
theorem d_P_clear_1 : decode prog_4_method_3_code 1 = .ok (.getfield 9, 3) := by decide +kernel
theorem d_P_clear_4 : decode prog_4_method_3_code 4 = .ok (.iload_n 1, 1) := by decide +kernel
theorem d_P_clear_5 : decode prog_4_method_3_code 5 = .ok (.iload_n 2, 1) := by decide +kernel
theorem d_P_clear_6 : decode prog_4_method_3_code 6 = .ok (.iastore, 1) := by decide +kernel
theorem d_P_clear_7 : decode prog_4_method_3_code 7 = .ok (.aload_n 0, 1) := by decide +kernel
theorem d_P_clear_8 : decode prog_4_method_3_code 8 = .ok (.getfield 13, 3) := by decide +kernel
theorem d_P_clear_11 : decode prog_4_method_3_code 11 = .ok (.iload_n 1, 1) := by decide +kernel
theorem d_P_clear_12 : decode prog_4_method_3_code 12 = .ok (.aload_n 0, 1) := by decide +kernel
theorem d_P_clear_13 : decode prog_4_method_3_code 13 = .ok (.getfield 25, 3) := by decide +kernel
theorem d_P_clear_16 : decode prog_4_method_3_code 16 = .ok (.getfield 44, 3) := by decide +kernel
theorem d_P_clear_19 : decode prog_4_method_3_code 19 = .ok (.iastore, 1) := by decide +kernel
theorem d_P_clear_20 : decode prog_4_method_3_code 20 = .ok (.aload_n 0, 1) := by decide +kernel
theorem d_P_clear_21 : decode prog_4_method_3_code 21 = .ok (.getfield 16, 3) := by decide +kernel
theorem d_P_clear_24 : decode prog_4_method_3_code 24 = .ok (.iload_n 1, 1) := by decide +kernel
theorem d_P_clear_25 : decode prog_4_method_3_code 25 = .ok (.iconst 0, 1) := by decide +kernel
theorem d_P_clear_26 : decode prog_4_method_3_code 26 = .ok (.iastore, 1) := by decide +kernel
theorem d_P_clear_27 : decode prog_4_method_3_code 27 = .ok (.aload_n 0, 1) := by decide +kernel
theorem d_P_clear_28 : decode prog_4_method_3_code 28 = .ok (.getfield 19, 3) := by decide +kernel
theorem d_P_clear_31 : decode prog_4_method_3_code 31 = .ok (.iload_n 1, 1) := by decide +kernel
theorem d_P_clear_32 : decode prog_4_method_3_code 32 = .ok (.iconst 0, 1) := by decide +kernel
theorem d_P_clear_33 : decode prog_4_method_3_code 33 = .ok (.iastore, 1) := by decide +kernel
theorem d_P_clear_34 : decode prog_4_method_3_code 34 = .ok (.return_, 1) := by decide +kernel
theorem d_P_followers_0 : decode prog_4_method_6_code 0 = .ok (.iload_n 0, 1) := by decide +kernel
theorem d_P_followers_1 : decode prog_4_method_6_code 1 = .ok (.iconst 1, 1) := by decide +kernel
theorem d_P_followers_2 : decode prog_4_method_6_code 2 = .ok (.if_icmp .lt 11, 3) := by decide +kernel
theorem d_P_followers_5 : decode prog_4_method_6_code 5 = .ok (.iload_n 0, 1) := by decide +kernel
theorem d_P_followers_6 : decode prog_4_method_6_code 6 = .ok (.bipush 127, 2) := by decide +kernel
theorem d_P_followers_8 : decode prog_4_method_6_code 8 = .ok (.if_icmp .gt 5, 3) := by decide +kernel
theorem d_P_followers_11 : decode prog_4_method_6_code 11 = .ok (.iconst 0, 1) := by decide +kernel
theorem d_P_followers_12 : decode prog_4_method_6_code 12 = .ok (.ireturn, 1) := by decide +kernel
theorem d_P_followers_13 : decode prog_4_method_6_code 13 = .ok (.iload_n 0, 1) := by decide +kernel
theorem d_P_followers_14 : decode prog_4_method_6_code 14 = .ok (.sipush 192, 3) := by decide +kernel
theorem d_P_followers_17 : decode prog_4_method_6_code 17 = .ok (.if_icmp .eq 17, 3) := by decide +kernel
theorem d_P_followers_20 : decode prog_4_method_6_code 20 = .ok (.iload_n 0, 1) := by decide +kernel
theorem d_P_followers_21 : decode prog_4_method_6_code 21 = .ok (.sipush 194, 3) := by decide +kernel
theorem d_P_followers_24 : decode prog_4_method_6_code 24 = .ok (.if_icmp .lt 12, 3) := by decide +kernel
theorem d_P_followers_27 : decode prog_4_method_6_code 27 = .ok (.iload_n 0, 1) := by decide +kernel
theorem d_P_followers_28 : decode prog_4_method_6_code 28 = .ok (.sipush 223, 3) := by decide +kernel
theorem d_P_followers_31 : decode prog_4_method_6_code 31 = .ok (.if_icmp .gt 5, 3) := by decide +kernel
theorem d_P_followers_34 : decode prog_4_method_6_code 34 = .ok (.iconst 1, 1) := by decide +kernel
theorem d_P_followers_35 : decode prog_4_method_6_code 35 = .ok (.ireturn, 1) := by decide +kernel
theorem d_P_followers_36 : decode prog_4_method_6_code 36 = .ok (.iload_n 0, 1) := by decide +kernel
theorem d_P_followers_37 : decode prog_4_method_6_code 37 = .ok (.sipush 224, 3) := by decide +kernel
theorem d_P_followers_40 : decode prog_4_method_6_code 40 = .ok (.if_icmp .lt 14, 3) := by decide +kernel
theorem d_P_followers_43 : decode prog_4_method_6_code 43 = .ok (.iload_n 0, 1) := by decide +kernel
theorem d_P_followers_44 : decode prog_4_method_6_code 44 = .ok (.sipush 239, 3) := by decide +kernel
theorem d_P_followers_47 : decode prog_4_method_6_code 47 = .ok (.if_icmp .gt 7, 3) := by decide +kernel
theorem d_P_followers_50 : decode prog_4_method_6_code 50 = .ok (.iconst 2, 1) := by decide +kernel
theorem d_P_followers_51 : decode prog_4_method_6_code 51 = .ok (.goto 4, 3) := by decide +kernel
theorem d_P_followers_54 : decode prog_4_method_6_code 54 = .ok (.iconst (-1), 1) := by decide +kernel
theorem d_P_followers_55 : decode prog_4_method_6_code 55 = .ok (.ireturn, 1) := by decide +kernel
theorem d_P_readText_0 : decode prog_4_method_5_code 0 = .ok (.aload_n 0, 1) := by decide +kernel
theorem d_P_readText_1 : decode prog_4_method_5_code 1 = .ok (.getfield 25, 3) := by decide +kernel
theorem d_P_readText_4 : decode prog_4_method_5_code 4 = .ok (.getfield 44, 3) := by decide +kernel
theorem d_P_readText_7 : decode prog_4_method_5_code 7 = .ok (.istore_n 2, 1) := by decide +kernel
theorem d_P_readText_8 : decode prog_4_method_5_code 8 = .ok (.aload_n 0, 1) := by decide +kernel
theorem d_P_readText_9 : decode prog_4_method_5_code 9 = .ok (.getfield 25, 3) := by decide +kernel
theorem d_P_readText_12 : decode prog_4_method_5_code 12 = .ok (.iconst 2, 1) := by decide +kernel
theorem d_P_readText_13 : decode prog_4_method_5_code 13 = .ok (.invokevirtual 48, 3) := by decide +kernel
theorem d_P_readText_16 : decode prog_4_method_5_code 16 = .ok (.istore_n 3, 1) := by decide +kernel
theorem d_P_readText_17 : decode prog_4_method_5_code 17 = .ok (.iconst 0, 1) := by decide +kernel
theorem d_P_readText_18 : decode prog_4_method_5_code 18 = .ok (.istore 4, 2) := by decide +kernel
theorem d_P_readText_20 : decode prog_4_method_5_code 20 = .ok (.iconst 0, 1) := by decide +kernel
theorem d_P_readText_21 : decode prog_4_method_5_code 21 = .ok (.istore 5, 2) := by decide +kernel
theorem d_P_readText_23 : decode prog_4_method_5_code 23 = .ok (.iconst 0, 1) := by decide +kernel
theorem d_P_readText_24 : decode prog_4_method_5_code 24 = .ok (.istore 6, 2) := by decide +kernel
theorem d_P_readText_26 : decode prog_4_method_5_code 26 = .ok (.iconst 0, 1) := by decide +kernel
theorem d_P_readText_27 : decode prog_4_method_5_code 27 = .ok (.istore 7, 2) := by decide +kernel
theorem d_P_readText_29 : decode prog_4_method_5_code 29 = .ok (.iconst 0, 1) := by decide +kernel
theorem d_P_readText_30 : decode prog_4_method_5_code 30 = .ok (.istore 8, 2) := by decide +kernel
theorem d_P_readText_32 : decode prog_4_method_5_code 32 = .ok (.iload 8, 2) := by decide +kernel
theorem d_P_readText_34 : decode prog_4_method_5_code 34 = .ok (.iload_n 3, 1) := by decide +kernel
theorem d_P_readText_35 : decode prog_4_method_5_code 35 = .ok (.if_icmp .ge 158, 3) := by decide +kernel
theorem d_P_readText_38 : decode prog_4_method_5_code 38 = .ok (.aload_n 0, 1) := by decide +kernel
theorem d_P_readText_39 : decode prog_4_method_5_code 39 = .ok (.getfield 25, 3) := by decide +kernel
theorem d_P_readText_42 : decode prog_4_method_5_code 42 = .ok (.invokevirtual 56, 3) := by decide +kernel
theorem d_P_readText_45 : decode prog_4_method_5_code 45 = .ok (.ifCond .eq 148, 3) := by decide +kernel
theorem d_P_readText_48 : decode prog_4_method_5_code 48 = .ok (.aload_n 0, 1) := by decide +kernel
theorem d_P_readText_49 : decode prog_4_method_5_code 49 = .ok (.getfield 25, 3) := by decide +kernel
theorem d_P_readText_52 : decode prog_4_method_5_code 52 = .ok (.getfield 44, 3) := by decide +kernel
theorem d_P_readText_55 : decode prog_4_method_5_code 55 = .ok (.istore 9, 2) := by decide +kernel
theorem d_P_readText_57 : decode prog_4_method_5_code 57 = .ok (.aload_n 0, 1) := by decide +kernel
theorem d_P_readText_58 : decode prog_4_method_5_code 58 = .ok (.getfield 25, 3) := by decide +kernel
theorem d_P_readText_61 : decode prog_4_method_5_code 61 = .ok (.iconst 1, 1) := by decide +kernel
theorem d_P_readText_62 : decode prog_4_method_5_code 62 = .ok (.invokevirtual 48, 3) := by decide +kernel
theorem d_P_readText_65 : decode prog_4_method_5_code 65 = .ok (.istore 10, 2) := by decide +kernel
theorem d_P_readText_67 : decode prog_4_method_5_code 67 = .ok (.bipush 31, 2) := by decide +kernel
theorem d_P_readText_69 : decode prog_4_method_5_code 69 = .ok (.iload 4, 2) := by decide +kernel
theorem d_P_readText_71 : decode prog_4_method_5_code 71 = .ok (.imul, 1) := by decide +kernel
theorem d_P_readText_72 : decode prog_4_method_5_code 72 = .ok (.iload 10, 2) := by decide +kernel
theorem d_P_readText_74 : decode prog_4_method_5_code 74 = .ok (.iadd, 1) := by decide +kernel
theorem d_P_readText_75 : decode prog_4_method_5_code 75 = .ok (.istore 4, 2) := by decide +kernel
theorem d_P_readText_77 : decode prog_4_method_5_code 77 = .ok (.iload 5, 2) := by decide +kernel
theorem d_P_readText_79 : decode prog_4_method_5_code 79 = .ok (.ifCond .ne 71, 3) := by decide +kernel
theorem d_P_readText_82 : decode prog_4_method_5_code 82 = .ok (.iload 10, 2) := by decide +kernel
theorem d_P_readText_84 : decode prog_4_method_5_code 84 = .ok (.invokestatic 78, 3) := by decide +kernel
theorem d_P_readText_87 : decode prog_4_method_5_code 87 = .ok (.istore 5, 2) := by decide +kernel
theorem d_P_readText_89 : decode prog_4_method_5_code 89 = .ok (.iload 10, 2) := by decide +kernel
theorem d_P_readText_91 : decode prog_4_method_5_code 91 = .ok (.sipush 224, 3) := by decide +kernel
theorem d_P_readText_94 : decode prog_4_method_5_code 94 = .ok (.if_icmp .ne 9, 3) := by decide +kernel
theorem d_P_readText_97 : decode prog_4_method_5_code 97 = .ok (.sipush 160, 3) := by decide +kernel
theorem d_P_readText_100 : decode prog_4_method_5_code 100 = .ok (.goto 6, 3) := by decide +kernel
theorem d_P_readText_103 : decode prog_4_method_5_code 103 = .ok (.sipush 128, 3) := by decide +kernel
theorem d_P_readText_106 : decode prog_4_method_5_code 106 = .ok (.istore 6, 2) := by decide +kernel
theorem d_P_readText_108 : decode prog_4_method_5_code 108 = .ok (.iload 10, 2) := by decide +kernel
theorem d_P_readText_110 : decode prog_4_method_5_code 110 = .ok (.sipush 192, 3) := by decide +kernel
theorem d_P_readText_113 : decode prog_4_method_5_code 113 = .ok (.if_icmp .ne 9, 3) := by decide +kernel
theorem d_P_readText_116 : decode prog_4_method_5_code 116 = .ok (.sipush 128, 3) := by decide +kernel
theorem d_P_readText_119 : decode prog_4_method_5_code 119 = .ok (.goto 6, 3) := by decide +kernel
theorem d_P_readText_122 : decode prog_4_method_5_code 122 = .ok (.sipush 191, 3) := by decide +kernel
theorem d_P_readText_125 : decode prog_4_method_5_code 125 = .ok (.istore 7, 2) := by decide +kernel
theorem d_P_readText_127 : decode prog_4_method_5_code 127 = .ok (.aload_n 0, 1) := by decide +kernel
theorem d_P_readText_128 : decode prog_4_method_5_code 128 = .ok (.getfield 25, 3) := by decide +kernel
theorem d_P_readText_131 : decode prog_4_method_5_code 131 = .ok (.iload 5, 2) := by decide +kernel
theorem d_P_readText_133 : decode prog_4_method_5_code 133 = .ok (.ifCond .lt 7, 3) := by decide +kernel
theorem d_P_readText_136 : decode prog_4_method_5_code 136 = .ok (.iconst 1, 1) := by decide +kernel
theorem d_P_readText_137 : decode prog_4_method_5_code 137 = .ok (.goto 4, 3) := by decide +kernel
theorem d_P_readText_140 : decode prog_4_method_5_code 140 = .ok (.iconst 0, 1) := by decide +kernel
theorem d_P_readText_141 : decode prog_4_method_5_code 141 = .ok (.iconst 5, 1) := by decide +kernel
theorem d_P_readText_142 : decode prog_4_method_5_code 142 = .ok (.iload 9, 2) := by decide +kernel
theorem d_P_readText_144 : decode prog_4_method_5_code 144 = .ok (.invokevirtual 52, 3) := by decide +kernel
theorem d_P_readText_147 : decode prog_4_method_5_code 147 = .ok (.goto 40, 3) := by decide +kernel
theorem d_P_readText_150 : decode prog_4_method_5_code 150 = .ok (.aload_n 0, 1) := by decide +kernel
theorem d_P_readText_151 : decode prog_4_method_5_code 151 = .ok (.getfield 25, 3) := by decide +kernel
theorem d_P_readText_154 : decode prog_4_method_5_code 154 = .ok (.iload 10, 2) := by decide +kernel
theorem d_P_readText_156 : decode prog_4_method_5_code 156 = .ok (.iload 6, 2) := by decide +kernel
theorem d_P_readText_158 : decode prog_4_method_5_code 158 = .ok (.if_icmp .lt 14, 3) := by decide +kernel
theorem d_P_readText_161 : decode prog_4_method_5_code 161 = .ok (.iload 10, 2) := by decide +kernel
theorem d_P_readText_163 : decode prog_4_method_5_code 163 = .ok (.iload 7, 2) := by decide +kernel
theorem d_P_readText_165 : decode prog_4_method_5_code 165 = .ok (.if_icmp .gt 7, 3) := by decide +kernel
theorem d_P_readText_168 : decode prog_4_method_5_code 168 = .ok (.iconst 1, 1) := by decide +kernel
theorem d_P_readText_169 : decode prog_4_method_5_code 169 = .ok (.goto 4, 3) := by decide +kernel
theorem d_P_readText_172 : decode prog_4_method_5_code 172 = .ok (.iconst 0, 1) := by decide +kernel
theorem d_P_readText_173 : decode prog_4_method_5_code 173 = .ok (.iconst 5, 1) := by decide +kernel
theorem d_P_readText_174 : decode prog_4_method_5_code 174 = .ok (.iload 9, 2) := by decide +kernel
theorem d_P_readText_176 : decode prog_4_method_5_code 176 = .ok (.invokevirtual 52, 3) := by decide +kernel
theorem d_P_readText_179 : decode prog_4_method_5_code 179 = .ok (.iinc 5 (-1), 3) := by decide +kernel
theorem d_P_readText_182 : decode prog_4_method_5_code 182 = .ok (.sipush 128, 3) := by decide +kernel
theorem d_P_readText_185 : decode prog_4_method_5_code 185 = .ok (.istore 6, 2) := by decide +kernel
theorem d_P_readText_187 : decode prog_4_method_5_code 187 = .ok (.iinc 8 1, 3) := by decide +kernel
theorem d_P_readText_190 : decode prog_4_method_5_code 190 = .ok (.goto (-158), 3) := by decide +kernel
theorem d_P_readText_193 : decode prog_4_method_5_code 193 = .ok (.aload_n 0, 1) := by decide +kernel
theorem d_P_readText_194 : decode prog_4_method_5_code 194 = .ok (.getfield 25, 3) := by decide +kernel
theorem d_P_readText_197 : decode prog_4_method_5_code 197 = .ok (.iload 5, 2) := by decide +kernel
theorem d_P_readText_199 : decode prog_4_method_5_code 199 = .ok (.ifCond .ne 7, 3) := by decide +kernel
theorem d_P_readText_202 : decode prog_4_method_5_code 202 = .ok (.iconst 1, 1) := by decide +kernel
theorem d_P_readText_203 : decode prog_4_method_5_code 203 = .ok (.goto 4, 3) := by decide +kernel
theorem d_P_readText_206 : decode prog_4_method_5_code 206 = .ok (.iconst 0, 1) := by decide +kernel
theorem d_P_readText_207 : decode prog_4_method_5_code 207 = .ok (.iconst 5, 1) := by decide +kernel
theorem d_P_readText_208 : decode prog_4_method_5_code 208 = .ok (.iload_n 2, 1) := by decide +kernel
theorem d_P_readText_209 : decode prog_4_method_5_code 209 = .ok (.invokevirtual 52, 3) := by decide +kernel
theorem d_P_readText_212 : decode prog_4_method_5_code 212 = .ok (.aload_n 0, 1) := by decide +kernel
theorem d_P_readText_213 : decode prog_4_method_5_code 213 = .ok (.getfield 22, 3) := by decide +kernel
theorem d_P_readText_216 : decode prog_4_method_5_code 216 = .ok (.iload_n 1, 1) := by decide +kernel
theorem d_P_readText_217 : decode prog_4_method_5_code 217 = .ok (.iload 4, 2) := by decide +kernel
theorem d_P_readText_219 : decode prog_4_method_5_code 219 = .ok (.iastore, 1) := by decide +kernel
theorem d_P_readText_220 : decode prog_4_method_5_code 220 = .ok (.return_, 1) := by decide +kernel
theorem d_P_readEntry_0 : decode prog_4_method_4_code 0 = .ok (.aload_n 0, 1) := by decide +kernel
theorem d_P_readEntry_1 : decode prog_4_method_4_code 1 = .ok (.getfield 25, 3) := by decide +kernel
theorem d_P_readEntry_4 : decode prog_4_method_4_code 4 = .ok (.getfield 44, 3) := by decide +kernel
theorem d_P_readEntry_7 : decode prog_4_method_4_code 7 = .ok (.istore_n 2, 1) := by decide +kernel
theorem d_P_readEntry_8 : decode prog_4_method_4_code 8 = .ok (.aload_n 0, 1) := by decide +kernel
theorem d_P_readEntry_9 : decode prog_4_method_4_code 9 = .ok (.iload_n 1, 1) := by decide +kernel
theorem d_P_readEntry_10 : decode prog_4_method_4_code 10 = .ok (.aload_n 0, 1) := by decide +kernel
theorem d_P_readEntry_11 : decode prog_4_method_4_code 11 = .ok (.getfield 25, 3) := by decide +kernel
theorem d_P_readEntry_14 : decode prog_4_method_4_code 14 = .ok (.iload_n 2, 1) := by decide +kernel
theorem d_P_readEntry_15 : decode prog_4_method_4_code 15 = .ok (.iconst 1, 1) := by decide +kernel
theorem d_P_readEntry_16 : decode prog_4_method_4_code 16 = .ok (.invokevirtual 71, 3) := by decide +kernel
theorem d_P_readEntry_19 : decode prog_4_method_4_code 19 = .ok (.invokevirtual 67, 3) := by decide +kernel
theorem d_P_readEntry_22 : decode prog_4_method_4_code 22 = .ok (.aload_n 0, 1) := by decide +kernel
theorem d_P_readEntry_23 : decode prog_4_method_4_code 23 = .ok (.getfield 25, 3) := by decide +kernel
theorem d_P_readEntry_26 : decode prog_4_method_4_code 26 = .ok (.iconst 1, 1) := by decide +kernel
theorem d_P_readEntry_27 : decode prog_4_method_4_code 27 = .ok (.invokevirtual 48, 3) := by decide +kernel
theorem d_P_readEntry_30 : decode prog_4_method_4_code 30 = .ok (.istore_n 3, 1) := by decide +kernel
theorem d_P_readEntry_31 : decode prog_4_method_4_code 31 = .ok (.iload_n 3, 1) := by decide +kernel
theorem d_P_readEntry_32 : decode prog_4_method_4_code 32 = .ok (.tableswitch 133 1 12 #[64, 133, 72, 133, 84, 133, 121, 121, 72, 72, 72, 72], 64) := by decide +kernel
theorem d_P_readEntry_96 : decode prog_4_method_4_code 96 = .ok (.aload_n 0, 1) := by decide +kernel
theorem d_P_readEntry_97 : decode prog_4_method_4_code 97 = .ok (.iload_n 1, 1) := by decide +kernel
theorem d_P_readEntry_98 : decode prog_4_method_4_code 98 = .ok (.invokevirtual 75, 3) := by decide +kernel
theorem d_P_readEntry_101 : decode prog_4_method_4_code 101 = .ok (.goto 113, 3) := by decide +kernel
theorem d_P_readEntry_104 : decode prog_4_method_4_code 104 = .ok (.aload_n 0, 1) := by decide +kernel
theorem d_P_readEntry_105 : decode prog_4_method_4_code 105 = .ok (.getfield 25, 3) := by decide +kernel
theorem d_P_readEntry_108 : decode prog_4_method_4_code 108 = .ok (.iconst 4, 1) := by decide +kernel
theorem d_P_readEntry_109 : decode prog_4_method_4_code 109 = .ok (.invokevirtual 48, 3) := by decide +kernel
theorem d_P_readEntry_112 : decode prog_4_method_4_code 112 = .ok (.pop, 1) := by decide +kernel
theorem d_P_readEntry_113 : decode prog_4_method_4_code 113 = .ok (.goto 101, 3) := by decide +kernel
theorem d_P_readEntry_116 : decode prog_4_method_4_code 116 = .ok (.aload_n 0, 1) := by decide +kernel
theorem d_P_readEntry_117 : decode prog_4_method_4_code 117 = .ok (.getfield 25, 3) := by decide +kernel
theorem d_P_readEntry_120 : decode prog_4_method_4_code 120 = .ok (.bipush 8, 2) := by decide +kernel
theorem d_P_readEntry_122 : decode prog_4_method_4_code 122 = .ok (.invokevirtual 48, 3) := by decide +kernel
theorem d_P_readEntry_125 : decode prog_4_method_4_code 125 = .ok (.pop, 1) := by decide +kernel
theorem d_P_readEntry_126 : decode prog_4_method_4_code 126 = .ok (.aload_n 0, 1) := by decide +kernel
theorem d_P_readEntry_127 : decode prog_4_method_4_code 127 = .ok (.getfield 25, 3) := by decide +kernel
theorem d_P_readEntry_130 : decode prog_4_method_4_code 130 = .ok (.iload_n 1, 1) := by decide +kernel
theorem d_P_readEntry_131 : decode prog_4_method_4_code 131 = .ok (.iconst 1, 1) := by decide +kernel
theorem d_P_readEntry_132 : decode prog_4_method_4_code 132 = .ok (.iadd, 1) := by decide +kernel
theorem d_P_readEntry_133 : decode prog_4_method_4_code 133 = .ok (.aload_n 0, 1) := by decide +kernel
theorem d_P_readEntry_134 : decode prog_4_method_4_code 134 = .ok (.getfield 60, 3) := by decide +kernel
theorem d_P_readEntry_137 : decode prog_4_method_4_code 137 = .ok (.if_icmp .ge 7, 3) := by decide +kernel
theorem d_P_readEntry_140 : decode prog_4_method_4_code 140 = .ok (.iconst 1, 1) := by decide +kernel
theorem d_P_readEntry_141 : decode prog_4_method_4_code 141 = .ok (.goto 4, 3) := by decide +kernel
theorem d_P_readEntry_144 : decode prog_4_method_4_code 144 = .ok (.iconst 0, 1) := by decide +kernel
theorem d_P_readEntry_145 : decode prog_4_method_4_code 145 = .ok (.iconst 4, 1) := by decide +kernel
theorem d_P_readEntry_146 : decode prog_4_method_4_code 146 = .ok (.iload_n 2, 1) := by decide +kernel
theorem d_P_readEntry_147 : decode prog_4_method_4_code 147 = .ok (.invokevirtual 52, 3) := by decide +kernel
theorem d_P_readEntry_150 : decode prog_4_method_4_code 150 = .ok (.goto 64, 3) := by decide +kernel
theorem d_P_readEntry_153 : decode prog_4_method_4_code 153 = .ok (.aload_n 0, 1) := by decide +kernel
theorem d_P_readEntry_154 : decode prog_4_method_4_code 154 = .ok (.getfield 25, 3) := by decide +kernel
theorem d_P_readEntry_157 : decode prog_4_method_4_code 157 = .ok (.iconst 2, 1) := by decide +kernel
theorem d_P_readEntry_158 : decode prog_4_method_4_code 158 = .ok (.invokevirtual 48, 3) := by decide +kernel
theorem d_P_readEntry_161 : decode prog_4_method_4_code 161 = .ok (.pop, 1) := by decide +kernel
theorem d_P_readEntry_162 : decode prog_4_method_4_code 162 = .ok (.goto 52, 3) := by decide +kernel
theorem d_P_readEntry_165 : decode prog_4_method_4_code 165 = .ok (.aload_n 0, 1) := by decide +kernel
theorem d_P_readEntry_166 : decode prog_4_method_4_code 166 = .ok (.getfield 25, 3) := by decide +kernel
theorem d_P_readEntry_169 : decode prog_4_method_4_code 169 = .ok (.iload_n 3, 1) := by decide +kernel
theorem d_P_readEntry_170 : decode prog_4_method_4_code 170 = .ok (.iconst 4, 1) := by decide +kernel
theorem d_P_readEntry_171 : decode prog_4_method_4_code 171 = .ok (.if_icmp .eq 25, 3) := by decide +kernel
theorem d_P_readEntry_174 : decode prog_4_method_4_code 174 = .ok (.iload_n 3, 1) := by decide +kernel
theorem d_P_readEntry_175 : decode prog_4_method_4_code 175 = .ok (.bipush 6, 2) := by decide +kernel
theorem d_P_readEntry_177 : decode prog_4_method_4_code 177 = .ok (.if_icmp .eq 19, 3) := by decide +kernel
theorem d_P_readEntry_180 : decode prog_4_method_4_code 180 = .ok (.iload_n 3, 1) := by decide +kernel
theorem d_P_readEntry_181 : decode prog_4_method_4_code 181 = .ok (.bipush 15, 2) := by decide +kernel
theorem d_P_readEntry_183 : decode prog_4_method_4_code 183 = .ok (.if_icmp .lt 9, 3) := by decide +kernel
theorem d_P_readEntry_186 : decode prog_4_method_4_code 186 = .ok (.iload_n 3, 1) := by decide +kernel
theorem d_P_readEntry_187 : decode prog_4_method_4_code 187 = .ok (.bipush 20, 2) := by decide +kernel
theorem d_P_readEntry_189 : decode prog_4_method_4_code 189 = .ok (.if_icmp .le 7, 3) := by decide +kernel
theorem d_P_readEntry_192 : decode prog_4_method_4_code 192 = .ok (.iconst 1, 1) := by decide +kernel
theorem d_P_readEntry_193 : decode prog_4_method_4_code 193 = .ok (.goto 4, 3) := by decide +kernel
theorem d_P_readEntry_196 : decode prog_4_method_4_code 196 = .ok (.iconst 0, 1) := by decide +kernel
theorem d_P_readEntry_197 : decode prog_4_method_4_code 197 = .ok (.bipush 7, 2) := by decide +kernel
theorem d_P_readEntry_199 : decode prog_4_method_4_code 199 = .ok (.iload_n 2, 1) := by decide +kernel
theorem d_P_readEntry_200 : decode prog_4_method_4_code 200 = .ok (.invokevirtual 52, 3) := by decide +kernel
theorem d_P_readEntry_203 : decode prog_4_method_4_code 203 = .ok (.aload_n 0, 1) := by decide +kernel
theorem d_P_readEntry_204 : decode prog_4_method_4_code 204 = .ok (.getfield 25, 3) := by decide +kernel
theorem d_P_readEntry_207 : decode prog_4_method_4_code 207 = .ok (.iconst 0, 1) := by decide +kernel
theorem d_P_readEntry_208 : decode prog_4_method_4_code 208 = .ok (.bipush 6, 2) := by decide +kernel
theorem d_P_readEntry_210 : decode prog_4_method_4_code 210 = .ok (.iload_n 2, 1) := by decide +kernel
theorem d_P_readEntry_211 : decode prog_4_method_4_code 211 = .ok (.invokevirtual 52, 3) := by decide +kernel
theorem d_P_readEntry_214 : decode prog_4_method_4_code 214 = .ok (.return_, 1) := by decide +kernel
theorem d_P_readEntries_0 : decode prog_4_method_2_code 0 = .ok (.aload_n 0, 1) := by decide +kernel
theorem d_P_readEntries_1 : decode prog_4_method_2_code 1 = .ok (.getfield 25, 3) := by decide +kernel
theorem d_P_readEntries_4 : decode prog_4_method_2_code 4 = .ok (.getfield 44, 3) := by decide +kernel
theorem d_P_readEntries_7 : decode prog_4_method_2_code 7 = .ok (.istore_n 1, 1) := by decide +kernel
theorem d_P_readEntries_8 : decode prog_4_method_2_code 8 = .ok (.aload_n 0, 1) := by decide +kernel
theorem d_P_readEntries_9 : decode prog_4_method_2_code 9 = .ok (.getfield 25, 3) := by decide +kernel
theorem d_P_readEntries_12 : decode prog_4_method_2_code 12 = .ok (.iconst 2, 1) := by decide +kernel
theorem d_P_readEntries_13 : decode prog_4_method_2_code 13 = .ok (.invokevirtual 48, 3) := by decide +kernel
theorem d_P_readEntries_16 : decode prog_4_method_2_code 16 = .ok (.istore_n 2, 1) := by decide +kernel
theorem d_P_readEntries_17 : decode prog_4_method_2_code 17 = .ok (.aload_n 0, 1) := by decide +kernel
theorem d_P_readEntries_18 : decode prog_4_method_2_code 18 = .ok (.getfield 25, 3) := by decide +kernel
theorem d_P_readEntries_21 : decode prog_4_method_2_code 21 = .ok (.iload_n 2, 1) := by decide +kernel
theorem d_P_readEntries_22 : decode prog_4_method_2_code 22 = .ok (.iconst 1, 1) := by decide +kernel
theorem d_P_readEntries_23 : decode prog_4_method_2_code 23 = .ok (.if_icmp .lt 14, 3) := by decide +kernel
theorem d_P_readEntries_26 : decode prog_4_method_2_code 26 = .ok (.iload_n 2, 1) := by decide +kernel
theorem d_P_readEntries_27 : decode prog_4_method_2_code 27 = .ok (.sipush 300, 3) := by decide +kernel
theorem d_P_readEntries_30 : decode prog_4_method_2_code 30 = .ok (.if_icmp .gt 7, 3) := by decide +kernel
theorem d_P_readEntries_33 : decode prog_4_method_2_code 33 = .ok (.iconst 1, 1) := by decide +kernel
theorem d_P_readEntries_34 : decode prog_4_method_2_code 34 = .ok (.goto 4, 3) := by decide +kernel
theorem d_P_readEntries_37 : decode prog_4_method_2_code 37 = .ok (.iconst 0, 1) := by decide +kernel
theorem d_P_readEntries_38 : decode prog_4_method_2_code 38 = .ok (.iconst 4, 1) := by decide +kernel
theorem d_P_readEntries_39 : decode prog_4_method_2_code 39 = .ok (.iload_n 1, 1) := by decide +kernel
theorem d_P_readEntries_40 : decode prog_4_method_2_code 40 = .ok (.invokevirtual 52, 3) := by decide +kernel
theorem d_P_readEntries_43 : decode prog_4_method_2_code 43 = .ok (.aload_n 0, 1) := by decide +kernel
theorem d_P_readEntries_44 : decode prog_4_method_2_code 44 = .ok (.aload_n 0, 1) := by decide +kernel
theorem d_P_readEntries_45 : decode prog_4_method_2_code 45 = .ok (.getfield 25, 3) := by decide +kernel
theorem d_P_readEntries_48 : decode prog_4_method_2_code 48 = .ok (.invokevirtual 56, 3) := by decide +kernel
theorem d_P_readEntries_51 : decode prog_4_method_2_code 51 = .ok (.ifCond .eq 7, 3) := by decide +kernel
theorem d_P_readEntries_54 : decode prog_4_method_2_code 54 = .ok (.iload_n 2, 1) := by decide +kernel
theorem d_P_readEntries_55 : decode prog_4_method_2_code 55 = .ok (.goto 4, 3) := by decide +kernel
theorem d_P_readEntries_58 : decode prog_4_method_2_code 58 = .ok (.iconst 0, 1) := by decide +kernel
theorem d_P_readEntries_59 : decode prog_4_method_2_code 59 = .ok (.putfield 60, 3) := by decide +kernel
theorem d_P_readEntries_62 : decode prog_4_method_2_code 62 = .ok (.iconst 1, 1) := by decide +kernel
theorem d_P_readEntries_63 : decode prog_4_method_2_code 63 = .ok (.istore_n 3, 1) := by decide +kernel
theorem d_P_readEntries_64 : decode prog_4_method_2_code 64 = .ok (.iload_n 3, 1) := by decide +kernel
theorem d_P_readEntries_65 : decode prog_4_method_2_code 65 = .ok (.aload_n 0, 1) := by decide +kernel
theorem d_P_readEntries_66 : decode prog_4_method_2_code 66 = .ok (.getfield 60, 3) := by decide +kernel
theorem d_P_readEntries_69 : decode prog_4_method_2_code 69 = .ok (.if_icmp .ge 53, 3) := by decide +kernel
theorem d_P_readEntries_72 : decode prog_4_method_2_code 72 = .ok (.aload_n 0, 1) := by decide +kernel
theorem d_P_readEntries_73 : decode prog_4_method_2_code 73 = .ok (.getfield 25, 3) := by decide +kernel
theorem d_P_readEntries_76 : decode prog_4_method_2_code 76 = .ok (.invokevirtual 56, 3) := by decide +kernel
theorem d_P_readEntries_79 : decode prog_4_method_2_code 79 = .ok (.ifCond .eq 43, 3) := by decide +kernel
theorem d_P_readEntries_82 : decode prog_4_method_2_code 82 = .ok (.aload_n 0, 1) := by decide +kernel
theorem d_P_readEntries_83 : decode prog_4_method_2_code 83 = .ok (.iload_n 3, 1) := by decide +kernel
theorem d_P_readEntries_84 : decode prog_4_method_2_code 84 = .ok (.invokevirtual 63, 3) := by decide +kernel
theorem d_P_readEntries_87 : decode prog_4_method_2_code 87 = .ok (.aload_n 0, 1) := by decide +kernel
theorem d_P_readEntries_88 : decode prog_4_method_2_code 88 = .ok (.getfield 9, 3) := by decide +kernel
theorem d_P_readEntries_91 : decode prog_4_method_2_code 91 = .ok (.iload_n 3, 1) := by decide +kernel
theorem d_P_readEntries_92 : decode prog_4_method_2_code 92 = .ok (.iaload, 1) := by decide +kernel
theorem d_P_readEntries_93 : decode prog_4_method_2_code 93 = .ok (.iconst 5, 1) := by decide +kernel
theorem d_P_readEntries_94 : decode prog_4_method_2_code 94 = .ok (.if_icmp .ne 22, 3) := by decide +kernel
theorem d_P_readEntries_97 : decode prog_4_method_2_code 97 = .ok (.iload_n 3, 1) := by decide +kernel
theorem d_P_readEntries_98 : decode prog_4_method_2_code 98 = .ok (.iconst 1, 1) := by decide +kernel
theorem d_P_readEntries_99 : decode prog_4_method_2_code 99 = .ok (.iadd, 1) := by decide +kernel
theorem d_P_readEntries_100 : decode prog_4_method_2_code 100 = .ok (.aload_n 0, 1) := by decide +kernel
theorem d_P_readEntries_101 : decode prog_4_method_2_code 101 = .ok (.getfield 60, 3) := by decide +kernel
theorem d_P_readEntries_104 : decode prog_4_method_2_code 104 = .ok (.if_icmp .ge 12, 3) := by decide +kernel
theorem d_P_readEntries_107 : decode prog_4_method_2_code 107 = .ok (.iinc 3 1, 3) := by decide +kernel
theorem d_P_readEntries_110 : decode prog_4_method_2_code 110 = .ok (.aload_n 0, 1) := by decide +kernel
theorem d_P_readEntries_111 : decode prog_4_method_2_code 111 = .ok (.iload_n 3, 1) := by decide +kernel
theorem d_P_readEntries_112 : decode prog_4_method_2_code 112 = .ok (.iconst 0, 1) := by decide +kernel
theorem d_P_readEntries_113 : decode prog_4_method_2_code 113 = .ok (.invokevirtual 67, 3) := by decide +kernel
theorem d_P_readEntries_116 : decode prog_4_method_2_code 116 = .ok (.iinc 3 1, 3) := by decide +kernel
theorem d_P_readEntries_119 : decode prog_4_method_2_code 119 = .ok (.goto (-55), 3) := by decide +kernel
theorem d_P_readEntries_122 : decode prog_4_method_2_code 122 = .ok (.return_, 1) := by decide +kernel
theorem d_P_bracketsOf_0 : decode prog_4_method_23_code 0 = .ok (.aload_n 0, 1) := by decide +kernel
theorem d_P_bracketsOf_1 : decode prog_4_method_23_code 1 = .ok (.iload_n 1, 1) := by decide +kernel
theorem d_P_bracketsOf_2 : decode prog_4_method_23_code 2 = .ok (.invokevirtual 84, 3) := by decide +kernel
theorem d_P_bracketsOf_5 : decode prog_4_method_23_code 5 = .ok (.istore_n 2, 1) := by decide +kernel
theorem d_P_bracketsOf_6 : decode prog_4_method_23_code 6 = .ok (.iconst 0, 1) := by decide +kernel
theorem d_P_bracketsOf_7 : decode prog_4_method_23_code 7 = .ok (.istore_n 3, 1) := by decide +kernel
theorem d_P_bracketsOf_8 : decode prog_4_method_23_code 8 = .ok (.iload_n 3, 1) := by decide +kernel
theorem d_P_bracketsOf_9 : decode prog_4_method_23_code 9 = .ok (.iload_n 2, 1) := by decide +kernel
theorem d_P_bracketsOf_10 : decode prog_4_method_23_code 10 = .ok (.if_icmp .ge 32, 3) := by decide +kernel
theorem d_P_bracketsOf_13 : decode prog_4_method_23_code 13 = .ok (.aload_n 0, 1) := by decide +kernel
theorem d_P_bracketsOf_14 : decode prog_4_method_23_code 14 = .ok (.getfield 25, 3) := by decide +kernel
theorem d_P_bracketsOf_17 : decode prog_4_method_23_code 17 = .ok (.aload_n 0, 1) := by decide +kernel
theorem d_P_bracketsOf_18 : decode prog_4_method_23_code 18 = .ok (.getfield 13, 3) := by decide +kernel
theorem d_P_bracketsOf_21 : decode prog_4_method_23_code 21 = .ok (.iload_n 1, 1) := by decide +kernel
theorem d_P_bracketsOf_22 : decode prog_4_method_23_code 22 = .ok (.iaload, 1) := by decide +kernel
theorem d_P_bracketsOf_23 : decode prog_4_method_23_code 23 = .ok (.iconst 3, 1) := by decide +kernel
theorem d_P_bracketsOf_24 : decode prog_4_method_23_code 24 = .ok (.iadd, 1) := by decide +kernel
theorem d_P_bracketsOf_25 : decode prog_4_method_23_code 25 = .ok (.iload_n 3, 1) := by decide +kernel
theorem d_P_bracketsOf_26 : decode prog_4_method_23_code 26 = .ok (.iadd, 1) := by decide +kernel
theorem d_P_bracketsOf_27 : decode prog_4_method_23_code 27 = .ok (.iconst 1, 1) := by decide +kernel
theorem d_P_bracketsOf_28 : decode prog_4_method_23_code 28 = .ok (.invokevirtual 71, 3) := by decide +kernel
theorem d_P_bracketsOf_31 : decode prog_4_method_23_code 31 = .ok (.bipush 91, 2) := by decide +kernel
theorem d_P_bracketsOf_33 : decode prog_4_method_23_code 33 = .ok (.if_icmp .ne 9, 3) := by decide +kernel
theorem d_P_bracketsOf_36 : decode prog_4_method_23_code 36 = .ok (.iinc 3 1, 3) := by decide +kernel
theorem d_P_bracketsOf_39 : decode prog_4_method_23_code 39 = .ok (.goto (-31), 3) := by decide +kernel
theorem d_P_bracketsOf_42 : decode prog_4_method_23_code 42 = .ok (.iload_n 3, 1) := by decide +kernel
theorem d_P_bracketsOf_43 : decode prog_4_method_23_code 43 = .ok (.ireturn, 1) := by decide +kernel
theorem d_P_refer_0 : decode prog_4_method_14_code 0 = .ok (.aload_n 0, 1) := by decide +kernel
theorem d_P_refer_1 : decode prog_4_method_14_code 1 = .ok (.getfield 25, 3) := by decide +kernel
theorem d_P_refer_4 : decode prog_4_method_14_code 4 = .ok (.iload_n 1, 1) := by decide +kernel
theorem d_P_refer_5 : decode prog_4_method_14_code 5 = .ok (.iconst 2, 1) := by decide +kernel
theorem d_P_refer_6 : decode prog_4_method_14_code 6 = .ok (.invokevirtual 71, 3) := by decide +kernel
theorem d_P_refer_9 : decode prog_4_method_14_code 9 = .ok (.istore_n 3, 1) := by decide +kernel
theorem d_P_refer_10 : decode prog_4_method_14_code 10 = .ok (.aload_n 0, 1) := by decide +kernel
theorem d_P_refer_11 : decode prog_4_method_14_code 11 = .ok (.getfield 25, 3) := by decide +kernel
theorem d_P_refer_14 : decode prog_4_method_14_code 14 = .ok (.aload_n 0, 1) := by decide +kernel
theorem d_P_refer_15 : decode prog_4_method_14_code 15 = .ok (.iload_n 3, 1) := by decide +kernel
theorem d_P_refer_16 : decode prog_4_method_14_code 16 = .ok (.invokevirtual 146, 3) := by decide +kernel
theorem d_P_refer_19 : decode prog_4_method_14_code 19 = .ok (.iload_n 2, 1) := by decide +kernel
theorem d_P_refer_20 : decode prog_4_method_14_code 20 = .ok (.if_icmp .ne 7, 3) := by decide +kernel
theorem d_P_refer_23 : decode prog_4_method_14_code 23 = .ok (.iconst 1, 1) := by decide +kernel
theorem d_P_refer_24 : decode prog_4_method_14_code 24 = .ok (.goto 4, 3) := by decide +kernel
theorem d_P_refer_27 : decode prog_4_method_14_code 27 = .ok (.iconst 0, 1) := by decide +kernel
theorem d_P_refer_28 : decode prog_4_method_14_code 28 = .ok (.bipush 8, 2) := by decide +kernel
theorem d_P_refer_30 : decode prog_4_method_14_code 30 = .ok (.iload_n 1, 1) := by decide +kernel
theorem d_P_refer_31 : decode prog_4_method_14_code 31 = .ok (.invokevirtual 52, 3) := by decide +kernel
theorem d_P_refer_34 : decode prog_4_method_14_code 34 = .ok (.iload_n 3, 1) := by decide +kernel
theorem d_P_refer_35 : decode prog_4_method_14_code 35 = .ok (.ireturn, 1) := by decide +kernel
theorem d_P_linkClass_0 : decode prog_4_method_10_code 0 = .ok (.aload_n 0, 1) := by decide +kernel
theorem d_P_linkClass_1 : decode prog_4_method_10_code 1 = .ok (.getfield 13, 3) := by decide +kernel
theorem d_P_linkClass_4 : decode prog_4_method_10_code 4 = .ok (.iload_n 1, 1) := by decide +kernel
theorem d_P_linkClass_5 : decode prog_4_method_10_code 5 = .ok (.iaload, 1) := by decide +kernel
theorem d_P_linkClass_6 : decode prog_4_method_10_code 6 = .ok (.iconst 1, 1) := by decide +kernel
theorem d_P_linkClass_7 : decode prog_4_method_10_code 7 = .ok (.iadd, 1) := by decide +kernel
theorem d_P_linkClass_8 : decode prog_4_method_10_code 8 = .ok (.istore_n 2, 1) := by decide +kernel
theorem d_P_linkClass_9 : decode prog_4_method_10_code 9 = .ok (.aload_n 0, 1) := by decide +kernel
theorem d_P_linkClass_10 : decode prog_4_method_10_code 10 = .ok (.iload_n 2, 1) := by decide +kernel
theorem d_P_linkClass_11 : decode prog_4_method_10_code 11 = .ok (.iconst 1, 1) := by decide +kernel
theorem d_P_linkClass_12 : decode prog_4_method_10_code 12 = .ok (.invokevirtual 117, 3) := by decide +kernel
theorem d_P_linkClass_15 : decode prog_4_method_10_code 15 = .ok (.istore_n 3, 1) := by decide +kernel
theorem d_P_linkClass_16 : decode prog_4_method_10_code 16 = .ok (.aload_n 0, 1) := by decide +kernel
theorem d_P_linkClass_17 : decode prog_4_method_10_code 17 = .ok (.iload_n 3, 1) := by decide +kernel
theorem d_P_linkClass_18 : decode prog_4_method_10_code 18 = .ok (.invokevirtual 126, 3) := by decide +kernel
theorem d_P_linkClass_21 : decode prog_4_method_10_code 21 = .ok (.istore 4, 2) := by decide +kernel
theorem d_P_linkClass_23 : decode prog_4_method_10_code 23 = .ok (.iload 4, 2) := by decide +kernel
theorem d_P_linkClass_25 : decode prog_4_method_10_code 25 = .ok (.ifCond .le 8, 3) := by decide +kernel
theorem d_P_linkClass_28 : decode prog_4_method_10_code 28 = .ok (.bipush 16, 2) := by decide +kernel
theorem d_P_linkClass_30 : decode prog_4_method_10_code 30 = .ok (.goto 4, 3) := by decide +kernel
theorem d_P_linkClass_33 : decode prog_4_method_10_code 33 = .ok (.iconst 2, 1) := by decide +kernel
theorem d_P_linkClass_34 : decode prog_4_method_10_code 34 = .ok (.istore 5, 2) := by decide +kernel
theorem d_P_linkClass_36 : decode prog_4_method_10_code 36 = .ok (.aload_n 0, 1) := by decide +kernel
theorem d_P_linkClass_37 : decode prog_4_method_10_code 37 = .ok (.getfield 25, 3) := by decide +kernel
theorem d_P_linkClass_40 : decode prog_4_method_10_code 40 = .ok (.aload_n 0, 1) := by decide +kernel
theorem d_P_linkClass_41 : decode prog_4_method_10_code 41 = .ok (.iload_n 3, 1) := by decide +kernel
theorem d_P_linkClass_42 : decode prog_4_method_10_code 42 = .ok (.invokevirtual 129, 3) := by decide +kernel
theorem d_P_linkClass_45 : decode prog_4_method_10_code 45 = .ok (.iload 5, 2) := by decide +kernel
theorem d_P_linkClass_47 : decode prog_4_method_10_code 47 = .ok (.iand, 1) := by decide +kernel
theorem d_P_linkClass_48 : decode prog_4_method_10_code 48 = .ok (.ifCond .eq 7, 3) := by decide +kernel
theorem d_P_linkClass_51 : decode prog_4_method_10_code 51 = .ok (.iconst 1, 1) := by decide +kernel
theorem d_P_linkClass_52 : decode prog_4_method_10_code 52 = .ok (.goto 4, 3) := by decide +kernel
theorem d_P_linkClass_55 : decode prog_4_method_10_code 55 = .ok (.iconst 0, 1) := by decide +kernel
theorem d_P_linkClass_56 : decode prog_4_method_10_code 56 = .ok (.bipush 9, 2) := by decide +kernel
theorem d_P_linkClass_58 : decode prog_4_method_10_code 58 = .ok (.iload_n 2, 1) := by decide +kernel
theorem d_P_linkClass_59 : decode prog_4_method_10_code 59 = .ok (.invokevirtual 52, 3) := by decide +kernel
theorem d_P_linkClass_62 : decode prog_4_method_10_code 62 = .ok (.aload_n 0, 1) := by decide +kernel
theorem d_P_linkClass_63 : decode prog_4_method_10_code 63 = .ok (.getfield 25, 3) := by decide +kernel
theorem d_P_linkClass_66 : decode prog_4_method_10_code 66 = .ok (.iload 4, 2) := by decide +kernel
theorem d_P_linkClass_68 : decode prog_4_method_10_code 68 = .ok (.ifCond .eq 14, 3) := by decide +kernel
theorem d_P_linkClass_71 : decode prog_4_method_10_code 71 = .ok (.aload_n 0, 1) := by decide +kernel
theorem d_P_linkClass_72 : decode prog_4_method_10_code 72 = .ok (.iload_n 3, 1) := by decide +kernel
theorem d_P_linkClass_73 : decode prog_4_method_10_code 73 = .ok (.invokevirtual 129, 3) := by decide +kernel
theorem d_P_linkClass_76 : decode prog_4_method_10_code 76 = .ok (.bipush 64, 2) := by decide +kernel
theorem d_P_linkClass_78 : decode prog_4_method_10_code 78 = .ok (.iand, 1) := by decide +kernel
theorem d_P_linkClass_79 : decode prog_4_method_10_code 79 = .ok (.ifCond .ne 7, 3) := by decide +kernel
theorem d_P_linkClass_82 : decode prog_4_method_10_code 82 = .ok (.iconst 1, 1) := by decide +kernel
theorem d_P_linkClass_83 : decode prog_4_method_10_code 83 = .ok (.goto 4, 3) := by decide +kernel
theorem d_P_linkClass_86 : decode prog_4_method_10_code 86 = .ok (.iconst 0, 1) := by decide +kernel
theorem d_P_linkClass_87 : decode prog_4_method_10_code 87 = .ok (.bipush 12, 2) := by decide +kernel
theorem d_P_linkClass_89 : decode prog_4_method_10_code 89 = .ok (.iload_n 2, 1) := by decide +kernel
theorem d_P_linkClass_90 : decode prog_4_method_10_code 90 = .ok (.invokevirtual 52, 3) := by decide +kernel
theorem d_P_linkClass_93 : decode prog_4_method_10_code 93 = .ok (.aload_n 0, 1) := by decide +kernel
theorem d_P_linkClass_94 : decode prog_4_method_10_code 94 = .ok (.getfield 19, 3) := by decide +kernel
theorem d_P_linkClass_97 : decode prog_4_method_10_code 97 = .ok (.iload_n 1, 1) := by decide +kernel
theorem d_P_linkClass_98 : decode prog_4_method_10_code 98 = .ok (.iload 4, 2) := by decide +kernel
theorem d_P_linkClass_100 : decode prog_4_method_10_code 100 = .ok (.iastore, 1) := by decide +kernel
theorem d_P_linkClass_101 : decode prog_4_method_10_code 101 = .ok (.return_, 1) := by decide +kernel
theorem d_P_fits_0 : decode prog_4_method_13_code 0 = .ok (.iload_n 1, 1) := by decide +kernel
theorem d_P_fits_1 : decode prog_4_method_13_code 1 = .ok (.iconst 1, 1) := by decide +kernel
theorem d_P_fits_2 : decode prog_4_method_13_code 2 = .ok (.iand, 1) := by decide +kernel
theorem d_P_fits_3 : decode prog_4_method_13_code 3 = .ok (.ifCond .eq 7, 3) := by decide +kernel
theorem d_P_fits_6 : decode prog_4_method_13_code 6 = .ok (.iconst 1, 1) := by decide +kernel
theorem d_P_fits_7 : decode prog_4_method_13_code 7 = .ok (.goto 4, 3) := by decide +kernel
theorem d_P_fits_10 : decode prog_4_method_13_code 10 = .ok (.iconst 0, 1) := by decide +kernel
theorem d_P_fits_11 : decode prog_4_method_13_code 11 = .ok (.istore_n 3, 1) := by decide +kernel
theorem d_P_fits_12 : decode prog_4_method_13_code 12 = .ok (.iload_n 0, 1) := by decide +kernel
theorem d_P_fits_13 : decode prog_4_method_13_code 13 = .ok (.bipush 9, 2) := by decide +kernel
theorem d_P_fits_15 : decode prog_4_method_13_code 15 = .ok (.if_icmp .ne 20, 3) := by decide +kernel
theorem d_P_fits_18 : decode prog_4_method_13_code 18 = .ok (.iload_n 3, 1) := by decide +kernel
theorem d_P_fits_19 : decode prog_4_method_13_code 19 = .ok (.ifCond .eq 14, 3) := by decide +kernel
theorem d_P_fits_22 : decode prog_4_method_13_code 22 = .ok (.iload_n 2, 1) := by decide +kernel
theorem d_P_fits_23 : decode prog_4_method_13_code 23 = .ok (.bipush 16, 2) := by decide +kernel
theorem d_P_fits_25 : decode prog_4_method_13_code 25 = .ok (.iand, 1) := by decide +kernel
theorem d_P_fits_26 : decode prog_4_method_13_code 26 = .ok (.ifCond .eq 7, 3) := by decide +kernel
theorem d_P_fits_29 : decode prog_4_method_13_code 29 = .ok (.iconst 1, 1) := by decide +kernel
theorem d_P_fits_30 : decode prog_4_method_13_code 30 = .ok (.goto 4, 3) := by decide +kernel
theorem d_P_fits_33 : decode prog_4_method_13_code 33 = .ok (.iconst 0, 1) := by decide +kernel
theorem d_P_fits_34 : decode prog_4_method_13_code 34 = .ok (.ireturn, 1) := by decide +kernel
theorem d_P_fits_35 : decode prog_4_method_13_code 35 = .ok (.iload_n 0, 1) := by decide +kernel
theorem d_P_fits_36 : decode prog_4_method_13_code 36 = .ok (.bipush 10, 2) := by decide +kernel
theorem d_P_fits_38 : decode prog_4_method_13_code 38 = .ok (.if_icmp .ne 21, 3) := by decide +kernel
theorem d_P_fits_41 : decode prog_4_method_13_code 41 = .ok (.iload_n 1, 1) := by decide +kernel
theorem d_P_fits_42 : decode prog_4_method_13_code 42 = .ok (.iconst 4, 1) := by decide +kernel
theorem d_P_fits_43 : decode prog_4_method_13_code 43 = .ok (.iand, 1) := by decide +kernel
theorem d_P_fits_44 : decode prog_4_method_13_code 44 = .ok (.ifCond .eq 15, 3) := by decide +kernel
theorem d_P_fits_47 : decode prog_4_method_13_code 47 = .ok (.iload_n 2, 1) := by decide +kernel
theorem d_P_fits_48 : decode prog_4_method_13_code 48 = .ok (.sipush 128, 3) := by decide +kernel
theorem d_P_fits_51 : decode prog_4_method_13_code 51 = .ok (.iand, 1) := by decide +kernel
theorem d_P_fits_52 : decode prog_4_method_13_code 52 = .ok (.ifCond .eq 7, 3) := by decide +kernel
theorem d_P_fits_55 : decode prog_4_method_13_code 55 = .ok (.iconst 1, 1) := by decide +kernel
theorem d_P_fits_56 : decode prog_4_method_13_code 56 = .ok (.goto 4, 3) := by decide +kernel
theorem d_P_fits_59 : decode prog_4_method_13_code 59 = .ok (.iconst 0, 1) := by decide +kernel
theorem d_P_fits_60 : decode prog_4_method_13_code 60 = .ok (.istore 4, 2) := by decide +kernel
theorem d_P_fits_62 : decode prog_4_method_13_code 62 = .ok (.iload_n 3, 1) := by decide +kernel
theorem d_P_fits_63 : decode prog_4_method_13_code 63 = .ok (.ifCond .ne 8, 3) := by decide +kernel
theorem d_P_fits_66 : decode prog_4_method_13_code 66 = .ok (.iload 4, 2) := by decide +kernel
theorem d_P_fits_68 : decode prog_4_method_13_code 68 = .ok (.ifCond .eq 14, 3) := by decide +kernel
theorem d_P_fits_71 : decode prog_4_method_13_code 71 = .ok (.iload_n 2, 1) := by decide +kernel
theorem d_P_fits_72 : decode prog_4_method_13_code 72 = .ok (.bipush 32, 2) := by decide +kernel
theorem d_P_fits_74 : decode prog_4_method_13_code 74 = .ok (.iand, 1) := by decide +kernel
theorem d_P_fits_75 : decode prog_4_method_13_code 75 = .ok (.ifCond .eq 7, 3) := by decide +kernel
theorem d_P_fits_78 : decode prog_4_method_13_code 78 = .ok (.iconst 1, 1) := by decide +kernel
theorem d_P_fits_79 : decode prog_4_method_13_code 79 = .ok (.goto 4, 3) := by decide +kernel
theorem d_P_fits_82 : decode prog_4_method_13_code 82 = .ok (.iconst 0, 1) := by decide +kernel
theorem d_P_fits_83 : decode prog_4_method_13_code 83 = .ok (.ireturn, 1) := by decide +kernel
theorem d_P_secondOf_0 : decode prog_4_method_22_code 0 = .ok (.aload_n 0, 1) := by decide +kernel
theorem d_P_secondOf_1 : decode prog_4_method_22_code 1 = .ok (.iload_n 1, 1) := by decide +kernel
theorem d_P_secondOf_2 : decode prog_4_method_22_code 2 = .ok (.invokevirtual 149, 3) := by decide +kernel
theorem d_P_secondOf_5 : decode prog_4_method_22_code 5 = .ok (.ifCond .eq 22, 3) := by decide +kernel
theorem d_P_secondOf_8 : decode prog_4_method_22_code 8 = .ok (.aload_n 0, 1) := by decide +kernel
theorem d_P_secondOf_9 : decode prog_4_method_22_code 9 = .ok (.getfield 25, 3) := by decide +kernel
theorem d_P_secondOf_12 : decode prog_4_method_22_code 12 = .ok (.aload_n 0, 1) := by decide +kernel
theorem d_P_secondOf_13 : decode prog_4_method_22_code 13 = .ok (.getfield 13, 3) := by decide +kernel
theorem d_P_secondOf_16 : decode prog_4_method_22_code 16 = .ok (.iload_n 1, 1) := by decide +kernel
theorem d_P_secondOf_17 : decode prog_4_method_22_code 17 = .ok (.iaload, 1) := by decide +kernel
theorem d_P_secondOf_18 : decode prog_4_method_22_code 18 = .ok (.iconst 3, 1) := by decide +kernel
theorem d_P_secondOf_19 : decode prog_4_method_22_code 19 = .ok (.iadd, 1) := by decide +kernel
theorem d_P_secondOf_20 : decode prog_4_method_22_code 20 = .ok (.iconst 2, 1) := by decide +kernel
theorem d_P_secondOf_21 : decode prog_4_method_22_code 21 = .ok (.invokevirtual 71, 3) := by decide +kernel
theorem d_P_secondOf_24 : decode prog_4_method_22_code 24 = .ok (.goto 4, 3) := by decide +kernel
theorem d_P_secondOf_27 : decode prog_4_method_22_code 27 = .ok (.iconst 0, 1) := by decide +kernel
theorem d_P_secondOf_28 : decode prog_4_method_22_code 28 = .ok (.ireturn, 1) := by decide +kernel
theorem d_P_linkMember_0 : decode prog_4_method_12_code 0 = .ok (.aload_n 0, 1) := by decide +kernel
theorem d_P_linkMember_1 : decode prog_4_method_12_code 1 = .ok (.getfield 13, 3) := by decide +kernel
theorem d_P_linkMember_4 : decode prog_4_method_12_code 4 = .ok (.iload_n 1, 1) := by decide +kernel
theorem d_P_linkMember_5 : decode prog_4_method_12_code 5 = .ok (.iaload, 1) := by decide +kernel
theorem d_P_linkMember_6 : decode prog_4_method_12_code 6 = .ok (.iconst 1, 1) := by decide +kernel
theorem d_P_linkMember_7 : decode prog_4_method_12_code 7 = .ok (.iadd, 1) := by decide +kernel
theorem d_P_linkMember_8 : decode prog_4_method_12_code 8 = .ok (.istore_n 2, 1) := by decide +kernel
theorem d_P_linkMember_9 : decode prog_4_method_12_code 9 = .ok (.aload_n 0, 1) := by decide +kernel
theorem d_P_linkMember_10 : decode prog_4_method_12_code 10 = .ok (.iload_n 2, 1) := by decide +kernel
theorem d_P_linkMember_11 : decode prog_4_method_12_code 11 = .ok (.bipush 7, 2) := by decide +kernel
theorem d_P_linkMember_13 : decode prog_4_method_12_code 13 = .ok (.invokevirtual 117, 3) := by decide +kernel
theorem d_P_linkMember_16 : decode prog_4_method_12_code 16 = .ok (.pop, 1) := by decide +kernel
theorem d_P_linkMember_17 : decode prog_4_method_12_code 17 = .ok (.aload_n 0, 1) := by decide +kernel
theorem d_P_linkMember_18 : decode prog_4_method_12_code 18 = .ok (.iload_n 2, 1) := by decide +kernel
theorem d_P_linkMember_19 : decode prog_4_method_12_code 19 = .ok (.iconst 2, 1) := by decide +kernel
theorem d_P_linkMember_20 : decode prog_4_method_12_code 20 = .ok (.iadd, 1) := by decide +kernel
theorem d_P_linkMember_21 : decode prog_4_method_12_code 21 = .ok (.bipush 12, 2) := by decide +kernel
theorem d_P_linkMember_23 : decode prog_4_method_12_code 23 = .ok (.invokevirtual 117, 3) := by decide +kernel
theorem d_P_linkMember_26 : decode prog_4_method_12_code 26 = .ok (.istore_n 3, 1) := by decide +kernel
theorem d_P_linkMember_27 : decode prog_4_method_12_code 27 = .ok (.aload_n 0, 1) := by decide +kernel
theorem d_P_linkMember_28 : decode prog_4_method_12_code 28 = .ok (.aload_n 0, 1) := by decide +kernel
theorem d_P_linkMember_29 : decode prog_4_method_12_code 29 = .ok (.iload_n 3, 1) := by decide +kernel
theorem d_P_linkMember_30 : decode prog_4_method_12_code 30 = .ok (.invokevirtual 84, 3) := by decide +kernel
theorem d_P_linkMember_33 : decode prog_4_method_12_code 33 = .ok (.invokevirtual 129, 3) := by decide +kernel
theorem d_P_linkMember_36 : decode prog_4_method_12_code 36 = .ok (.istore 4, 2) := by decide +kernel
theorem d_P_linkMember_38 : decode prog_4_method_12_code 38 = .ok (.aload_n 0, 1) := by decide +kernel
theorem d_P_linkMember_39 : decode prog_4_method_12_code 39 = .ok (.aload_n 0, 1) := by decide +kernel
theorem d_P_linkMember_40 : decode prog_4_method_12_code 40 = .ok (.iload_n 3, 1) := by decide +kernel
theorem d_P_linkMember_41 : decode prog_4_method_12_code 41 = .ok (.invokevirtual 136, 3) := by decide +kernel
theorem d_P_linkMember_44 : decode prog_4_method_12_code 44 = .ok (.invokevirtual 129, 3) := by decide +kernel
theorem d_P_linkMember_47 : decode prog_4_method_12_code 47 = .ok (.istore 5, 2) := by decide +kernel
theorem d_P_linkMember_49 : decode prog_4_method_12_code 49 = .ok (.aload_n 0, 1) := by decide +kernel
theorem d_P_linkMember_50 : decode prog_4_method_12_code 50 = .ok (.getfield 25, 3) := by decide +kernel
theorem d_P_linkMember_53 : decode prog_4_method_12_code 53 = .ok (.aload_n 0, 1) := by decide +kernel
theorem d_P_linkMember_54 : decode prog_4_method_12_code 54 = .ok (.getfield 9, 3) := by decide +kernel
theorem d_P_linkMember_57 : decode prog_4_method_12_code 57 = .ok (.iload_n 1, 1) := by decide +kernel
theorem d_P_linkMember_58 : decode prog_4_method_12_code 58 = .ok (.iaload, 1) := by decide +kernel
theorem d_P_linkMember_59 : decode prog_4_method_12_code 59 = .ok (.iload 4, 2) := by decide +kernel
theorem d_P_linkMember_61 : decode prog_4_method_12_code 61 = .ok (.iload 5, 2) := by decide +kernel
theorem d_P_linkMember_63 : decode prog_4_method_12_code 63 = .ok (.invokestatic 139, 3) := by decide +kernel
theorem d_P_linkMember_66 : decode prog_4_method_12_code 66 = .ok (.bipush 10, 2) := by decide +kernel
theorem d_P_linkMember_68 : decode prog_4_method_12_code 68 = .ok (.iload_n 2, 1) := by decide +kernel
theorem d_P_linkMember_69 : decode prog_4_method_12_code 69 = .ok (.iconst 2, 1) := by decide +kernel
theorem d_P_linkMember_70 : decode prog_4_method_12_code 70 = .ok (.iadd, 1) := by decide +kernel
theorem d_P_linkMember_71 : decode prog_4_method_12_code 71 = .ok (.invokevirtual 52, 3) := by decide +kernel
theorem d_P_linkMember_74 : decode prog_4_method_12_code 74 = .ok (.aload_n 0, 1) := by decide +kernel
theorem d_P_linkMember_75 : decode prog_4_method_12_code 75 = .ok (.getfield 16, 3) := by decide +kernel
theorem d_P_linkMember_78 : decode prog_4_method_12_code 78 = .ok (.iload_n 1, 1) := by decide +kernel
theorem d_P_linkMember_79 : decode prog_4_method_12_code 79 = .ok (.iload 4, 2) := by decide +kernel
theorem d_P_linkMember_81 : decode prog_4_method_12_code 81 = .ok (.iconst 4, 1) := by decide +kernel
theorem d_P_linkMember_82 : decode prog_4_method_12_code 82 = .ok (.iand, 1) := by decide +kernel
theorem d_P_linkMember_83 : decode prog_4_method_12_code 83 = .ok (.iastore, 1) := by decide +kernel
theorem d_P_linkMember_84 : decode prog_4_method_12_code 84 = .ok (.aload_n 0, 1) := by decide +kernel
theorem d_P_linkMember_85 : decode prog_4_method_12_code 85 = .ok (.getfield 19, 3) := by decide +kernel
theorem d_P_linkMember_88 : decode prog_4_method_12_code 88 = .ok (.iload_n 1, 1) := by decide +kernel
theorem d_P_linkMember_89 : decode prog_4_method_12_code 89 = .ok (.aload_n 0, 1) := by decide +kernel
theorem d_P_linkMember_90 : decode prog_4_method_12_code 90 = .ok (.aload_n 0, 1) := by decide +kernel
theorem d_P_linkMember_91 : decode prog_4_method_12_code 91 = .ok (.iload_n 3, 1) := by decide +kernel
theorem d_P_linkMember_92 : decode prog_4_method_12_code 92 = .ok (.invokevirtual 136, 3) := by decide +kernel
theorem d_P_linkMember_95 : decode prog_4_method_12_code 95 = .ok (.invokevirtual 143, 3) := by decide +kernel
theorem d_P_linkMember_98 : decode prog_4_method_12_code 98 = .ok (.iastore, 1) := by decide +kernel
theorem d_P_linkMember_99 : decode prog_4_method_12_code 99 = .ok (.return_, 1) := by decide +kernel
theorem d_P_linkNamed_0 : decode prog_4_method_11_code 0 = .ok (.aload_n 0, 1) := by decide +kernel
theorem d_P_linkNamed_1 : decode prog_4_method_11_code 1 = .ok (.getfield 13, 3) := by decide +kernel
theorem d_P_linkNamed_4 : decode prog_4_method_11_code 4 = .ok (.iload_n 1, 1) := by decide +kernel
theorem d_P_linkNamed_5 : decode prog_4_method_11_code 5 = .ok (.iaload, 1) := by decide +kernel
theorem d_P_linkNamed_6 : decode prog_4_method_11_code 6 = .ok (.iconst 1, 1) := by decide +kernel
theorem d_P_linkNamed_7 : decode prog_4_method_11_code 7 = .ok (.iadd, 1) := by decide +kernel
theorem d_P_linkNamed_8 : decode prog_4_method_11_code 8 = .ok (.istore_n 2, 1) := by decide +kernel
theorem d_P_linkNamed_9 : decode prog_4_method_11_code 9 = .ok (.aload_n 0, 1) := by decide +kernel
theorem d_P_linkNamed_10 : decode prog_4_method_11_code 10 = .ok (.iload_n 2, 1) := by decide +kernel
theorem d_P_linkNamed_11 : decode prog_4_method_11_code 11 = .ok (.iconst 1, 1) := by decide +kernel
theorem d_P_linkNamed_12 : decode prog_4_method_11_code 12 = .ok (.invokevirtual 117, 3) := by decide +kernel
theorem d_P_linkNamed_15 : decode prog_4_method_11_code 15 = .ok (.istore_n 3, 1) := by decide +kernel
theorem d_P_linkNamed_16 : decode prog_4_method_11_code 16 = .ok (.aload_n 0, 1) := by decide +kernel
theorem d_P_linkNamed_17 : decode prog_4_method_11_code 17 = .ok (.getfield 25, 3) := by decide +kernel
theorem d_P_linkNamed_20 : decode prog_4_method_11_code 20 = .ok (.aload_n 0, 1) := by decide +kernel
theorem d_P_linkNamed_21 : decode prog_4_method_11_code 21 = .ok (.iload_n 3, 1) := by decide +kernel
theorem d_P_linkNamed_22 : decode prog_4_method_11_code 22 = .ok (.invokevirtual 129, 3) := by decide +kernel
theorem d_P_linkNamed_25 : decode prog_4_method_11_code 25 = .ok (.bipush 13, 2) := by decide +kernel
theorem d_P_linkNamed_27 : decode prog_4_method_11_code 27 = .ok (.iand, 1) := by decide +kernel
theorem d_P_linkNamed_28 : decode prog_4_method_11_code 28 = .ok (.ifCond .eq 7, 3) := by decide +kernel
theorem d_P_linkNamed_31 : decode prog_4_method_11_code 31 = .ok (.iconst 1, 1) := by decide +kernel
theorem d_P_linkNamed_32 : decode prog_4_method_11_code 32 = .ok (.goto 4, 3) := by decide +kernel
theorem d_P_linkNamed_35 : decode prog_4_method_11_code 35 = .ok (.iconst 0, 1) := by decide +kernel
theorem d_P_linkNamed_36 : decode prog_4_method_11_code 36 = .ok (.bipush 9, 2) := by decide +kernel
theorem d_P_linkNamed_38 : decode prog_4_method_11_code 38 = .ok (.iload_n 2, 1) := by decide +kernel
theorem d_P_linkNamed_39 : decode prog_4_method_11_code 39 = .ok (.invokevirtual 52, 3) := by decide +kernel
theorem d_P_linkNamed_42 : decode prog_4_method_11_code 42 = .ok (.aload_n 0, 1) := by decide +kernel
theorem d_P_linkNamed_43 : decode prog_4_method_11_code 43 = .ok (.iload_n 2, 1) := by decide +kernel
theorem d_P_linkNamed_44 : decode prog_4_method_11_code 44 = .ok (.iconst 2, 1) := by decide +kernel
theorem d_P_linkNamed_45 : decode prog_4_method_11_code 45 = .ok (.iadd, 1) := by decide +kernel
theorem d_P_linkNamed_46 : decode prog_4_method_11_code 46 = .ok (.iconst 1, 1) := by decide +kernel
theorem d_P_linkNamed_47 : decode prog_4_method_11_code 47 = .ok (.invokevirtual 117, 3) := by decide +kernel
theorem d_P_linkNamed_50 : decode prog_4_method_11_code 50 = .ok (.istore 4, 2) := by decide +kernel
theorem d_P_linkNamed_52 : decode prog_4_method_11_code 52 = .ok (.aload_n 0, 1) := by decide +kernel
theorem d_P_linkNamed_53 : decode prog_4_method_11_code 53 = .ok (.iload 4, 2) := by decide +kernel
theorem d_P_linkNamed_55 : decode prog_4_method_11_code 55 = .ok (.bipush 48, 2) := by decide +kernel
theorem d_P_linkNamed_57 : decode prog_4_method_11_code 57 = .ok (.iload_n 2, 1) := by decide +kernel
theorem d_P_linkNamed_58 : decode prog_4_method_11_code 58 = .ok (.iconst 2, 1) := by decide +kernel
theorem d_P_linkNamed_59 : decode prog_4_method_11_code 59 = .ok (.iadd, 1) := by decide +kernel
theorem d_P_linkNamed_60 : decode prog_4_method_11_code 60 = .ok (.invokevirtual 132, 3) := by decide +kernel
theorem d_P_linkNamed_63 : decode prog_4_method_11_code 63 = .ok (.return_, 1) := by decide +kernel
theorem d_P_readLinks_0 : decode prog_4_method_9_code 0 = .ok (.iconst 1, 1) := by decide +kernel
theorem d_P_readLinks_1 : decode prog_4_method_9_code 1 = .ok (.istore_n 1, 1) := by decide +kernel
theorem d_P_readLinks_2 : decode prog_4_method_9_code 2 = .ok (.iload_n 1, 1) := by decide +kernel
theorem d_P_readLinks_3 : decode prog_4_method_9_code 3 = .ok (.aload_n 0, 1) := by decide +kernel
theorem d_P_readLinks_4 : decode prog_4_method_9_code 4 = .ok (.getfield 60, 3) := by decide +kernel
theorem d_P_readLinks_7 : decode prog_4_method_9_code 7 = .ok (.if_icmp .ge 92, 3) := by decide +kernel
theorem d_P_readLinks_10 : decode prog_4_method_9_code 10 = .ok (.aload_n 0, 1) := by decide +kernel
theorem d_P_readLinks_11 : decode prog_4_method_9_code 11 = .ok (.getfield 25, 3) := by decide +kernel
theorem d_P_readLinks_14 : decode prog_4_method_9_code 14 = .ok (.invokevirtual 56, 3) := by decide +kernel
theorem d_P_readLinks_17 : decode prog_4_method_9_code 17 = .ok (.ifCond .eq 82, 3) := by decide +kernel
theorem d_P_readLinks_20 : decode prog_4_method_9_code 20 = .ok (.aload_n 0, 1) := by decide +kernel
theorem d_P_readLinks_21 : decode prog_4_method_9_code 21 = .ok (.getfield 9, 3) := by decide +kernel
theorem d_P_readLinks_24 : decode prog_4_method_9_code 24 = .ok (.iload_n 1, 1) := by decide +kernel
theorem d_P_readLinks_25 : decode prog_4_method_9_code 25 = .ok (.iaload, 1) := by decide +kernel
theorem d_P_readLinks_26 : decode prog_4_method_9_code 26 = .ok (.lookupswitch 67 #[(7, 34), (8, 42), (12, 59)], 34) := by decide +kernel
theorem d_P_readLinks_60 : decode prog_4_method_9_code 60 = .ok (.aload_n 0, 1) := by decide +kernel
theorem d_P_readLinks_61 : decode prog_4_method_9_code 61 = .ok (.iload_n 1, 1) := by decide +kernel
theorem d_P_readLinks_62 : decode prog_4_method_9_code 62 = .ok (.invokevirtual 114, 3) := by decide +kernel
theorem d_P_readLinks_65 : decode prog_4_method_9_code 65 = .ok (.goto 28, 3) := by decide +kernel
theorem d_P_readLinks_68 : decode prog_4_method_9_code 68 = .ok (.aload_n 0, 1) := by decide +kernel
theorem d_P_readLinks_69 : decode prog_4_method_9_code 69 = .ok (.aload_n 0, 1) := by decide +kernel
theorem d_P_readLinks_70 : decode prog_4_method_9_code 70 = .ok (.getfield 13, 3) := by decide +kernel
theorem d_P_readLinks_73 : decode prog_4_method_9_code 73 = .ok (.iload_n 1, 1) := by decide +kernel
theorem d_P_readLinks_74 : decode prog_4_method_9_code 74 = .ok (.iaload, 1) := by decide +kernel
theorem d_P_readLinks_75 : decode prog_4_method_9_code 75 = .ok (.iconst 1, 1) := by decide +kernel
theorem d_P_readLinks_76 : decode prog_4_method_9_code 76 = .ok (.iadd, 1) := by decide +kernel
theorem d_P_readLinks_77 : decode prog_4_method_9_code 77 = .ok (.iconst 1, 1) := by decide +kernel
theorem d_P_readLinks_78 : decode prog_4_method_9_code 78 = .ok (.invokevirtual 117, 3) := by decide +kernel
theorem d_P_readLinks_81 : decode prog_4_method_9_code 81 = .ok (.pop, 1) := by decide +kernel
theorem d_P_readLinks_82 : decode prog_4_method_9_code 82 = .ok (.goto 11, 3) := by decide +kernel
theorem d_P_readLinks_85 : decode prog_4_method_9_code 85 = .ok (.aload_n 0, 1) := by decide +kernel
theorem d_P_readLinks_86 : decode prog_4_method_9_code 86 = .ok (.iload_n 1, 1) := by decide +kernel
theorem d_P_readLinks_87 : decode prog_4_method_9_code 87 = .ok (.invokevirtual 120, 3) := by decide +kernel
theorem d_P_readLinks_90 : decode prog_4_method_9_code 90 = .ok (.goto 3, 3) := by decide +kernel
theorem d_P_readLinks_93 : decode prog_4_method_9_code 93 = .ok (.iinc 1 1, 3) := by decide +kernel
theorem d_P_readLinks_96 : decode prog_4_method_9_code 96 = .ok (.goto (-94), 3) := by decide +kernel
theorem d_P_readLinks_99 : decode prog_4_method_9_code 99 = .ok (.iconst 1, 1) := by decide +kernel
theorem d_P_readLinks_100 : decode prog_4_method_9_code 100 = .ok (.istore_n 1, 1) := by decide +kernel
theorem d_P_readLinks_101 : decode prog_4_method_9_code 101 = .ok (.iload_n 1, 1) := by decide +kernel
theorem d_P_readLinks_102 : decode prog_4_method_9_code 102 = .ok (.aload_n 0, 1) := by decide +kernel
theorem d_P_readLinks_103 : decode prog_4_method_9_code 103 = .ok (.getfield 60, 3) := by decide +kernel
theorem d_P_readLinks_106 : decode prog_4_method_9_code 106 = .ok (.if_icmp .ge 57, 3) := by decide +kernel
theorem d_P_readLinks_109 : decode prog_4_method_9_code 109 = .ok (.aload_n 0, 1) := by decide +kernel
theorem d_P_readLinks_110 : decode prog_4_method_9_code 110 = .ok (.getfield 25, 3) := by decide +kernel
theorem d_P_readLinks_113 : decode prog_4_method_9_code 113 = .ok (.invokevirtual 56, 3) := by decide +kernel
theorem d_P_readLinks_116 : decode prog_4_method_9_code 116 = .ok (.ifCond .eq 47, 3) := by decide +kernel
theorem d_P_readLinks_119 : decode prog_4_method_9_code 119 = .ok (.aload_n 0, 1) := by decide +kernel
theorem d_P_readLinks_120 : decode prog_4_method_9_code 120 = .ok (.getfield 9, 3) := by decide +kernel
theorem d_P_readLinks_123 : decode prog_4_method_9_code 123 = .ok (.iload_n 1, 1) := by decide +kernel
theorem d_P_readLinks_124 : decode prog_4_method_9_code 124 = .ok (.iaload, 1) := by decide +kernel
theorem d_P_readLinks_125 : decode prog_4_method_9_code 125 = .ok (.bipush 9, 2) := by decide +kernel
theorem d_P_readLinks_127 : decode prog_4_method_9_code 127 = .ok (.if_icmp .eq 25, 3) := by decide +kernel
theorem d_P_readLinks_130 : decode prog_4_method_9_code 130 = .ok (.aload_n 0, 1) := by decide +kernel
theorem d_P_readLinks_131 : decode prog_4_method_9_code 131 = .ok (.getfield 9, 3) := by decide +kernel
theorem d_P_readLinks_134 : decode prog_4_method_9_code 134 = .ok (.iload_n 1, 1) := by decide +kernel
theorem d_P_readLinks_135 : decode prog_4_method_9_code 135 = .ok (.iaload, 1) := by decide +kernel
theorem d_P_readLinks_136 : decode prog_4_method_9_code 136 = .ok (.bipush 10, 2) := by decide +kernel
theorem d_P_readLinks_138 : decode prog_4_method_9_code 138 = .ok (.if_icmp .eq 14, 3) := by decide +kernel
theorem d_P_readLinks_141 : decode prog_4_method_9_code 141 = .ok (.aload_n 0, 1) := by decide +kernel
theorem d_P_readLinks_142 : decode prog_4_method_9_code 142 = .ok (.getfield 9, 3) := by decide +kernel
theorem d_P_readLinks_145 : decode prog_4_method_9_code 145 = .ok (.iload_n 1, 1) := by decide +kernel
theorem d_P_readLinks_146 : decode prog_4_method_9_code 146 = .ok (.iaload, 1) := by decide +kernel
theorem d_P_readLinks_147 : decode prog_4_method_9_code 147 = .ok (.bipush 11, 2) := by decide +kernel
theorem d_P_readLinks_149 : decode prog_4_method_9_code 149 = .ok (.if_icmp .ne 8, 3) := by decide +kernel
theorem d_P_readLinks_152 : decode prog_4_method_9_code 152 = .ok (.aload_n 0, 1) := by decide +kernel
theorem d_P_readLinks_153 : decode prog_4_method_9_code 153 = .ok (.iload_n 1, 1) := by decide +kernel
theorem d_P_readLinks_154 : decode prog_4_method_9_code 154 = .ok (.invokevirtual 123, 3) := by decide +kernel
theorem d_P_readLinks_157 : decode prog_4_method_9_code 157 = .ok (.iinc 1 1, 3) := by decide +kernel
theorem d_P_readLinks_160 : decode prog_4_method_9_code 160 = .ok (.goto (-59), 3) := by decide +kernel
theorem d_P_readLinks_163 : decode prog_4_method_9_code 163 = .ok (.return_, 1) := by decide +kernel
def rm_P_kindOf : Room := { frames := 0, cells := 0, slots := 0, locals := 0 }
noncomputable def f_P_kindOf (u : St) (x1 : Int32) : Option (Int32 × St) := cT (if x1 < 1 then (some (0)) else (if (u.1 6) ≤ x1 then (some (0)) else (if 300 ≤ x1 then (some (0)) else (gd x1 300 (some ((u.2 4 x1.toNatClampNeg))))))) fun (z1 : Int32) => some (z1, u)
set_option maxHeartbeats 4000000 in
set_option maxRecDepth 100000 in
theorem c_P_kindOf {Z : zT} {D : va_G} {cs : Nat → ClassId} {a : Nat → Nat} (hw : wD (xW a cs)) (hz : zOK Z) (l : Launch) {u : St} {x1 : Int32} {r : Int32} {u' : St} (hk : f_P_kindOf u x1 = some (r, u')) : KI clA D cs (xW a cs) Z l y_P_kindOf (.code y_P_kindOf prog_4_method_18_code 2 (Option.some Jvm.ClassFile.FieldType.int)) rm_P_kindOf [.ref (a 2), .int x1] u r u' := by
  unfold f_P_kindOf at hk
  refine KI.of (by decide) (Nat.le_of_ble_eq_true rfl) rfl hw hz ?_
  intro p e s m args below meth c Q C I hQ ls hl
  have hl : lv_has ls 2 [(0, .ref (a 2)), (1, .int x1)] := hl
  have hx := C.1.1
  have hb := C.1.2.1
  refine lv_iload_n hx hb d_P_kindOf_0 rfl (lv_at hl 1 rfl) ?_
  refine lv_iconst (v := 1) hx hb d_P_kindOf_1 (by decide) ?_
  obtain ⟨z1, hj2, hk⟩ := cT_u hk
  have Khj2 : ∀ (H : Heap) (locs : List Loc) (ls : Array Slot), Dy clA D (xW a cs) s H locs u → lv_has ls 2 [] → W p l e rm_P_kindOf s m args below meth c H locs 0 0 Q (F0 m 30 ls [.int z1]) := by
    intro H locs ls I hl
    exact hQ _ _ _ _ _ _ I hk d_P_kindOf_30
  refine lv_icmp_lt (tgt := 29) hx hb d_P_kindOf_2 (by decide) (fun hc => ?_) (fun hc => ?_)
  · replace hj2 := it_u hc hj2
    refine lv_iconst (v := 0) hx hb d_P_kindOf_29 (by decide) ?_
    obtain rfl := eo1 hj2
    exact Khj2 _ _ _ I (lv_sub hl [] rfl)
  · replace hj2 := ie_u hc hj2
    refine lv_iload_n hx hb d_P_kindOf_5 rfl (lv_at hl 1 rfl) ?_
    refine lv_aload_n hx hb d_P_kindOf_6 rfl (lv_at hl 0 rfl) ?_
    refine g_P_count C I k_82 d_P_kindOf_7 ?_
    refine lv_icmp_ge (tgt := 29) hx hb d_P_kindOf_10 (by decide) (fun hc => ?_) (fun hc => ?_)
    · replace hj2 := it_u hc hj2
      refine lv_iconst (v := 0) hx hb d_P_kindOf_29 (by decide) ?_
      obtain rfl := eo1 hj2
      exact Khj2 _ _ _ I (lv_sub hl [] rfl)
    · replace hj2 := ie_u hc hj2
      refine lv_iload_n hx hb d_P_kindOf_13 rfl (lv_at hl 1 rfl) ?_
      refine lv_sipush (v := 300) hx hb d_P_kindOf_14 (by decide) ?_
      refine lv_icmp_ge (tgt := 29) hx hb d_P_kindOf_17 (by decide) (fun hc => ?_) (fun hc => ?_)
      · replace hj2 := it_u hc hj2
        refine lv_iconst (v := 0) hx hb d_P_kindOf_29 (by decide) ?_
        obtain rfl := eo1 hj2
        exact Khj2 _ _ _ I (lv_sub hl [] rfl)
      · replace hj2 := ie_u hc hj2
        refine lv_aload_n hx hb d_P_kindOf_20 rfl (lv_at hl 0 rfl) ?_
        refine g_P_kinds C I k_80 d_P_kindOf_21 ?_
        refine lv_iload_n hx hb d_P_kindOf_24 rfl (lv_at hl 1 rfl) ?_
        obtain ⟨hi, hj2⟩ := gd_u hj2
        refine l_P_kinds C I hi d_P_kindOf_25 ?_
        refine lv_goto (tgt := 30) hx hb d_P_kindOf_26 (by decide) ?_
        obtain rfl := eo1 hj2
        exact Khj2 _ _ _ I (lv_sub hl [] rfl)
def rm_P_factsOf : Room := { frames := 0, cells := 0, slots := 0, locals := 0 }
noncomputable def f_P_factsOf (u : St) (x1 : Int32) : Option (Int32 × St) := cT (if x1 < 1 then (some (0)) else (if (u.1 6) ≤ x1 then (some (0)) else (if 300 ≤ x1 then (some (0)) else (gd x1 300 (some ((u.2 6 x1.toNatClampNeg))))))) fun (z1 : Int32) => some (z1, u)
set_option maxHeartbeats 4000000 in
set_option maxRecDepth 100000 in
theorem c_P_factsOf {Z : zT} {D : va_G} {cs : Nat → ClassId} {a : Nat → Nat} (hw : wD (xW a cs)) (hz : zOK Z) (l : Launch) {u : St} {x1 : Int32} {r : Int32} {u' : St} (hk : f_P_factsOf u x1 = some (r, u')) : KI clA D cs (xW a cs) Z l y_P_factsOf (.code y_P_factsOf prog_4_method_19_code 2 (Option.some Jvm.ClassFile.FieldType.int)) rm_P_factsOf [.ref (a 2), .int x1] u r u' := by
  unfold f_P_factsOf at hk
  refine KI.of (by decide) (Nat.le_of_ble_eq_true rfl) rfl hw hz ?_
  intro p e s m args below meth c Q C I hQ ls hl
  have hl : lv_has ls 2 [(0, .ref (a 2)), (1, .int x1)] := hl
  have hx := C.1.1
  have hb := C.1.2.1
  refine lv_iload_n hx hb d_P_factsOf_0 rfl (lv_at hl 1 rfl) ?_
  refine lv_iconst (v := 1) hx hb d_P_factsOf_1 (by decide) ?_
  obtain ⟨z1, hj2, hk⟩ := cT_u hk
  have Khj2 : ∀ (H : Heap) (locs : List Loc) (ls : Array Slot), Dy clA D (xW a cs) s H locs u → lv_has ls 2 [] → W p l e rm_P_factsOf s m args below meth c H locs 0 0 Q (F0 m 30 ls [.int z1]) := by
    intro H locs ls I hl
    exact hQ _ _ _ _ _ _ I hk d_P_factsOf_30
  refine lv_icmp_lt (tgt := 29) hx hb d_P_factsOf_2 (by decide) (fun hc => ?_) (fun hc => ?_)
  · replace hj2 := it_u hc hj2
    refine lv_iconst (v := 0) hx hb d_P_factsOf_29 (by decide) ?_
    obtain rfl := eo1 hj2
    exact Khj2 _ _ _ I (lv_sub hl [] rfl)
  · replace hj2 := ie_u hc hj2
    refine lv_iload_n hx hb d_P_factsOf_5 rfl (lv_at hl 1 rfl) ?_
    refine lv_aload_n hx hb d_P_factsOf_6 rfl (lv_at hl 0 rfl) ?_
    refine g_P_count C I k_82 d_P_factsOf_7 ?_
    refine lv_icmp_ge (tgt := 29) hx hb d_P_factsOf_10 (by decide) (fun hc => ?_) (fun hc => ?_)
    · replace hj2 := it_u hc hj2
      refine lv_iconst (v := 0) hx hb d_P_factsOf_29 (by decide) ?_
      obtain rfl := eo1 hj2
      exact Khj2 _ _ _ I (lv_sub hl [] rfl)
    · replace hj2 := ie_u hc hj2
      refine lv_iload_n hx hb d_P_factsOf_13 rfl (lv_at hl 1 rfl) ?_
      refine lv_sipush (v := 300) hx hb d_P_factsOf_14 (by decide) ?_
      refine lv_icmp_ge (tgt := 29) hx hb d_P_factsOf_17 (by decide) (fun hc => ?_) (fun hc => ?_)
      · replace hj2 := it_u hc hj2
        refine lv_iconst (v := 0) hx hb d_P_factsOf_29 (by decide) ?_
        obtain rfl := eo1 hj2
        exact Khj2 _ _ _ I (lv_sub hl [] rfl)
      · replace hj2 := ie_u hc hj2
        refine lv_aload_n hx hb d_P_factsOf_20 rfl (lv_at hl 0 rfl) ?_
        refine g_P_facts C I k_87 d_P_factsOf_21 ?_
        refine lv_iload_n hx hb d_P_factsOf_24 rfl (lv_at hl 1 rfl) ?_
        obtain ⟨hi, hj2⟩ := gd_u hj2
        refine l_P_facts C I hi d_P_factsOf_25 ?_
        refine lv_goto (tgt := 30) hx hb d_P_factsOf_26 (by decide) ?_
        obtain rfl := eo1 hj2
        exact Khj2 _ _ _ I (lv_sub hl [] rfl)
def rm_P_measureOf : Room := { frames := 0, cells := 0, slots := 0, locals := 0 }
noncomputable def f_P_measureOf (u : St) (x1 : Int32) : Option (Int32 × St) := cT (if x1 < 1 then (some (0)) else (if (u.1 6) ≤ x1 then (some (0)) else (if 300 ≤ x1 then (some (0)) else (gd x1 300 (some ((u.2 7 x1.toNatClampNeg))))))) fun (z1 : Int32) => some (z1, u)
set_option maxHeartbeats 4000000 in
set_option maxRecDepth 100000 in
theorem c_P_measureOf {Z : zT} {D : va_G} {cs : Nat → ClassId} {a : Nat → Nat} (hw : wD (xW a cs)) (hz : zOK Z) (l : Launch) {u : St} {x1 : Int32} {r : Int32} {u' : St} (hk : f_P_measureOf u x1 = some (r, u')) : KI clA D cs (xW a cs) Z l y_P_measureOf (.code y_P_measureOf prog_4_method_20_code 2 (Option.some Jvm.ClassFile.FieldType.int)) rm_P_measureOf [.ref (a 2), .int x1] u r u' := by
  unfold f_P_measureOf at hk
  refine KI.of (by decide) (Nat.le_of_ble_eq_true rfl) rfl hw hz ?_
  intro p e s m args below meth c Q C I hQ ls hl
  have hl : lv_has ls 2 [(0, .ref (a 2)), (1, .int x1)] := hl
  have hx := C.1.1
  have hb := C.1.2.1
  refine lv_iload_n hx hb d_P_measureOf_0 rfl (lv_at hl 1 rfl) ?_
  refine lv_iconst (v := 1) hx hb d_P_measureOf_1 (by decide) ?_
  obtain ⟨z1, hj2, hk⟩ := cT_u hk
  have Khj2 : ∀ (H : Heap) (locs : List Loc) (ls : Array Slot), Dy clA D (xW a cs) s H locs u → lv_has ls 2 [] → W p l e rm_P_measureOf s m args below meth c H locs 0 0 Q (F0 m 30 ls [.int z1]) := by
    intro H locs ls I hl
    exact hQ _ _ _ _ _ _ I hk d_P_measureOf_30
  refine lv_icmp_lt (tgt := 29) hx hb d_P_measureOf_2 (by decide) (fun hc => ?_) (fun hc => ?_)
  · replace hj2 := it_u hc hj2
    refine lv_iconst (v := 0) hx hb d_P_measureOf_29 (by decide) ?_
    obtain rfl := eo1 hj2
    exact Khj2 _ _ _ I (lv_sub hl [] rfl)
  · replace hj2 := ie_u hc hj2
    refine lv_iload_n hx hb d_P_measureOf_5 rfl (lv_at hl 1 rfl) ?_
    refine lv_aload_n hx hb d_P_measureOf_6 rfl (lv_at hl 0 rfl) ?_
    refine g_P_count C I k_82 d_P_measureOf_7 ?_
    refine lv_icmp_ge (tgt := 29) hx hb d_P_measureOf_10 (by decide) (fun hc => ?_) (fun hc => ?_)
    · replace hj2 := it_u hc hj2
      refine lv_iconst (v := 0) hx hb d_P_measureOf_29 (by decide) ?_
      obtain rfl := eo1 hj2
      exact Khj2 _ _ _ I (lv_sub hl [] rfl)
    · replace hj2 := ie_u hc hj2
      refine lv_iload_n hx hb d_P_measureOf_13 rfl (lv_at hl 1 rfl) ?_
      refine lv_sipush (v := 300) hx hb d_P_measureOf_14 (by decide) ?_
      refine lv_icmp_ge (tgt := 29) hx hb d_P_measureOf_17 (by decide) (fun hc => ?_) (fun hc => ?_)
      · replace hj2 := it_u hc hj2
        refine lv_iconst (v := 0) hx hb d_P_measureOf_29 (by decide) ?_
        obtain rfl := eo1 hj2
        exact Khj2 _ _ _ I (lv_sub hl [] rfl)
      · replace hj2 := ie_u hc hj2
        refine lv_aload_n hx hb d_P_measureOf_20 rfl (lv_at hl 0 rfl) ?_
        refine g_P_measures C I k_88 d_P_measureOf_21 ?_
        refine lv_iload_n hx hb d_P_measureOf_24 rfl (lv_at hl 1 rfl) ?_
        obtain ⟨hi, hj2⟩ := gd_u hj2
        refine l_P_measures C I hi d_P_measureOf_25 ?_
        refine lv_goto (tgt := 30) hx hb d_P_measureOf_26 (by decide) ?_
        obtain rfl := eo1 hj2
        exact Khj2 _ _ _ I (lv_sub hl [] rfl)
def rm_P_within : Room := { frames := 0, cells := 0, slots := 0, locals := 0 }
noncomputable def f_P_within (u : St) (x1 : Int32) : Option (Int32 × St) := bnd (if x1 < 1 then (0) else (if (u.1 6) ≤ x1 then (0) else (if 300 ≤ x1 then (0) else (1)))) fun (z1 : Int32) => gb z1 (some (z1, u))
set_option maxHeartbeats 4000000 in
set_option maxRecDepth 100000 in
theorem c_P_within {Z : zT} {D : va_G} {cs : Nat → ClassId} {a : Nat → Nat} (hw : wD (xW a cs)) (hz : zOK Z) (l : Launch) {u : St} {x1 : Int32} {r : Int32} {u' : St} (hk : f_P_within u x1 = some (r, u')) : KI clA D cs (xW a cs) Z l y_P_within (.code y_P_within prog_4_method_17_code 2 (Option.some Jvm.ClassFile.FieldType.boolean)) rm_P_within [.ref (a 2), .int x1] u r u' := by
  unfold f_P_within at hk
  refine KZ.of (by decide) (Nat.le_of_ble_eq_true rfl) hw hz ?_
  intro p e s m args below meth c Q C I hQ ls hl
  have hl : lv_has ls 2 [(0, .ref (a 2)), (1, .int x1)] := hl
  have hx := C.1.1
  have hb := C.1.2.1
  refine lv_iload_n hx hb d_P_within_0 rfl (lv_at hl 1 rfl) ?_
  refine lv_iconst (v := 1) hx hb d_P_within_1 (by decide) ?_
  obtain ⟨z1, hj2, hk⟩ := bnd_u hk
  have Khj2 : ∀ (H : Heap) (locs : List Loc) (ls : Array Slot), Dy clA D (xW a cs) s H locs u → lv_has ls 2 [] → W p l e rm_P_within s m args below meth c H locs 0 0 Q (F0 m 25 ls [.int z1]) := by
    intro H locs ls I hl
    exact hQ _ _ _ _ _ _ I hk d_P_within_25
  refine lv_icmp_lt (tgt := 24) hx hb d_P_within_2 (by decide) (fun hc => ?_) (fun hc => ?_)
  · replace hj2 := it_u hc hj2
    refine lv_iconst (v := 0) hx hb d_P_within_24 (by decide) ?_
    obtain rfl := ep1 hj2
    exact Khj2 _ _ _ I (lv_sub hl [] rfl)
  · replace hj2 := ie_u hc hj2
    refine lv_iload_n hx hb d_P_within_5 rfl (lv_at hl 1 rfl) ?_
    refine lv_aload_n hx hb d_P_within_6 rfl (lv_at hl 0 rfl) ?_
    refine g_P_count C I k_82 d_P_within_7 ?_
    refine lv_icmp_ge (tgt := 24) hx hb d_P_within_10 (by decide) (fun hc => ?_) (fun hc => ?_)
    · replace hj2 := it_u hc hj2
      refine lv_iconst (v := 0) hx hb d_P_within_24 (by decide) ?_
      obtain rfl := ep1 hj2
      exact Khj2 _ _ _ I (lv_sub hl [] rfl)
    · replace hj2 := ie_u hc hj2
      refine lv_iload_n hx hb d_P_within_13 rfl (lv_at hl 1 rfl) ?_
      refine lv_sipush (v := 300) hx hb d_P_within_14 (by decide) ?_
      refine lv_icmp_ge (tgt := 24) hx hb d_P_within_17 (by decide) (fun hc => ?_) (fun hc => ?_)
      · replace hj2 := it_u hc hj2
        refine lv_iconst (v := 0) hx hb d_P_within_24 (by decide) ?_
        obtain rfl := ep1 hj2
        exact Khj2 _ _ _ I (lv_sub hl [] rfl)
      · replace hj2 := ie_u hc hj2
        refine lv_iconst (v := 1) hx hb d_P_within_20 (by decide) ?_
        refine lv_goto (tgt := 25) hx hb d_P_within_21 (by decide) ?_
        obtain rfl := ep1 hj2
        exact Khj2 _ _ _ I (lv_sub hl [] rfl)
def rm_P_firstOf : Room := { frames := 1, cells := 0, slots := 0, locals := 24 }
noncomputable def f_P_firstOf (u : St) (x1 : Int32) : Option (Int32 × St) := cI (f_P_within u x1) fun r3 u1 => cT (if r3 = 0 then (some (0, u1)) else (gd x1 300 (cI (f_W_numberAt u1 ((u1.2 5 x1.toNatClampNeg) + 1) 2) fun r9 u7 => some (r9, u7)))) fun (p10 : Int32 × St) => some (p10.1, p10.2)
set_option maxHeartbeats 4000000 in
set_option maxRecDepth 100000 in
theorem c_P_firstOf {Z : zT} {D : va_G} {cs : Nat → ClassId} {a : Nat → Nat} (hw : wD (xW a cs)) (hz : zOK Z) (l : Launch) {u : St} {x1 : Int32} {r : Int32} {u' : St} (hk : f_P_firstOf u x1 = some (r, u')) : KI clA D cs (xW a cs) Z l y_P_firstOf (.code y_P_firstOf prog_4_method_21_code 2 (Option.some Jvm.ClassFile.FieldType.int)) rm_P_firstOf [.ref (a 2), .int x1] u r u' := by
  unfold f_P_firstOf at hk
  refine KI.of (by decide) (Nat.le_of_ble_eq_true rfl) rfl hw hz ?_
  intro p e s m args below meth c Q C I hQ ls hl
  have hl : lv_has ls 2 [(0, .ref (a 2)), (1, .int x1)] := hl
  have hx := C.1.1
  have hb := C.1.2.1
  refine lv_aload_n hx hb d_P_firstOf_0 rfl (lv_at hl 0 rfl) ?_
  refine lv_iload_n hx hb d_P_firstOf_1 rfl (lv_at hl 1 rfl) ?_
  obtain ⟨r3, u1, h2, hk⟩ := cI_u hk
  refine go_I I (call_runV (rest := []) C I (c_P_within C.2.2.2.1 C.2.2.2.2.1 l h2 _) wd_P_within (q0 := 2) (ci := 2) rfl rfl k_331 ⟨rfl, rfl⟩ ⟨by decide, by decide⟩ rfl hl.1 rfl (Nat.le_of_ble_eq_true rfl) d_P_firstOf_2) (fun H locs I => ?_)
  obtain ⟨⟨z4, u5⟩, hj6, hk⟩ := cT_u hk
  have Khj6 : ∀ (H : Heap) (locs : List Loc) (ls : Array Slot), Dy clA D (xW a cs) s H locs u5 → lv_has ls 2 [] → W p l e rm_P_firstOf s m args below meth c H locs 0 0 Q (F0 m 28 ls [.int z4]) := by
    intro H locs ls I hl
    exact hQ _ _ _ _ _ _ I hk d_P_firstOf_28
  refine lv_if_eq (tgt := 27) hx hb d_P_firstOf_5 (by decide) (fun hc => ?_) (fun hc => ?_)
  · replace hj6 := it_u hc hj6
    refine lv_iconst (v := 0) hx hb d_P_firstOf_27 (by decide) ?_
    obtain ⟨rfl, rfl⟩ := eo2 hj6
    exact Khj6 _ _ _ I (lv_sub hl [] rfl)
  · replace hj6 := ie_u hc hj6
    refine lv_aload_n hx hb d_P_firstOf_8 rfl (lv_at hl 0 rfl) ?_
    refine g_P_walk C I k_84 d_P_firstOf_9 ?_
    refine lv_aload_n hx hb d_P_firstOf_12 rfl (lv_at hl 0 rfl) ?_
    refine g_P_places C I k_86 d_P_firstOf_13 ?_
    refine lv_iload_n hx hb d_P_firstOf_16 rfl (lv_at hl 1 rfl) ?_
    obtain ⟨hi, hj6⟩ := gd_u hj6
    refine l_P_places C I hi d_P_firstOf_17 ?_
    refine lv_iconst (v := 1) hx hb d_P_firstOf_18 (by decide) ?_
    refine lv_iadd hx hb d_P_firstOf_19 ?_
    refine lv_iconst (v := 2) hx hb d_P_firstOf_20 (by decide) ?_
    obtain ⟨r9, u7, h8, hj6⟩ := cI_u hj6
    refine go_I I (call_runV (rest := []) C I (c_W_numberAt C.2.2.2.1 C.2.2.2.2.1 l h8 _) wd_W_numberAt (q0 := 4) (ci := 4) rfl rfl k_307 ⟨rfl, rfl⟩ ⟨by decide, by decide⟩ rfl hl.1 rfl (Nat.le_of_ble_eq_true rfl) d_P_firstOf_21) (fun H locs I => ?_)
    refine lv_goto (tgt := 28) hx hb d_P_firstOf_24 (by decide) ?_
    obtain ⟨rfl, rfl⟩ := eo2 hj6
    exact Khj6 _ _ _ I (lv_sub hl [] rfl)
def rm_P_spells : Room := { frames := 4, cells := 0, slots := 0, locals := 90 }
noncomputable def f_P_spells_L16 (kx : St → Option (Int32 × St)) (x1 : Int32) (k9 : Nat) : Nat → St → Int32 → Option (Int32 × St)
  | 0, _, _ => none
  | n + 1, u, x3 => if (lenS k9) ≤ x3 then (kx u) else (gd x1 300 (cI (f_W_numberAt u (((u.2 5 x1.toNatClampNeg) + 3) + x3) 1) fun r6 u4 => gd x3 (lnS k9) (if r6 = (chS k9 x3) then (f_P_spells_L16 kx x1 k9 n u4 (x3 + 1)) else (gb 0 (some (0, u4))))))
noncomputable def f_P_spells (u : St) (x1 : Int32) (k9 : Nat) : Option (Int32 × St) := gk k9 (cI (f_P_firstOf u x1) fun r3 u1 => if r3 = (lenS k9) then (f_P_spells_L16 (fun u7 => gb 1 (some (1, u7))) x1 k9 FU u1 0) else (gb 0 (some (0, u1))))
set_option maxHeartbeats 4000000 in
set_option maxRecDepth 100000 in
theorem w_P_spells_L16 {sk sv9 st : Nat → Nat} {D : va_G} {cs : Nat → ClassId} {a : Nat → Nat} {p : Program} {l : Launch} {e : Env} {s : State} {m : MethodId} {args : Array Value} {below : List Frame} {meth : Method} {c : Code} {Q : State → Prop} {F : Int32 × St} {kx : St → Option (Int32 × St)} {x1 : Int32} {k9 : Nat} (hk9 : k9 < 10) (C : Cx clA R_P prog_4_method_24_code 4 D cs (xW a cs) (xZ sk sv9 st) p s m args c) (hE : ∀ (u2 : St) (H : Heap) (locs : List Loc) (ls : Array Slot), kx u2 = some F → Dy clA D (xW a cs) s H locs u2 → lv_has ls 4 [] → W p l e rm_P_spells s m args below meth c H locs 0 0 Q (F0 m 58 ls [])) (hQ : ∀ (H : Heap) (locs : List Loc) (pc : Nat) (ls : Array Slot) (v : Int32) (u1 : St), Dy clA D (xW a cs) s H locs u1 → gb v (some (v, u1)) = some F → decode prog_4_method_24_code pc = .ok (.ireturn, 1) → W p l e rm_P_spells s m args below meth c H locs 0 0 Q (F0 m pc ls [.int v])): ∀ (n : Nat) (u : St) (x3 : Int32) (H : Heap) (locs : List Loc) (ls : Array Slot), f_P_spells_L16 kx x1 k9 n u x3 = some F → Dy clA D (xW a cs) s H locs u → lv_has ls 4 [(0, .ref (a 2)), (1, .int x1), (2, .ref (sk k9)), (3, .int x3)] → W p l e rm_P_spells s m args below meth c H locs 0 0 Q (F0 m 16 ls []) := by
  have hx := C.1.1
  have hb := C.1.2.1
  intro n
  induction n with
  | zero =>
    intro u x3 H locs ls hk I hl
    rw [f_P_spells_L16] at hk
    cases hk
  | succ n ih =>
    intro u x3 H locs ls hk I hl
    rw [f_P_spells_L16] at hk
    refine lv_iload_n hx hb d_P_spells_16 rfl (lv_at hl 3 rfl) ?_
    refine lv_aload_n hx hb d_P_spells_17 rfl (lv_at hl 2 rfl) ?_
    refine str_len (rest := [.int x3]) hk9 C I k_371 hl.1 ⟨by decide, by decide⟩ (Nat.le_of_ble_eq_true rfl) d_P_spells_18 (fun H locs I => ?_)
    refine lv_icmp_ge (tgt := 58) hx hb d_P_spells_21 (by decide) (fun hc => ?_) (fun hc => ?_)
    · replace hk := it_u hc hk
      exact hE u _ _ _ hk I (lv_sub hl [] rfl)
    · replace hk := ie_u hc hk
      refine lv_aload_n hx hb d_P_spells_24 rfl (lv_at hl 0 rfl) ?_
      refine g_P_walk C I k_84 d_P_spells_25 ?_
      refine lv_aload_n hx hb d_P_spells_28 rfl (lv_at hl 0 rfl) ?_
      refine g_P_places C I k_86 d_P_spells_29 ?_
      refine lv_iload_n hx hb d_P_spells_32 rfl (lv_at hl 1 rfl) ?_
      obtain ⟨hi, hk⟩ := gd_u hk
      refine l_P_places C I hi d_P_spells_33 ?_
      refine lv_iconst (v := 3) hx hb d_P_spells_34 (by decide) ?_
      refine lv_iadd hx hb d_P_spells_35 ?_
      refine lv_iload_n hx hb d_P_spells_36 rfl (lv_at hl 3 rfl) ?_
      refine lv_iadd hx hb d_P_spells_37 ?_
      refine lv_iconst (v := 1) hx hb d_P_spells_38 (by decide) ?_
      obtain ⟨r6, u4, h5, hk⟩ := cI_u hk
      refine go_I I (call_runV (rest := []) C I (c_W_numberAt C.2.2.2.1 C.2.2.2.2.1 l h5 _) wd_W_numberAt (q0 := 4) (ci := 4) rfl rfl k_307 ⟨rfl, rfl⟩ ⟨by decide, by decide⟩ rfl hl.1 rfl (Nat.le_of_ble_eq_true rfl) d_P_spells_39) (fun H locs I => ?_)
      refine lv_aload_n hx hb d_P_spells_42 rfl (lv_at hl 2 rfl) ?_
      refine lv_iload_n hx hb d_P_spells_43 rfl (lv_at hl 3 rfl) ?_
      obtain ⟨hi, hk⟩ := gd_u hk
      refine str_at (rest := [.int r6]) hk9 C I hi k_381 hl.1 ⟨by decide, by decide⟩ (Nat.le_of_ble_eq_true rfl) d_P_spells_44 (fun H locs I => ?_)
      refine lv_icmp_eq (tgt := 52) hx hb d_P_spells_47 (by decide) (fun hc => ?_) (fun hc => ?_)
      · replace hk := it_u hc hk
        refine lv_iinc (v := (x3 + 1)) (lv' := [(3, .int (x3 + 1)), (0, .ref (a 2)), (1, .int x1), (2, .ref (sk k9))]) hx hb d_P_spells_52 hl (k := 3) rfl rfl (by decide) rfl (fun ls hl => ?_)
        refine lv_goto (tgt := 16) hx hb d_P_spells_55 (by decide) ?_
        exact ih u4 (x3 + 1) _ _ _ hk I (lv_sub hl [1, 2, 3, 0] rfl)
      · replace hk := ie_u hc hk
        refine lv_iconst (v := 0) hx hb d_P_spells_50 (by decide) ?_
        exact hQ _ _ _ _ _ _ I hk d_P_spells_51
set_option maxHeartbeats 4000000 in
set_option maxRecDepth 100000 in
theorem c_P_spells {sk sv9 st : Nat → Nat} {D : va_G} {cs : Nat → ClassId} {a : Nat → Nat} (hw : wD (xW a cs)) (hz : zOK (xZ sk sv9 st)) (l : Launch) {u : St} {x1 : Int32} {k9 : Nat} {r : Int32} {u' : St} (hk : f_P_spells u x1 k9 = some (r, u')) : KI clA D cs (xW a cs) (xZ sk sv9 st) l y_P_spells (.code y_P_spells prog_4_method_24_code 4 (Option.some Jvm.ClassFile.FieldType.boolean)) rm_P_spells [.ref (a 2), .int x1, .ref (sk k9)] u r u' := by
  unfold f_P_spells at hk
  refine KZ.of (by decide) (Nat.le_of_ble_eq_true rfl) hw hz ?_
  intro p e s m args below meth c Q C I hQ ls hl
  have hl : lv_has ls 4 [(0, .ref (a 2)), (1, .int x1), (2, .ref (sk k9))] := hl
  have hx := C.1.1
  have hb := C.1.2.1
  obtain ⟨hk9, hk⟩ := gk_u hk
  refine lv_aload_n hx hb d_P_spells_0 rfl (lv_at hl 0 rfl) ?_
  refine lv_iload_n hx hb d_P_spells_1 rfl (lv_at hl 1 rfl) ?_
  obtain ⟨r3, u1, h2, hk⟩ := cI_u hk
  refine go_I I (call_runV (rest := []) C I (c_P_firstOf C.2.2.2.1 C.2.2.2.2.1 l h2 _) wd_P_firstOf (q0 := 2) (ci := 2) rfl rfl k_327 ⟨rfl, rfl⟩ ⟨by decide, by decide⟩ rfl hl.1 rfl (Nat.le_of_ble_eq_true rfl) d_P_spells_2) (fun H locs I => ?_)
  refine lv_aload_n hx hb d_P_spells_5 rfl (lv_at hl 2 rfl) ?_
  refine str_len (rest := [.int r3]) hk9 C I k_371 hl.1 ⟨by decide, by decide⟩ (Nat.le_of_ble_eq_true rfl) d_P_spells_6 (fun H locs I => ?_)
  refine lv_icmp_eq (tgt := 14) hx hb d_P_spells_9 (by decide) (fun hc => ?_) (fun hc => ?_)
  · replace hk := it_u hc hk
    refine lv_iconst (v := 0) hx hb d_P_spells_14 (by decide) ?_
    refine lv_istore_n (lv' := [(3, .int 0), (0, .ref (a 2)), (1, .int x1), (2, .ref (sk k9))]) hx hb d_P_spells_15 rfl hl (by decide) rfl (fun ls hl => ?_)
    refine w_P_spells_L16 hk9 C (fun u7 H locs ls hk I hl => ?_) hQ FU u1 0 _ _ _ hk I (lv_sub hl [1, 2, 3, 0] rfl)
    refine lv_iconst (v := 1) hx hb d_P_spells_58 (by decide) ?_
    exact hQ _ _ _ _ _ _ I hk d_P_spells_59
  · replace hk := ie_u hc hk
    refine lv_iconst (v := 0) hx hb d_P_spells_12 (by decide) ?_
    exact hQ _ _ _ _ _ _ I hk d_P_spells_13
def rm_P_take : Room := { frames := 2, cells := 0, slots := 0, locals := 46 }
noncomputable def f_P_take (u : St) (x1 : Int32) : Option (Int32 × St) := cI (f_W_next u 2) fun r3 u1 => cI (f_P_kindOf u1 r3) fun r6 u4 => bnd (if r6 = x1 then (1) else (0)) fun (z7 : Int32) => cV (f_W_need u4 z7 8 (u.1 1)) fun u8 => some (r3, u8)
set_option maxHeartbeats 4000000 in
set_option maxRecDepth 100000 in
theorem c_P_take {Z : zT} {D : va_G} {cs : Nat → ClassId} {a : Nat → Nat} (hw : wD (xW a cs)) (hz : zOK Z) (l : Launch) {u : St} {x1 : Int32} {r : Int32} {u' : St} (hk : f_P_take u x1 = some (r, u')) : KI clA D cs (xW a cs) Z l y_P_take (.code y_P_take prog_4_method_15_code 4 (Option.some Jvm.ClassFile.FieldType.int)) rm_P_take [.ref (a 2), .int x1] u r u' := by
  unfold f_P_take at hk
  refine KI.of (by decide) (Nat.le_of_ble_eq_true rfl) rfl hw hz ?_
  intro p e s m args below meth c Q C I hQ ls hl
  have hl : lv_has ls 4 [(0, .ref (a 2)), (1, .int x1)] := hl
  have hx := C.1.1
  have hb := C.1.2.1
  refine lv_aload_n hx hb d_P_take_0 rfl (lv_at hl 0 rfl) ?_
  refine g_P_walk C I k_84 d_P_take_1 ?_
  refine g_W_at C I k_37 d_P_take_4 ?_
  refine lv_istore_n (lv' := [(2, .int (u.1 1)), (0, .ref (a 2)), (1, .int x1)]) hx hb d_P_take_7 rfl hl (by decide) rfl (fun ls hl => ?_)
  refine lv_aload_n hx hb d_P_take_8 rfl (lv_at hl 1 rfl) ?_
  refine g_P_walk C I k_84 d_P_take_9 ?_
  refine lv_iconst (v := 2) hx hb d_P_take_12 (by decide) ?_
  obtain ⟨r3, u1, h2, hk⟩ := cI_u hk
  refine go_I I (call_runV (rest := []) C I (c_W_next C.2.2.2.1 C.2.2.2.2.1 l h2 _) wd_W_next (q0 := 4) (ci := 4) rfl rfl k_297 ⟨rfl, rfl⟩ ⟨by decide, by decide⟩ rfl hl.1 rfl (Nat.le_of_ble_eq_true rfl) d_P_take_13) (fun H locs I => ?_)
  refine lv_istore_n (lv' := [(3, .int r3), (2, .int (u.1 1)), (0, .ref (a 2)), (1, .int x1)]) hx hb d_P_take_16 rfl hl (by decide) rfl (fun ls hl => ?_)
  refine lv_aload_n hx hb d_P_take_17 rfl (lv_at hl 2 rfl) ?_
  refine g_P_walk C I k_84 d_P_take_18 ?_
  refine lv_aload_n hx hb d_P_take_21 rfl (lv_at hl 2 rfl) ?_
  refine lv_iload_n hx hb d_P_take_22 rfl (lv_at hl 0 rfl) ?_
  obtain ⟨r6, u4, h5, hk⟩ := cI_u hk
  refine go_I I (call_runV (rest := [.ref (a 4)]) C I (c_P_kindOf C.2.2.2.1 C.2.2.2.2.1 l h5 _) wd_P_kindOf (q0 := 2) (ci := 2) rfl rfl k_438 ⟨rfl, rfl⟩ ⟨by decide, by decide⟩ rfl hl.1 rfl (Nat.le_of_ble_eq_true rfl) d_P_take_23) (fun H locs I => ?_)
  refine lv_iload_n hx hb d_P_take_26 rfl (lv_at hl 3 rfl) ?_
  obtain ⟨z7, hj10, hk⟩ := bnd_u hk
  have Khj10 : ∀ (H : Heap) (locs : List Loc) (ls : Array Slot), Dy clA D (xW a cs) s H locs u4 → lv_has ls 4 [(2, .int (u.1 1)), (3, .int r3)] → W p l e rm_P_take s m args below meth c H locs 0 0 Q (F0 m 35 ls [.int z7, .ref (a 4)]) := by
    intro H locs ls I hl
    refine lv_bipush (v := 8) hx hb d_P_take_35 (by decide) ?_
    refine lv_iload_n hx hb d_P_take_37 rfl (lv_at hl 0 rfl) ?_
    obtain ⟨u8, h9, hk⟩ := cV_u hk
    refine go_V I (call_runV (rest := []) C I (c_W_need C.2.2.2.1 C.2.2.2.2.1 l h9 _) wd_W_need (q0 := 4) (ci := 4) rfl rfl k_298 ⟨rfl, rfl⟩ ⟨by decide, by decide⟩ rfl hl.1 rfl (Nat.le_of_ble_eq_true rfl) d_P_take_38) (fun H locs I => ?_)
    refine lv_iload_n hx hb d_P_take_41 rfl (lv_at hl 1 rfl) ?_
    exact hQ _ _ _ _ _ _ I hk d_P_take_42
  refine lv_icmp_ne (tgt := 34) hx hb d_P_take_27 (by decide) (fun hc => ?_) (fun hc => ?_)
  · replace hj10 := ie_u hc hj10
    refine lv_iconst (v := 0) hx hb d_P_take_34 (by decide) ?_
    obtain rfl := ep1 hj10
    exact Khj10 _ _ _ I (lv_sub hl [1, 0] rfl)
  · replace hj10 := it_u hc hj10
    refine lv_iconst (v := 1) hx hb d_P_take_30 (by decide) ?_
    refine lv_goto (tgt := 35) hx hb d_P_take_31 (by decide) ?_
    obtain rfl := ep1 hj10
    exact Khj10 _ _ _ I (lv_sub hl [1, 0] rfl)
def rm_P_alike : Room := { frames := 2, cells := 0, slots := 0, locals := 45 }
noncomputable def f_P_alike_L67 (kx : St → Option (Int32 × St)) (x1 : Int32) (x2 : Int32) (x3 : Int32) : Nat → St → Int32 → Option (Int32 × St)
  | 0, _, _ => none
  | n + 1, u, x4 => if x3 ≤ x4 then (kx u) else (gd x1 300 (cI (f_W_numberAt u (((u.2 5 x1.toNatClampNeg) + 3) + x4) 1) fun r21 u19 => gd x2 300 (cI (f_W_numberAt u19 (((u19.2 5 x2.toNatClampNeg) + 3) + x4) 1) fun r24 u22 => if r21 = r24 then (f_P_alike_L67 kx x1 x2 x3 n u22 (x4 + 1)) else (gb 0 (some (0, u22))))))
noncomputable def f_P_alike (u : St) (x1 : Int32) (x2 : Int32) : Option (Int32 × St) := if x1 = x2 then (bnd (if x1 = x2 then (1) else (0)) fun (z1 : Int32) => gb z1 (some (z1, u))) else (cI (f_P_within u x1) fun r5 u3 => if r5 = 0 then (bnd (if x1 = x2 then (1) else (0)) fun (z6 : Int32) => gb z6 (some (z6, u3))) else (cI (f_P_within u3 x2) fun r10 u8 => if r10 = 0 then (bnd (if x1 = x2 then (1) else (0)) fun (z11 : Int32) => gb z11 (some (z11, u8))) else (gd x1 300 (gd x2 300 (if (u8.2 8 x1.toNatClampNeg) = (u8.2 8 x2.toNatClampNeg) then (cI (f_P_firstOf u8 x1) fun r15 u13 => cI (f_P_firstOf u13 x2) fun r18 u16 => if r15 = r18 then (f_P_alike_L67 (fun u25 => gb 1 (some (1, u25))) x1 x2 r15 FU u16 0) else (gb 0 (some (0, u16)))) else (bnd (if x1 = x2 then (1) else (0)) fun (z26 : Int32) => gb z26 (some (z26, u8))))))))
set_option maxHeartbeats 4000000 in
set_option maxRecDepth 100000 in
theorem w_P_alike_L67 {Z : zT} {D : va_G} {cs : Nat → ClassId} {a : Nat → Nat} {p : Program} {l : Launch} {e : Env} {s : State} {m : MethodId} {args : Array Value} {below : List Frame} {meth : Method} {c : Code} {Q : State → Prop} {F : Int32 × St} {kx : St → Option (Int32 × St)} {x1 : Int32} {x2 : Int32} {x3 : Int32} (C : Cx clA R_P prog_4_method_25_code 6 D cs (xW a cs) Z p s m args c) (hE : ∀ (u2 : St) (H : Heap) (locs : List Loc) (ls : Array Slot), kx u2 = some F → Dy clA D (xW a cs) s H locs u2 → lv_has ls 6 [] → W p l e rm_P_alike s m args below meth c H locs 0 0 Q (F0 m 126 ls [])) (hQ : ∀ (H : Heap) (locs : List Loc) (pc : Nat) (ls : Array Slot) (v : Int32) (u1 : St), Dy clA D (xW a cs) s H locs u1 → gb v (some (v, u1)) = some F → decode prog_4_method_25_code pc = .ok (.ireturn, 1) → W p l e rm_P_alike s m args below meth c H locs 0 0 Q (F0 m pc ls [.int v])): ∀ (n : Nat) (u : St) (x4 : Int32) (H : Heap) (locs : List Loc) (ls : Array Slot), f_P_alike_L67 kx x1 x2 x3 n u x4 = some F → Dy clA D (xW a cs) s H locs u → lv_has ls 6 [(0, .ref (a 2)), (1, .int x1), (2, .int x2), (3, .int x3), (4, .int x4)] → W p l e rm_P_alike s m args below meth c H locs 0 0 Q (F0 m 67 ls []) := by
  have hx := C.1.1
  have hb := C.1.2.1
  intro n
  induction n with
  | zero =>
    intro u x4 H locs ls hk I hl
    rw [f_P_alike_L67] at hk
    cases hk
  | succ n ih =>
    intro u x4 H locs ls hk I hl
    rw [f_P_alike_L67] at hk
    refine lv_iload hx hb d_P_alike_67 (lv_at hl 4 rfl) ?_
    refine lv_iload_n hx hb d_P_alike_69 rfl (lv_at hl 3 rfl) ?_
    refine lv_icmp_ge (tgt := 126) hx hb d_P_alike_70 (by decide) (fun hc => ?_) (fun hc => ?_)
    · replace hk := it_u hc hk
      exact hE u _ _ _ hk I (lv_sub hl [] rfl)
    · replace hk := ie_u hc hk
      refine lv_aload_n hx hb d_P_alike_73 rfl (lv_at hl 0 rfl) ?_
      refine g_P_walk C I k_84 d_P_alike_74 ?_
      refine lv_aload_n hx hb d_P_alike_77 rfl (lv_at hl 0 rfl) ?_
      refine g_P_places C I k_86 d_P_alike_78 ?_
      refine lv_iload_n hx hb d_P_alike_81 rfl (lv_at hl 1 rfl) ?_
      obtain ⟨hi, hk⟩ := gd_u hk
      refine l_P_places C I hi d_P_alike_82 ?_
      refine lv_iconst (v := 3) hx hb d_P_alike_83 (by decide) ?_
      refine lv_iadd hx hb d_P_alike_84 ?_
      refine lv_iload hx hb d_P_alike_85 (lv_at hl 4 rfl) ?_
      refine lv_iadd hx hb d_P_alike_87 ?_
      refine lv_iconst (v := 1) hx hb d_P_alike_88 (by decide) ?_
      obtain ⟨r21, u19, h20, hk⟩ := cI_u hk
      refine go_I I (call_runV (rest := []) C I (c_W_numberAt C.2.2.2.1 C.2.2.2.2.1 l h20 _) wd_W_numberAt (q0 := 4) (ci := 4) rfl rfl k_307 ⟨rfl, rfl⟩ ⟨by decide, by decide⟩ rfl hl.1 rfl (Nat.le_of_ble_eq_true rfl) d_P_alike_89) (fun H locs I => ?_)
      refine lv_istore (lv' := [(5, .int r21), (0, .ref (a 2)), (1, .int x1), (2, .int x2), (3, .int x3), (4, .int x4)]) hx hb d_P_alike_92 hl (by decide) rfl (fun ls hl => ?_)
      refine lv_iload hx hb d_P_alike_94 (lv_at hl 0 rfl) ?_
      refine lv_aload_n hx hb d_P_alike_96 rfl (lv_at hl 1 rfl) ?_
      refine g_P_walk C I k_84 d_P_alike_97 ?_
      refine lv_aload_n hx hb d_P_alike_100 rfl (lv_at hl 1 rfl) ?_
      refine g_P_places C I k_86 d_P_alike_101 ?_
      refine lv_iload_n hx hb d_P_alike_104 rfl (lv_at hl 3 rfl) ?_
      obtain ⟨hi, hk⟩ := gd_u hk
      refine l_P_places C I hi d_P_alike_105 ?_
      refine lv_iconst (v := 3) hx hb d_P_alike_106 (by decide) ?_
      refine lv_iadd hx hb d_P_alike_107 ?_
      refine lv_iload hx hb d_P_alike_108 (lv_at hl 5 rfl) ?_
      refine lv_iadd hx hb d_P_alike_110 ?_
      refine lv_iconst (v := 1) hx hb d_P_alike_111 (by decide) ?_
      obtain ⟨r24, u22, h23, hk⟩ := cI_u hk
      refine go_I I (call_runV (rest := [.int r21]) C I (c_W_numberAt C.2.2.2.1 C.2.2.2.2.1 l h23 _) wd_W_numberAt (q0 := 4) (ci := 4) rfl rfl k_307 ⟨rfl, rfl⟩ ⟨by decide, by decide⟩ rfl hl.1 rfl (Nat.le_of_ble_eq_true rfl) d_P_alike_112) (fun H locs I => ?_)
      refine lv_icmp_eq (tgt := 120) hx hb d_P_alike_115 (by decide) (fun hc => ?_) (fun hc => ?_)
      · replace hk := it_u hc hk
        refine lv_iinc (v := (x4 + 1)) (lv' := [(4, .int (x4 + 1)), (5, .int r21), (0, .ref (a 2)), (1, .int x1), (2, .int x2), (3, .int x3)]) hx hb d_P_alike_120 hl (k := 5) rfl rfl (by decide) rfl (fun ls hl => ?_)
        refine lv_goto (tgt := 67) hx hb d_P_alike_123 (by decide) ?_
        exact ih u22 (x4 + 1) _ _ _ hk I (lv_sub hl [2, 3, 4, 5, 0] rfl)
      · replace hk := ie_u hc hk
        refine lv_iconst (v := 0) hx hb d_P_alike_118 (by decide) ?_
        exact hQ _ _ _ _ _ _ I hk d_P_alike_119
set_option maxHeartbeats 4000000 in
set_option maxRecDepth 100000 in
theorem c_P_alike {Z : zT} {D : va_G} {cs : Nat → ClassId} {a : Nat → Nat} (hw : wD (xW a cs)) (hz : zOK Z) (l : Launch) {u : St} {x1 : Int32} {x2 : Int32} {r : Int32} {u' : St} (hk : f_P_alike u x1 x2 = some (r, u')) : KI clA D cs (xW a cs) Z l y_P_alike (.code y_P_alike prog_4_method_25_code 6 (Option.some Jvm.ClassFile.FieldType.boolean)) rm_P_alike [.ref (a 2), .int x1, .int x2] u r u' := by
  unfold f_P_alike at hk
  refine KZ.of (by decide) (Nat.le_of_ble_eq_true rfl) hw hz ?_
  intro p e s m args below meth c Q C I hQ ls hl
  have hl : lv_has ls 6 [(0, .ref (a 2)), (1, .int x1), (2, .int x2)] := hl
  have hx := C.1.1
  have hb := C.1.2.1
  refine lv_iload_n hx hb d_P_alike_0 rfl (lv_at hl 1 rfl) ?_
  refine lv_iload_n hx hb d_P_alike_1 rfl (lv_at hl 2 rfl) ?_
  refine lv_icmp_eq (tgt := 36) hx hb d_P_alike_2 (by decide) (fun hc => ?_) (fun hc => ?_)
  · replace hk := it_u hc hk
    refine lv_iload_n hx hb d_P_alike_36 rfl (lv_at hl 1 rfl) ?_
    refine lv_iload_n hx hb d_P_alike_37 rfl (lv_at hl 2 rfl) ?_
    obtain ⟨z1, hj2, hk⟩ := bnd_u hk
    have Khj2 : ∀ (H : Heap) (locs : List Loc) (ls : Array Slot), Dy clA D (xW a cs) s H locs u → lv_has ls 6 [] → W p l e rm_P_alike s m args below meth c H locs 0 0 Q (F0 m 46 ls [.int z1]) := by
      intro H locs ls I hl
      exact hQ _ _ _ _ _ _ I hk d_P_alike_46
    refine lv_icmp_ne (tgt := 45) hx hb d_P_alike_38 (by decide) (fun hc => ?_) (fun hc => ?_)
    · replace hj2 := ie_u hc hj2
      refine lv_iconst (v := 0) hx hb d_P_alike_45 (by decide) ?_
      obtain rfl := ep1 hj2
      exact Khj2 _ _ _ I (lv_sub hl [] rfl)
    · replace hj2 := it_u hc hj2
      refine lv_iconst (v := 1) hx hb d_P_alike_41 (by decide) ?_
      refine lv_goto (tgt := 46) hx hb d_P_alike_42 (by decide) ?_
      obtain rfl := ep1 hj2
      exact Khj2 _ _ _ I (lv_sub hl [] rfl)
  · replace hk := ie_u hc hk
    refine lv_aload_n hx hb d_P_alike_5 rfl (lv_at hl 0 rfl) ?_
    refine lv_iload_n hx hb d_P_alike_6 rfl (lv_at hl 1 rfl) ?_
    obtain ⟨r5, u3, h4, hk⟩ := cI_u hk
    refine go_I I (call_runV (rest := []) C I (c_P_within C.2.2.2.1 C.2.2.2.2.1 l h4 _) wd_P_within (q0 := 2) (ci := 2) rfl rfl k_331 ⟨rfl, rfl⟩ ⟨by decide, by decide⟩ rfl hl.1 rfl (Nat.le_of_ble_eq_true rfl) d_P_alike_7) (fun H locs I => ?_)
    refine lv_if_eq (tgt := 36) hx hb d_P_alike_10 (by decide) (fun hc => ?_) (fun hc => ?_)
    · replace hk := it_u hc hk
      refine lv_iload_n hx hb d_P_alike_36 rfl (lv_at hl 1 rfl) ?_
      refine lv_iload_n hx hb d_P_alike_37 rfl (lv_at hl 2 rfl) ?_
      obtain ⟨z6, hj7, hk⟩ := bnd_u hk
      have Khj7 : ∀ (H : Heap) (locs : List Loc) (ls : Array Slot), Dy clA D (xW a cs) s H locs u3 → lv_has ls 6 [] → W p l e rm_P_alike s m args below meth c H locs 0 0 Q (F0 m 46 ls [.int z6]) := by
        intro H locs ls I hl
        exact hQ _ _ _ _ _ _ I hk d_P_alike_46
      refine lv_icmp_ne (tgt := 45) hx hb d_P_alike_38 (by decide) (fun hc => ?_) (fun hc => ?_)
      · replace hj7 := ie_u hc hj7
        refine lv_iconst (v := 0) hx hb d_P_alike_45 (by decide) ?_
        obtain rfl := ep1 hj7
        exact Khj7 _ _ _ I (lv_sub hl [] rfl)
      · replace hj7 := it_u hc hj7
        refine lv_iconst (v := 1) hx hb d_P_alike_41 (by decide) ?_
        refine lv_goto (tgt := 46) hx hb d_P_alike_42 (by decide) ?_
        obtain rfl := ep1 hj7
        exact Khj7 _ _ _ I (lv_sub hl [] rfl)
    · replace hk := ie_u hc hk
      refine lv_aload_n hx hb d_P_alike_13 rfl (lv_at hl 0 rfl) ?_
      refine lv_iload_n hx hb d_P_alike_14 rfl (lv_at hl 2 rfl) ?_
      obtain ⟨r10, u8, h9, hk⟩ := cI_u hk
      refine go_I I (call_runV (rest := []) C I (c_P_within C.2.2.2.1 C.2.2.2.2.1 l h9 _) wd_P_within (q0 := 2) (ci := 2) rfl rfl k_331 ⟨rfl, rfl⟩ ⟨by decide, by decide⟩ rfl hl.1 rfl (Nat.le_of_ble_eq_true rfl) d_P_alike_15) (fun H locs I => ?_)
      refine lv_if_eq (tgt := 36) hx hb d_P_alike_18 (by decide) (fun hc => ?_) (fun hc => ?_)
      · replace hk := it_u hc hk
        refine lv_iload_n hx hb d_P_alike_36 rfl (lv_at hl 1 rfl) ?_
        refine lv_iload_n hx hb d_P_alike_37 rfl (lv_at hl 2 rfl) ?_
        obtain ⟨z11, hj12, hk⟩ := bnd_u hk
        have Khj12 : ∀ (H : Heap) (locs : List Loc) (ls : Array Slot), Dy clA D (xW a cs) s H locs u8 → lv_has ls 6 [] → W p l e rm_P_alike s m args below meth c H locs 0 0 Q (F0 m 46 ls [.int z11]) := by
          intro H locs ls I hl
          exact hQ _ _ _ _ _ _ I hk d_P_alike_46
        refine lv_icmp_ne (tgt := 45) hx hb d_P_alike_38 (by decide) (fun hc => ?_) (fun hc => ?_)
        · replace hj12 := ie_u hc hj12
          refine lv_iconst (v := 0) hx hb d_P_alike_45 (by decide) ?_
          obtain rfl := ep1 hj12
          exact Khj12 _ _ _ I (lv_sub hl [] rfl)
        · replace hj12 := it_u hc hj12
          refine lv_iconst (v := 1) hx hb d_P_alike_41 (by decide) ?_
          refine lv_goto (tgt := 46) hx hb d_P_alike_42 (by decide) ?_
          obtain rfl := ep1 hj12
          exact Khj12 _ _ _ I (lv_sub hl [] rfl)
      · replace hk := ie_u hc hk
        refine lv_aload_n hx hb d_P_alike_21 rfl (lv_at hl 0 rfl) ?_
        refine g_P_sums C I k_89 d_P_alike_22 ?_
        refine lv_iload_n hx hb d_P_alike_25 rfl (lv_at hl 1 rfl) ?_
        obtain ⟨hi, hk⟩ := gd_u hk
        refine l_P_sums C I hi d_P_alike_26 ?_
        refine lv_aload_n hx hb d_P_alike_27 rfl (lv_at hl 0 rfl) ?_
        refine g_P_sums C I k_89 d_P_alike_28 ?_
        refine lv_iload_n hx hb d_P_alike_31 rfl (lv_at hl 2 rfl) ?_
        obtain ⟨hi, hk⟩ := gd_u hk
        refine l_P_sums C I hi d_P_alike_32 ?_
        refine lv_icmp_eq (tgt := 47) hx hb d_P_alike_33 (by decide) (fun hc => ?_) (fun hc => ?_)
        · replace hk := it_u hc hk
          refine lv_aload_n hx hb d_P_alike_47 rfl (lv_at hl 0 rfl) ?_
          refine lv_iload_n hx hb d_P_alike_48 rfl (lv_at hl 1 rfl) ?_
          obtain ⟨r15, u13, h14, hk⟩ := cI_u hk
          refine go_I I (call_runV (rest := []) C I (c_P_firstOf C.2.2.2.1 C.2.2.2.2.1 l h14 _) wd_P_firstOf (q0 := 2) (ci := 2) rfl rfl k_327 ⟨rfl, rfl⟩ ⟨by decide, by decide⟩ rfl hl.1 rfl (Nat.le_of_ble_eq_true rfl) d_P_alike_49) (fun H locs I => ?_)
          refine lv_istore_n (lv' := [(3, .int r15), (0, .ref (a 2)), (1, .int x1), (2, .int x2)]) hx hb d_P_alike_52 rfl hl (by decide) rfl (fun ls hl => ?_)
          refine lv_iload_n hx hb d_P_alike_53 rfl (lv_at hl 0 rfl) ?_
          refine lv_aload_n hx hb d_P_alike_54 rfl (lv_at hl 1 rfl) ?_
          refine lv_iload_n hx hb d_P_alike_55 rfl (lv_at hl 3 rfl) ?_
          obtain ⟨r18, u16, h17, hk⟩ := cI_u hk
          refine go_I I (call_runV (rest := [.int r15]) C I (c_P_firstOf C.2.2.2.1 C.2.2.2.2.1 l h17 _) wd_P_firstOf (q0 := 2) (ci := 2) rfl rfl k_327 ⟨rfl, rfl⟩ ⟨by decide, by decide⟩ rfl hl.1 rfl (Nat.le_of_ble_eq_true rfl) d_P_alike_56) (fun H locs I => ?_)
          refine lv_icmp_eq (tgt := 64) hx hb d_P_alike_59 (by decide) (fun hc => ?_) (fun hc => ?_)
          · replace hk := it_u hc hk
            refine lv_iconst (v := 0) hx hb d_P_alike_64 (by decide) ?_
            refine lv_istore (lv' := [(4, .int 0), (3, .int r15), (0, .ref (a 2)), (1, .int x1), (2, .int x2)]) hx hb d_P_alike_65 hl (by decide) rfl (fun ls hl => ?_)
            refine w_P_alike_L67 C (fun u25 H locs ls hk I hl => ?_) hQ FU u16 0 _ _ _ hk I (lv_sub hl [2, 3, 4, 1, 0] rfl)
            refine lv_iconst (v := 1) hx hb d_P_alike_126 (by decide) ?_
            exact hQ _ _ _ _ _ _ I hk d_P_alike_127
          · replace hk := ie_u hc hk
            refine lv_iconst (v := 0) hx hb d_P_alike_62 (by decide) ?_
            exact hQ _ _ _ _ _ _ I hk d_P_alike_63
        · replace hk := ie_u hc hk
          refine lv_iload_n hx hb d_P_alike_36 rfl (lv_at hl 1 rfl) ?_
          refine lv_iload_n hx hb d_P_alike_37 rfl (lv_at hl 2 rfl) ?_
          obtain ⟨z26, hj27, hk⟩ := bnd_u hk
          have Khj27 : ∀ (H : Heap) (locs : List Loc) (ls : Array Slot), Dy clA D (xW a cs) s H locs u8 → lv_has ls 6 [] → W p l e rm_P_alike s m args below meth c H locs 0 0 Q (F0 m 46 ls [.int z26]) := by
            intro H locs ls I hl
            exact hQ _ _ _ _ _ _ I hk d_P_alike_46
          refine lv_icmp_ne (tgt := 45) hx hb d_P_alike_38 (by decide) (fun hc => ?_) (fun hc => ?_)
          · replace hj27 := ie_u hc hj27
            refine lv_iconst (v := 0) hx hb d_P_alike_45 (by decide) ?_
            obtain rfl := ep1 hj27
            exact Khj27 _ _ _ I (lv_sub hl [] rfl)
          · replace hj27 := it_u hc hj27
            refine lv_iconst (v := 1) hx hb d_P_alike_41 (by decide) ?_
            refine lv_goto (tgt := 46) hx hb d_P_alike_42 (by decide) ?_
            obtain rfl := ep1 hj27
            exact Khj27 _ _ _ I (lv_sub hl [] rfl)
def rm_P_needType : Room := { frames := 1, cells := 0, slots := 0, locals := 23 }
noncomputable def f_P_needType (u : St) (x1 : Int32) (x2 : Int32) (x3 : Int32) : Option (St) := cI (f_P_factsOf u x1) fun r3 u1 => bnd (if (r3 &&& x2) = 0 then (0) else (1)) fun (z4 : Int32) => cV (f_W_need u1 z4 11 x3) fun u5 => cI (f_P_factsOf u5 x1) fun r9 u7 => bnd (if (r9 &&& 64) = 0 then (1) else (0)) fun (z10 : Int32) => cV (f_W_need u7 z10 12 x3) fun u11 => some u11
set_option maxHeartbeats 4000000 in
set_option maxRecDepth 100000 in
theorem c_P_needType {Z : zT} {D : va_G} {cs : Nat → ClassId} {a : Nat → Nat} (hw : wD (xW a cs)) (hz : zOK Z) (l : Launch) {u : St} {x1 : Int32} {x2 : Int32} {x3 : Int32} {u' : St} (hk : f_P_needType u x1 x2 x3 = some u') : KV clA D cs (xW a cs) Z l y_P_needType (.code y_P_needType prog_4_method_16_code 4 (Option.none : Option Jvm.ClassFile.FieldType)) rm_P_needType [.ref (a 2), .int x1, .int x2, .int x3] u u' := by
  unfold f_P_needType at hk
  refine KV.of (by decide) (Nat.le_of_ble_eq_true rfl) hw hz ?_
  intro p e s m args below meth c Q C I hQ ls hl
  have hl : lv_has ls 4 [(0, .ref (a 2)), (1, .int x1), (2, .int x2), (3, .int x3)] := hl
  have hx := C.1.1
  have hb := C.1.2.1
  refine lv_aload_n hx hb d_P_needType_0 rfl (lv_at hl 0 rfl) ?_
  refine g_P_walk C I k_84 d_P_needType_1 ?_
  refine lv_aload_n hx hb d_P_needType_4 rfl (lv_at hl 0 rfl) ?_
  refine lv_iload_n hx hb d_P_needType_5 rfl (lv_at hl 1 rfl) ?_
  obtain ⟨r3, u1, h2, hk⟩ := cI_u hk
  refine go_I I (call_runV (rest := [.ref (a 4)]) C I (c_P_factsOf C.2.2.2.1 C.2.2.2.2.1 l h2 _) wd_P_factsOf (q0 := 2) (ci := 2) rfl rfl k_446 ⟨rfl, rfl⟩ ⟨by decide, by decide⟩ rfl hl.1 rfl (Nat.le_of_ble_eq_true rfl) d_P_needType_6) (fun H locs I => ?_)
  refine lv_iload_n hx hb d_P_needType_9 rfl (lv_at hl 2 rfl) ?_
  refine lv_iand hx hb d_P_needType_10 ?_
  obtain ⟨z4, hj14, hk⟩ := bnd_u hk
  have Khj14 : ∀ (H : Heap) (locs : List Loc) (ls : Array Slot), Dy clA D (xW a cs) s H locs u1 → lv_has ls 4 [(0, .ref (a 2)), (1, .int x1), (3, .int x3)] → W p l e rm_P_needType s m args below meth c H locs 0 0 Q (F0 m 19 ls [.int z4, .ref (a 4)]) := by
    intro H locs ls I hl
    refine lv_bipush (v := 11) hx hb d_P_needType_19 (by decide) ?_
    refine lv_iload_n hx hb d_P_needType_21 rfl (lv_at hl 2 rfl) ?_
    obtain ⟨u5, h6, hk⟩ := cV_u hk
    refine go_V I (call_runV (rest := []) C I (c_W_need C.2.2.2.1 C.2.2.2.2.1 l h6 _) wd_W_need (q0 := 4) (ci := 4) rfl rfl k_298 ⟨rfl, rfl⟩ ⟨by decide, by decide⟩ rfl hl.1 rfl (Nat.le_of_ble_eq_true rfl) d_P_needType_22) (fun H locs I => ?_)
    refine lv_aload_n hx hb d_P_needType_25 rfl (lv_at hl 0 rfl) ?_
    refine g_P_walk C I k_84 d_P_needType_26 ?_
    refine lv_aload_n hx hb d_P_needType_29 rfl (lv_at hl 0 rfl) ?_
    refine lv_iload_n hx hb d_P_needType_30 rfl (lv_at hl 1 rfl) ?_
    obtain ⟨r9, u7, h8, hk⟩ := cI_u hk
    refine go_I I (call_runV (rest := [.ref (a 4)]) C I (c_P_factsOf C.2.2.2.1 C.2.2.2.2.1 l h8 _) wd_P_factsOf (q0 := 2) (ci := 2) rfl rfl k_446 ⟨rfl, rfl⟩ ⟨by decide, by decide⟩ rfl hl.1 rfl (Nat.le_of_ble_eq_true rfl) d_P_needType_31) (fun H locs I => ?_)
    refine lv_bipush (v := 64) hx hb d_P_needType_34 (by decide) ?_
    refine lv_iand hx hb d_P_needType_36 ?_
    obtain ⟨z10, hj13, hk⟩ := bnd_u hk
    have Khj13 : ∀ (H : Heap) (locs : List Loc) (ls : Array Slot), Dy clA D (xW a cs) s H locs u7 → lv_has ls 4 [(3, .int x3)] → W p l e rm_P_needType s m args below meth c H locs 0 0 Q (F0 m 45 ls [.int z10, .ref (a 4)]) := by
      intro H locs ls I hl
      refine lv_bipush (v := 12) hx hb d_P_needType_45 (by decide) ?_
      refine lv_iload_n hx hb d_P_needType_47 rfl (lv_at hl 0 rfl) ?_
      obtain ⟨u11, h12, hk⟩ := cV_u hk
      refine go_V I (call_runV (rest := []) C I (c_W_need C.2.2.2.1 C.2.2.2.2.1 l h12 _) wd_W_need (q0 := 4) (ci := 4) rfl rfl k_298 ⟨rfl, rfl⟩ ⟨by decide, by decide⟩ rfl hl.1 rfl (Nat.le_of_ble_eq_true rfl) d_P_needType_48) (fun H locs I => ?_)
      exact hQ _ _ _ _ _ I hk d_P_needType_51
    refine lv_if_ne (tgt := 44) hx hb d_P_needType_37 (by decide) (fun hc => ?_) (fun hc => ?_)
    · replace hj13 := ie_u hc hj13
      refine lv_iconst (v := 0) hx hb d_P_needType_44 (by decide) ?_
      obtain rfl := ep1 hj13
      exact Khj13 _ _ _ I (lv_sub hl [2] rfl)
    · replace hj13 := it_u hc hj13
      refine lv_iconst (v := 1) hx hb d_P_needType_40 (by decide) ?_
      refine lv_goto (tgt := 45) hx hb d_P_needType_41 (by decide) ?_
      obtain rfl := ep1 hj13
      exact Khj13 _ _ _ I (lv_sub hl [2] rfl)
  refine lv_if_eq (tgt := 18) hx hb d_P_needType_11 (by decide) (fun hc => ?_) (fun hc => ?_)
  · replace hj14 := it_u hc hj14
    refine lv_iconst (v := 0) hx hb d_P_needType_18 (by decide) ?_
    obtain rfl := ep1 hj14
    exact Khj14 _ _ _ I (lv_sub hl [0, 1, 3] rfl)
  · replace hj14 := ie_u hc hj14
    refine lv_iconst (v := 1) hx hb d_P_needType_14 (by decide) ?_
    refine lv_goto (tgt := 19) hx hb d_P_needType_15 (by decide) ?_
    obtain rfl := ep1 hj14
    exact Khj14 _ _ _ I (lv_sub hl [0, 1, 3] rfl)
def rm_D_nameFacts : Room := { frames := 0, cells := 0, slots := 0, locals := 0 }
noncomputable def f_D_nameFacts_L8 (kx : Int32 → Int32 → Option (Int32 × St)) (x2 : Int32) (u : St) : Nat → Int32 → Int32 → Int32 → Option (Int32 × St)
  | 0, _, _, _ => none
  | n + 1, x3, x4, x5 => if x2 ≤ x5 then (kx x3 x4) else (gd x5 4000 (if (u.2 0 x5.toNatClampNeg) = 46 ∨ (u.2 0 x5.toNatClampNeg) = 59 ∨ (u.2 0 x5.toNatClampNeg) = 60 ∨ (u.2 0 x5.toNatClampNeg) = 62 ∨ (u.2 0 x5.toNatClampNeg) = 91 then (some (0, u)) else (if (u.2 0 x5.toNatClampNeg) = 47 then (if x3 = 0 then (some (0, u)) else (f_D_nameFacts_L8 kx x2 u n 0 2 (x5 + 1))) else (f_D_nameFacts_L8 kx x2 u n (x3 + 1) x4 (x5 + 1)))))
noncomputable def f_D_nameFacts (u : St) (x1 : Int32) (x2 : Int32) : Option (Int32 × St) := f_D_nameFacts_L8 (fun z1 z2 => bnd (if z1 = 0 then (0) else (z2)) fun (z3 : Int32) => some (z3, u)) x2 u FU 0 3 x1
set_option maxHeartbeats 4000000 in
set_option maxRecDepth 100000 in
theorem w_D_nameFacts_L8 {Z : zT} {D : va_G} {cs : Nat → ClassId} {a : Nat → Nat} {p : Program} {l : Launch} {e : Env} {s : State} {m : MethodId} {args : Array Value} {below : List Frame} {meth : Method} {c : Code} {Q : State → Prop} {F : Int32 × St} {kx : Int32 → Int32 → Option (Int32 × St)} {x2 : Int32} {u : St} (C : Cx clA R_D prog_7_method_2_code 6 D cs (xW a cs) Z p s m args c) (hE : ∀ (o3 : Int32) (o4 : Int32) (H : Heap) (locs : List Loc) (ls : Array Slot), kx o3 o4 = some F → Dy clA D (xW a cs) s H locs u → lv_has ls 6 [(3, .int o3), (4, .int o4)] → W p l e rm_D_nameFacts s m args below meth c H locs 0 0 Q (F0 m 105 ls [])) (hQ : ∀ (H : Heap) (locs : List Loc) (pc : Nat) (ls : Array Slot) (v : Int32) (u1 : St), Dy clA D (xW a cs) s H locs u1 → some (v, u1) = some F → decode prog_7_method_2_code pc = .ok (.ireturn, 1) → W p l e rm_D_nameFacts s m args below meth c H locs 0 0 Q (F0 m pc ls [.int v])): ∀ (n : Nat) (x3 : Int32) (x4 : Int32) (x5 : Int32) (H : Heap) (locs : List Loc) (ls : Array Slot), f_D_nameFacts_L8 kx x2 u n x3 x4 x5 = some F → Dy clA D (xW a cs) s H locs u → lv_has ls 6 [(0, .ref (a 5)), (2, .int x2), (3, .int x3), (4, .int x4), (5, .int x5)] → W p l e rm_D_nameFacts s m args below meth c H locs 0 0 Q (F0 m 8 ls []) := by
  have hx := C.1.1
  have hb := C.1.2.1
  intro n
  induction n with
  | zero =>
    intro x3 x4 x5 H locs ls hk I hl
    rw [f_D_nameFacts_L8] at hk
    cases hk
  | succ n ih =>
    intro x3 x4 x5 H locs ls hk I hl
    rw [f_D_nameFacts_L8] at hk
    refine lv_iload hx hb d_D_nameFacts_8 (lv_at hl 4 rfl) ?_
    refine lv_iload_n hx hb d_D_nameFacts_10 rfl (lv_at hl 1 rfl) ?_
    refine lv_icmp_ge (tgt := 105) hx hb d_D_nameFacts_11 (by decide) (fun hc => ?_) (fun hc => ?_)
    · replace hk := it_u hc hk
      exact hE x3 x4 _ _ _ hk I (lv_sub hl [2, 3] rfl)
    · replace hk := ie_u hc hk
      refine lv_aload_n hx hb d_D_nameFacts_14 rfl (lv_at hl 0 rfl) ?_
      refine g_D_row C I k_75 d_D_nameFacts_15 ?_
      refine lv_iload hx hb d_D_nameFacts_18 (lv_at hl 4 rfl) ?_
      obtain ⟨hi, hk⟩ := gd_u hk
      refine l_W_row C I hi d_D_nameFacts_20 ?_
      by_cases hs0 : (u.2 0 x5.toNatClampNeg) = 46 ∨ (u.2 0 x5.toNatClampNeg) = 59 ∨ (u.2 0 x5.toNatClampNeg) = 60 ∨ (u.2 0 x5.toNatClampNeg) = 62 ∨ (u.2 0 x5.toNatClampNeg) = 91
      · replace hk := it_u hs0 hk
        refine lv_lookup (tgt := 94) (off := 73) hx hb d_D_nameFacts_21 (by decide) (by rcases hs0 with h | h | h | h | h <;> rw [h] <;> decide) (by decide) ?_
        refine lv_iconst (v := 0) hx hb d_D_nameFacts_94 (by decide) ?_
        exact hQ _ _ _ _ _ _ I hk d_D_nameFacts_95
      replace hk := ie_u hs0 hk
      by_cases hs1 : (u.2 0 x5.toNatClampNeg) = 47
      · replace hk := it_u hs1 hk
        refine lv_lookup (tgt := 80) (off := 59) hx hb d_D_nameFacts_21 (by decide) (by rw [hs1]; decide) (by decide) ?_
        refine lv_iload_n hx hb d_D_nameFacts_80 rfl (lv_at hl 2 rfl) ?_
        refine lv_if_ne (tgt := 86) hx hb d_D_nameFacts_81 (by decide) (fun hc => ?_) (fun hc => ?_)
        · replace hk := ie_u hc hk
          refine lv_iconst (v := 0) hx hb d_D_nameFacts_86 (by decide) ?_
          refine lv_istore_n (lv' := [(3, .int 0), (0, .ref (a 5)), (2, .int x2), (4, .int x4), (5, .int x5)]) hx hb d_D_nameFacts_87 rfl hl (by decide) rfl (fun ls hl => ?_)
          refine lv_iconst (v := 2) hx hb d_D_nameFacts_88 (by decide) ?_
          refine lv_istore (lv' := [(4, .int 2), (3, .int 0), (0, .ref (a 5)), (2, .int x2), (5, .int x5)]) hx hb d_D_nameFacts_89 hl (by decide) rfl (fun ls hl => ?_)
          refine lv_goto (tgt := 99) hx hb d_D_nameFacts_91 (by decide) ?_
          refine lv_iinc (v := (x5 + 1)) (lv' := [(5, .int (x5 + 1)), (4, .int 2), (3, .int 0), (0, .ref (a 5)), (2, .int x2)]) hx hb d_D_nameFacts_99 hl (k := 4) rfl rfl (by decide) rfl (fun ls hl => ?_)
          refine lv_goto (tgt := 8) hx hb d_D_nameFacts_102 (by decide) ?_
          exact ih 0 2 (x5 + 1) _ _ _ hk I (lv_sub hl [3, 4, 2, 1, 0] rfl)
        · replace hk := it_u hc hk
          refine lv_iconst (v := 0) hx hb d_D_nameFacts_84 (by decide) ?_
          exact hQ _ _ _ _ _ _ I hk d_D_nameFacts_85
      replace hk := ie_u hs1 hk
      have n46 : ¬ (u.2 0 x5.toNatClampNeg) = 46 := fun h => hs0 (Or.inl h)
      have n59 : ¬ (u.2 0 x5.toNatClampNeg) = 59 := fun h => hs0 (Or.inr (Or.inl h))
      have n60 : ¬ (u.2 0 x5.toNatClampNeg) = 60 := fun h => hs0 (Or.inr (Or.inr (Or.inl h)))
      have n62 : ¬ (u.2 0 x5.toNatClampNeg) = 62 := fun h => hs0 (Or.inr (Or.inr (Or.inr (Or.inl h))))
      have n91 : ¬ (u.2 0 x5.toNatClampNeg) = 91 := fun h => hs0 (Or.inr (Or.inr (Or.inr (Or.inr (h)))))
      have n47 : ¬ (u.2 0 x5.toNatClampNeg) = 47 := fun h => hs1 h
      refine lv_lookup (tgt := 96) (off := 75) hx hb d_D_nameFacts_21 (by decide) (by show Op.lookupswitch.offset [(46, 73), (47, 59), (59, 73), (60, 73), (62, 73), (91, 73)] _ _ = _; rw [lv_osw (k := 46) n46 (by decide), lv_osw (k := 47) n47 (by decide), lv_osw (k := 59) n59 (by decide), lv_osw (k := 60) n60 (by decide), lv_osw (k := 62) n62 (by decide), lv_osw (k := 91) n91 (by decide)]; rfl) (by decide) ?_
      refine lv_iinc (v := (x3 + 1)) (lv' := [(3, .int (x3 + 1)), (0, .ref (a 5)), (2, .int x2), (4, .int x4), (5, .int x5)]) hx hb d_D_nameFacts_96 hl (k := 2) rfl rfl (by decide) rfl (fun ls hl => ?_)
      refine lv_iinc (v := (x5 + 1)) (lv' := [(5, .int (x5 + 1)), (3, .int (x3 + 1)), (0, .ref (a 5)), (2, .int x2), (4, .int x4)]) hx hb d_D_nameFacts_99 hl (k := 4) rfl rfl (by decide) rfl (fun ls hl => ?_)
      refine lv_goto (tgt := 8) hx hb d_D_nameFacts_102 (by decide) ?_
      exact ih (x3 + 1) x4 (x5 + 1) _ _ _ hk I (lv_sub hl [2, 3, 1, 4, 0] rfl)
set_option maxHeartbeats 4000000 in
set_option maxRecDepth 100000 in
theorem c_D_nameFacts {Z : zT} {D : va_G} {cs : Nat → ClassId} {a : Nat → Nat} (hw : wD (xW a cs)) (hz : zOK Z) (l : Launch) {u : St} {x1 : Int32} {x2 : Int32} {r : Int32} {u' : St} (hk : f_D_nameFacts u x1 x2 = some (r, u')) : KI clA D cs (xW a cs) Z l y_D_nameFacts (.code y_D_nameFacts prog_7_method_2_code 6 (Option.some Jvm.ClassFile.FieldType.int)) rm_D_nameFacts [.ref (a 5), .int x1, .int x2] u r u' := by
  unfold f_D_nameFacts at hk
  refine KI.of (by decide) (Nat.le_of_ble_eq_true rfl) rfl hw hz ?_
  intro p e s m args below meth c Q C I hQ ls hl
  have hl : lv_has ls 6 [(0, .ref (a 5)), (1, .int x1), (2, .int x2)] := hl
  have hx := C.1.1
  have hb := C.1.2.1
  refine lv_iconst (v := 0) hx hb d_D_nameFacts_0 (by decide) ?_
  refine lv_istore_n (lv' := [(3, .int 0), (0, .ref (a 5)), (1, .int x1), (2, .int x2)]) hx hb d_D_nameFacts_1 rfl hl (by decide) rfl (fun ls hl => ?_)
  refine lv_iconst (v := 3) hx hb d_D_nameFacts_2 (by decide) ?_
  refine lv_istore (lv' := [(4, .int 3), (3, .int 0), (0, .ref (a 5)), (1, .int x1), (2, .int x2)]) hx hb d_D_nameFacts_3 hl (by decide) rfl (fun ls hl => ?_)
  refine lv_iload_n hx hb d_D_nameFacts_5 rfl (lv_at hl 3 rfl) ?_
  refine lv_istore (lv' := [(5, .int x1), (4, .int 3), (3, .int 0), (0, .ref (a 5)), (1, .int x1), (2, .int x2)]) hx hb d_D_nameFacts_6 hl (by decide) rfl (fun ls hl => ?_)
  refine w_D_nameFacts_L8 C (fun z1 z2 H locs ls hk I hl => ?_) hQ FU 0 3 x1 _ _ _ hk I (lv_sub hl [3, 5, 2, 1, 0] rfl)
  refine lv_iload_n hx hb d_D_nameFacts_105 rfl (lv_at hl 0 rfl) ?_
  obtain ⟨z3, hj4, hk⟩ := bnd_u hk
  have Khj4 : ∀ (H : Heap) (locs : List Loc) (ls : Array Slot), Dy clA D (xW a cs) s H locs u → lv_has ls 6 [] → W p l e rm_D_nameFacts s m args below meth c H locs 0 0 Q (F0 m 115 ls [.int z3]) := by
    intro H locs ls I hl
    exact hQ _ _ _ _ _ _ I hk d_D_nameFacts_115
  refine lv_if_ne (tgt := 113) hx hb d_D_nameFacts_106 (by decide) (fun hc => ?_) (fun hc => ?_)
  · replace hj4 := ie_u hc hj4
    refine lv_iload hx hb d_D_nameFacts_113 (lv_at hl 1 rfl) ?_
    obtain rfl := ep1 hj4
    exact Khj4 _ _ _ I (lv_sub hl [] rfl)
  · replace hj4 := it_u hc hj4
    refine lv_iconst (v := 0) hx hb d_D_nameFacts_109 (by decide) ?_
    refine lv_goto (tgt := 115) hx hb d_D_nameFacts_110 (by decide) ?_
    obtain rfl := ep1 hj4
    exact Khj4 _ _ _ I (lv_sub hl [] rfl)
def rm_D_slotsOf : Room := { frames := 0, cells := 0, slots := 0, locals := 0 }
noncomputable def f_D_slotsOf (u : St) (x0 : Int32) : Option (Int32 × St) := some ((x0 >>> (8 &&& 31)), u)
set_option maxHeartbeats 4000000 in
set_option maxRecDepth 100000 in
theorem c_D_slotsOf {Z : zT} {D : va_G} {cs : Nat → ClassId} {a : Nat → Nat} (hw : wD (xW a cs)) (hz : zOK Z) (l : Launch) {u : St} {x0 : Int32} {r : Int32} {u' : St} (hk : f_D_slotsOf u x0 = some (r, u')) : KI clA D cs (xW a cs) Z l y_D_slotsOf (.code y_D_slotsOf prog_7_method_4_code 1 (Option.some Jvm.ClassFile.FieldType.int)) rm_D_slotsOf [.int x0] u r u' := by
  unfold f_D_slotsOf at hk
  refine KI.of (by decide) (Nat.le_of_ble_eq_true rfl) rfl hw hz ?_
  intro p e s m args below meth c Q C I hQ ls hl
  have hl : lv_has ls 1 [(0, .int x0)] := hl
  have hx := C.1.1
  have hb := C.1.2.1
  refine lv_iload_n hx hb d_D_slotsOf_0 rfl (lv_at hl 0 rfl) ?_
  refine lv_bipush (v := 8) hx hb d_D_slotsOf_1 (by decide) ?_
  refine lv_ishr hx hb d_D_slotsOf_3 ?_
  exact hQ _ _ _ _ _ _ I hk d_D_slotsOf_4
def rm_D_floatFacts : Room := { frames := 0, cells := 0, slots := 0, locals := 0 }
noncomputable def f_D_floatFacts (u : St) (x1 : Int32) : Option (Int32 × St) := gd (x1 - 1) 4000 (cT (if (u.2 0 (x1 - 1).toNatClampNeg) = 70 then (some (64)) else (gd (x1 - 1) 4000 (if (u.2 0 (x1 - 1).toNatClampNeg) = 68 then (some (64)) else (some (0))))) fun (z1 : Int32) => some (z1, u))
set_option maxHeartbeats 4000000 in
set_option maxRecDepth 100000 in
theorem c_D_floatFacts {Z : zT} {D : va_G} {cs : Nat → ClassId} {a : Nat → Nat} (hw : wD (xW a cs)) (hz : zOK Z) (l : Launch) {u : St} {x1 : Int32} {r : Int32} {u' : St} (hk : f_D_floatFacts u x1 = some (r, u')) : KI clA D cs (xW a cs) Z l y_D_floatFacts (.code y_D_floatFacts prog_7_method_9_code 2 (Option.some Jvm.ClassFile.FieldType.int)) rm_D_floatFacts [.ref (a 5), .int x1] u r u' := by
  unfold f_D_floatFacts at hk
  refine KI.of (by decide) (Nat.le_of_ble_eq_true rfl) rfl hw hz ?_
  intro p e s m args below meth c Q C I hQ ls hl
  have hl : lv_has ls 2 [(0, .ref (a 5)), (1, .int x1)] := hl
  have hx := C.1.1
  have hb := C.1.2.1
  refine lv_aload_n hx hb d_D_floatFacts_0 rfl (lv_at hl 0 rfl) ?_
  refine g_D_row C I k_75 d_D_floatFacts_1 ?_
  refine lv_iload_n hx hb d_D_floatFacts_4 rfl (lv_at hl 1 rfl) ?_
  refine lv_iconst (v := 1) hx hb d_D_floatFacts_5 (by decide) ?_
  refine lv_isub hx hb d_D_floatFacts_6 ?_
  obtain ⟨hi, hk⟩ := gd_u hk
  refine l_W_row C I hi d_D_floatFacts_7 ?_
  refine lv_bipush (v := 70) hx hb d_D_floatFacts_8 (by decide) ?_
  obtain ⟨z1, hj2, hk⟩ := cT_u hk
  have Khj2 : ∀ (H : Heap) (locs : List Loc) (ls : Array Slot), Dy clA D (xW a cs) s H locs u → lv_has ls 2 [] → W p l e rm_D_floatFacts s m args below meth c H locs 0 0 Q (F0 m 32 ls [.int z1]) := by
    intro H locs ls I hl
    exact hQ _ _ _ _ _ _ I hk d_D_floatFacts_32
  refine lv_icmp_eq (tgt := 26) hx hb d_D_floatFacts_10 (by decide) (fun hc => ?_) (fun hc => ?_)
  · replace hj2 := it_u hc hj2
    refine lv_bipush (v := 64) hx hb d_D_floatFacts_26 (by decide) ?_
    refine lv_goto (tgt := 32) hx hb d_D_floatFacts_28 (by decide) ?_
    obtain rfl := eo1 hj2
    exact Khj2 _ _ _ I (lv_sub hl [] rfl)
  · replace hj2 := ie_u hc hj2
    refine lv_aload_n hx hb d_D_floatFacts_13 rfl (lv_at hl 0 rfl) ?_
    refine g_D_row C I k_75 d_D_floatFacts_14 ?_
    refine lv_iload_n hx hb d_D_floatFacts_17 rfl (lv_at hl 1 rfl) ?_
    refine lv_iconst (v := 1) hx hb d_D_floatFacts_18 (by decide) ?_
    refine lv_isub hx hb d_D_floatFacts_19 ?_
    obtain ⟨hi, hj2⟩ := gd_u hj2
    refine l_W_row C I hi d_D_floatFacts_20 ?_
    refine lv_bipush (v := 68) hx hb d_D_floatFacts_21 (by decide) ?_
    refine lv_icmp_ne (tgt := 31) hx hb d_D_floatFacts_23 (by decide) (fun hc => ?_) (fun hc => ?_)
    · replace hj2 := ie_u hc hj2
      refine lv_iconst (v := 0) hx hb d_D_floatFacts_31 (by decide) ?_
      obtain rfl := eo1 hj2
      exact Khj2 _ _ _ I (lv_sub hl [] rfl)
    · replace hj2 := it_u hc hj2
      refine lv_bipush (v := 64) hx hb d_D_floatFacts_26 (by decide) ?_
      refine lv_goto (tgt := 32) hx hb d_D_floatFacts_28 (by decide) ?_
      obtain rfl := eo1 hj2
      exact Khj2 _ _ _ I (lv_sub hl [] rfl)
def rm_D_slotsBetween : Room := { frames := 0, cells := 0, slots := 0, locals := 0 }
noncomputable def f_D_slotsBetween (u : St) (x1 : Int32) (x2 : Int32) : Option (Int32 × St) := cT (if (x2 - x1) = 1 then (gd x1 4000 (if (u.2 0 x1.toNatClampNeg) = 74 then (some (2)) else (some (1)))) else (some (1))) fun (z1 : Int32) => some (z1, u)
set_option maxHeartbeats 4000000 in
set_option maxRecDepth 100000 in
theorem c_D_slotsBetween {Z : zT} {D : va_G} {cs : Nat → ClassId} {a : Nat → Nat} (hw : wD (xW a cs)) (hz : zOK Z) (l : Launch) {u : St} {x1 : Int32} {x2 : Int32} {r : Int32} {u' : St} (hk : f_D_slotsBetween u x1 x2 = some (r, u')) : KI clA D cs (xW a cs) Z l y_D_slotsBetween (.code y_D_slotsBetween prog_7_method_10_code 3 (Option.some Jvm.ClassFile.FieldType.int)) rm_D_slotsBetween [.ref (a 5), .int x1, .int x2] u r u' := by
  unfold f_D_slotsBetween at hk
  refine KI.of (by decide) (Nat.le_of_ble_eq_true rfl) rfl hw hz ?_
  intro p e s m args below meth c Q C I hQ ls hl
  have hl : lv_has ls 3 [(0, .ref (a 5)), (1, .int x1), (2, .int x2)] := hl
  have hx := C.1.1
  have hb := C.1.2.1
  refine lv_iload_n hx hb d_D_slotsBetween_0 rfl (lv_at hl 2 rfl) ?_
  refine lv_iload_n hx hb d_D_slotsBetween_1 rfl (lv_at hl 1 rfl) ?_
  refine lv_isub hx hb d_D_slotsBetween_2 ?_
  refine lv_iconst (v := 1) hx hb d_D_slotsBetween_3 (by decide) ?_
  obtain ⟨z1, hj2, hk⟩ := cT_u hk
  have Khj2 : ∀ (H : Heap) (locs : List Loc) (ls : Array Slot), Dy clA D (xW a cs) s H locs u → lv_has ls 3 [] → W p l e rm_D_slotsBetween s m args below meth c H locs 0 0 Q (F0 m 23 ls [.int z1]) := by
    intro H locs ls I hl
    exact hQ _ _ _ _ _ _ I hk d_D_slotsBetween_23
  refine lv_icmp_ne (tgt := 22) hx hb d_D_slotsBetween_4 (by decide) (fun hc => ?_) (fun hc => ?_)
  · replace hj2 := ie_u hc hj2
    refine lv_iconst (v := 1) hx hb d_D_slotsBetween_22 (by decide) ?_
    obtain rfl := eo1 hj2
    exact Khj2 _ _ _ I (lv_sub hl [] rfl)
  · replace hj2 := it_u hc hj2
    refine lv_aload_n hx hb d_D_slotsBetween_7 rfl (lv_at hl 0 rfl) ?_
    refine g_D_row C I k_75 d_D_slotsBetween_8 ?_
    refine lv_iload_n hx hb d_D_slotsBetween_11 rfl (lv_at hl 1 rfl) ?_
    obtain ⟨hi, hj2⟩ := gd_u hj2
    refine l_W_row C I hi d_D_slotsBetween_12 ?_
    refine lv_bipush (v := 74) hx hb d_D_slotsBetween_13 (by decide) ?_
    refine lv_icmp_ne (tgt := 22) hx hb d_D_slotsBetween_15 (by decide) (fun hc => ?_) (fun hc => ?_)
    · replace hj2 := ie_u hc hj2
      refine lv_iconst (v := 1) hx hb d_D_slotsBetween_22 (by decide) ?_
      obtain rfl := eo1 hj2
      exact Khj2 _ _ _ I (lv_sub hl [] rfl)
    · replace hj2 := it_u hc hj2
      refine lv_iconst (v := 2) hx hb d_D_slotsBetween_18 (by decide) ?_
      refine lv_goto (tgt := 23) hx hb d_D_slotsBetween_19 (by decide) ?_
      obtain rfl := eo1 hj2
      exact Khj2 _ _ _ I (lv_sub hl [] rfl)
def rm_D_isSimple : Room := { frames := 0, cells := 0, slots := 0, locals := 0 }
noncomputable def f_D_isSimple (u : St) (x0 : Int32) : Option (Int32 × St) := if x0 = 66 ∨ x0 = 67 ∨ x0 = 68 ∨ x0 = 70 ∨ x0 = 73 ∨ x0 = 74 ∨ x0 = 83 ∨ x0 = 90 then (gb 1 (some (1, u))) else (gb 0 (some (0, u)))
set_option maxHeartbeats 4000000 in
set_option maxRecDepth 100000 in
theorem c_D_isSimple {Z : zT} {D : va_G} {cs : Nat → ClassId} {a : Nat → Nat} (hw : wD (xW a cs)) (hz : zOK Z) (l : Launch) {u : St} {x0 : Int32} {r : Int32} {u' : St} (hk : f_D_isSimple u x0 = some (r, u')) : KI clA D cs (xW a cs) Z l y_D_isSimple (.code y_D_isSimple prog_7_method_8_code 1 (Option.some Jvm.ClassFile.FieldType.boolean)) rm_D_isSimple [.int x0] u r u' := by
  unfold f_D_isSimple at hk
  refine KZ.of (by decide) (Nat.le_of_ble_eq_true rfl) hw hz ?_
  intro p e s m args below meth c Q C I hQ ls hl
  have hl : lv_has ls 1 [(0, .int x0)] := hl
  have hx := C.1.1
  have hb := C.1.2.1
  refine lv_iload_n hx hb d_D_isSimple_0 rfl (lv_at hl 0 rfl) ?_
  by_cases hs0 : x0 = 66 ∨ x0 = 67 ∨ x0 = 68 ∨ x0 = 70 ∨ x0 = 73 ∨ x0 = 74 ∨ x0 = 83 ∨ x0 = 90
  · replace hk := it_u hs0 hk
    refine lv_tableIn (tgt := 116) (off := 115) hx hb d_D_isSimple_1 (by rcases hs0 with h | h | h | h | h | h | h | h <;> rw [h] <;> decide) (by rcases hs0 with h | h | h | h | h | h | h | h <;> rw [h] <;> decide) (by rcases hs0 with h | h | h | h | h | h | h | h <;> rw [h] <;> decide) (by decide) ?_
    refine lv_iconst (v := 1) hx hb d_D_isSimple_116 (by decide) ?_
    exact hQ _ _ _ _ _ _ I hk d_D_isSimple_117
  replace hk := ie_u hs0 hk
  have n66 : ¬ x0 = 66 := fun h => hs0 (Or.inl h)
  have n67 : ¬ x0 = 67 := fun h => hs0 (Or.inr (Or.inl h))
  have n68 : ¬ x0 = 68 := fun h => hs0 (Or.inr (Or.inr (Or.inl h)))
  have n70 : ¬ x0 = 70 := fun h => hs0 (Or.inr (Or.inr (Or.inr (Or.inl h))))
  have n73 : ¬ x0 = 73 := fun h => hs0 (Or.inr (Or.inr (Or.inr (Or.inr (Or.inl h)))))
  have n74 : ¬ x0 = 74 := fun h => hs0 (Or.inr (Or.inr (Or.inr (Or.inr (Or.inr (Or.inl h))))))
  have n83 : ¬ x0 = 83 := fun h => hs0 (Or.inr (Or.inr (Or.inr (Or.inr (Or.inr (Or.inr (Or.inl h)))))))
  have n90 : ¬ x0 = 90 := fun h => hs0 (Or.inr (Or.inr (Or.inr (Or.inr (Or.inr (Or.inr (Or.inr (h))))))))
  have wn66 := lv_neT (a := 66) n66 (by decide)
  have wn67 := lv_neT (a := 67) n67 (by decide)
  have wn68 := lv_neT (a := 68) n68 (by decide)
  have wn70 := lv_neT (a := 70) n70 (by decide)
  have wn73 := lv_neT (a := 73) n73 (by decide)
  have wn74 := lv_neT (a := 74) n74 (by decide)
  have wn83 := lv_neT (a := 83) n83 (by decide)
  have wn90 := lv_neT (a := 90) n90 (by decide)
  have Kd1 : ∀ (H : Heap) (locs : List Loc), Dy clA D (xW a cs) s H locs u → W p l e rm_D_isSimple s m args below meth c H locs 0 0 Q (F0 m 118 ls []) := by
    intro H locs I
    refine lv_iconst (v := 0) hx hb d_D_isSimple_118 (by decide) ?_
    exact hQ _ _ _ _ _ _ I hk d_D_isSimple_119
  by_cases hlo : (x0 : Int32).toInt < 66
  · exact lv_tableOut (tgt := 118) hx hb d_D_isSimple_1 (Or.inl hlo) (by decide) (Kd1 _ _ I)
  by_cases hhi : 90 < (x0 : Int32).toInt
  · exact lv_tableOut (tgt := 118) hx hb d_D_isSimple_1 (Or.inr hhi) (by decide) (Kd1 _ _ I)
  have hg : (x0 : Int32).toInt = 69 ∨ (x0 : Int32).toInt = 71 ∨ (x0 : Int32).toInt = 72 ∨ (x0 : Int32).toInt = 75 ∨ (x0 : Int32).toInt = 76 ∨ (x0 : Int32).toInt = 77 ∨ (x0 : Int32).toInt = 78 ∨ (x0 : Int32).toInt = 79 ∨ (x0 : Int32).toInt = 80 ∨ (x0 : Int32).toInt = 81 ∨ (x0 : Int32).toInt = 82 ∨ (x0 : Int32).toInt = 84 ∨ (x0 : Int32).toInt = 85 ∨ (x0 : Int32).toInt = 86 ∨ (x0 : Int32).toInt = 87 ∨ (x0 : Int32).toInt = 88 ∨ (x0 : Int32).toInt = 89 := by omega
  exact lv_tableIn (tgt := 118) (off := 117) hx hb d_D_isSimple_1 hlo hhi (by rcases hg with h | h | h | h | h | h | h | h | h | h | h | h | h | h | h | h | h <;> rw [h] <;> decide) (by decide) (Kd1 _ _ I)
def rm_D_typeEnd : Room := { frames := 1, cells := 0, slots := 0, locals := 25 }
noncomputable def f_D_typeEnd_L2 (x1 : Int32) (x2 : Int32) (u : St) : Nat → Int32 → Option (Int32)
  | 0, _ => none
  | n + 1, x3 => if x2 ≤ x3 then (some (x3)) else (gd x3 4000 (if (u.2 0 x3.toNatClampNeg) = 91 then (f_D_typeEnd_L2 x1 x2 u n (x3 + 1)) else (some (x3))))
noncomputable def f_D_typeEnd_L75 (x2 : Int32) (x4 : Int32) (u : St) : Nat → Int32 → Option (Int32)
  | 0, _ => none
  | n + 1, x3 => if x2 ≤ x3 then (some (x3)) else (gd x3 4000 (if (u.2 0 x3.toNatClampNeg) = 59 then (some (x3)) else (f_D_typeEnd_L75 x2 x4 u n (x3 + 1))))
noncomputable def f_D_typeEnd (u : St) (x1 : Int32) (x2 : Int32) : Option (Int32 × St) := cT (f_D_typeEnd_L2 x1 x2 u FU x1) fun (z1 : Int32) => if x2 ≤ z1 then (some ((-1), u)) else (if (z1 - x1) ≤ 8 then (gd z1 4000 (if (u.2 0 z1.toNatClampNeg) = 76 then (cT (f_D_typeEnd_L75 x2 (z1 + 1) u FU z1) fun (z2 : Int32) => cT (if x2 ≤ z2 then (some ((-1), u)) else (cI (f_D_nameFacts u (z1 + 1) z2) fun r8 u6 => if r8 = 0 then (some ((-1), u6)) else (some ((z2 + 1), u6)))) fun (p9 : Int32 × St) => some (p9.1, p9.2)) else (gd z1 4000 (cI (f_D_isSimple u (u.2 0 z1.toNatClampNeg)) fun r13 u11 => bnd (if r13 = 0 then ((-1)) else ((z1 + 1))) fun (z14 : Int32) => some (z14, u11))))) else (some ((-1), u)))
set_option maxHeartbeats 4000000 in
set_option maxRecDepth 100000 in
theorem w_D_typeEnd_L2 {Z : zT} {D : va_G} {cs : Nat → ClassId} {a : Nat → Nat} {p : Program} {l : Launch} {e : Env} {s : State} {m : MethodId} {args : Array Value} {below : List Frame} {meth : Method} {c : Code} {Q : State → Prop}  {o3 : Int32} {x1 : Int32} {x2 : Int32} {u : St} (C : Cx clA R_D prog_7_method_7_code 5 D cs (xW a cs) Z p s m args c) (hE : ∀ (H : Heap) (locs : List Loc) (ls : Array Slot), Dy clA D (xW a cs) s H locs u → lv_has ls 5 [(0, .ref (a 5)), (1, .int x1), (2, .int x2), (3, .int o3)] → W p l e rm_D_typeEnd s m args below meth c H locs 0 0 Q (F0 m 24 ls [])) : ∀ (n : Nat) (x3 : Int32) (H : Heap) (locs : List Loc) (ls : Array Slot), f_D_typeEnd_L2 x1 x2 u n x3 = some o3 → Dy clA D (xW a cs) s H locs u → lv_has ls 5 [(0, .ref (a 5)), (1, .int x1), (2, .int x2), (3, .int x3)] → W p l e rm_D_typeEnd s m args below meth c H locs 0 0 Q (F0 m 2 ls []) := by
  have hx := C.1.1
  have hb := C.1.2.1
  intro n
  induction n with
  | zero =>
    intro x3 H locs ls hk I hl
    rw [f_D_typeEnd_L2] at hk
    cases hk
  | succ n ih =>
    intro x3 H locs ls hk I hl
    rw [f_D_typeEnd_L2] at hk
    refine lv_iload_n hx hb d_D_typeEnd_2 rfl (lv_at hl 3 rfl) ?_
    refine lv_iload_n hx hb d_D_typeEnd_3 rfl (lv_at hl 2 rfl) ?_
    refine lv_icmp_ge (tgt := 24) hx hb d_D_typeEnd_4 (by decide) (fun hc => ?_) (fun hc => ?_)
    · replace hk := it_u hc hk
      obtain rfl := eo1 hk
      exact hE _ _ _ I (lv_sub hl [0, 1, 2, 3] rfl)
    · replace hk := ie_u hc hk
      refine lv_aload_n hx hb d_D_typeEnd_7 rfl (lv_at hl 0 rfl) ?_
      refine g_D_row C I k_75 d_D_typeEnd_8 ?_
      refine lv_iload_n hx hb d_D_typeEnd_11 rfl (lv_at hl 3 rfl) ?_
      obtain ⟨hi, hk⟩ := gd_u hk
      refine l_W_row C I hi d_D_typeEnd_12 ?_
      refine lv_bipush (v := 91) hx hb d_D_typeEnd_13 (by decide) ?_
      refine lv_icmp_ne (tgt := 24) hx hb d_D_typeEnd_15 (by decide) (fun hc => ?_) (fun hc => ?_)
      · replace hk := ie_u hc hk
        obtain rfl := eo1 hk
        exact hE _ _ _ I (lv_sub hl [0, 1, 2, 3] rfl)
      · replace hk := it_u hc hk
        refine lv_iinc (v := (x3 + 1)) (lv' := [(3, .int (x3 + 1)), (0, .ref (a 5)), (1, .int x1), (2, .int x2)]) hx hb d_D_typeEnd_18 hl (k := 3) rfl rfl (by decide) rfl (fun ls hl => ?_)
        refine lv_goto (tgt := 2) hx hb d_D_typeEnd_21 (by decide) ?_
        exact ih (x3 + 1) _ _ _ hk I (lv_sub hl [1, 2, 3, 0] rfl)
set_option maxHeartbeats 4000000 in
set_option maxRecDepth 100000 in
theorem w_D_typeEnd_L75 {Z : zT} {D : va_G} {cs : Nat → ClassId} {a : Nat → Nat} {p : Program} {l : Launch} {e : Env} {s : State} {m : MethodId} {args : Array Value} {below : List Frame} {meth : Method} {c : Code} {Q : State → Prop}  {o3 : Int32} {x2 : Int32} {x4 : Int32} {u : St} (C : Cx clA R_D prog_7_method_7_code 5 D cs (xW a cs) Z p s m args c) (hE : ∀ (H : Heap) (locs : List Loc) (ls : Array Slot), Dy clA D (xW a cs) s H locs u → lv_has ls 5 [(0, .ref (a 5)), (2, .int x2), (3, .int o3), (4, .int x4)] → W p l e rm_D_typeEnd s m args below meth c H locs 0 0 Q (F0 m 97 ls [])) : ∀ (n : Nat) (x3 : Int32) (H : Heap) (locs : List Loc) (ls : Array Slot), f_D_typeEnd_L75 x2 x4 u n x3 = some o3 → Dy clA D (xW a cs) s H locs u → lv_has ls 5 [(0, .ref (a 5)), (2, .int x2), (3, .int x3), (4, .int x4)] → W p l e rm_D_typeEnd s m args below meth c H locs 0 0 Q (F0 m 75 ls []) := by
  have hx := C.1.1
  have hb := C.1.2.1
  intro n
  induction n with
  | zero =>
    intro x3 H locs ls hk I hl
    rw [f_D_typeEnd_L75] at hk
    cases hk
  | succ n ih =>
    intro x3 H locs ls hk I hl
    rw [f_D_typeEnd_L75] at hk
    refine lv_iload_n hx hb d_D_typeEnd_75 rfl (lv_at hl 2 rfl) ?_
    refine lv_iload_n hx hb d_D_typeEnd_76 rfl (lv_at hl 1 rfl) ?_
    refine lv_icmp_ge (tgt := 97) hx hb d_D_typeEnd_77 (by decide) (fun hc => ?_) (fun hc => ?_)
    · replace hk := it_u hc hk
      obtain rfl := eo1 hk
      exact hE _ _ _ I (lv_sub hl [0, 1, 2, 3] rfl)
    · replace hk := ie_u hc hk
      refine lv_aload_n hx hb d_D_typeEnd_80 rfl (lv_at hl 0 rfl) ?_
      refine g_D_row C I k_75 d_D_typeEnd_81 ?_
      refine lv_iload_n hx hb d_D_typeEnd_84 rfl (lv_at hl 2 rfl) ?_
      obtain ⟨hi, hk⟩ := gd_u hk
      refine l_W_row C I hi d_D_typeEnd_85 ?_
      refine lv_bipush (v := 59) hx hb d_D_typeEnd_86 (by decide) ?_
      refine lv_icmp_eq (tgt := 97) hx hb d_D_typeEnd_88 (by decide) (fun hc => ?_) (fun hc => ?_)
      · replace hk := it_u hc hk
        obtain rfl := eo1 hk
        exact hE _ _ _ I (lv_sub hl [0, 1, 2, 3] rfl)
      · replace hk := ie_u hc hk
        refine lv_iinc (v := (x3 + 1)) (lv' := [(3, .int (x3 + 1)), (0, .ref (a 5)), (2, .int x2), (4, .int x4)]) hx hb d_D_typeEnd_91 hl (k := 2) rfl rfl (by decide) rfl (fun ls hl => ?_)
        refine lv_goto (tgt := 75) hx hb d_D_typeEnd_94 (by decide) ?_
        exact ih (x3 + 1) _ _ _ hk I (lv_sub hl [1, 2, 0, 3] rfl)
set_option maxHeartbeats 4000000 in
set_option maxRecDepth 100000 in
theorem c_D_typeEnd {Z : zT} {D : va_G} {cs : Nat → ClassId} {a : Nat → Nat} (hw : wD (xW a cs)) (hz : zOK Z) (l : Launch) {u : St} {x1 : Int32} {x2 : Int32} {r : Int32} {u' : St} (hk : f_D_typeEnd u x1 x2 = some (r, u')) : KI clA D cs (xW a cs) Z l y_D_typeEnd (.code y_D_typeEnd prog_7_method_7_code 5 (Option.some Jvm.ClassFile.FieldType.int)) rm_D_typeEnd [.ref (a 5), .int x1, .int x2] u r u' := by
  unfold f_D_typeEnd at hk
  refine KI.of (by decide) (Nat.le_of_ble_eq_true rfl) rfl hw hz ?_
  intro p e s m args below meth c Q C I hQ ls hl
  have hl : lv_has ls 5 [(0, .ref (a 5)), (1, .int x1), (2, .int x2)] := hl
  have hx := C.1.1
  have hb := C.1.2.1
  refine lv_iload_n hx hb d_D_typeEnd_0 rfl (lv_at hl 1 rfl) ?_
  refine lv_istore_n (lv' := [(3, .int x1), (0, .ref (a 5)), (1, .int x1), (2, .int x2)]) hx hb d_D_typeEnd_1 rfl hl (by decide) rfl (fun ls hl => ?_)
  obtain ⟨z1, hj16, hk⟩ := cT_u hk
  refine w_D_typeEnd_L2 C (fun H locs ls I hl => ?_) FU x1 _ _ _ hj16 I (lv_sub hl [1, 2, 3, 0] rfl)
  refine lv_iload_n hx hb d_D_typeEnd_24 rfl (lv_at hl 3 rfl) ?_
  refine lv_iload_n hx hb d_D_typeEnd_25 rfl (lv_at hl 2 rfl) ?_
  refine lv_icmp_ge (tgt := 37) hx hb d_D_typeEnd_26 (by decide) (fun hc => ?_) (fun hc => ?_)
  · replace hk := it_u hc hk
    refine lv_iconst (v := (-1)) hx hb d_D_typeEnd_37 (by decide) ?_
    exact hQ _ _ _ _ _ _ I hk d_D_typeEnd_38
  · replace hk := ie_u hc hk
    refine lv_iload_n hx hb d_D_typeEnd_29 rfl (lv_at hl 3 rfl) ?_
    refine lv_iload_n hx hb d_D_typeEnd_30 rfl (lv_at hl 1 rfl) ?_
    refine lv_isub hx hb d_D_typeEnd_31 ?_
    refine lv_bipush (v := 8) hx hb d_D_typeEnd_32 (by decide) ?_
    refine lv_icmp_le (tgt := 39) hx hb d_D_typeEnd_34 (by decide) (fun hc => ?_) (fun hc => ?_)
    · replace hk := it_u hc hk
      refine lv_aload_n hx hb d_D_typeEnd_39 rfl (lv_at hl 0 rfl) ?_
      refine g_D_row C I k_75 d_D_typeEnd_40 ?_
      refine lv_iload_n hx hb d_D_typeEnd_43 rfl (lv_at hl 3 rfl) ?_
      obtain ⟨hi, hk⟩ := gd_u hk
      refine l_W_row C I hi d_D_typeEnd_44 ?_
      refine lv_bipush (v := 76) hx hb d_D_typeEnd_45 (by decide) ?_
      refine lv_icmp_eq (tgt := 70) hx hb d_D_typeEnd_47 (by decide) (fun hc => ?_) (fun hc => ?_)
      · replace hk := it_u hc hk
        refine lv_iload_n hx hb d_D_typeEnd_70 rfl (lv_at hl 3 rfl) ?_
        refine lv_iconst (v := 1) hx hb d_D_typeEnd_71 (by decide) ?_
        refine lv_iadd hx hb d_D_typeEnd_72 ?_
        refine lv_istore (lv' := [(4, .int (z1 + 1)), (0, .ref (a 5)), (1, .int x1), (2, .int x2), (3, .int z1)]) hx hb d_D_typeEnd_73 hl (by decide) rfl (fun ls hl => ?_)
        obtain ⟨z2, hj10, hk⟩ := cT_u hk
        refine w_D_typeEnd_L75 C (fun H locs ls I hl => ?_) FU z1 _ _ _ hj10 I (lv_sub hl [1, 3, 4, 0] rfl)
        refine lv_iload_n hx hb d_D_typeEnd_97 rfl (lv_at hl 2 rfl) ?_
        refine lv_iload_n hx hb d_D_typeEnd_98 rfl (lv_at hl 1 rfl) ?_
        obtain ⟨⟨z3, u4⟩, hj5, hk⟩ := cT_u hk
        have Khj5 : ∀ (H : Heap) (locs : List Loc) (ls : Array Slot), Dy clA D (xW a cs) s H locs u4 → lv_has ls 5 [] → W p l e rm_D_typeEnd s m args below meth c H locs 0 0 Q (F0 m 119 ls [.int z3]) := by
          intro H locs ls I hl
          exact hQ _ _ _ _ _ _ I hk d_D_typeEnd_119
        refine lv_icmp_ge (tgt := 118) hx hb d_D_typeEnd_99 (by decide) (fun hc => ?_) (fun hc => ?_)
        · replace hj5 := it_u hc hj5
          refine lv_iconst (v := (-1)) hx hb d_D_typeEnd_118 (by decide) ?_
          obtain ⟨rfl, rfl⟩ := eo2 hj5
          exact Khj5 _ _ _ I (lv_sub hl [] rfl)
        · replace hj5 := ie_u hc hj5
          refine lv_aload_n hx hb d_D_typeEnd_102 rfl (lv_at hl 0 rfl) ?_
          refine lv_iload hx hb d_D_typeEnd_103 (lv_at hl 3 rfl) ?_
          refine lv_iload_n hx hb d_D_typeEnd_105 rfl (lv_at hl 2 rfl) ?_
          obtain ⟨r8, u6, h7, hj5⟩ := cI_u hj5
          refine go_I I (call_runV (rest := []) C I (c_D_nameFacts C.2.2.2.1 C.2.2.2.2.1 l h7 _) wd_D_nameFacts (q0 := 5) (ci := 5) rfl rfl k_353 ⟨rfl, rfl⟩ ⟨by decide, by decide⟩ rfl hl.1 rfl (Nat.le_of_ble_eq_true rfl) d_D_typeEnd_106) (fun H locs I => ?_)
          refine lv_if_eq (tgt := 118) hx hb d_D_typeEnd_109 (by decide) (fun hc => ?_) (fun hc => ?_)
          · replace hj5 := it_u hc hj5
            refine lv_iconst (v := (-1)) hx hb d_D_typeEnd_118 (by decide) ?_
            obtain ⟨rfl, rfl⟩ := eo2 hj5
            exact Khj5 _ _ _ I (lv_sub hl [] rfl)
          · replace hj5 := ie_u hc hj5
            refine lv_iload_n hx hb d_D_typeEnd_112 rfl (lv_at hl 2 rfl) ?_
            refine lv_iconst (v := 1) hx hb d_D_typeEnd_113 (by decide) ?_
            refine lv_iadd hx hb d_D_typeEnd_114 ?_
            refine lv_goto (tgt := 119) hx hb d_D_typeEnd_115 (by decide) ?_
            obtain ⟨rfl, rfl⟩ := eo2 hj5
            exact Khj5 _ _ _ I (lv_sub hl [] rfl)
      · replace hk := ie_u hc hk
        refine lv_aload_n hx hb d_D_typeEnd_50 rfl (lv_at hl 0 rfl) ?_
        refine g_D_row C I k_75 d_D_typeEnd_51 ?_
        refine lv_iload_n hx hb d_D_typeEnd_54 rfl (lv_at hl 3 rfl) ?_
        obtain ⟨hi, hk⟩ := gd_u hk
        refine l_W_row C I hi d_D_typeEnd_55 ?_
        obtain ⟨r13, u11, h12, hk⟩ := cI_u hk
        refine go_I I (call_runS (rest := []) C I (c_D_isSimple C.2.2.2.1 C.2.2.2.2.1 l h12 _) wd_D_isSimple k_350 ⟨rfl, rfl⟩ ⟨by decide, by decide⟩ rfl hl.1 rfl (Nat.le_of_ble_eq_true rfl) d_D_typeEnd_56) (fun H locs I => ?_)
        obtain ⟨z14, hj15, hk⟩ := bnd_u hk
        have Khj15 : ∀ (H : Heap) (locs : List Loc) (ls : Array Slot), Dy clA D (xW a cs) s H locs u11 → lv_has ls 5 [] → W p l e rm_D_typeEnd s m args below meth c H locs 0 0 Q (F0 m 69 ls [.int z14]) := by
          intro H locs ls I hl
          exact hQ _ _ _ _ _ _ I hk d_D_typeEnd_69
        refine lv_if_eq (tgt := 68) hx hb d_D_typeEnd_59 (by decide) (fun hc => ?_) (fun hc => ?_)
        · replace hj15 := it_u hc hj15
          refine lv_iconst (v := (-1)) hx hb d_D_typeEnd_68 (by decide) ?_
          obtain rfl := ep1 hj15
          exact Khj15 _ _ _ I (lv_sub hl [] rfl)
        · replace hj15 := ie_u hc hj15
          refine lv_iload_n hx hb d_D_typeEnd_62 rfl (lv_at hl 3 rfl) ?_
          refine lv_iconst (v := 1) hx hb d_D_typeEnd_63 (by decide) ?_
          refine lv_iadd hx hb d_D_typeEnd_64 ?_
          refine lv_goto (tgt := 69) hx hb d_D_typeEnd_65 (by decide) ?_
          obtain rfl := ep1 hj15
          exact Khj15 _ _ _ I (lv_sub hl [] rfl)
    · replace hk := ie_u hc hk
      refine lv_iconst (v := (-1)) hx hb d_D_typeEnd_37 (by decide) ?_
      exact hQ _ _ _ _ _ _ I hk d_D_typeEnd_38
def rm_D_methodFacts : Room := { frames := 2, cells := 0, slots := 0, locals := 49 }
noncomputable def f_D_methodFacts_L9 (kx : St → Int32 → Int32 → Int32 → Option (Int32 × St)) (x2 : Int32) : Nat → St → Int32 → Int32 → Int32 → Option (Int32 × St)
  | 0, _, _, _, _ => none
  | n + 1, u, x3, x4, x5 => if x2 ≤ x5 then (kx u x3 x4 x5) else (gd x5 4000 (if (u.2 0 x5.toNatClampNeg) = 41 then (kx u x3 x4 x5) else (cI (f_D_typeEnd u x5 x2) fun r3 u1 => if x5 < r3 then (cI (f_D_slotsBetween u1 x5 r3) fun r6 u4 => cI (f_D_floatFacts u4 r3) fun r9 u7 => f_D_methodFacts_L9 kx x2 n u7 (x3 ||| r9) (x4 + r6) r3) else (some (0, u1)))))
noncomputable def f_D_methodFacts (u : St) (x1 : Int32) (x2 : Int32) : Option (Int32 × St) := f_D_methodFacts_L9 (fun u10 z11 z12 z13 => if 250 < z12 then (some (0, u10)) else (if (z13 + 1) < x2 then (gd (z13 + 1) 4000 (if (u10.2 0 (z13 + 1).toNatClampNeg) = 86 then (bnd (if ((z13 + 1) + 1) = x2 then (((z11 ||| (z12 <<< (8 &&& 31))) ||| 128)) else (0)) fun (z24 : Int32) => some (z24, u10)) else (cI (f_D_typeEnd u10 (z13 + 1) x2) fun r16 u14 => cT (if r16 = x2 then (cI (f_D_floatFacts u14 x2) fun r22 u20 => some (((z11 ||| (z12 <<< (8 &&& 31))) ||| r22), u20)) else (some (0, u14))) fun (p23 : Int32 × St) => some (p23.1, p23.2)))) else (some (0, u10)))) x2 FU u 32 0 x1
set_option maxHeartbeats 4000000 in
set_option maxRecDepth 100000 in
theorem w_D_methodFacts_L9 {Z : zT} {D : va_G} {cs : Nat → ClassId} {a : Nat → Nat} {p : Program} {l : Launch} {e : Env} {s : State} {m : MethodId} {args : Array Value} {below : List Frame} {meth : Method} {c : Code} {Q : State → Prop} {F : Int32 × St} {kx : St → Int32 → Int32 → Int32 → Option (Int32 × St)} {x2 : Int32} (C : Cx clA R_D prog_7_method_6_code 7 D cs (xW a cs) Z p s m args c) (hE : ∀ (u2 : St) (o3 : Int32) (o4 : Int32) (o5 : Int32) (H : Heap) (locs : List Loc) (ls : Array Slot), kx u2 o3 o4 o5 = some F → Dy clA D (xW a cs) s H locs u2 → lv_has ls 7 [(0, .ref (a 5)), (2, .int x2), (3, .int o3), (4, .int o4), (5, .int o5)] → W p l e rm_D_methodFacts s m args below meth c H locs 0 0 Q (F0 m 74 ls [])) (hQ : ∀ (H : Heap) (locs : List Loc) (pc : Nat) (ls : Array Slot) (v : Int32) (u1 : St), Dy clA D (xW a cs) s H locs u1 → some (v, u1) = some F → decode prog_7_method_6_code pc = .ok (.ireturn, 1) → W p l e rm_D_methodFacts s m args below meth c H locs 0 0 Q (F0 m pc ls [.int v])): ∀ (n : Nat) (u : St) (x3 : Int32) (x4 : Int32) (x5 : Int32) (H : Heap) (locs : List Loc) (ls : Array Slot), f_D_methodFacts_L9 kx x2 n u x3 x4 x5 = some F → Dy clA D (xW a cs) s H locs u → lv_has ls 7 [(0, .ref (a 5)), (2, .int x2), (3, .int x3), (4, .int x4), (5, .int x5)] → W p l e rm_D_methodFacts s m args below meth c H locs 0 0 Q (F0 m 9 ls []) := by
  have hx := C.1.1
  have hb := C.1.2.1
  intro n
  induction n with
  | zero =>
    intro u x3 x4 x5 H locs ls hk I hl
    rw [f_D_methodFacts_L9] at hk
    cases hk
  | succ n ih =>
    intro u x3 x4 x5 H locs ls hk I hl
    rw [f_D_methodFacts_L9] at hk
    refine lv_iload hx hb d_D_methodFacts_9 (lv_at hl 4 rfl) ?_
    refine lv_iload_n hx hb d_D_methodFacts_11 rfl (lv_at hl 1 rfl) ?_
    refine lv_icmp_ge (tgt := 74) hx hb d_D_methodFacts_12 (by decide) (fun hc => ?_) (fun hc => ?_)
    · replace hk := it_u hc hk
      exact hE u x3 x4 x5 _ _ _ hk I (lv_sub hl [0, 1, 2, 3, 4] rfl)
    · replace hk := ie_u hc hk
      refine lv_aload_n hx hb d_D_methodFacts_15 rfl (lv_at hl 0 rfl) ?_
      refine g_D_row C I k_75 d_D_methodFacts_16 ?_
      refine lv_iload hx hb d_D_methodFacts_19 (lv_at hl 4 rfl) ?_
      obtain ⟨hi, hk⟩ := gd_u hk
      refine l_W_row C I hi d_D_methodFacts_21 ?_
      refine lv_bipush (v := 41) hx hb d_D_methodFacts_22 (by decide) ?_
      refine lv_icmp_eq (tgt := 74) hx hb d_D_methodFacts_24 (by decide) (fun hc => ?_) (fun hc => ?_)
      · replace hk := it_u hc hk
        exact hE u x3 x4 x5 _ _ _ hk I (lv_sub hl [0, 1, 2, 3, 4] rfl)
      · replace hk := ie_u hc hk
        refine lv_aload_n hx hb d_D_methodFacts_27 rfl (lv_at hl 0 rfl) ?_
        refine lv_iload hx hb d_D_methodFacts_28 (lv_at hl 4 rfl) ?_
        refine lv_iload_n hx hb d_D_methodFacts_30 rfl (lv_at hl 1 rfl) ?_
        obtain ⟨r3, u1, h2, hk⟩ := cI_u hk
        refine go_I I (call_runV (rest := []) C I (c_D_typeEnd C.2.2.2.1 C.2.2.2.2.1 l h2 _) wd_D_typeEnd (q0 := 5) (ci := 5) rfl rfl k_346 ⟨rfl, rfl⟩ ⟨by decide, by decide⟩ rfl hl.1 rfl (Nat.le_of_ble_eq_true rfl) d_D_methodFacts_31) (fun H locs I => ?_)
        refine lv_istore (lv' := [(6, .int r3), (0, .ref (a 5)), (2, .int x2), (3, .int x3), (4, .int x4), (5, .int x5)]) hx hb d_D_methodFacts_34 hl (by decide) rfl (fun ls hl => ?_)
        refine lv_iload hx hb d_D_methodFacts_36 (lv_at hl 0 rfl) ?_
        refine lv_iload hx hb d_D_methodFacts_38 (lv_at hl 5 rfl) ?_
        refine lv_icmp_gt (tgt := 45) hx hb d_D_methodFacts_40 (by decide) (fun hc => ?_) (fun hc => ?_)
        · replace hk := it_u hc hk
          refine lv_iload hx hb d_D_methodFacts_45 (lv_at hl 4 rfl) ?_
          refine lv_aload_n hx hb d_D_methodFacts_47 rfl (lv_at hl 1 rfl) ?_
          refine lv_iload hx hb d_D_methodFacts_48 (lv_at hl 5 rfl) ?_
          refine lv_iload hx hb d_D_methodFacts_50 (lv_at hl 0 rfl) ?_
          obtain ⟨r6, u4, h5, hk⟩ := cI_u hk
          refine go_I I (call_runV (rest := [.int x4]) C I (c_D_slotsBetween C.2.2.2.1 C.2.2.2.2.1 l h5 _) wd_D_slotsBetween (q0 := 5) (ci := 5) rfl rfl k_357 ⟨rfl, rfl⟩ ⟨by decide, by decide⟩ rfl hl.1 rfl (Nat.le_of_ble_eq_true rfl) d_D_methodFacts_52) (fun H locs I => ?_)
          refine lv_iadd hx hb d_D_methodFacts_55 ?_
          refine lv_istore (lv' := [(4, .int (x4 + r6)), (6, .int r3), (0, .ref (a 5)), (2, .int x2), (3, .int x3), (5, .int x5)]) hx hb d_D_methodFacts_56 hl (by decide) rfl (fun ls hl => ?_)
          refine lv_iload_n hx hb d_D_methodFacts_58 rfl (lv_at hl 4 rfl) ?_
          refine lv_aload_n hx hb d_D_methodFacts_59 rfl (lv_at hl 2 rfl) ?_
          refine lv_iload hx hb d_D_methodFacts_60 (lv_at hl 1 rfl) ?_
          obtain ⟨r9, u7, h8, hk⟩ := cI_u hk
          refine go_I I (call_runV (rest := [.int x3]) C I (c_D_floatFacts C.2.2.2.1 C.2.2.2.2.1 l h8 _) wd_D_floatFacts (q0 := 5) (ci := 5) rfl rfl k_361 ⟨rfl, rfl⟩ ⟨by decide, by decide⟩ rfl hl.1 rfl (Nat.le_of_ble_eq_true rfl) d_D_methodFacts_62) (fun H locs I => ?_)
          refine lv_ior hx hb d_D_methodFacts_65 ?_
          refine lv_istore_n (lv' := [(3, .int (x3 ||| r9)), (4, .int (x4 + r6)), (6, .int r3), (0, .ref (a 5)), (2, .int x2), (5, .int x5)]) hx hb d_D_methodFacts_66 rfl hl (by decide) rfl (fun ls hl => ?_)
          refine lv_iload hx hb d_D_methodFacts_67 (lv_at hl 2 rfl) ?_
          refine lv_istore (lv' := [(5, .int r3), (3, .int (x3 ||| r9)), (4, .int (x4 + r6)), (6, .int r3), (0, .ref (a 5)), (2, .int x2)]) hx hb d_D_methodFacts_69 hl (by decide) rfl (fun ls hl => ?_)
          refine lv_goto (tgt := 9) hx hb d_D_methodFacts_71 (by decide) ?_
          exact ih u7 (x3 ||| r9) (x4 + r6) r3 _ _ _ hk I (lv_sub hl [4, 5, 1, 2, 0] rfl)
        · replace hk := ie_u hc hk
          refine lv_iconst (v := 0) hx hb d_D_methodFacts_43 (by decide) ?_
          exact hQ _ _ _ _ _ _ I hk d_D_methodFacts_44
set_option maxHeartbeats 4000000 in
set_option maxRecDepth 100000 in
theorem c_D_methodFacts {Z : zT} {D : va_G} {cs : Nat → ClassId} {a : Nat → Nat} (hw : wD (xW a cs)) (hz : zOK Z) (l : Launch) {u : St} {x1 : Int32} {x2 : Int32} {r : Int32} {u' : St} (hk : f_D_methodFacts u x1 x2 = some (r, u')) : KI clA D cs (xW a cs) Z l y_D_methodFacts (.code y_D_methodFacts prog_7_method_6_code 7 (Option.some Jvm.ClassFile.FieldType.int)) rm_D_methodFacts [.ref (a 5), .int x1, .int x2] u r u' := by
  unfold f_D_methodFacts at hk
  refine KI.of (by decide) (Nat.le_of_ble_eq_true rfl) rfl hw hz ?_
  intro p e s m args below meth c Q C I hQ ls hl
  have hl : lv_has ls 7 [(0, .ref (a 5)), (1, .int x1), (2, .int x2)] := hl
  have hx := C.1.1
  have hb := C.1.2.1
  refine lv_bipush (v := 32) hx hb d_D_methodFacts_0 (by decide) ?_
  refine lv_istore_n (lv' := [(3, .int 32), (0, .ref (a 5)), (1, .int x1), (2, .int x2)]) hx hb d_D_methodFacts_2 rfl hl (by decide) rfl (fun ls hl => ?_)
  refine lv_iconst (v := 0) hx hb d_D_methodFacts_3 (by decide) ?_
  refine lv_istore (lv' := [(4, .int 0), (3, .int 32), (0, .ref (a 5)), (1, .int x1), (2, .int x2)]) hx hb d_D_methodFacts_4 hl (by decide) rfl (fun ls hl => ?_)
  refine lv_iload_n hx hb d_D_methodFacts_6 rfl (lv_at hl 3 rfl) ?_
  refine lv_istore (lv' := [(5, .int x1), (4, .int 0), (3, .int 32), (0, .ref (a 5)), (1, .int x1), (2, .int x2)]) hx hb d_D_methodFacts_7 hl (by decide) rfl (fun ls hl => ?_)
  refine w_D_methodFacts_L9 C (fun u10 z11 z12 z13 H locs ls hk I hl => ?_) hQ FU u 32 0 x1 _ _ _ hk I (lv_sub hl [3, 5, 2, 1, 0] rfl)
  refine lv_iload hx hb d_D_methodFacts_74 (lv_at hl 3 rfl) ?_
  refine lv_sipush (v := 250) hx hb d_D_methodFacts_76 (by decide) ?_
  refine lv_icmp_gt (tgt := 90) hx hb d_D_methodFacts_79 (by decide) (fun hc => ?_) (fun hc => ?_)
  · replace hk := it_u hc hk
    refine lv_iconst (v := 0) hx hb d_D_methodFacts_90 (by decide) ?_
    exact hQ _ _ _ _ _ _ I hk d_D_methodFacts_91
  · replace hk := ie_u hc hk
    refine lv_iload hx hb d_D_methodFacts_82 (lv_at hl 4 rfl) ?_
    refine lv_iconst (v := 1) hx hb d_D_methodFacts_84 (by decide) ?_
    refine lv_iadd hx hb d_D_methodFacts_85 ?_
    refine lv_iload_n hx hb d_D_methodFacts_86 rfl (lv_at hl 1 rfl) ?_
    refine lv_icmp_lt (tgt := 92) hx hb d_D_methodFacts_87 (by decide) (fun hc => ?_) (fun hc => ?_)
    · replace hk := it_u hc hk
      refine lv_iload_n hx hb d_D_methodFacts_92 rfl (lv_at hl 2 rfl) ?_
      refine lv_iload hx hb d_D_methodFacts_93 (lv_at hl 3 rfl) ?_
      refine lv_bipush (v := 8) hx hb d_D_methodFacts_95 (by decide) ?_
      refine lv_ishl hx hb d_D_methodFacts_97 ?_
      refine lv_ior hx hb d_D_methodFacts_98 ?_
      refine lv_istore_n (lv' := [(3, .int (z11 ||| (z12 <<< (8 &&& 31)))), (0, .ref (a 5)), (2, .int x2), (4, .int z12), (5, .int z13)]) hx hb d_D_methodFacts_99 rfl hl (by decide) rfl (fun ls hl => ?_)
      refine lv_iinc (v := (z13 + 1)) (lv' := [(5, .int (z13 + 1)), (3, .int (z11 ||| (z12 <<< (8 &&& 31)))), (0, .ref (a 5)), (2, .int x2), (4, .int z12)]) hx hb d_D_methodFacts_100 hl (k := 4) rfl rfl (by decide) rfl (fun ls hl => ?_)
      refine lv_aload_n hx hb d_D_methodFacts_103 rfl (lv_at hl 2 rfl) ?_
      refine g_D_row C I k_75 d_D_methodFacts_104 ?_
      refine lv_iload hx hb d_D_methodFacts_107 (lv_at hl 0 rfl) ?_
      obtain ⟨hi, hk⟩ := gd_u hk
      refine l_W_row C I hi d_D_methodFacts_109 ?_
      refine lv_bipush (v := 86) hx hb d_D_methodFacts_110 (by decide) ?_
      refine lv_icmp_ne (tgt := 133) hx hb d_D_methodFacts_112 (by decide) (fun hc => ?_) (fun hc => ?_)
      · replace hk := ie_u hc hk
        refine lv_aload_n hx hb d_D_methodFacts_133 rfl (lv_at hl 2 rfl) ?_
        refine lv_iload hx hb d_D_methodFacts_134 (lv_at hl 0 rfl) ?_
        refine lv_iload_n hx hb d_D_methodFacts_136 rfl (lv_at hl 3 rfl) ?_
        obtain ⟨r16, u14, h15, hk⟩ := cI_u hk
        refine go_I I (call_runV (rest := []) C I (c_D_typeEnd C.2.2.2.1 C.2.2.2.2.1 l h15 _) wd_D_typeEnd (q0 := 5) (ci := 5) rfl rfl k_346 ⟨rfl, rfl⟩ ⟨by decide, by decide⟩ rfl hl.1 rfl (Nat.le_of_ble_eq_true rfl) d_D_methodFacts_137) (fun H locs I => ?_)
        refine lv_iload_n hx hb d_D_methodFacts_140 rfl (lv_at hl 3 rfl) ?_
        obtain ⟨⟨z17, u18⟩, hj19, hk⟩ := cT_u hk
        have Khj19 : ∀ (H : Heap) (locs : List Loc) (ls : Array Slot), Dy clA D (xW a cs) s H locs u18 → lv_has ls 7 [] → W p l e rm_D_methodFacts s m args below meth c H locs 0 0 Q (F0 m 155 ls [.int z17]) := by
          intro H locs ls I hl
          exact hQ _ _ _ _ _ _ I hk d_D_methodFacts_155
        refine lv_icmp_ne (tgt := 154) hx hb d_D_methodFacts_141 (by decide) (fun hc => ?_) (fun hc => ?_)
        · replace hj19 := ie_u hc hj19
          refine lv_iconst (v := 0) hx hb d_D_methodFacts_154 (by decide) ?_
          obtain ⟨rfl, rfl⟩ := eo2 hj19
          exact Khj19 _ _ _ I (lv_sub hl [] rfl)
        · replace hj19 := it_u hc hj19
          refine lv_iload_n hx hb d_D_methodFacts_144 rfl (lv_at hl 1 rfl) ?_
          refine lv_aload_n hx hb d_D_methodFacts_145 rfl (lv_at hl 2 rfl) ?_
          refine lv_iload_n hx hb d_D_methodFacts_146 rfl (lv_at hl 3 rfl) ?_
          obtain ⟨r22, u20, h21, hj19⟩ := cI_u hj19
          refine go_I I (call_runV (rest := [.int (z11 ||| (z12 <<< (8 &&& 31)))]) C I (c_D_floatFacts C.2.2.2.1 C.2.2.2.2.1 l h21 _) wd_D_floatFacts (q0 := 5) (ci := 5) rfl rfl k_361 ⟨rfl, rfl⟩ ⟨by decide, by decide⟩ rfl hl.1 rfl (Nat.le_of_ble_eq_true rfl) d_D_methodFacts_147) (fun H locs I => ?_)
          refine lv_ior hx hb d_D_methodFacts_150 ?_
          refine lv_goto (tgt := 155) hx hb d_D_methodFacts_151 (by decide) ?_
          obtain ⟨rfl, rfl⟩ := eo2 hj19
          exact Khj19 _ _ _ I (lv_sub hl [] rfl)
      · replace hk := it_u hc hk
        refine lv_iload hx hb d_D_methodFacts_115 (lv_at hl 0 rfl) ?_
        refine lv_iconst (v := 1) hx hb d_D_methodFacts_117 (by decide) ?_
        refine lv_iadd hx hb d_D_methodFacts_118 ?_
        refine lv_iload_n hx hb d_D_methodFacts_119 rfl (lv_at hl 3 rfl) ?_
        obtain ⟨z24, hj25, hk⟩ := bnd_u hk
        have Khj25 : ∀ (H : Heap) (locs : List Loc) (ls : Array Slot), Dy clA D (xW a cs) s H locs u10 → lv_has ls 7 [] → W p l e rm_D_methodFacts s m args below meth c H locs 0 0 Q (F0 m 132 ls [.int z24]) := by
          intro H locs ls I hl
          exact hQ _ _ _ _ _ _ I hk d_D_methodFacts_132
        refine lv_icmp_ne (tgt := 131) hx hb d_D_methodFacts_120 (by decide) (fun hc => ?_) (fun hc => ?_)
        · replace hj25 := ie_u hc hj25
          refine lv_iconst (v := 0) hx hb d_D_methodFacts_131 (by decide) ?_
          obtain rfl := ep1 hj25
          exact Khj25 _ _ _ I (lv_sub hl [] rfl)
        · replace hj25 := it_u hc hj25
          refine lv_iload_n hx hb d_D_methodFacts_123 rfl (lv_at hl 1 rfl) ?_
          refine lv_sipush (v := 128) hx hb d_D_methodFacts_124 (by decide) ?_
          refine lv_ior hx hb d_D_methodFacts_127 ?_
          refine lv_goto (tgt := 132) hx hb d_D_methodFacts_128 (by decide) ?_
          obtain rfl := ep1 hj25
          exact Khj25 _ _ _ I (lv_sub hl [] rfl)
    · replace hk := ie_u hc hk
      refine lv_iconst (v := 0) hx hb d_D_methodFacts_90 (by decide) ?_
      exact hQ _ _ _ _ _ _ I hk d_D_methodFacts_91
def rm_D_typeFacts : Room := { frames := 3, cells := 0, slots := 0, locals := 75 }
noncomputable def f_D_typeFacts (u : St) (x1 : Int32) (x2 : Int32) : Option (Int32 × St) := if x1 < x2 then (gd x1 4000 (if (u.2 0 x1.toNatClampNeg) = 40 then (cI (f_D_methodFacts u (x1 + 1) x2) fun r13 u11 => some (r13, u11)) else (cI (f_D_typeEnd u x1 x2) fun r3 u1 => cT (if r3 = x2 then (cI (f_D_floatFacts u1 x2) fun r9 u7 => some ((16 ||| r9), u7)) else (some (0, u1))) fun (p10 : Int32 × St) => some (p10.1, p10.2)))) else (some (0, u))
set_option maxHeartbeats 4000000 in
set_option maxRecDepth 100000 in
theorem c_D_typeFacts {Z : zT} {D : va_G} {cs : Nat → ClassId} {a : Nat → Nat} (hw : wD (xW a cs)) (hz : zOK Z) (l : Launch) {u : St} {x1 : Int32} {x2 : Int32} {r : Int32} {u' : St} (hk : f_D_typeFacts u x1 x2 = some (r, u')) : KI clA D cs (xW a cs) Z l y_D_typeFacts (.code y_D_typeFacts prog_7_method_3_code 3 (Option.some Jvm.ClassFile.FieldType.int)) rm_D_typeFacts [.ref (a 5), .int x1, .int x2] u r u' := by
  unfold f_D_typeFacts at hk
  refine KI.of (by decide) (Nat.le_of_ble_eq_true rfl) rfl hw hz ?_
  intro p e s m args below meth c Q C I hQ ls hl
  have hl : lv_has ls 3 [(0, .ref (a 5)), (1, .int x1), (2, .int x2)] := hl
  have hx := C.1.1
  have hb := C.1.2.1
  refine lv_iload_n hx hb d_D_typeFacts_0 rfl (lv_at hl 1 rfl) ?_
  refine lv_iload_n hx hb d_D_typeFacts_1 rfl (lv_at hl 2 rfl) ?_
  refine lv_icmp_lt (tgt := 7) hx hb d_D_typeFacts_2 (by decide) (fun hc => ?_) (fun hc => ?_)
  · replace hk := it_u hc hk
    refine lv_aload_n hx hb d_D_typeFacts_7 rfl (lv_at hl 0 rfl) ?_
    refine g_D_row C I k_75 d_D_typeFacts_8 ?_
    refine lv_iload_n hx hb d_D_typeFacts_11 rfl (lv_at hl 1 rfl) ?_
    obtain ⟨hi, hk⟩ := gd_u hk
    refine l_W_row C I hi d_D_typeFacts_12 ?_
    refine lv_bipush (v := 40) hx hb d_D_typeFacts_13 (by decide) ?_
    refine lv_icmp_ne (tgt := 27) hx hb d_D_typeFacts_15 (by decide) (fun hc => ?_) (fun hc => ?_)
    · replace hk := ie_u hc hk
      refine lv_aload_n hx hb d_D_typeFacts_27 rfl (lv_at hl 0 rfl) ?_
      refine lv_iload_n hx hb d_D_typeFacts_28 rfl (lv_at hl 1 rfl) ?_
      refine lv_iload_n hx hb d_D_typeFacts_29 rfl (lv_at hl 2 rfl) ?_
      obtain ⟨r3, u1, h2, hk⟩ := cI_u hk
      refine go_I I (call_runV (rest := []) C I (c_D_typeEnd C.2.2.2.1 C.2.2.2.2.1 l h2 _) wd_D_typeEnd (q0 := 5) (ci := 5) rfl rfl k_346 ⟨rfl, rfl⟩ ⟨by decide, by decide⟩ rfl hl.1 rfl (Nat.le_of_ble_eq_true rfl) d_D_typeFacts_30) (fun H locs I => ?_)
      refine lv_iload_n hx hb d_D_typeFacts_33 rfl (lv_at hl 2 rfl) ?_
      obtain ⟨⟨z4, u5⟩, hj6, hk⟩ := cT_u hk
      have Khj6 : ∀ (H : Heap) (locs : List Loc) (ls : Array Slot), Dy clA D (xW a cs) s H locs u5 → lv_has ls 3 [] → W p l e rm_D_typeFacts s m args below meth c H locs 0 0 Q (F0 m 49 ls [.int z4]) := by
        intro H locs ls I hl
        exact hQ _ _ _ _ _ _ I hk d_D_typeFacts_49
      refine lv_icmp_ne (tgt := 48) hx hb d_D_typeFacts_34 (by decide) (fun hc => ?_) (fun hc => ?_)
      · replace hj6 := ie_u hc hj6
        refine lv_iconst (v := 0) hx hb d_D_typeFacts_48 (by decide) ?_
        obtain ⟨rfl, rfl⟩ := eo2 hj6
        exact Khj6 _ _ _ I (lv_sub hl [] rfl)
      · replace hj6 := it_u hc hj6
        refine lv_bipush (v := 16) hx hb d_D_typeFacts_37 (by decide) ?_
        refine lv_aload_n hx hb d_D_typeFacts_39 rfl (lv_at hl 0 rfl) ?_
        refine lv_iload_n hx hb d_D_typeFacts_40 rfl (lv_at hl 2 rfl) ?_
        obtain ⟨r9, u7, h8, hj6⟩ := cI_u hj6
        refine go_I I (call_runV (rest := [.int 16]) C I (c_D_floatFacts C.2.2.2.1 C.2.2.2.2.1 l h8 _) wd_D_floatFacts (q0 := 5) (ci := 5) rfl rfl k_361 ⟨rfl, rfl⟩ ⟨by decide, by decide⟩ rfl hl.1 rfl (Nat.le_of_ble_eq_true rfl) d_D_typeFacts_41) (fun H locs I => ?_)
        refine lv_ior hx hb d_D_typeFacts_44 ?_
        refine lv_goto (tgt := 49) hx hb d_D_typeFacts_45 (by decide) ?_
        obtain ⟨rfl, rfl⟩ := eo2 hj6
        exact Khj6 _ _ _ I (lv_sub hl [] rfl)
    · replace hk := it_u hc hk
      refine lv_aload_n hx hb d_D_typeFacts_18 rfl (lv_at hl 0 rfl) ?_
      refine lv_iload_n hx hb d_D_typeFacts_19 rfl (lv_at hl 1 rfl) ?_
      refine lv_iconst (v := 1) hx hb d_D_typeFacts_20 (by decide) ?_
      refine lv_iadd hx hb d_D_typeFacts_21 ?_
      refine lv_iload_n hx hb d_D_typeFacts_22 rfl (lv_at hl 2 rfl) ?_
      obtain ⟨r13, u11, h12, hk⟩ := cI_u hk
      refine go_I I (call_runV (rest := []) C I (c_D_methodFacts C.2.2.2.1 C.2.2.2.2.1 l h12 _) wd_D_methodFacts (q0 := 5) (ci := 5) rfl rfl k_342 ⟨rfl, rfl⟩ ⟨by decide, by decide⟩ rfl hl.1 rfl (Nat.le_of_ble_eq_true rfl) d_D_typeFacts_23) (fun H locs I => ?_)
      exact hQ _ _ _ _ _ _ I hk d_D_typeFacts_26
  · replace hk := ie_u hc hk
    refine lv_iconst (v := 0) hx hb d_D_typeFacts_5 (by decide) ?_
    exact hQ _ _ _ _ _ _ I hk d_D_typeFacts_6
def rm_D_withoutSlots : Room := { frames := 0, cells := 0, slots := 0, locals := 0 }
noncomputable def f_D_withoutSlots (u : St) (x0 : Int32) : Option (Int32 × St) := some ((x0 &&& 255), u)
set_option maxHeartbeats 4000000 in
set_option maxRecDepth 100000 in
theorem c_D_withoutSlots {Z : zT} {D : va_G} {cs : Nat → ClassId} {a : Nat → Nat} (hw : wD (xW a cs)) (hz : zOK Z) (l : Launch) {u : St} {x0 : Int32} {r : Int32} {u' : St} (hk : f_D_withoutSlots u x0 = some (r, u')) : KI clA D cs (xW a cs) Z l y_D_withoutSlots (.code y_D_withoutSlots prog_7_method_5_code 1 (Option.some Jvm.ClassFile.FieldType.int)) rm_D_withoutSlots [.int x0] u r u' := by
  unfold f_D_withoutSlots at hk
  refine KI.of (by decide) (Nat.le_of_ble_eq_true rfl) rfl hw hz ?_
  intro p e s m args below meth c Q C I hQ ls hl
  have hl : lv_has ls 1 [(0, .int x0)] := hl
  have hx := C.1.1
  have hb := C.1.2.1
  refine lv_iload_n hx hb d_D_withoutSlots_0 rfl (lv_at hl 0 rfl) ?_
  refine lv_sipush (v := 255) hx hb d_D_withoutSlots_1 (by decide) ?_
  refine lv_iand hx hb d_D_withoutSlots_4 ?_
  exact hQ _ _ _ _ _ _ I hk d_D_withoutSlots_5
def rm_P_noteText : Room := { frames := 5, cells := 0, slots := 0, locals := 113 }
noncomputable def f_P_noteText (u : St) (x1 : Int32) : Option (St) := gd x1 300 (cI (f_P_firstOf u x1) fun r3 u1 => cI (f_D_typeFacts u1 ((u.2 5 x1.toNatClampNeg) + 3) (if (u1.1 0) < (((u.2 5 x1.toNatClampNeg) + 3) + r3) then (u1.1 0) else (((u.2 5 x1.toNatClampNeg) + 3) + r3))) fun r6 u4 => cI (f_D_nameFacts u4 ((u.2 5 x1.toNatClampNeg) + 3) (if (u1.1 0) < (((u.2 5 x1.toNatClampNeg) + 3) + r3) then (u1.1 0) else (((u.2 5 x1.toNatClampNeg) + 3) + r3))) fun r9 u7 => cI (f_P_spells u7 x1 0) fun r12 u10 => bnd (if r12 = 0 then (r9) else (4)) fun (z13 : Int32) => cI (f_P_spells u10 x1 1) fun r16 u14 => bnd (if r16 = 0 then (z13) else (8)) fun (z17 : Int32) => cI (f_D_withoutSlots u14 r6) fun r20 u18 => gd x1 300 (bnd (sa u18 6 x1.toNatClampNeg (z17 ||| r20)) fun u21 => cI (f_D_slotsOf u21 r6) fun r24 u22 => gd x1 300 (bnd (sa u22 7 x1.toNatClampNeg r24) fun u25 => some u25)))
set_option maxHeartbeats 4000000 in
set_option maxRecDepth 100000 in
theorem c_P_noteText {sk sv9 st : Nat → Nat} {D : va_G} {cs : Nat → ClassId} {a : Nat → Nat} (hw : wD (xW a cs)) (hz : zOK (xZ sk sv9 st)) (l : Launch) {u : St} {x1 : Int32} {u' : St} (hk : f_P_noteText u x1 = some u') : KV clA D cs (xW a cs) (xZ sk sv9 st) l y_P_noteText (.code y_P_noteText prog_4_method_8_code 6 (Option.none : Option Jvm.ClassFile.FieldType)) rm_P_noteText [.ref (a 2), .int x1] u u' := by
  unfold f_P_noteText at hk
  refine KV.of (by decide) (Nat.le_of_ble_eq_true rfl) hw hz ?_
  intro p e s m args below meth c Q C I hQ ls hl
  have hl : lv_has ls 6 [(0, .ref (a 2)), (1, .int x1)] := hl
  have hx := C.1.1
  have hb := C.1.2.1
  refine lv_aload_n hx hb d_P_noteText_0 rfl (lv_at hl 0 rfl) ?_
  refine g_P_places C I k_86 d_P_noteText_1 ?_
  refine lv_iload_n hx hb d_P_noteText_4 rfl (lv_at hl 1 rfl) ?_
  obtain ⟨hi, hk⟩ := gd_u hk
  refine l_P_places C I hi d_P_noteText_5 ?_
  refine lv_iconst (v := 3) hx hb d_P_noteText_6 (by decide) ?_
  refine lv_iadd hx hb d_P_noteText_7 ?_
  refine lv_istore_n (lv' := [(2, .int ((u.2 5 x1.toNatClampNeg) + 3)), (0, .ref (a 2)), (1, .int x1)]) hx hb d_P_noteText_8 rfl hl (by decide) rfl (fun ls hl => ?_)
  refine lv_iload_n hx hb d_P_noteText_9 rfl (lv_at hl 0 rfl) ?_
  refine lv_aload_n hx hb d_P_noteText_10 rfl (lv_at hl 1 rfl) ?_
  refine lv_iload_n hx hb d_P_noteText_11 rfl (lv_at hl 2 rfl) ?_
  obtain ⟨r3, u1, h2, hk⟩ := cI_u hk
  refine go_I I (call_runV (rest := [.int ((u.2 5 x1.toNatClampNeg) + 3)]) C I (c_P_firstOf C.2.2.2.1 C.2.2.2.2.1 l h2 _) wd_P_firstOf (q0 := 2) (ci := 2) rfl rfl k_327 ⟨rfl, rfl⟩ ⟨by decide, by decide⟩ rfl hl.1 rfl (Nat.le_of_ble_eq_true rfl) d_P_noteText_12) (fun H locs I => ?_)
  refine lv_iadd hx hb d_P_noteText_15 ?_
  refine lv_aload_n hx hb d_P_noteText_16 rfl (lv_at hl 1 rfl) ?_
  refine g_P_walk C I k_84 d_P_noteText_17 ?_
  refine g_W_length C I k_36 d_P_noteText_20 ?_
  refine va_mmin hx hb (C.1.2.2.1.trans hl.1.symm) C.1.2.2.2 (C.2.1 _ k_335) (C.2.1 _ k_336) (C.2.1 _ k_9) (C.2.1 _ k_337) (by decide) (Nat.le_of_ble_eq_true rfl) (Nat.zero_le _) (Nat.zero_le _) d_P_noteText_23 ?_
  refine lv_istore_n (lv' := [(3, .int (if (u1.1 0) < (((u.2 5 x1.toNatClampNeg) + 3) + r3) then (u1.1 0) else (((u.2 5 x1.toNatClampNeg) + 3) + r3))), (2, .int ((u.2 5 x1.toNatClampNeg) + 3)), (0, .ref (a 2)), (1, .int x1)]) hx hb d_P_noteText_26 rfl hl (by decide) rfl (fun ls hl => ?_)
  refine lv_aload_n hx hb d_P_noteText_27 rfl (lv_at hl 2 rfl) ?_
  refine g_P_words C I k_85 d_P_noteText_28 ?_
  refine lv_iload_n hx hb d_P_noteText_31 rfl (lv_at hl 1 rfl) ?_
  refine lv_iload_n hx hb d_P_noteText_32 rfl (lv_at hl 0 rfl) ?_
  obtain ⟨r6, u4, h5, hk⟩ := cI_u hk
  refine go_I I (call_runV (rest := []) C I (c_D_typeFacts C.2.2.2.1 C.2.2.2.2.1 l h5 _) wd_D_typeFacts (q0 := 5) (ci := 5) rfl rfl k_338 ⟨rfl, rfl⟩ ⟨by decide, by decide⟩ rfl hl.1 rfl (Nat.le_of_ble_eq_true rfl) d_P_noteText_33) (fun H locs I => ?_)
  refine lv_istore (lv' := [(4, .int r6), (3, .int (if (u1.1 0) < (((u.2 5 x1.toNatClampNeg) + 3) + r3) then (u1.1 0) else (((u.2 5 x1.toNatClampNeg) + 3) + r3))), (2, .int ((u.2 5 x1.toNatClampNeg) + 3)), (0, .ref (a 2)), (1, .int x1)]) hx hb d_P_noteText_36 hl (by decide) rfl (fun ls hl => ?_)
  refine lv_aload_n hx hb d_P_noteText_38 rfl (lv_at hl 3 rfl) ?_
  refine g_P_words C I k_85 d_P_noteText_39 ?_
  refine lv_iload_n hx hb d_P_noteText_42 rfl (lv_at hl 2 rfl) ?_
  refine lv_iload_n hx hb d_P_noteText_43 rfl (lv_at hl 1 rfl) ?_
  obtain ⟨r9, u7, h8, hk⟩ := cI_u hk
  refine go_I I (call_runV (rest := []) C I (c_D_nameFacts C.2.2.2.1 C.2.2.2.2.1 l h8 _) wd_D_nameFacts (q0 := 5) (ci := 5) rfl rfl k_365 ⟨rfl, rfl⟩ ⟨by decide, by decide⟩ rfl hl.1 rfl (Nat.le_of_ble_eq_true rfl) d_P_noteText_44) (fun H locs I => ?_)
  refine lv_istore (lv' := [(5, .int r9), (4, .int r6), (3, .int (if (u1.1 0) < (((u.2 5 x1.toNatClampNeg) + 3) + r3) then (u1.1 0) else (((u.2 5 x1.toNatClampNeg) + 3) + r3))), (2, .int ((u.2 5 x1.toNatClampNeg) + 3)), (0, .ref (a 2)), (1, .int x1)]) hx hb d_P_noteText_47 hl (by decide) rfl (fun ls hl => ?_)
  refine lv_aload_n hx hb d_P_noteText_49 rfl (lv_at hl 4 rfl) ?_
  refine lv_iload_n hx hb d_P_noteText_50 rfl (lv_at hl 5 rfl) ?_
  refine ld_str 0 C (tx := "<init>") rfl d_P_noteText_51 ?_
  obtain ⟨r12, u10, h11, hk⟩ := cI_u hk
  refine go_I I (call_runV (rest := []) C I (c_P_spells C.2.2.2.1 C.2.2.2.2.1 l h11 _) wd_P_spells (q0 := 2) (ci := 2) rfl rfl k_367 ⟨rfl, rfl⟩ ⟨by decide, by decide⟩ rfl hl.1 rfl (Nat.le_of_ble_eq_true rfl) d_P_noteText_53) (fun H locs I => ?_)
  obtain ⟨z13, hj27, hk⟩ := bnd_u hk
  have Khj27 : ∀ (H : Heap) (locs : List Loc) (ls : Array Slot), Dy clA D (xW a cs) s H locs u10 → lv_has ls 6 [(0, .ref (a 2)), (1, .int x1), (4, .int r6), (5, .int z13)] → W p l e rm_P_noteText s m args below meth c H locs 0 0 Q (F0 m 62 ls []) := by
    intro H locs ls I hl
    refine lv_aload_n hx hb d_P_noteText_62 rfl (lv_at hl 0 rfl) ?_
    refine lv_iload_n hx hb d_P_noteText_63 rfl (lv_at hl 1 rfl) ?_
    refine ld_str 1 C (tx := "<clinit>") rfl d_P_noteText_64 ?_
    obtain ⟨r16, u14, h15, hk⟩ := cI_u hk
    refine go_I I (call_runV (rest := []) C I (c_P_spells C.2.2.2.1 C.2.2.2.2.1 l h15 _) wd_P_spells (q0 := 2) (ci := 2) rfl rfl k_367 ⟨rfl, rfl⟩ ⟨by decide, by decide⟩ rfl hl.1 rfl (Nat.le_of_ble_eq_true rfl) d_P_noteText_66) (fun H locs I => ?_)
    obtain ⟨z17, hj26, hk⟩ := bnd_u hk
    have Khj26 : ∀ (H : Heap) (locs : List Loc) (ls : Array Slot), Dy clA D (xW a cs) s H locs u14 → lv_has ls 6 [(0, .ref (a 2)), (1, .int x1), (4, .int r6), (5, .int z17)] → W p l e rm_P_noteText s m args below meth c H locs 0 0 Q (F0 m 76 ls []) := by
      intro H locs ls I hl
      refine lv_aload_n hx hb d_P_noteText_76 rfl (lv_at hl 0 rfl) ?_
      refine g_P_facts C I k_87 d_P_noteText_77 ?_
      refine lv_iload_n hx hb d_P_noteText_80 rfl (lv_at hl 1 rfl) ?_
      refine lv_iload hx hb d_P_noteText_81 (lv_at hl 3 rfl) ?_
      refine lv_iload hx hb d_P_noteText_83 (lv_at hl 2 rfl) ?_
      obtain ⟨r20, u18, h19, hk⟩ := cI_u hk
      refine go_I I (call_runS (rest := [.int z17, .int x1, .ref (a 13)]) C I (c_D_withoutSlots C.2.2.2.1 C.2.2.2.2.1 l h19 _) wd_D_withoutSlots k_420 ⟨rfl, rfl⟩ ⟨by decide, by decide⟩ rfl hl.1 rfl (Nat.le_of_ble_eq_true rfl) d_P_noteText_85) (fun H locs I => ?_)
      refine lv_ior hx hb d_P_noteText_88 ?_
      obtain ⟨hi, hk⟩ := gd_u hk
      refine s_P_facts C I hi d_P_noteText_89 (fun H locs I => ?_)
      obtain ⟨u21, hu, hk⟩ := bnd_u hk
      rw [hu] at I
      clear hu
      refine lv_aload_n hx hb d_P_noteText_90 rfl (lv_at hl 0 rfl) ?_
      refine g_P_measures C I k_88 d_P_noteText_91 ?_
      refine lv_iload_n hx hb d_P_noteText_94 rfl (lv_at hl 1 rfl) ?_
      refine lv_iload hx hb d_P_noteText_95 (lv_at hl 2 rfl) ?_
      obtain ⟨r24, u22, h23, hk⟩ := cI_u hk
      refine go_I I (call_runS (rest := [.int x1, .ref (a 14)]) C I (c_D_slotsOf C.2.2.2.1 C.2.2.2.2.1 l h23 _) wd_D_slotsOf k_423 ⟨rfl, rfl⟩ ⟨by decide, by decide⟩ rfl hl.1 rfl (Nat.le_of_ble_eq_true rfl) d_P_noteText_97) (fun H locs I => ?_)
      obtain ⟨hi, hk⟩ := gd_u hk
      refine s_P_measures C I hi d_P_noteText_100 (fun H locs I => ?_)
      obtain ⟨u25, hu, hk⟩ := bnd_u hk
      rw [hu] at I
      clear hu
      exact hQ _ _ _ _ _ I hk d_P_noteText_101
    refine lv_if_eq (tgt := 76) hx hb d_P_noteText_69 (by decide) (fun hc => ?_) (fun hc => ?_)
    · replace hj26 := it_u hc hj26
      obtain rfl := ep1 hj26
      exact Khj26 _ _ _ I (lv_sub hl [0, 1, 2, 3] rfl)
    · replace hj26 := ie_u hc hj26
      refine lv_bipush (v := 8) hx hb d_P_noteText_72 (by decide) ?_
      refine lv_istore (lv' := [(5, .int 8), (0, .ref (a 2)), (1, .int x1), (4, .int r6)]) hx hb d_P_noteText_74 hl (by decide) rfl (fun ls hl => ?_)
      obtain rfl := ep1 hj26
      exact Khj26 _ _ _ I (lv_sub hl [1, 2, 3, 0] rfl)
  refine lv_if_eq (tgt := 62) hx hb d_P_noteText_56 (by decide) (fun hc => ?_) (fun hc => ?_)
  · replace hj27 := it_u hc hj27
    obtain rfl := ep1 hj27
    exact Khj27 _ _ _ I (lv_sub hl [4, 5, 1, 0] rfl)
  · replace hj27 := ie_u hc hj27
    refine lv_iconst (v := 4) hx hb d_P_noteText_59 (by decide) ?_
    refine lv_istore (lv' := [(5, .int 4), (4, .int r6), (3, .int (if (u1.1 0) < (((u.2 5 x1.toNatClampNeg) + 3) + r3) then (u1.1 0) else (((u.2 5 x1.toNatClampNeg) + 3) + r3))), (2, .int ((u.2 5 x1.toNatClampNeg) + 3)), (0, .ref (a 2)), (1, .int x1)]) hx hb d_P_noteText_60 hl (by decide) rfl (fun ls hl => ?_)
    obtain rfl := ep1 hj27
    exact Khj27 _ _ _ I (lv_sub hl [4, 5, 1, 0] rfl)
def rm_P_noteTexts : Room := { frames := 6, cells := 0, slots := 0, locals := 138 }
noncomputable def f_P_noteTexts_L2 : Nat → St → Int32 → Option (St)
  | 0, _, _ => none
  | n + 1, u, x1 => if (u.1 6) ≤ x1 then (some (u)) else (cI (f_W_sound u) fun r3 u1 => if r3 = 0 then (some (u1)) else (gd x1 300 (cT (if (u1.2 4 x1.toNatClampNeg) = 1 then (cV (f_P_noteText u1 x1) fun u6 => some (u6)) else (some (u1))) fun (u4 : St) => f_P_noteTexts_L2 n u4 (x1 + 1))))
noncomputable def f_P_noteTexts (u : St) : Option (St) := cT (f_P_noteTexts_L2 FU u 1) fun (u8 : St) => some u8
set_option maxHeartbeats 4000000 in
set_option maxRecDepth 100000 in
theorem w_P_noteTexts_L2 {sk sv9 st : Nat → Nat} {D : va_G} {cs : Nat → ClassId} {a : Nat → Nat} {p : Program} {l : Launch} {e : Env} {s : State} {m : MethodId} {args : Array Value} {below : List Frame} {meth : Method} {c : Code} {Q : State → Prop}  {u2 : St} (C : Cx clA R_P prog_4_method_7_code 2 D cs (xW a cs) (xZ sk sv9 st) p s m args c) (hE : ∀ (H : Heap) (locs : List Loc) (ls : Array Slot), Dy clA D (xW a cs) s H locs u2 → lv_has ls 2 [] → W p l e rm_P_noteTexts s m args below meth c H locs 0 0 Q (F0 m 41 ls [])) : ∀ (n : Nat) (u : St) (x1 : Int32) (H : Heap) (locs : List Loc) (ls : Array Slot), f_P_noteTexts_L2 n u x1 = some u2 → Dy clA D (xW a cs) s H locs u → lv_has ls 2 [(0, .ref (a 2)), (1, .int x1)] → W p l e rm_P_noteTexts s m args below meth c H locs 0 0 Q (F0 m 2 ls []) := by
  have hx := C.1.1
  have hb := C.1.2.1
  intro n
  induction n with
  | zero =>
    intro u x1 H locs ls hk I hl
    rw [f_P_noteTexts_L2] at hk
    cases hk
  | succ n ih =>
    intro u x1 H locs ls hk I hl
    rw [f_P_noteTexts_L2] at hk
    refine lv_iload_n hx hb d_P_noteTexts_2 rfl (lv_at hl 1 rfl) ?_
    refine lv_aload_n hx hb d_P_noteTexts_3 rfl (lv_at hl 0 rfl) ?_
    refine g_P_count C I k_82 d_P_noteTexts_4 ?_
    refine lv_icmp_ge (tgt := 41) hx hb d_P_noteTexts_7 (by decide) (fun hc => ?_) (fun hc => ?_)
    · replace hk := it_u hc hk
      obtain rfl := eo1 hk
      exact hE _ _ _ I (lv_sub hl [] rfl)
    · replace hk := ie_u hc hk
      refine lv_aload_n hx hb d_P_noteTexts_10 rfl (lv_at hl 0 rfl) ?_
      refine g_P_walk C I k_84 d_P_noteTexts_11 ?_
      obtain ⟨r3, u1, h2, hk⟩ := cI_u hk
      refine go_I I (call_runV (rest := []) C I (c_W_sound C.2.2.2.1 C.2.2.2.2.1 l h2 _) wd_W_sound (q0 := 4) (ci := 4) rfl rfl k_299 ⟨rfl, rfl⟩ ⟨by decide, by decide⟩ rfl hl.1 rfl (Nat.le_of_ble_eq_true rfl) d_P_noteTexts_14) (fun H locs I => ?_)
      refine lv_if_eq (tgt := 41) hx hb d_P_noteTexts_17 (by decide) (fun hc => ?_) (fun hc => ?_)
      · replace hk := it_u hc hk
        obtain rfl := eo1 hk
        exact hE _ _ _ I (lv_sub hl [] rfl)
      · replace hk := ie_u hc hk
        refine lv_aload_n hx hb d_P_noteTexts_20 rfl (lv_at hl 0 rfl) ?_
        refine g_P_kinds C I k_80 d_P_noteTexts_21 ?_
        refine lv_iload_n hx hb d_P_noteTexts_24 rfl (lv_at hl 1 rfl) ?_
        obtain ⟨hi, hk⟩ := gd_u hk
        refine l_P_kinds C I hi d_P_noteTexts_25 ?_
        refine lv_iconst (v := 1) hx hb d_P_noteTexts_26 (by decide) ?_
        obtain ⟨u4, hj5, hk⟩ := cT_u hk
        have Khj5 : ∀ (H : Heap) (locs : List Loc) (ls : Array Slot), Dy clA D (xW a cs) s H locs u4 → lv_has ls 2 [(0, .ref (a 2)), (1, .int x1)] → W p l e rm_P_noteTexts s m args below meth c H locs 0 0 Q (F0 m 35 ls []) := by
          intro H locs ls I hl
          refine lv_iinc (v := (x1 + 1)) (lv' := [(1, .int (x1 + 1)), (0, .ref (a 2))]) hx hb d_P_noteTexts_35 hl (k := 1) rfl rfl (by decide) rfl (fun ls hl => ?_)
          refine lv_goto (tgt := 2) hx hb d_P_noteTexts_38 (by decide) ?_
          exact ih u4 (x1 + 1) _ _ _ hk I (lv_sub hl [1, 0] rfl)
        refine lv_icmp_ne (tgt := 35) hx hb d_P_noteTexts_27 (by decide) (fun hc => ?_) (fun hc => ?_)
        · replace hj5 := ie_u hc hj5
          obtain rfl := eo1 hj5
          exact Khj5 _ _ _ I (lv_sub hl [0, 1] rfl)
        · replace hj5 := it_u hc hj5
          refine lv_aload_n hx hb d_P_noteTexts_30 rfl (lv_at hl 0 rfl) ?_
          refine lv_iload_n hx hb d_P_noteTexts_31 rfl (lv_at hl 1 rfl) ?_
          obtain ⟨u6, h7, hj5⟩ := cV_u hj5
          refine go_V I (call_runV (rest := []) C I (c_P_noteText C.2.2.2.1 C.2.2.2.2.1 l h7 _) wd_P_noteText (q0 := 2) (ci := 2) rfl rfl k_323 ⟨rfl, rfl⟩ ⟨by decide, by decide⟩ rfl hl.1 rfl (Nat.le_of_ble_eq_true rfl) d_P_noteTexts_32) (fun H locs I => ?_)
          obtain rfl := eo1 hj5
          exact Khj5 _ _ _ I (lv_sub hl [0, 1] rfl)
set_option maxHeartbeats 4000000 in
set_option maxRecDepth 100000 in
theorem c_P_noteTexts {sk sv9 st : Nat → Nat} {D : va_G} {cs : Nat → ClassId} {a : Nat → Nat} (hw : wD (xW a cs)) (hz : zOK (xZ sk sv9 st)) (l : Launch) {u : St} {u' : St} (hk : f_P_noteTexts u = some u') : KV clA D cs (xW a cs) (xZ sk sv9 st) l y_P_noteTexts (.code y_P_noteTexts prog_4_method_7_code 2 (Option.none : Option Jvm.ClassFile.FieldType)) rm_P_noteTexts [.ref (a 2)] u u' := by
  unfold f_P_noteTexts at hk
  refine KV.of (by decide) (Nat.le_of_ble_eq_true rfl) hw hz ?_
  intro p e s m args below meth c Q C I hQ ls hl
  have hl : lv_has ls 2 [(0, .ref (a 2))] := hl
  have hx := C.1.1
  have hb := C.1.2.1
  refine lv_iconst (v := 1) hx hb d_P_noteTexts_0 (by decide) ?_
  refine lv_istore_n (lv' := [(1, .int 1), (0, .ref (a 2))]) hx hb d_P_noteTexts_1 rfl hl (by decide) rfl (fun ls hl => ?_)
  obtain ⟨u8, hj9, hk⟩ := cT_u hk
  refine w_P_noteTexts_L2 C (fun H locs ls I hl => ?_) FU u 1 _ _ _ hj9 I (lv_sub hl [1, 0] rfl)
  exact hQ _ _ _ _ _ I hk d_P_noteTexts_41
def rm_P_clear : Room := { frames := 0, cells := 0, slots := 0, locals := 0 }
noncomputable def f_P_clear (u : St) (x1 : Int32) (x2 : Int32) : Option (St) := gd x1 300 (bnd (sa u 4 x1.toNatClampNeg x2) fun u1 => gd x1 300 (bnd (sa u1 5 x1.toNatClampNeg (u1.1 1)) fun u2 => gd x1 300 (bnd (sa u2 6 x1.toNatClampNeg 0) fun u3 => gd x1 300 (bnd (sa u3 7 x1.toNatClampNeg 0) fun u4 => some u4))))
set_option maxHeartbeats 4000000 in
set_option maxRecDepth 100000 in
theorem c_P_clear {Z : zT} {D : va_G} {cs : Nat → ClassId} {a : Nat → Nat} (hw : wD (xW a cs)) (hz : zOK Z) (l : Launch) {u : St} {x1 : Int32} {x2 : Int32} {u' : St} (hk : f_P_clear u x1 x2 = some u') : KV clA D cs (xW a cs) Z l y_P_clear (.code y_P_clear prog_4_method_3_code 3 (Option.none : Option Jvm.ClassFile.FieldType)) rm_P_clear [.ref (a 2), .int x1, .int x2] u u' := by
  unfold f_P_clear at hk
  refine KV.of (by decide) (Nat.le_of_ble_eq_true rfl) hw hz ?_
  intro p e s m args below meth c Q C I hQ ls hl
  have hl : lv_has ls 3 [(0, .ref (a 2)), (1, .int x1), (2, .int x2)] := hl
  have hx := C.1.1
  have hb := C.1.2.1
  refine lv_aload_n hx hb d_P_clear_0 rfl (lv_at hl 0 rfl) ?_
  refine g_P_kinds C I k_80 d_P_clear_1 ?_
  refine lv_iload_n hx hb d_P_clear_4 rfl (lv_at hl 1 rfl) ?_
  refine lv_iload_n hx hb d_P_clear_5 rfl (lv_at hl 2 rfl) ?_
  obtain ⟨hi, hk⟩ := gd_u hk
  refine s_P_kinds C I hi d_P_clear_6 (fun H locs I => ?_)
  obtain ⟨u1, hu, hk⟩ := bnd_u hk
  rw [hu] at I
  clear hu
  refine lv_aload_n hx hb d_P_clear_7 rfl (lv_at hl 0 rfl) ?_
  refine g_P_places C I k_86 d_P_clear_8 ?_
  refine lv_iload_n hx hb d_P_clear_11 rfl (lv_at hl 1 rfl) ?_
  refine lv_aload_n hx hb d_P_clear_12 rfl (lv_at hl 0 rfl) ?_
  refine g_P_walk C I k_84 d_P_clear_13 ?_
  refine g_W_at C I k_37 d_P_clear_16 ?_
  obtain ⟨hi, hk⟩ := gd_u hk
  refine s_P_places C I hi d_P_clear_19 (fun H locs I => ?_)
  obtain ⟨u2, hu, hk⟩ := bnd_u hk
  rw [hu] at I
  clear hu
  refine lv_aload_n hx hb d_P_clear_20 rfl (lv_at hl 0 rfl) ?_
  refine g_P_facts C I k_87 d_P_clear_21 ?_
  refine lv_iload_n hx hb d_P_clear_24 rfl (lv_at hl 1 rfl) ?_
  refine lv_iconst (v := 0) hx hb d_P_clear_25 (by decide) ?_
  obtain ⟨hi, hk⟩ := gd_u hk
  refine s_P_facts C I hi d_P_clear_26 (fun H locs I => ?_)
  obtain ⟨u3, hu, hk⟩ := bnd_u hk
  rw [hu] at I
  clear hu
  refine lv_aload_n hx hb d_P_clear_27 rfl (lv_at hl 0 rfl) ?_
  refine g_P_measures C I k_88 d_P_clear_28 ?_
  refine lv_iload_n hx hb d_P_clear_31 rfl (lv_at hl 1 rfl) ?_
  refine lv_iconst (v := 0) hx hb d_P_clear_32 (by decide) ?_
  obtain ⟨hi, hk⟩ := gd_u hk
  refine s_P_measures C I hi d_P_clear_33 (fun H locs I => ?_)
  obtain ⟨u4, hu, hk⟩ := bnd_u hk
  rw [hu] at I
  clear hu
  exact hQ _ _ _ _ _ I hk d_P_clear_34
def rm_P_followers : Room := { frames := 0, cells := 0, slots := 0, locals := 0 }
noncomputable def f_P_followers (u : St) (x0 : Int32) : Option (Int32 × St) := if x0 < 1 then (if x0 = 192 then (some (1, u)) else (if x0 < 194 then (bnd (if x0 < 224 then ((-1)) else (if 239 < x0 then ((-1)) else (2))) fun (z1 : Int32) => some (z1, u)) else (if 223 < x0 then (bnd (if x0 < 224 then ((-1)) else (if 239 < x0 then ((-1)) else (2))) fun (z3 : Int32) => some (z3, u)) else (some (1, u))))) else (if 127 < x0 then (if x0 = 192 then (some (1, u)) else (if x0 < 194 then (bnd (if x0 < 224 then ((-1)) else (if 239 < x0 then ((-1)) else (2))) fun (z5 : Int32) => some (z5, u)) else (if 223 < x0 then (bnd (if x0 < 224 then ((-1)) else (if 239 < x0 then ((-1)) else (2))) fun (z7 : Int32) => some (z7, u)) else (some (1, u))))) else (some (0, u)))
set_option maxHeartbeats 4000000 in
set_option maxRecDepth 100000 in
theorem c_P_followers {Z : zT} {D : va_G} {cs : Nat → ClassId} {a : Nat → Nat} (hw : wD (xW a cs)) (hz : zOK Z) (l : Launch) {u : St} {x0 : Int32} {r : Int32} {u' : St} (hk : f_P_followers u x0 = some (r, u')) : KI clA D cs (xW a cs) Z l y_P_followers (.code y_P_followers prog_4_method_6_code 1 (Option.some Jvm.ClassFile.FieldType.int)) rm_P_followers [.int x0] u r u' := by
  unfold f_P_followers at hk
  refine KI.of (by decide) (Nat.le_of_ble_eq_true rfl) rfl hw hz ?_
  intro p e s m args below meth c Q C I hQ ls hl
  have hl : lv_has ls 1 [(0, .int x0)] := hl
  have hx := C.1.1
  have hb := C.1.2.1
  refine lv_iload_n hx hb d_P_followers_0 rfl (lv_at hl 0 rfl) ?_
  refine lv_iconst (v := 1) hx hb d_P_followers_1 (by decide) ?_
  refine lv_icmp_lt (tgt := 13) hx hb d_P_followers_2 (by decide) (fun hc => ?_) (fun hc => ?_)
  · replace hk := it_u hc hk
    refine lv_iload_n hx hb d_P_followers_13 rfl (lv_at hl 0 rfl) ?_
    refine lv_sipush (v := 192) hx hb d_P_followers_14 (by decide) ?_
    refine lv_icmp_eq (tgt := 34) hx hb d_P_followers_17 (by decide) (fun hc => ?_) (fun hc => ?_)
    · replace hk := it_u hc hk
      refine lv_iconst (v := 1) hx hb d_P_followers_34 (by decide) ?_
      exact hQ _ _ _ _ _ _ I hk d_P_followers_35
    · replace hk := ie_u hc hk
      refine lv_iload_n hx hb d_P_followers_20 rfl (lv_at hl 0 rfl) ?_
      refine lv_sipush (v := 194) hx hb d_P_followers_21 (by decide) ?_
      refine lv_icmp_lt (tgt := 36) hx hb d_P_followers_24 (by decide) (fun hc => ?_) (fun hc => ?_)
      · replace hk := it_u hc hk
        refine lv_iload_n hx hb d_P_followers_36 rfl (lv_at hl 0 rfl) ?_
        refine lv_sipush (v := 224) hx hb d_P_followers_37 (by decide) ?_
        obtain ⟨z1, hj2, hk⟩ := bnd_u hk
        have Khj2 : ∀ (H : Heap) (locs : List Loc) (ls : Array Slot), Dy clA D (xW a cs) s H locs u → lv_has ls 1 [] → W p l e rm_P_followers s m args below meth c H locs 0 0 Q (F0 m 55 ls [.int z1]) := by
          intro H locs ls I hl
          exact hQ _ _ _ _ _ _ I hk d_P_followers_55
        refine lv_icmp_lt (tgt := 54) hx hb d_P_followers_40 (by decide) (fun hc => ?_) (fun hc => ?_)
        · replace hj2 := it_u hc hj2
          refine lv_iconst (v := (-1)) hx hb d_P_followers_54 (by decide) ?_
          obtain rfl := ep1 hj2
          exact Khj2 _ _ _ I (lv_sub hl [] rfl)
        · replace hj2 := ie_u hc hj2
          refine lv_iload_n hx hb d_P_followers_43 rfl (lv_at hl 0 rfl) ?_
          refine lv_sipush (v := 239) hx hb d_P_followers_44 (by decide) ?_
          refine lv_icmp_gt (tgt := 54) hx hb d_P_followers_47 (by decide) (fun hc => ?_) (fun hc => ?_)
          · replace hj2 := it_u hc hj2
            refine lv_iconst (v := (-1)) hx hb d_P_followers_54 (by decide) ?_
            obtain rfl := ep1 hj2
            exact Khj2 _ _ _ I (lv_sub hl [] rfl)
          · replace hj2 := ie_u hc hj2
            refine lv_iconst (v := 2) hx hb d_P_followers_50 (by decide) ?_
            refine lv_goto (tgt := 55) hx hb d_P_followers_51 (by decide) ?_
            obtain rfl := ep1 hj2
            exact Khj2 _ _ _ I (lv_sub hl [] rfl)
      · replace hk := ie_u hc hk
        refine lv_iload_n hx hb d_P_followers_27 rfl (lv_at hl 0 rfl) ?_
        refine lv_sipush (v := 223) hx hb d_P_followers_28 (by decide) ?_
        refine lv_icmp_gt (tgt := 36) hx hb d_P_followers_31 (by decide) (fun hc => ?_) (fun hc => ?_)
        · replace hk := it_u hc hk
          refine lv_iload_n hx hb d_P_followers_36 rfl (lv_at hl 0 rfl) ?_
          refine lv_sipush (v := 224) hx hb d_P_followers_37 (by decide) ?_
          obtain ⟨z3, hj4, hk⟩ := bnd_u hk
          have Khj4 : ∀ (H : Heap) (locs : List Loc) (ls : Array Slot), Dy clA D (xW a cs) s H locs u → lv_has ls 1 [] → W p l e rm_P_followers s m args below meth c H locs 0 0 Q (F0 m 55 ls [.int z3]) := by
            intro H locs ls I hl
            exact hQ _ _ _ _ _ _ I hk d_P_followers_55
          refine lv_icmp_lt (tgt := 54) hx hb d_P_followers_40 (by decide) (fun hc => ?_) (fun hc => ?_)
          · replace hj4 := it_u hc hj4
            refine lv_iconst (v := (-1)) hx hb d_P_followers_54 (by decide) ?_
            obtain rfl := ep1 hj4
            exact Khj4 _ _ _ I (lv_sub hl [] rfl)
          · replace hj4 := ie_u hc hj4
            refine lv_iload_n hx hb d_P_followers_43 rfl (lv_at hl 0 rfl) ?_
            refine lv_sipush (v := 239) hx hb d_P_followers_44 (by decide) ?_
            refine lv_icmp_gt (tgt := 54) hx hb d_P_followers_47 (by decide) (fun hc => ?_) (fun hc => ?_)
            · replace hj4 := it_u hc hj4
              refine lv_iconst (v := (-1)) hx hb d_P_followers_54 (by decide) ?_
              obtain rfl := ep1 hj4
              exact Khj4 _ _ _ I (lv_sub hl [] rfl)
            · replace hj4 := ie_u hc hj4
              refine lv_iconst (v := 2) hx hb d_P_followers_50 (by decide) ?_
              refine lv_goto (tgt := 55) hx hb d_P_followers_51 (by decide) ?_
              obtain rfl := ep1 hj4
              exact Khj4 _ _ _ I (lv_sub hl [] rfl)
        · replace hk := ie_u hc hk
          refine lv_iconst (v := 1) hx hb d_P_followers_34 (by decide) ?_
          exact hQ _ _ _ _ _ _ I hk d_P_followers_35
  · replace hk := ie_u hc hk
    refine lv_iload_n hx hb d_P_followers_5 rfl (lv_at hl 0 rfl) ?_
    refine lv_bipush (v := 127) hx hb d_P_followers_6 (by decide) ?_
    refine lv_icmp_gt (tgt := 13) hx hb d_P_followers_8 (by decide) (fun hc => ?_) (fun hc => ?_)
    · replace hk := it_u hc hk
      refine lv_iload_n hx hb d_P_followers_13 rfl (lv_at hl 0 rfl) ?_
      refine lv_sipush (v := 192) hx hb d_P_followers_14 (by decide) ?_
      refine lv_icmp_eq (tgt := 34) hx hb d_P_followers_17 (by decide) (fun hc => ?_) (fun hc => ?_)
      · replace hk := it_u hc hk
        refine lv_iconst (v := 1) hx hb d_P_followers_34 (by decide) ?_
        exact hQ _ _ _ _ _ _ I hk d_P_followers_35
      · replace hk := ie_u hc hk
        refine lv_iload_n hx hb d_P_followers_20 rfl (lv_at hl 0 rfl) ?_
        refine lv_sipush (v := 194) hx hb d_P_followers_21 (by decide) ?_
        refine lv_icmp_lt (tgt := 36) hx hb d_P_followers_24 (by decide) (fun hc => ?_) (fun hc => ?_)
        · replace hk := it_u hc hk
          refine lv_iload_n hx hb d_P_followers_36 rfl (lv_at hl 0 rfl) ?_
          refine lv_sipush (v := 224) hx hb d_P_followers_37 (by decide) ?_
          obtain ⟨z5, hj6, hk⟩ := bnd_u hk
          have Khj6 : ∀ (H : Heap) (locs : List Loc) (ls : Array Slot), Dy clA D (xW a cs) s H locs u → lv_has ls 1 [] → W p l e rm_P_followers s m args below meth c H locs 0 0 Q (F0 m 55 ls [.int z5]) := by
            intro H locs ls I hl
            exact hQ _ _ _ _ _ _ I hk d_P_followers_55
          refine lv_icmp_lt (tgt := 54) hx hb d_P_followers_40 (by decide) (fun hc => ?_) (fun hc => ?_)
          · replace hj6 := it_u hc hj6
            refine lv_iconst (v := (-1)) hx hb d_P_followers_54 (by decide) ?_
            obtain rfl := ep1 hj6
            exact Khj6 _ _ _ I (lv_sub hl [] rfl)
          · replace hj6 := ie_u hc hj6
            refine lv_iload_n hx hb d_P_followers_43 rfl (lv_at hl 0 rfl) ?_
            refine lv_sipush (v := 239) hx hb d_P_followers_44 (by decide) ?_
            refine lv_icmp_gt (tgt := 54) hx hb d_P_followers_47 (by decide) (fun hc => ?_) (fun hc => ?_)
            · replace hj6 := it_u hc hj6
              refine lv_iconst (v := (-1)) hx hb d_P_followers_54 (by decide) ?_
              obtain rfl := ep1 hj6
              exact Khj6 _ _ _ I (lv_sub hl [] rfl)
            · replace hj6 := ie_u hc hj6
              refine lv_iconst (v := 2) hx hb d_P_followers_50 (by decide) ?_
              refine lv_goto (tgt := 55) hx hb d_P_followers_51 (by decide) ?_
              obtain rfl := ep1 hj6
              exact Khj6 _ _ _ I (lv_sub hl [] rfl)
        · replace hk := ie_u hc hk
          refine lv_iload_n hx hb d_P_followers_27 rfl (lv_at hl 0 rfl) ?_
          refine lv_sipush (v := 223) hx hb d_P_followers_28 (by decide) ?_
          refine lv_icmp_gt (tgt := 36) hx hb d_P_followers_31 (by decide) (fun hc => ?_) (fun hc => ?_)
          · replace hk := it_u hc hk
            refine lv_iload_n hx hb d_P_followers_36 rfl (lv_at hl 0 rfl) ?_
            refine lv_sipush (v := 224) hx hb d_P_followers_37 (by decide) ?_
            obtain ⟨z7, hj8, hk⟩ := bnd_u hk
            have Khj8 : ∀ (H : Heap) (locs : List Loc) (ls : Array Slot), Dy clA D (xW a cs) s H locs u → lv_has ls 1 [] → W p l e rm_P_followers s m args below meth c H locs 0 0 Q (F0 m 55 ls [.int z7]) := by
              intro H locs ls I hl
              exact hQ _ _ _ _ _ _ I hk d_P_followers_55
            refine lv_icmp_lt (tgt := 54) hx hb d_P_followers_40 (by decide) (fun hc => ?_) (fun hc => ?_)
            · replace hj8 := it_u hc hj8
              refine lv_iconst (v := (-1)) hx hb d_P_followers_54 (by decide) ?_
              obtain rfl := ep1 hj8
              exact Khj8 _ _ _ I (lv_sub hl [] rfl)
            · replace hj8 := ie_u hc hj8
              refine lv_iload_n hx hb d_P_followers_43 rfl (lv_at hl 0 rfl) ?_
              refine lv_sipush (v := 239) hx hb d_P_followers_44 (by decide) ?_
              refine lv_icmp_gt (tgt := 54) hx hb d_P_followers_47 (by decide) (fun hc => ?_) (fun hc => ?_)
              · replace hj8 := it_u hc hj8
                refine lv_iconst (v := (-1)) hx hb d_P_followers_54 (by decide) ?_
                obtain rfl := ep1 hj8
                exact Khj8 _ _ _ I (lv_sub hl [] rfl)
              · replace hj8 := ie_u hc hj8
                refine lv_iconst (v := 2) hx hb d_P_followers_50 (by decide) ?_
                refine lv_goto (tgt := 55) hx hb d_P_followers_51 (by decide) ?_
                obtain rfl := ep1 hj8
                exact Khj8 _ _ _ I (lv_sub hl [] rfl)
          · replace hk := ie_u hc hk
            refine lv_iconst (v := 1) hx hb d_P_followers_34 (by decide) ?_
            exact hQ _ _ _ _ _ _ I hk d_P_followers_35
    · replace hk := ie_u hc hk
      refine lv_iconst (v := 0) hx hb d_P_followers_11 (by decide) ?_
      exact hQ _ _ _ _ _ _ I hk d_P_followers_12
def rm_P_readText : Room := { frames := 2, cells := 0, slots := 0, locals := 46 }
noncomputable def f_P_readText_L32 (x1 : Int32) (x2 : Int32) (x3 : Int32) : Nat → St → Int32 → Int32 → Int32 → Int32 → Int32 → Option (St × Int32 × Int32)
  | 0, _, _, _, _, _, _ => none
  | n + 1, u, x4, x5, x6, x7, x8 => if x3 ≤ x8 then (some (u, x4, x5)) else (cI (f_W_sound u) fun r6 u4 => if r6 = 0 then (some (u4, x4, x5)) else (cI (f_W_next u4 1) fun r9 u7 => cT (if x5 = 0 then (cI (f_P_followers u7 r9) fun r21 u19 => bnd (if r9 = 224 then (160) else (128)) fun (z22 : Int32) => bnd (if r9 = 192 then (128) else (191)) fun (z23 : Int32) => bnd (if r21 < 0 then (0) else (1)) fun (z24 : Int32) => cV (f_W_need u19 z24 5 (u4.1 1)) fun u25 => some (r21, z22, z23, u25)) else (bnd (if r9 < x6 then (0) else (if x7 < r9 then (0) else (1))) fun (z15 : Int32) => cV (f_W_need u7 z15 5 (u4.1 1)) fun u16 => some ((x5 + (-1)), 128, x7, u16))) fun (p30 : Int32 × Int32 × Int32 × St) => f_P_readText_L32 x1 x2 x3 n p30.2.2.2 ((31 * x4) + r9) p30.1 p30.2.1 p30.2.2.1 (x8 + 1)))
noncomputable def f_P_readText (u : St) (x1 : Int32) : Option (St) := cI (f_W_next u 2) fun r3 u1 => cT (f_P_readText_L32 x1 (u.1 1) r3 FU u1 0 0 0 0 0) fun (p40 : St × Int32 × Int32) => bnd (if p40.2.2 = 0 then (1) else (0)) fun (z34 : Int32) => cV (f_W_need p40.1 z34 5 (u.1 1)) fun u35 => gd x1 300 (bnd (sa u35 8 x1.toNatClampNeg p40.2.1) fun u37 => some u37)
set_option maxHeartbeats 4000000 in
set_option maxRecDepth 100000 in
theorem w_P_readText_L32 {Z : zT} {D : va_G} {cs : Nat → ClassId} {a : Nat → Nat} {p : Program} {l : Launch} {e : Env} {s : State} {m : MethodId} {args : Array Value} {below : List Frame} {meth : Method} {c : Code} {Q : State → Prop}  {u2 : St} {o4 : Int32} {o5 : Int32} {x1 : Int32} {x2 : Int32} {x3 : Int32} (C : Cx clA R_P prog_4_method_5_code 11 D cs (xW a cs) Z p s m args c) (hE : ∀ (H : Heap) (locs : List Loc) (ls : Array Slot), Dy clA D (xW a cs) s H locs u2 → lv_has ls 11 [(0, .ref (a 2)), (1, .int x1), (2, .int x2), (4, .int o4), (5, .int o5)] → W p l e rm_P_readText s m args below meth c H locs 0 0 Q (F0 m 193 ls [])) : ∀ (n : Nat) (u : St) (x4 : Int32) (x5 : Int32) (x6 : Int32) (x7 : Int32) (x8 : Int32) (H : Heap) (locs : List Loc) (ls : Array Slot), f_P_readText_L32 x1 x2 x3 n u x4 x5 x6 x7 x8 = some (u2, o4, o5) → Dy clA D (xW a cs) s H locs u → lv_has ls 11 [(0, .ref (a 2)), (1, .int x1), (2, .int x2), (3, .int x3), (4, .int x4), (5, .int x5), (6, .int x6), (7, .int x7), (8, .int x8)] → W p l e rm_P_readText s m args below meth c H locs 0 0 Q (F0 m 32 ls []) := by
  have hx := C.1.1
  have hb := C.1.2.1
  intro n
  induction n with
  | zero =>
    intro u x4 x5 x6 x7 x8 H locs ls hk I hl
    rw [f_P_readText_L32] at hk
    cases hk
  | succ n ih =>
    intro u x4 x5 x6 x7 x8 H locs ls hk I hl
    rw [f_P_readText_L32] at hk
    refine lv_iload hx hb d_P_readText_32 (lv_at hl 8 rfl) ?_
    refine lv_iload_n hx hb d_P_readText_34 rfl (lv_at hl 3 rfl) ?_
    refine lv_icmp_ge (tgt := 193) hx hb d_P_readText_35 (by decide) (fun hc => ?_) (fun hc => ?_)
    · replace hk := it_u hc hk
      obtain ⟨rfl, rfl, rfl⟩ := eo3 hk
      exact hE _ _ _ I (lv_sub hl [0, 1, 2, 4, 5] rfl)
    · replace hk := ie_u hc hk
      refine lv_aload_n hx hb d_P_readText_38 rfl (lv_at hl 0 rfl) ?_
      refine g_P_walk C I k_84 d_P_readText_39 ?_
      obtain ⟨r6, u4, h5, hk⟩ := cI_u hk
      refine go_I I (call_runV (rest := []) C I (c_W_sound C.2.2.2.1 C.2.2.2.2.1 l h5 _) wd_W_sound (q0 := 4) (ci := 4) rfl rfl k_299 ⟨rfl, rfl⟩ ⟨by decide, by decide⟩ rfl hl.1 rfl (Nat.le_of_ble_eq_true rfl) d_P_readText_42) (fun H locs I => ?_)
      refine lv_if_eq (tgt := 193) hx hb d_P_readText_45 (by decide) (fun hc => ?_) (fun hc => ?_)
      · replace hk := it_u hc hk
        obtain ⟨rfl, rfl, rfl⟩ := eo3 hk
        exact hE _ _ _ I (lv_sub hl [0, 1, 2, 4, 5] rfl)
      · replace hk := ie_u hc hk
        refine lv_aload_n hx hb d_P_readText_48 rfl (lv_at hl 0 rfl) ?_
        refine g_P_walk C I k_84 d_P_readText_49 ?_
        refine g_W_at C I k_37 d_P_readText_52 ?_
        refine lv_istore (lv' := [(9, .int (u4.1 1)), (0, .ref (a 2)), (1, .int x1), (2, .int x2), (3, .int x3), (4, .int x4), (5, .int x5), (6, .int x6), (7, .int x7), (8, .int x8)]) hx hb d_P_readText_55 hl (by decide) rfl (fun ls hl => ?_)
        refine lv_aload_n hx hb d_P_readText_57 rfl (lv_at hl 1 rfl) ?_
        refine g_P_walk C I k_84 d_P_readText_58 ?_
        refine lv_iconst (v := 1) hx hb d_P_readText_61 (by decide) ?_
        obtain ⟨r9, u7, h8, hk⟩ := cI_u hk
        refine go_I I (call_runV (rest := []) C I (c_W_next C.2.2.2.1 C.2.2.2.2.1 l h8 _) wd_W_next (q0 := 4) (ci := 4) rfl rfl k_297 ⟨rfl, rfl⟩ ⟨by decide, by decide⟩ rfl hl.1 rfl (Nat.le_of_ble_eq_true rfl) d_P_readText_62) (fun H locs I => ?_)
        refine lv_istore (lv' := [(10, .int r9), (9, .int (u4.1 1)), (0, .ref (a 2)), (1, .int x1), (2, .int x2), (3, .int x3), (4, .int x4), (5, .int x5), (6, .int x6), (7, .int x7), (8, .int x8)]) hx hb d_P_readText_65 hl (by decide) rfl (fun ls hl => ?_)
        refine lv_bipush (v := 31) hx hb d_P_readText_67 (by decide) ?_
        refine lv_iload hx hb d_P_readText_69 (lv_at hl 6 rfl) ?_
        refine lv_imul hx hb d_P_readText_71 ?_
        refine lv_iload hx hb d_P_readText_72 (lv_at hl 0 rfl) ?_
        refine lv_iadd hx hb d_P_readText_74 ?_
        refine lv_istore (lv' := [(4, .int ((31 * x4) + r9)), (10, .int r9), (9, .int (u4.1 1)), (0, .ref (a 2)), (1, .int x1), (2, .int x2), (3, .int x3), (5, .int x5), (6, .int x6), (7, .int x7), (8, .int x8)]) hx hb d_P_readText_75 hl (by decide) rfl (fun ls hl => ?_)
        refine lv_iload hx hb d_P_readText_77 (lv_at hl 7 rfl) ?_
        obtain ⟨⟨z10, z11, z12, u13⟩, hj14, hk⟩ := cT_u hk
        have Khj14 : ∀ (H : Heap) (locs : List Loc) (ls : Array Slot), Dy clA D (xW a cs) s H locs u13 → lv_has ls 11 [(0, .ref (a 2)), (1, .int x1), (2, .int x2), (3, .int x3), (4, .int ((31 * x4) + r9)), (5, .int z10), (6, .int z11), (7, .int z12), (8, .int x8)] → W p l e rm_P_readText s m args below meth c H locs 0 0 Q (F0 m 187 ls []) := by
          intro H locs ls I hl
          refine lv_iinc (v := (x8 + 1)) (lv' := [(8, .int (x8 + 1)), (0, .ref (a 2)), (1, .int x1), (2, .int x2), (3, .int x3), (4, .int ((31 * x4) + r9)), (5, .int z10), (6, .int z11), (7, .int z12)]) hx hb d_P_readText_187 hl (k := 8) rfl rfl (by decide) rfl (fun ls hl => ?_)
          refine lv_goto (tgt := 32) hx hb d_P_readText_190 (by decide) ?_
          exact ih u13 ((31 * x4) + r9) z10 z11 z12 (x8 + 1) _ _ _ hk I (lv_sub hl [1, 2, 3, 4, 5, 6, 7, 8, 0] rfl)
        refine lv_if_ne (tgt := 150) hx hb d_P_readText_79 (by decide) (fun hc => ?_) (fun hc => ?_)
        · replace hj14 := ie_u hc hj14
          refine lv_aload_n hx hb d_P_readText_150 rfl (lv_at hl 3 rfl) ?_
          refine g_P_walk C I k_84 d_P_readText_151 ?_
          refine lv_iload hx hb d_P_readText_154 (lv_at hl 1 rfl) ?_
          refine lv_iload hx hb d_P_readText_156 (lv_at hl 8 rfl) ?_
          obtain ⟨z15, hj18, hj14⟩ := bnd_u hj14
          have Khj18 : ∀ (H : Heap) (locs : List Loc) (ls : Array Slot), Dy clA D (xW a cs) s H locs u7 → lv_has ls 11 [(0, .ref (a 2)), (1, .int x1), (2, .int x2), (3, .int x3), (4, .int ((31 * x4) + r9)), (5, .int x5), (7, .int x7), (8, .int x8), (9, .int (u4.1 1))] → W p l e rm_P_readText s m args below meth c H locs 0 0 Q (F0 m 173 ls [.int z15, .ref (a 4)]) := by
            intro H locs ls I hl
            refine lv_iconst (v := 5) hx hb d_P_readText_173 (by decide) ?_
            refine lv_iload hx hb d_P_readText_174 (lv_at hl 8 rfl) ?_
            obtain ⟨u16, h17, hj14⟩ := cV_u hj14
            refine go_V I (call_runV (rest := []) C I (c_W_need C.2.2.2.1 C.2.2.2.2.1 l h17 _) wd_W_need (q0 := 4) (ci := 4) rfl rfl k_298 ⟨rfl, rfl⟩ ⟨by decide, by decide⟩ rfl hl.1 rfl (Nat.le_of_ble_eq_true rfl) d_P_readText_176) (fun H locs I => ?_)
            refine lv_iinc (v := (x5 + (-1))) (lv' := [(5, .int (x5 + (-1))), (0, .ref (a 2)), (1, .int x1), (2, .int x2), (3, .int x3), (4, .int ((31 * x4) + r9)), (7, .int x7), (8, .int x8), (9, .int (u4.1 1))]) hx hb d_P_readText_179 hl (k := 5) rfl rfl (by decide) rfl (fun ls hl => ?_)
            refine lv_sipush (v := 128) hx hb d_P_readText_182 (by decide) ?_
            refine lv_istore (lv' := [(6, .int 128), (5, .int (x5 + (-1))), (0, .ref (a 2)), (1, .int x1), (2, .int x2), (3, .int x3), (4, .int ((31 * x4) + r9)), (7, .int x7), (8, .int x8), (9, .int (u4.1 1))]) hx hb d_P_readText_185 hl (by decide) rfl (fun ls hl => ?_)
            obtain ⟨rfl, rfl, rfl, rfl⟩ := eo4 hj14
            exact Khj14 _ _ _ I (lv_sub hl [2, 3, 4, 5, 6, 1, 0, 7, 8] rfl)
          refine lv_icmp_lt (tgt := 172) hx hb d_P_readText_158 (by decide) (fun hc => ?_) (fun hc => ?_)
          · replace hj18 := it_u hc hj18
            refine lv_iconst (v := 0) hx hb d_P_readText_172 (by decide) ?_
            obtain rfl := ep1 hj18
            exact Khj18 _ _ _ I (lv_sub hl [3, 4, 5, 6, 0, 7, 9, 10, 2] rfl)
          · replace hj18 := ie_u hc hj18
            refine lv_iload hx hb d_P_readText_161 (lv_at hl 1 rfl) ?_
            refine lv_iload hx hb d_P_readText_163 (lv_at hl 9 rfl) ?_
            refine lv_icmp_gt (tgt := 172) hx hb d_P_readText_165 (by decide) (fun hc => ?_) (fun hc => ?_)
            · replace hj18 := it_u hc hj18
              refine lv_iconst (v := 0) hx hb d_P_readText_172 (by decide) ?_
              obtain rfl := ep1 hj18
              exact Khj18 _ _ _ I (lv_sub hl [3, 4, 5, 6, 0, 7, 9, 10, 2] rfl)
            · replace hj18 := ie_u hc hj18
              refine lv_iconst (v := 1) hx hb d_P_readText_168 (by decide) ?_
              refine lv_goto (tgt := 173) hx hb d_P_readText_169 (by decide) ?_
              obtain rfl := ep1 hj18
              exact Khj18 _ _ _ I (lv_sub hl [3, 4, 5, 6, 0, 7, 9, 10, 2] rfl)
        · replace hj14 := it_u hc hj14
          refine lv_iload hx hb d_P_readText_82 (lv_at hl 1 rfl) ?_
          obtain ⟨r21, u19, h20, hj14⟩ := cI_u hj14
          refine go_I I (call_runS (rest := []) C I (c_P_followers C.2.2.2.1 C.2.2.2.2.1 l h20 _) wd_P_followers k_316 ⟨rfl, rfl⟩ ⟨by decide, by decide⟩ rfl hl.1 rfl (Nat.le_of_ble_eq_true rfl) d_P_readText_84) (fun H locs I => ?_)
          refine lv_istore (lv' := [(5, .int r21), (4, .int ((31 * x4) + r9)), (10, .int r9), (9, .int (u4.1 1)), (0, .ref (a 2)), (1, .int x1), (2, .int x2), (3, .int x3), (6, .int x6), (7, .int x7), (8, .int x8)]) hx hb d_P_readText_87 hl (by decide) rfl (fun ls hl => ?_)
          refine lv_iload hx hb d_P_readText_89 (lv_at hl 2 rfl) ?_
          refine lv_sipush (v := 224) hx hb d_P_readText_91 (by decide) ?_
          obtain ⟨z22, hj29, hj14⟩ := bnd_u hj14
          have Khj29 : ∀ (H : Heap) (locs : List Loc) (ls : Array Slot), Dy clA D (xW a cs) s H locs u19 → lv_has ls 11 [(0, .ref (a 2)), (1, .int x1), (2, .int x2), (3, .int x3), (4, .int ((31 * x4) + r9)), (5, .int r21), (8, .int x8), (9, .int (u4.1 1)), (10, .int r9)] → W p l e rm_P_readText s m args below meth c H locs 0 0 Q (F0 m 106 ls [.int z22]) := by
            intro H locs ls I hl
            refine lv_istore (lv' := [(6, .int z22), (0, .ref (a 2)), (1, .int x1), (2, .int x2), (3, .int x3), (4, .int ((31 * x4) + r9)), (5, .int r21), (8, .int x8), (9, .int (u4.1 1)), (10, .int r9)]) hx hb d_P_readText_106 hl (by decide) rfl (fun ls hl => ?_)
            refine lv_iload hx hb d_P_readText_108 (lv_at hl 9 rfl) ?_
            refine lv_sipush (v := 192) hx hb d_P_readText_110 (by decide) ?_
            obtain ⟨z23, hj28, hj14⟩ := bnd_u hj14
            have Khj28 : ∀ (H : Heap) (locs : List Loc) (ls : Array Slot), Dy clA D (xW a cs) s H locs u19 → lv_has ls 11 [(0, .ref (a 2)), (1, .int x1), (2, .int x2), (3, .int x3), (4, .int ((31 * x4) + r9)), (5, .int r21), (6, .int z22), (8, .int x8), (9, .int (u4.1 1))] → W p l e rm_P_readText s m args below meth c H locs 0 0 Q (F0 m 125 ls [.int z23]) := by
              intro H locs ls I hl
              refine lv_istore (lv' := [(7, .int z23), (0, .ref (a 2)), (1, .int x1), (2, .int x2), (3, .int x3), (4, .int ((31 * x4) + r9)), (5, .int r21), (6, .int z22), (8, .int x8), (9, .int (u4.1 1))]) hx hb d_P_readText_125 hl (by decide) rfl (fun ls hl => ?_)
              refine lv_aload_n hx hb d_P_readText_127 rfl (lv_at hl 1 rfl) ?_
              refine g_P_walk C I k_84 d_P_readText_128 ?_
              refine lv_iload hx hb d_P_readText_131 (lv_at hl 6 rfl) ?_
              obtain ⟨z24, hj27, hj14⟩ := bnd_u hj14
              have Khj27 : ∀ (H : Heap) (locs : List Loc) (ls : Array Slot), Dy clA D (xW a cs) s H locs u19 → lv_has ls 11 [(0, .ref (a 2)), (1, .int x1), (2, .int x2), (3, .int x3), (4, .int ((31 * x4) + r9)), (5, .int r21), (6, .int z22), (7, .int z23), (8, .int x8), (9, .int (u4.1 1))] → W p l e rm_P_readText s m args below meth c H locs 0 0 Q (F0 m 141 ls [.int z24, .ref (a 4)]) := by
                intro H locs ls I hl
                refine lv_iconst (v := 5) hx hb d_P_readText_141 (by decide) ?_
                refine lv_iload hx hb d_P_readText_142 (lv_at hl 9 rfl) ?_
                obtain ⟨u25, h26, hj14⟩ := cV_u hj14
                refine go_V I (call_runV (rest := []) C I (c_W_need C.2.2.2.1 C.2.2.2.2.1 l h26 _) wd_W_need (q0 := 4) (ci := 4) rfl rfl k_298 ⟨rfl, rfl⟩ ⟨by decide, by decide⟩ rfl hl.1 rfl (Nat.le_of_ble_eq_true rfl) d_P_readText_144) (fun H locs I => ?_)
                refine lv_goto (tgt := 187) hx hb d_P_readText_147 (by decide) ?_
                obtain ⟨rfl, rfl, rfl, rfl⟩ := eo4 hj14
                exact Khj14 _ _ _ I (lv_sub hl [0, 1, 2, 3, 4, 5, 6, 7, 8] rfl)
              refine lv_if_lt (tgt := 140) hx hb d_P_readText_133 (by decide) (fun hc => ?_) (fun hc => ?_)
              · replace hj27 := it_u hc hj27
                refine lv_iconst (v := 0) hx hb d_P_readText_140 (by decide) ?_
                obtain rfl := ep1 hj27
                exact Khj27 _ _ _ I (lv_sub hl [1, 2, 3, 4, 5, 6, 7, 0, 8, 9] rfl)
              · replace hj27 := ie_u hc hj27
                refine lv_iconst (v := 1) hx hb d_P_readText_136 (by decide) ?_
                refine lv_goto (tgt := 141) hx hb d_P_readText_137 (by decide) ?_
                obtain rfl := ep1 hj27
                exact Khj27 _ _ _ I (lv_sub hl [1, 2, 3, 4, 5, 6, 7, 0, 8, 9] rfl)
            refine lv_icmp_ne (tgt := 122) hx hb d_P_readText_113 (by decide) (fun hc => ?_) (fun hc => ?_)
            · replace hj28 := ie_u hc hj28
              refine lv_sipush (v := 191) hx hb d_P_readText_122 (by decide) ?_
              obtain rfl := ep1 hj28
              exact Khj28 _ _ _ I (lv_sub hl [1, 2, 3, 4, 5, 6, 0, 7, 8] rfl)
            · replace hj28 := it_u hc hj28
              refine lv_sipush (v := 128) hx hb d_P_readText_116 (by decide) ?_
              refine lv_goto (tgt := 125) hx hb d_P_readText_119 (by decide) ?_
              obtain rfl := ep1 hj28
              exact Khj28 _ _ _ I (lv_sub hl [1, 2, 3, 4, 5, 6, 0, 7, 8] rfl)
          refine lv_icmp_ne (tgt := 103) hx hb d_P_readText_94 (by decide) (fun hc => ?_) (fun hc => ?_)
          · replace hj29 := ie_u hc hj29
            refine lv_sipush (v := 128) hx hb d_P_readText_103 (by decide) ?_
            obtain rfl := ep1 hj29
            exact Khj29 _ _ _ I (lv_sub hl [4, 5, 6, 7, 1, 0, 10, 3, 2] rfl)
          · replace hj29 := it_u hc hj29
            refine lv_sipush (v := 160) hx hb d_P_readText_97 (by decide) ?_
            refine lv_goto (tgt := 106) hx hb d_P_readText_100 (by decide) ?_
            obtain rfl := ep1 hj29
            exact Khj29 _ _ _ I (lv_sub hl [4, 5, 6, 7, 1, 0, 10, 3, 2] rfl)
set_option maxHeartbeats 4000000 in
set_option maxRecDepth 100000 in
theorem c_P_readText {Z : zT} {D : va_G} {cs : Nat → ClassId} {a : Nat → Nat} (hw : wD (xW a cs)) (hz : zOK Z) (l : Launch) {u : St} {x1 : Int32} {u' : St} (hk : f_P_readText u x1 = some u') : KV clA D cs (xW a cs) Z l y_P_readText (.code y_P_readText prog_4_method_5_code 11 (Option.none : Option Jvm.ClassFile.FieldType)) rm_P_readText [.ref (a 2), .int x1] u u' := by
  unfold f_P_readText at hk
  refine KV.of (by decide) (Nat.le_of_ble_eq_true rfl) hw hz ?_
  intro p e s m args below meth c Q C I hQ ls hl
  have hl : lv_has ls 11 [(0, .ref (a 2)), (1, .int x1)] := hl
  have hx := C.1.1
  have hb := C.1.2.1
  refine lv_aload_n hx hb d_P_readText_0 rfl (lv_at hl 0 rfl) ?_
  refine g_P_walk C I k_84 d_P_readText_1 ?_
  refine g_W_at C I k_37 d_P_readText_4 ?_
  refine lv_istore_n (lv' := [(2, .int (u.1 1)), (0, .ref (a 2)), (1, .int x1)]) hx hb d_P_readText_7 rfl hl (by decide) rfl (fun ls hl => ?_)
  refine lv_aload_n hx hb d_P_readText_8 rfl (lv_at hl 1 rfl) ?_
  refine g_P_walk C I k_84 d_P_readText_9 ?_
  refine lv_iconst (v := 2) hx hb d_P_readText_12 (by decide) ?_
  obtain ⟨r3, u1, h2, hk⟩ := cI_u hk
  refine go_I I (call_runV (rest := []) C I (c_W_next C.2.2.2.1 C.2.2.2.2.1 l h2 _) wd_W_next (q0 := 4) (ci := 4) rfl rfl k_297 ⟨rfl, rfl⟩ ⟨by decide, by decide⟩ rfl hl.1 rfl (Nat.le_of_ble_eq_true rfl) d_P_readText_13) (fun H locs I => ?_)
  refine lv_istore_n (lv' := [(3, .int r3), (2, .int (u.1 1)), (0, .ref (a 2)), (1, .int x1)]) hx hb d_P_readText_16 rfl hl (by decide) rfl (fun ls hl => ?_)
  refine lv_iconst (v := 0) hx hb d_P_readText_17 (by decide) ?_
  refine lv_istore (lv' := [(4, .int 0), (3, .int r3), (2, .int (u.1 1)), (0, .ref (a 2)), (1, .int x1)]) hx hb d_P_readText_18 hl (by decide) rfl (fun ls hl => ?_)
  refine lv_iconst (v := 0) hx hb d_P_readText_20 (by decide) ?_
  refine lv_istore (lv' := [(5, .int 0), (4, .int 0), (3, .int r3), (2, .int (u.1 1)), (0, .ref (a 2)), (1, .int x1)]) hx hb d_P_readText_21 hl (by decide) rfl (fun ls hl => ?_)
  refine lv_iconst (v := 0) hx hb d_P_readText_23 (by decide) ?_
  refine lv_istore (lv' := [(6, .int 0), (5, .int 0), (4, .int 0), (3, .int r3), (2, .int (u.1 1)), (0, .ref (a 2)), (1, .int x1)]) hx hb d_P_readText_24 hl (by decide) rfl (fun ls hl => ?_)
  refine lv_iconst (v := 0) hx hb d_P_readText_26 (by decide) ?_
  refine lv_istore (lv' := [(7, .int 0), (6, .int 0), (5, .int 0), (4, .int 0), (3, .int r3), (2, .int (u.1 1)), (0, .ref (a 2)), (1, .int x1)]) hx hb d_P_readText_27 hl (by decide) rfl (fun ls hl => ?_)
  refine lv_iconst (v := 0) hx hb d_P_readText_29 (by decide) ?_
  refine lv_istore (lv' := [(8, .int 0), (7, .int 0), (6, .int 0), (5, .int 0), (4, .int 0), (3, .int r3), (2, .int (u.1 1)), (0, .ref (a 2)), (1, .int x1)]) hx hb d_P_readText_30 hl (by decide) rfl (fun ls hl => ?_)
  obtain ⟨⟨u31, z32, z33⟩, hj39, hk⟩ := cT_u hk
  refine w_P_readText_L32 C (fun H locs ls I hl => ?_) FU u1 0 0 0 0 0 _ _ _ hj39 I (lv_sub hl [7, 8, 6, 5, 4, 3, 2, 1, 0] rfl)
  refine lv_aload_n hx hb d_P_readText_193 rfl (lv_at hl 0 rfl) ?_
  refine g_P_walk C I k_84 d_P_readText_194 ?_
  refine lv_iload hx hb d_P_readText_197 (lv_at hl 4 rfl) ?_
  obtain ⟨z34, hj38, hk⟩ := bnd_u hk
  have Khj38 : ∀ (H : Heap) (locs : List Loc) (ls : Array Slot), Dy clA D (xW a cs) s H locs u31 → lv_has ls 11 [(0, .ref (a 2)), (1, .int x1), (2, .int (u.1 1)), (4, .int z32)] → W p l e rm_P_readText s m args below meth c H locs 0 0 Q (F0 m 207 ls [.int z34, .ref (a 4)]) := by
    intro H locs ls I hl
    refine lv_iconst (v := 5) hx hb d_P_readText_207 (by decide) ?_
    refine lv_iload_n hx hb d_P_readText_208 rfl (lv_at hl 2 rfl) ?_
    obtain ⟨u35, h36, hk⟩ := cV_u hk
    refine go_V I (call_runV (rest := []) C I (c_W_need C.2.2.2.1 C.2.2.2.2.1 l h36 _) wd_W_need (q0 := 4) (ci := 4) rfl rfl k_298 ⟨rfl, rfl⟩ ⟨by decide, by decide⟩ rfl hl.1 rfl (Nat.le_of_ble_eq_true rfl) d_P_readText_209) (fun H locs I => ?_)
    refine lv_aload_n hx hb d_P_readText_212 rfl (lv_at hl 0 rfl) ?_
    refine g_P_sums C I k_89 d_P_readText_213 ?_
    refine lv_iload_n hx hb d_P_readText_216 rfl (lv_at hl 1 rfl) ?_
    refine lv_iload hx hb d_P_readText_217 (lv_at hl 3 rfl) ?_
    obtain ⟨hi, hk⟩ := gd_u hk
    refine s_P_sums C I hi d_P_readText_219 (fun H locs I => ?_)
    obtain ⟨u37, hu, hk⟩ := bnd_u hk
    rw [hu] at I
    clear hu
    exact hQ _ _ _ _ _ I hk d_P_readText_220
  refine lv_if_ne (tgt := 206) hx hb d_P_readText_199 (by decide) (fun hc => ?_) (fun hc => ?_)
  · replace hj38 := ie_u hc hj38
    refine lv_iconst (v := 0) hx hb d_P_readText_206 (by decide) ?_
    obtain rfl := ep1 hj38
    exact Khj38 _ _ _ I (lv_sub hl [0, 1, 2, 3] rfl)
  · replace hj38 := it_u hc hj38
    refine lv_iconst (v := 1) hx hb d_P_readText_202 (by decide) ?_
    refine lv_goto (tgt := 207) hx hb d_P_readText_203 (by decide) ?_
    obtain rfl := ep1 hj38
    exact Khj38 _ _ _ I (lv_sub hl [0, 1, 2, 3] rfl)
def rm_P_readEntry : Room := { frames := 3, cells := 0, slots := 0, locals := 76 }
noncomputable def f_P_readEntry (u : St) (x1 : Int32) : Option (St) := cI (f_W_numberAt u (u.1 1) 1) fun r3 u1 => cV (f_P_clear u1 x1 r3) fun u4 => cI (f_W_next u4 1) fun r8 u6 => cT (if r8 = 1 then (cV (f_P_readText u6 x1) fun u11 => some (u11)) else (if r8 = 3 ∨ r8 = 9 ∨ r8 = 10 ∨ r8 = 11 ∨ r8 = 12 then (cI (f_W_next u6 4) fun r15 u13 => some (u13)) else (if r8 = 5 then (cI (f_W_next u6 8) fun r18 u16 => bnd (if (u16.1 6) ≤ (x1 + 1) then (0) else (1)) fun (z19 : Int32) => cV (f_W_need u16 z19 4 (u.1 1)) fun u20 => some (u20)) else (if r8 = 7 ∨ r8 = 8 then (cI (f_W_next u6 2) fun r25 u23 => some (u23)) else (bnd (if r8 = 4 then (0) else (if r8 = 6 then (0) else (if r8 < 15 then (1) else (if r8 ≤ 20 then (0) else (1))))) fun (z26 : Int32) => cV (f_W_need u6 z26 7 (u.1 1)) fun u27 => cV (f_W_need u27 0 6 (u.1 1)) fun u29 => some (u29)))))) fun (u9 : St) => some u9
set_option maxHeartbeats 4000000 in
set_option maxRecDepth 100000 in
theorem c_P_readEntry {Z : zT} {D : va_G} {cs : Nat → ClassId} {a : Nat → Nat} (hw : wD (xW a cs)) (hz : zOK Z) (l : Launch) {u : St} {x1 : Int32} {u' : St} (hk : f_P_readEntry u x1 = some u') : KV clA D cs (xW a cs) Z l y_P_readEntry (.code y_P_readEntry prog_4_method_4_code 4 (Option.none : Option Jvm.ClassFile.FieldType)) rm_P_readEntry [.ref (a 2), .int x1] u u' := by
  unfold f_P_readEntry at hk
  refine KV.of (by decide) (Nat.le_of_ble_eq_true rfl) hw hz ?_
  intro p e s m args below meth c Q C I hQ ls hl
  have hl : lv_has ls 4 [(0, .ref (a 2)), (1, .int x1)] := hl
  have hx := C.1.1
  have hb := C.1.2.1
  refine lv_aload_n hx hb d_P_readEntry_0 rfl (lv_at hl 0 rfl) ?_
  refine g_P_walk C I k_84 d_P_readEntry_1 ?_
  refine g_W_at C I k_37 d_P_readEntry_4 ?_
  refine lv_istore_n (lv' := [(2, .int (u.1 1)), (0, .ref (a 2)), (1, .int x1)]) hx hb d_P_readEntry_7 rfl hl (by decide) rfl (fun ls hl => ?_)
  refine lv_aload_n hx hb d_P_readEntry_8 rfl (lv_at hl 1 rfl) ?_
  refine lv_iload_n hx hb d_P_readEntry_9 rfl (lv_at hl 2 rfl) ?_
  refine lv_aload_n hx hb d_P_readEntry_10 rfl (lv_at hl 1 rfl) ?_
  refine g_P_walk C I k_84 d_P_readEntry_11 ?_
  refine lv_iload_n hx hb d_P_readEntry_14 rfl (lv_at hl 0 rfl) ?_
  refine lv_iconst (v := 1) hx hb d_P_readEntry_15 (by decide) ?_
  obtain ⟨r3, u1, h2, hk⟩ := cI_u hk
  refine go_I I (call_runV (rest := [.int x1, .ref (a 2)]) C I (c_W_numberAt C.2.2.2.1 C.2.2.2.2.1 l h2 _) wd_W_numberAt (q0 := 4) (ci := 4) rfl rfl k_307 ⟨rfl, rfl⟩ ⟨by decide, by decide⟩ rfl hl.1 rfl (Nat.le_of_ble_eq_true rfl) d_P_readEntry_16) (fun H locs I => ?_)
  obtain ⟨u4, h5, hk⟩ := cV_u hk
  refine go_V I (call_runV (rest := []) C I (c_P_clear C.2.2.2.1 C.2.2.2.2.1 l h5 _) wd_P_clear (q0 := 2) (ci := 2) rfl rfl k_308 ⟨rfl, rfl⟩ ⟨by decide, by decide⟩ rfl hl.1 rfl (Nat.le_of_ble_eq_true rfl) d_P_readEntry_19) (fun H locs I => ?_)
  refine lv_aload_n hx hb d_P_readEntry_22 rfl (lv_at hl 1 rfl) ?_
  refine g_P_walk C I k_84 d_P_readEntry_23 ?_
  refine lv_iconst (v := 1) hx hb d_P_readEntry_26 (by decide) ?_
  obtain ⟨r8, u6, h7, hk⟩ := cI_u hk
  refine go_I I (call_runV (rest := []) C I (c_W_next C.2.2.2.1 C.2.2.2.2.1 l h7 _) wd_W_next (q0 := 4) (ci := 4) rfl rfl k_297 ⟨rfl, rfl⟩ ⟨by decide, by decide⟩ rfl hl.1 rfl (Nat.le_of_ble_eq_true rfl) d_P_readEntry_27) (fun H locs I => ?_)
  refine lv_istore_n (lv' := [(3, .int r8), (2, .int (u.1 1)), (0, .ref (a 2)), (1, .int x1)]) hx hb d_P_readEntry_30 rfl hl (by decide) rfl (fun ls hl => ?_)
  refine lv_iload_n hx hb d_P_readEntry_31 rfl (lv_at hl 0 rfl) ?_
  obtain ⟨u9, hj10, hk⟩ := cT_u hk
  have Khj10 : ∀ (H : Heap) (locs : List Loc) (ls : Array Slot), Dy clA D (xW a cs) s H locs u9 → lv_has ls 4 [] → W p l e rm_P_readEntry s m args below meth c H locs 0 0 Q (F0 m 214 ls []) := by
    intro H locs ls I hl
    exact hQ _ _ _ _ _ I hk d_P_readEntry_214
  by_cases hs0 : r8 = 1
  · replace hj10 := it_u hs0 hj10
    refine lv_tableIn (tgt := 96) (off := 64) hx hb d_P_readEntry_32 (by rw [hs0]; decide) (by rw [hs0]; decide) (by rw [hs0]; decide) (by decide) ?_
    refine lv_aload_n hx hb d_P_readEntry_96 rfl (lv_at hl 2 rfl) ?_
    refine lv_iload_n hx hb d_P_readEntry_97 rfl (lv_at hl 3 rfl) ?_
    obtain ⟨u11, h12, hj10⟩ := cV_u hj10
    refine go_V I (call_runV (rest := []) C I (c_P_readText C.2.2.2.1 C.2.2.2.2.1 l h12 _) wd_P_readText (q0 := 2) (ci := 2) rfl rfl k_312 ⟨rfl, rfl⟩ ⟨by decide, by decide⟩ rfl hl.1 rfl (Nat.le_of_ble_eq_true rfl) d_P_readEntry_98) (fun H locs I => ?_)
    refine lv_goto (tgt := 214) hx hb d_P_readEntry_101 (by decide) ?_
    obtain rfl := eo1 hj10
    exact Khj10 _ _ _ I (lv_sub hl [] rfl)
  replace hj10 := ie_u hs0 hj10
  by_cases hs1 : r8 = 3 ∨ r8 = 9 ∨ r8 = 10 ∨ r8 = 11 ∨ r8 = 12
  · replace hj10 := it_u hs1 hj10
    refine lv_tableIn (tgt := 104) (off := 72) hx hb d_P_readEntry_32 (by rcases hs1 with h | h | h | h | h <;> rw [h] <;> decide) (by rcases hs1 with h | h | h | h | h <;> rw [h] <;> decide) (by rcases hs1 with h | h | h | h | h <;> rw [h] <;> decide) (by decide) ?_
    refine lv_aload_n hx hb d_P_readEntry_104 rfl (lv_at hl 2 rfl) ?_
    refine g_P_walk C I k_84 d_P_readEntry_105 ?_
    refine lv_iconst (v := 4) hx hb d_P_readEntry_108 (by decide) ?_
    obtain ⟨r15, u13, h14, hj10⟩ := cI_u hj10
    refine go_I I (call_runV (rest := []) C I (c_W_next C.2.2.2.1 C.2.2.2.2.1 l h14 _) wd_W_next (q0 := 4) (ci := 4) rfl rfl k_297 ⟨rfl, rfl⟩ ⟨by decide, by decide⟩ rfl hl.1 rfl (Nat.le_of_ble_eq_true rfl) d_P_readEntry_109) (fun H locs I => ?_)
    refine lv_pop hx hb d_P_readEntry_112 rfl ?_
    refine lv_goto (tgt := 214) hx hb d_P_readEntry_113 (by decide) ?_
    obtain rfl := eo1 hj10
    exact Khj10 _ _ _ I (lv_sub hl [] rfl)
  replace hj10 := ie_u hs1 hj10
  by_cases hs2 : r8 = 5
  · replace hj10 := it_u hs2 hj10
    refine lv_tableIn (tgt := 116) (off := 84) hx hb d_P_readEntry_32 (by rw [hs2]; decide) (by rw [hs2]; decide) (by rw [hs2]; decide) (by decide) ?_
    refine lv_aload_n hx hb d_P_readEntry_116 rfl (lv_at hl 2 rfl) ?_
    refine g_P_walk C I k_84 d_P_readEntry_117 ?_
    refine lv_bipush (v := 8) hx hb d_P_readEntry_120 (by decide) ?_
    obtain ⟨r18, u16, h17, hj10⟩ := cI_u hj10
    refine go_I I (call_runV (rest := []) C I (c_W_next C.2.2.2.1 C.2.2.2.2.1 l h17 _) wd_W_next (q0 := 4) (ci := 4) rfl rfl k_297 ⟨rfl, rfl⟩ ⟨by decide, by decide⟩ rfl hl.1 rfl (Nat.le_of_ble_eq_true rfl) d_P_readEntry_122) (fun H locs I => ?_)
    refine lv_pop hx hb d_P_readEntry_125 rfl ?_
    refine lv_aload_n hx hb d_P_readEntry_126 rfl (lv_at hl 2 rfl) ?_
    refine g_P_walk C I k_84 d_P_readEntry_127 ?_
    refine lv_iload_n hx hb d_P_readEntry_130 rfl (lv_at hl 3 rfl) ?_
    refine lv_iconst (v := 1) hx hb d_P_readEntry_131 (by decide) ?_
    refine lv_iadd hx hb d_P_readEntry_132 ?_
    refine lv_aload_n hx hb d_P_readEntry_133 rfl (lv_at hl 2 rfl) ?_
    refine g_P_count C I k_82 d_P_readEntry_134 ?_
    obtain ⟨z19, hj22, hj10⟩ := bnd_u hj10
    have Khj22 : ∀ (H : Heap) (locs : List Loc) (ls : Array Slot), Dy clA D (xW a cs) s H locs u16 → lv_has ls 4 [(2, .int (u.1 1))] → W p l e rm_P_readEntry s m args below meth c H locs 0 0 Q (F0 m 145 ls [.int z19, .ref (a 4)]) := by
      intro H locs ls I hl
      refine lv_iconst (v := 4) hx hb d_P_readEntry_145 (by decide) ?_
      refine lv_iload_n hx hb d_P_readEntry_146 rfl (lv_at hl 0 rfl) ?_
      obtain ⟨u20, h21, hj10⟩ := cV_u hj10
      refine go_V I (call_runV (rest := []) C I (c_W_need C.2.2.2.1 C.2.2.2.2.1 l h21 _) wd_W_need (q0 := 4) (ci := 4) rfl rfl k_298 ⟨rfl, rfl⟩ ⟨by decide, by decide⟩ rfl hl.1 rfl (Nat.le_of_ble_eq_true rfl) d_P_readEntry_147) (fun H locs I => ?_)
      refine lv_goto (tgt := 214) hx hb d_P_readEntry_150 (by decide) ?_
      obtain rfl := eo1 hj10
      exact Khj10 _ _ _ I (lv_sub hl [] rfl)
    refine lv_icmp_ge (tgt := 144) hx hb d_P_readEntry_137 (by decide) (fun hc => ?_) (fun hc => ?_)
    · replace hj22 := it_u hc hj22
      refine lv_iconst (v := 0) hx hb d_P_readEntry_144 (by decide) ?_
      obtain rfl := ep1 hj22
      exact Khj22 _ _ _ I (lv_sub hl [1] rfl)
    · replace hj22 := ie_u hc hj22
      refine lv_iconst (v := 1) hx hb d_P_readEntry_140 (by decide) ?_
      refine lv_goto (tgt := 145) hx hb d_P_readEntry_141 (by decide) ?_
      obtain rfl := ep1 hj22
      exact Khj22 _ _ _ I (lv_sub hl [1] rfl)
  replace hj10 := ie_u hs2 hj10
  by_cases hs3 : r8 = 7 ∨ r8 = 8
  · replace hj10 := it_u hs3 hj10
    refine lv_tableIn (tgt := 153) (off := 121) hx hb d_P_readEntry_32 (by rcases hs3 with h | h <;> rw [h] <;> decide) (by rcases hs3 with h | h <;> rw [h] <;> decide) (by rcases hs3 with h | h <;> rw [h] <;> decide) (by decide) ?_
    refine lv_aload_n hx hb d_P_readEntry_153 rfl (lv_at hl 2 rfl) ?_
    refine g_P_walk C I k_84 d_P_readEntry_154 ?_
    refine lv_iconst (v := 2) hx hb d_P_readEntry_157 (by decide) ?_
    obtain ⟨r25, u23, h24, hj10⟩ := cI_u hj10
    refine go_I I (call_runV (rest := []) C I (c_W_next C.2.2.2.1 C.2.2.2.2.1 l h24 _) wd_W_next (q0 := 4) (ci := 4) rfl rfl k_297 ⟨rfl, rfl⟩ ⟨by decide, by decide⟩ rfl hl.1 rfl (Nat.le_of_ble_eq_true rfl) d_P_readEntry_158) (fun H locs I => ?_)
    refine lv_pop hx hb d_P_readEntry_161 rfl ?_
    refine lv_goto (tgt := 214) hx hb d_P_readEntry_162 (by decide) ?_
    obtain rfl := eo1 hj10
    exact Khj10 _ _ _ I (lv_sub hl [] rfl)
  replace hj10 := ie_u hs3 hj10
  have n1 : ¬ r8 = 1 := fun h => hs0 h
  have n3 : ¬ r8 = 3 := fun h => hs1 (Or.inl h)
  have n9 : ¬ r8 = 9 := fun h => hs1 (Or.inr (Or.inl h))
  have n10 : ¬ r8 = 10 := fun h => hs1 (Or.inr (Or.inr (Or.inl h)))
  have n11 : ¬ r8 = 11 := fun h => hs1 (Or.inr (Or.inr (Or.inr (Or.inl h))))
  have n12 : ¬ r8 = 12 := fun h => hs1 (Or.inr (Or.inr (Or.inr (Or.inr (h)))))
  have n5 : ¬ r8 = 5 := fun h => hs2 h
  have n7 : ¬ r8 = 7 := fun h => hs3 (Or.inl h)
  have n8 : ¬ r8 = 8 := fun h => hs3 (Or.inr (h))
  have wn1 := lv_neT (a := 1) n1 (by decide)
  have wn3 := lv_neT (a := 3) n3 (by decide)
  have wn9 := lv_neT (a := 9) n9 (by decide)
  have wn10 := lv_neT (a := 10) n10 (by decide)
  have wn11 := lv_neT (a := 11) n11 (by decide)
  have wn12 := lv_neT (a := 12) n12 (by decide)
  have wn5 := lv_neT (a := 5) n5 (by decide)
  have wn7 := lv_neT (a := 7) n7 (by decide)
  have wn8 := lv_neT (a := 8) n8 (by decide)
  have Kd32 : ∀ (H : Heap) (locs : List Loc), Dy clA D (xW a cs) s H locs u6 → W p l e rm_P_readEntry s m args below meth c H locs 0 0 Q (F0 m 165 ls []) := by
    intro H locs I
    refine lv_aload_n hx hb d_P_readEntry_165 rfl (lv_at hl 2 rfl) ?_
    refine g_P_walk C I k_84 d_P_readEntry_166 ?_
    refine lv_iload_n hx hb d_P_readEntry_169 rfl (lv_at hl 0 rfl) ?_
    refine lv_iconst (v := 4) hx hb d_P_readEntry_170 (by decide) ?_
    obtain ⟨z26, hj31, hj10⟩ := bnd_u hj10
    have Khj31 : ∀ (H : Heap) (locs : List Loc) (ls : Array Slot), Dy clA D (xW a cs) s H locs u6 → lv_has ls 4 [(0, .ref (a 2)), (2, .int (u.1 1))] → W p l e rm_P_readEntry s m args below meth c H locs 0 0 Q (F0 m 197 ls [.int z26, .ref (a 4)]) := by
      intro H locs ls I hl
      refine lv_bipush (v := 7) hx hb d_P_readEntry_197 (by decide) ?_
      refine lv_iload_n hx hb d_P_readEntry_199 rfl (lv_at hl 1 rfl) ?_
      obtain ⟨u27, h28, hj10⟩ := cV_u hj10
      refine go_V I (call_runV (rest := []) C I (c_W_need C.2.2.2.1 C.2.2.2.2.1 l h28 _) wd_W_need (q0 := 4) (ci := 4) rfl rfl k_298 ⟨rfl, rfl⟩ ⟨by decide, by decide⟩ rfl hl.1 rfl (Nat.le_of_ble_eq_true rfl) d_P_readEntry_200) (fun H locs I => ?_)
      refine lv_aload_n hx hb d_P_readEntry_203 rfl (lv_at hl 0 rfl) ?_
      refine g_P_walk C I k_84 d_P_readEntry_204 ?_
      refine lv_iconst (v := 0) hx hb d_P_readEntry_207 (by decide) ?_
      refine lv_bipush (v := 6) hx hb d_P_readEntry_208 (by decide) ?_
      refine lv_iload_n hx hb d_P_readEntry_210 rfl (lv_at hl 1 rfl) ?_
      obtain ⟨u29, h30, hj10⟩ := cV_u hj10
      refine go_V I (call_runV (rest := []) C I (c_W_need C.2.2.2.1 C.2.2.2.2.1 l h30 _) wd_W_need (q0 := 4) (ci := 4) rfl rfl k_298 ⟨rfl, rfl⟩ ⟨by decide, by decide⟩ rfl hl.1 rfl (Nat.le_of_ble_eq_true rfl) d_P_readEntry_211) (fun H locs I => ?_)
      obtain rfl := eo1 hj10
      exact Khj10 _ _ _ I (lv_sub hl [] rfl)
    refine lv_icmp_eq (tgt := 196) hx hb d_P_readEntry_171 (by decide) (fun hc => ?_) (fun hc => ?_)
    · replace hj31 := it_u hc hj31
      refine lv_iconst (v := 0) hx hb d_P_readEntry_196 (by decide) ?_
      obtain rfl := ep1 hj31
      exact Khj31 _ _ _ I (lv_sub hl [2, 1] rfl)
    · replace hj31 := ie_u hc hj31
      refine lv_iload_n hx hb d_P_readEntry_174 rfl (lv_at hl 0 rfl) ?_
      refine lv_bipush (v := 6) hx hb d_P_readEntry_175 (by decide) ?_
      refine lv_icmp_eq (tgt := 196) hx hb d_P_readEntry_177 (by decide) (fun hc => ?_) (fun hc => ?_)
      · replace hj31 := it_u hc hj31
        refine lv_iconst (v := 0) hx hb d_P_readEntry_196 (by decide) ?_
        obtain rfl := ep1 hj31
        exact Khj31 _ _ _ I (lv_sub hl [2, 1] rfl)
      · replace hj31 := ie_u hc hj31
        refine lv_iload_n hx hb d_P_readEntry_180 rfl (lv_at hl 0 rfl) ?_
        refine lv_bipush (v := 15) hx hb d_P_readEntry_181 (by decide) ?_
        refine lv_icmp_lt (tgt := 192) hx hb d_P_readEntry_183 (by decide) (fun hc => ?_) (fun hc => ?_)
        · replace hj31 := it_u hc hj31
          refine lv_iconst (v := 1) hx hb d_P_readEntry_192 (by decide) ?_
          refine lv_goto (tgt := 197) hx hb d_P_readEntry_193 (by decide) ?_
          obtain rfl := ep1 hj31
          exact Khj31 _ _ _ I (lv_sub hl [2, 1] rfl)
        · replace hj31 := ie_u hc hj31
          refine lv_iload_n hx hb d_P_readEntry_186 rfl (lv_at hl 0 rfl) ?_
          refine lv_bipush (v := 20) hx hb d_P_readEntry_187 (by decide) ?_
          refine lv_icmp_le (tgt := 196) hx hb d_P_readEntry_189 (by decide) (fun hc => ?_) (fun hc => ?_)
          · replace hj31 := it_u hc hj31
            refine lv_iconst (v := 0) hx hb d_P_readEntry_196 (by decide) ?_
            obtain rfl := ep1 hj31
            exact Khj31 _ _ _ I (lv_sub hl [2, 1] rfl)
          · replace hj31 := ie_u hc hj31
            refine lv_iconst (v := 1) hx hb d_P_readEntry_192 (by decide) ?_
            refine lv_goto (tgt := 197) hx hb d_P_readEntry_193 (by decide) ?_
            obtain rfl := ep1 hj31
            exact Khj31 _ _ _ I (lv_sub hl [2, 1] rfl)
  by_cases hlo : (r8 : Int32).toInt < 1
  · exact lv_tableOut (tgt := 165) hx hb d_P_readEntry_32 (Or.inl hlo) (by decide) (Kd32 _ _ I)
  by_cases hhi : 12 < (r8 : Int32).toInt
  · exact lv_tableOut (tgt := 165) hx hb d_P_readEntry_32 (Or.inr hhi) (by decide) (Kd32 _ _ I)
  have hg : (r8 : Int32).toInt = 2 ∨ (r8 : Int32).toInt = 4 ∨ (r8 : Int32).toInt = 6 := by omega
  exact lv_tableIn (tgt := 165) (off := 133) hx hb d_P_readEntry_32 hlo hhi (by rcases hg with h | h | h <;> rw [h] <;> decide) (by decide) (Kd32 _ _ I)
def rm_P_readEntries : Room := { frames := 4, cells := 0, slots := 0, locals := 99 }
noncomputable def f_P_readEntries_L64 : Nat → St → Int32 → Option (St)
  | 0, _, _ => none
  | n + 1, u, x3 => if (u.1 6) ≤ x3 then (some (u)) else (cI (f_W_sound u) fun r14 u12 => if r14 = 0 then (some (u12)) else (cV (f_P_readEntry u12 x3) fun u15 => gd x3 300 (cT (if (u15.2 4 x3.toNatClampNeg) = 5 then (if (u15.1 6) ≤ (x3 + 1) then (some (x3, u15)) else (cV (f_P_clear u15 (x3 + 1) 0) fun u20 => some ((x3 + 1), u20))) else (some (x3, u15))) fun (p22 : Int32 × St) => f_P_readEntries_L64 n p22.2 (p22.1 + 1))))
noncomputable def f_P_readEntries (u : St) : Option (St) := cI (f_W_next u 2) fun r3 u1 => bnd (if r3 < 1 then (0) else (if 300 < r3 then (0) else (1))) fun (z4 : Int32) => cV (f_W_need u1 z4 4 (u.1 1)) fun u5 => cI (f_W_sound u5) fun r9 u7 => bnd (if r9 = 0 then (0) else (r3)) fun (z10 : Int32) => bnd (sv u7 6 z10) fun u11 => cT (f_P_readEntries_L64 FU u11 1) fun (u23 : St) => some u23
set_option maxHeartbeats 4000000 in
set_option maxRecDepth 100000 in
theorem w_P_readEntries_L64 {Z : zT} {D : va_G} {cs : Nat → ClassId} {a : Nat → Nat} {p : Program} {l : Launch} {e : Env} {s : State} {m : MethodId} {args : Array Value} {below : List Frame} {meth : Method} {c : Code} {Q : State → Prop}  {u2 : St} (C : Cx clA R_P prog_4_method_2_code 4 D cs (xW a cs) Z p s m args c) (hE : ∀ (H : Heap) (locs : List Loc) (ls : Array Slot), Dy clA D (xW a cs) s H locs u2 → lv_has ls 4 [] → W p l e rm_P_readEntries s m args below meth c H locs 0 0 Q (F0 m 122 ls [])) : ∀ (n : Nat) (u : St) (x3 : Int32) (H : Heap) (locs : List Loc) (ls : Array Slot), f_P_readEntries_L64 n u x3 = some u2 → Dy clA D (xW a cs) s H locs u → lv_has ls 4 [(0, .ref (a 2)), (3, .int x3)] → W p l e rm_P_readEntries s m args below meth c H locs 0 0 Q (F0 m 64 ls []) := by
  have hx := C.1.1
  have hb := C.1.2.1
  intro n
  induction n with
  | zero =>
    intro u x3 H locs ls hk I hl
    rw [f_P_readEntries_L64] at hk
    cases hk
  | succ n ih =>
    intro u x3 H locs ls hk I hl
    rw [f_P_readEntries_L64] at hk
    refine lv_iload_n hx hb d_P_readEntries_64 rfl (lv_at hl 1 rfl) ?_
    refine lv_aload_n hx hb d_P_readEntries_65 rfl (lv_at hl 0 rfl) ?_
    refine g_P_count C I k_82 d_P_readEntries_66 ?_
    refine lv_icmp_ge (tgt := 122) hx hb d_P_readEntries_69 (by decide) (fun hc => ?_) (fun hc => ?_)
    · replace hk := it_u hc hk
      obtain rfl := eo1 hk
      exact hE _ _ _ I (lv_sub hl [] rfl)
    · replace hk := ie_u hc hk
      refine lv_aload_n hx hb d_P_readEntries_72 rfl (lv_at hl 0 rfl) ?_
      refine g_P_walk C I k_84 d_P_readEntries_73 ?_
      obtain ⟨r14, u12, h13, hk⟩ := cI_u hk
      refine go_I I (call_runV (rest := []) C I (c_W_sound C.2.2.2.1 C.2.2.2.2.1 l h13 _) wd_W_sound (q0 := 4) (ci := 4) rfl rfl k_299 ⟨rfl, rfl⟩ ⟨by decide, by decide⟩ rfl hl.1 rfl (Nat.le_of_ble_eq_true rfl) d_P_readEntries_76) (fun H locs I => ?_)
      refine lv_if_eq (tgt := 122) hx hb d_P_readEntries_79 (by decide) (fun hc => ?_) (fun hc => ?_)
      · replace hk := it_u hc hk
        obtain rfl := eo1 hk
        exact hE _ _ _ I (lv_sub hl [] rfl)
      · replace hk := ie_u hc hk
        refine lv_aload_n hx hb d_P_readEntries_82 rfl (lv_at hl 0 rfl) ?_
        refine lv_iload_n hx hb d_P_readEntries_83 rfl (lv_at hl 1 rfl) ?_
        obtain ⟨u15, h16, hk⟩ := cV_u hk
        refine go_V I (call_runV (rest := []) C I (c_P_readEntry C.2.2.2.1 C.2.2.2.2.1 l h16 _) wd_P_readEntry (q0 := 2) (ci := 2) rfl rfl k_303 ⟨rfl, rfl⟩ ⟨by decide, by decide⟩ rfl hl.1 rfl (Nat.le_of_ble_eq_true rfl) d_P_readEntries_84) (fun H locs I => ?_)
        refine lv_aload_n hx hb d_P_readEntries_87 rfl (lv_at hl 0 rfl) ?_
        refine g_P_kinds C I k_80 d_P_readEntries_88 ?_
        refine lv_iload_n hx hb d_P_readEntries_91 rfl (lv_at hl 1 rfl) ?_
        obtain ⟨hi, hk⟩ := gd_u hk
        refine l_P_kinds C I hi d_P_readEntries_92 ?_
        refine lv_iconst (v := 5) hx hb d_P_readEntries_93 (by decide) ?_
        obtain ⟨⟨z17, u18⟩, hj19, hk⟩ := cT_u hk
        have Khj19 : ∀ (H : Heap) (locs : List Loc) (ls : Array Slot), Dy clA D (xW a cs) s H locs u18 → lv_has ls 4 [(0, .ref (a 2)), (3, .int z17)] → W p l e rm_P_readEntries s m args below meth c H locs 0 0 Q (F0 m 116 ls []) := by
          intro H locs ls I hl
          refine lv_iinc (v := (z17 + 1)) (lv' := [(3, .int (z17 + 1)), (0, .ref (a 2))]) hx hb d_P_readEntries_116 hl (k := 1) rfl rfl (by decide) rfl (fun ls hl => ?_)
          refine lv_goto (tgt := 64) hx hb d_P_readEntries_119 (by decide) ?_
          exact ih u18 (z17 + 1) _ _ _ hk I (lv_sub hl [1, 0] rfl)
        refine lv_icmp_ne (tgt := 116) hx hb d_P_readEntries_94 (by decide) (fun hc => ?_) (fun hc => ?_)
        · replace hj19 := ie_u hc hj19
          obtain ⟨rfl, rfl⟩ := eo2 hj19
          exact Khj19 _ _ _ I (lv_sub hl [0, 1] rfl)
        · replace hj19 := it_u hc hj19
          refine lv_iload_n hx hb d_P_readEntries_97 rfl (lv_at hl 1 rfl) ?_
          refine lv_iconst (v := 1) hx hb d_P_readEntries_98 (by decide) ?_
          refine lv_iadd hx hb d_P_readEntries_99 ?_
          refine lv_aload_n hx hb d_P_readEntries_100 rfl (lv_at hl 0 rfl) ?_
          refine g_P_count C I k_82 d_P_readEntries_101 ?_
          refine lv_icmp_ge (tgt := 116) hx hb d_P_readEntries_104 (by decide) (fun hc => ?_) (fun hc => ?_)
          · replace hj19 := it_u hc hj19
            obtain ⟨rfl, rfl⟩ := eo2 hj19
            exact Khj19 _ _ _ I (lv_sub hl [0, 1] rfl)
          · replace hj19 := ie_u hc hj19
            refine lv_iinc (v := (x3 + 1)) (lv' := [(3, .int (x3 + 1)), (0, .ref (a 2))]) hx hb d_P_readEntries_107 hl (k := 1) rfl rfl (by decide) rfl (fun ls hl => ?_)
            refine lv_aload_n hx hb d_P_readEntries_110 rfl (lv_at hl 1 rfl) ?_
            refine lv_iload_n hx hb d_P_readEntries_111 rfl (lv_at hl 0 rfl) ?_
            refine lv_iconst (v := 0) hx hb d_P_readEntries_112 (by decide) ?_
            obtain ⟨u20, h21, hj19⟩ := cV_u hj19
            refine go_V I (call_runV (rest := []) C I (c_P_clear C.2.2.2.1 C.2.2.2.2.1 l h21 _) wd_P_clear (q0 := 2) (ci := 2) rfl rfl k_308 ⟨rfl, rfl⟩ ⟨by decide, by decide⟩ rfl hl.1 rfl (Nat.le_of_ble_eq_true rfl) d_P_readEntries_113) (fun H locs I => ?_)
            obtain ⟨rfl, rfl⟩ := eo2 hj19
            exact Khj19 _ _ _ I (lv_sub hl [1, 0] rfl)
set_option maxHeartbeats 4000000 in
set_option maxRecDepth 100000 in
theorem c_P_readEntries {Z : zT} {D : va_G} {cs : Nat → ClassId} {a : Nat → Nat} (hw : wD (xW a cs)) (hz : zOK Z) (l : Launch) {u : St} {u' : St} (hk : f_P_readEntries u = some u') : KV clA D cs (xW a cs) Z l y_P_readEntries (.code y_P_readEntries prog_4_method_2_code 4 (Option.none : Option Jvm.ClassFile.FieldType)) rm_P_readEntries [.ref (a 2)] u u' := by
  unfold f_P_readEntries at hk
  refine KV.of (by decide) (Nat.le_of_ble_eq_true rfl) hw hz ?_
  intro p e s m args below meth c Q C I hQ ls hl
  have hl : lv_has ls 4 [(0, .ref (a 2))] := hl
  have hx := C.1.1
  have hb := C.1.2.1
  refine lv_aload_n hx hb d_P_readEntries_0 rfl (lv_at hl 0 rfl) ?_
  refine g_P_walk C I k_84 d_P_readEntries_1 ?_
  refine g_W_at C I k_37 d_P_readEntries_4 ?_
  refine lv_istore_n (lv' := [(1, .int (u.1 1)), (0, .ref (a 2))]) hx hb d_P_readEntries_7 rfl hl (by decide) rfl (fun ls hl => ?_)
  refine lv_aload_n hx hb d_P_readEntries_8 rfl (lv_at hl 1 rfl) ?_
  refine g_P_walk C I k_84 d_P_readEntries_9 ?_
  refine lv_iconst (v := 2) hx hb d_P_readEntries_12 (by decide) ?_
  obtain ⟨r3, u1, h2, hk⟩ := cI_u hk
  refine go_I I (call_runV (rest := []) C I (c_W_next C.2.2.2.1 C.2.2.2.2.1 l h2 _) wd_W_next (q0 := 4) (ci := 4) rfl rfl k_297 ⟨rfl, rfl⟩ ⟨by decide, by decide⟩ rfl hl.1 rfl (Nat.le_of_ble_eq_true rfl) d_P_readEntries_13) (fun H locs I => ?_)
  refine lv_istore_n (lv' := [(2, .int r3), (1, .int (u.1 1)), (0, .ref (a 2))]) hx hb d_P_readEntries_16 rfl hl (by decide) rfl (fun ls hl => ?_)
  refine lv_aload_n hx hb d_P_readEntries_17 rfl (lv_at hl 2 rfl) ?_
  refine g_P_walk C I k_84 d_P_readEntries_18 ?_
  refine lv_iload_n hx hb d_P_readEntries_21 rfl (lv_at hl 0 rfl) ?_
  refine lv_iconst (v := 1) hx hb d_P_readEntries_22 (by decide) ?_
  obtain ⟨z4, hj26, hk⟩ := bnd_u hk
  have Khj26 : ∀ (H : Heap) (locs : List Loc) (ls : Array Slot), Dy clA D (xW a cs) s H locs u1 → lv_has ls 4 [(0, .ref (a 2)), (1, .int (u.1 1)), (2, .int r3)] → W p l e rm_P_readEntries s m args below meth c H locs 0 0 Q (F0 m 38 ls [.int z4, .ref (a 4)]) := by
    intro H locs ls I hl
    refine lv_iconst (v := 4) hx hb d_P_readEntries_38 (by decide) ?_
    refine lv_iload_n hx hb d_P_readEntries_39 rfl (lv_at hl 1 rfl) ?_
    obtain ⟨u5, h6, hk⟩ := cV_u hk
    refine go_V I (call_runV (rest := []) C I (c_W_need C.2.2.2.1 C.2.2.2.2.1 l h6 _) wd_W_need (q0 := 4) (ci := 4) rfl rfl k_298 ⟨rfl, rfl⟩ ⟨by decide, by decide⟩ rfl hl.1 rfl (Nat.le_of_ble_eq_true rfl) d_P_readEntries_40) (fun H locs I => ?_)
    refine lv_aload_n hx hb d_P_readEntries_43 rfl (lv_at hl 0 rfl) ?_
    refine lv_aload_n hx hb d_P_readEntries_44 rfl (lv_at hl 0 rfl) ?_
    refine g_P_walk C I k_84 d_P_readEntries_45 ?_
    obtain ⟨r9, u7, h8, hk⟩ := cI_u hk
    refine go_I I (call_runV (rest := [.ref (a 2)]) C I (c_W_sound C.2.2.2.1 C.2.2.2.2.1 l h8 _) wd_W_sound (q0 := 4) (ci := 4) rfl rfl k_299 ⟨rfl, rfl⟩ ⟨by decide, by decide⟩ rfl hl.1 rfl (Nat.le_of_ble_eq_true rfl) d_P_readEntries_48) (fun H locs I => ?_)
    obtain ⟨z10, hj25, hk⟩ := bnd_u hk
    have Khj25 : ∀ (H : Heap) (locs : List Loc) (ls : Array Slot), Dy clA D (xW a cs) s H locs u7 → lv_has ls 4 [(0, .ref (a 2))] → W p l e rm_P_readEntries s m args below meth c H locs 0 0 Q (F0 m 59 ls [.int z10, .ref (a 2)]) := by
      intro H locs ls I hl
      refine p_P_count C I k_82 d_P_readEntries_59 (fun H locs I => ?_)
      obtain ⟨u11, hu, hk⟩ := bnd_u hk
      rw [hu] at I
      clear hu
      refine lv_iconst (v := 1) hx hb d_P_readEntries_62 (by decide) ?_
      refine lv_istore_n (lv' := [(3, .int 1), (0, .ref (a 2))]) hx hb d_P_readEntries_63 rfl hl (by decide) rfl (fun ls hl => ?_)
      obtain ⟨u23, hj24, hk⟩ := cT_u hk
      refine w_P_readEntries_L64 C (fun H locs ls I hl => ?_) FU u11 1 _ _ _ hj24 I (lv_sub hl [1, 0] rfl)
      exact hQ _ _ _ _ _ I hk d_P_readEntries_122
    refine lv_if_eq (tgt := 58) hx hb d_P_readEntries_51 (by decide) (fun hc => ?_) (fun hc => ?_)
    · replace hj25 := it_u hc hj25
      refine lv_iconst (v := 0) hx hb d_P_readEntries_58 (by decide) ?_
      obtain rfl := ep1 hj25
      exact Khj25 _ _ _ I (lv_sub hl [0] rfl)
    · replace hj25 := ie_u hc hj25
      refine lv_iload_n hx hb d_P_readEntries_54 rfl (lv_at hl 2 rfl) ?_
      refine lv_goto (tgt := 59) hx hb d_P_readEntries_55 (by decide) ?_
      obtain rfl := ep1 hj25
      exact Khj25 _ _ _ I (lv_sub hl [0] rfl)
  refine lv_icmp_lt (tgt := 37) hx hb d_P_readEntries_23 (by decide) (fun hc => ?_) (fun hc => ?_)
  · replace hj26 := it_u hc hj26
    refine lv_iconst (v := 0) hx hb d_P_readEntries_37 (by decide) ?_
    obtain rfl := ep1 hj26
    exact Khj26 _ _ _ I (lv_sub hl [2, 1, 0] rfl)
  · replace hj26 := ie_u hc hj26
    refine lv_iload_n hx hb d_P_readEntries_26 rfl (lv_at hl 0 rfl) ?_
    refine lv_sipush (v := 300) hx hb d_P_readEntries_27 (by decide) ?_
    refine lv_icmp_gt (tgt := 37) hx hb d_P_readEntries_30 (by decide) (fun hc => ?_) (fun hc => ?_)
    · replace hj26 := it_u hc hj26
      refine lv_iconst (v := 0) hx hb d_P_readEntries_37 (by decide) ?_
      obtain rfl := ep1 hj26
      exact Khj26 _ _ _ I (lv_sub hl [2, 1, 0] rfl)
    · replace hj26 := ie_u hc hj26
      refine lv_iconst (v := 1) hx hb d_P_readEntries_33 (by decide) ?_
      refine lv_goto (tgt := 38) hx hb d_P_readEntries_34 (by decide) ?_
      obtain rfl := ep1 hj26
      exact Khj26 _ _ _ I (lv_sub hl [2, 1, 0] rfl)
def rm_P_bracketsOf : Room := { frames := 2, cells := 0, slots := 0, locals := 45 }
noncomputable def f_P_bracketsOf_L8 (x1 : Int32) (x2 : Int32) : Nat → St → Int32 → Option (St × Int32)
  | 0, _, _ => none
  | n + 1, u, x3 => if x2 ≤ x3 then (some (u, x3)) else (gd x1 300 (cI (f_W_numberAt u (((u.2 5 x1.toNatClampNeg) + 3) + x3) 1) fun r6 u4 => if r6 = 91 then (f_P_bracketsOf_L8 x1 x2 n u4 (x3 + 1)) else (some (u4, x3))))
noncomputable def f_P_bracketsOf (u : St) (x1 : Int32) : Option (Int32 × St) := cI (f_P_firstOf u x1) fun r3 u1 => cT (f_P_bracketsOf_L8 x1 r3 FU u1 0) fun (p10 : St × Int32) => some (p10.2, p10.1)
set_option maxHeartbeats 4000000 in
set_option maxRecDepth 100000 in
theorem w_P_bracketsOf_L8 {Z : zT} {D : va_G} {cs : Nat → ClassId} {a : Nat → Nat} {p : Program} {l : Launch} {e : Env} {s : State} {m : MethodId} {args : Array Value} {below : List Frame} {meth : Method} {c : Code} {Q : State → Prop}  {u2 : St} {o3 : Int32} {x1 : Int32} {x2 : Int32} (C : Cx clA R_P prog_4_method_23_code 4 D cs (xW a cs) Z p s m args c) (hE : ∀ (H : Heap) (locs : List Loc) (ls : Array Slot), Dy clA D (xW a cs) s H locs u2 → lv_has ls 4 [(3, .int o3)] → W p l e rm_P_bracketsOf s m args below meth c H locs 0 0 Q (F0 m 42 ls [])) : ∀ (n : Nat) (u : St) (x3 : Int32) (H : Heap) (locs : List Loc) (ls : Array Slot), f_P_bracketsOf_L8 x1 x2 n u x3 = some (u2, o3) → Dy clA D (xW a cs) s H locs u → lv_has ls 4 [(0, .ref (a 2)), (1, .int x1), (2, .int x2), (3, .int x3)] → W p l e rm_P_bracketsOf s m args below meth c H locs 0 0 Q (F0 m 8 ls []) := by
  have hx := C.1.1
  have hb := C.1.2.1
  intro n
  induction n with
  | zero =>
    intro u x3 H locs ls hk I hl
    rw [f_P_bracketsOf_L8] at hk
    cases hk
  | succ n ih =>
    intro u x3 H locs ls hk I hl
    rw [f_P_bracketsOf_L8] at hk
    refine lv_iload_n hx hb d_P_bracketsOf_8 rfl (lv_at hl 3 rfl) ?_
    refine lv_iload_n hx hb d_P_bracketsOf_9 rfl (lv_at hl 2 rfl) ?_
    refine lv_icmp_ge (tgt := 42) hx hb d_P_bracketsOf_10 (by decide) (fun hc => ?_) (fun hc => ?_)
    · replace hk := it_u hc hk
      obtain ⟨rfl, rfl⟩ := eo2 hk
      exact hE _ _ _ I (lv_sub hl [3] rfl)
    · replace hk := ie_u hc hk
      refine lv_aload_n hx hb d_P_bracketsOf_13 rfl (lv_at hl 0 rfl) ?_
      refine g_P_walk C I k_84 d_P_bracketsOf_14 ?_
      refine lv_aload_n hx hb d_P_bracketsOf_17 rfl (lv_at hl 0 rfl) ?_
      refine g_P_places C I k_86 d_P_bracketsOf_18 ?_
      refine lv_iload_n hx hb d_P_bracketsOf_21 rfl (lv_at hl 1 rfl) ?_
      obtain ⟨hi, hk⟩ := gd_u hk
      refine l_P_places C I hi d_P_bracketsOf_22 ?_
      refine lv_iconst (v := 3) hx hb d_P_bracketsOf_23 (by decide) ?_
      refine lv_iadd hx hb d_P_bracketsOf_24 ?_
      refine lv_iload_n hx hb d_P_bracketsOf_25 rfl (lv_at hl 3 rfl) ?_
      refine lv_iadd hx hb d_P_bracketsOf_26 ?_
      refine lv_iconst (v := 1) hx hb d_P_bracketsOf_27 (by decide) ?_
      obtain ⟨r6, u4, h5, hk⟩ := cI_u hk
      refine go_I I (call_runV (rest := []) C I (c_W_numberAt C.2.2.2.1 C.2.2.2.2.1 l h5 _) wd_W_numberAt (q0 := 4) (ci := 4) rfl rfl k_307 ⟨rfl, rfl⟩ ⟨by decide, by decide⟩ rfl hl.1 rfl (Nat.le_of_ble_eq_true rfl) d_P_bracketsOf_28) (fun H locs I => ?_)
      refine lv_bipush (v := 91) hx hb d_P_bracketsOf_31 (by decide) ?_
      refine lv_icmp_ne (tgt := 42) hx hb d_P_bracketsOf_33 (by decide) (fun hc => ?_) (fun hc => ?_)
      · replace hk := ie_u hc hk
        obtain ⟨rfl, rfl⟩ := eo2 hk
        exact hE _ _ _ I (lv_sub hl [3] rfl)
      · replace hk := it_u hc hk
        refine lv_iinc (v := (x3 + 1)) (lv' := [(3, .int (x3 + 1)), (0, .ref (a 2)), (1, .int x1), (2, .int x2)]) hx hb d_P_bracketsOf_36 hl (k := 3) rfl rfl (by decide) rfl (fun ls hl => ?_)
        refine lv_goto (tgt := 8) hx hb d_P_bracketsOf_39 (by decide) ?_
        exact ih u4 (x3 + 1) _ _ _ hk I (lv_sub hl [1, 2, 3, 0] rfl)
set_option maxHeartbeats 4000000 in
set_option maxRecDepth 100000 in
theorem c_P_bracketsOf {Z : zT} {D : va_G} {cs : Nat → ClassId} {a : Nat → Nat} (hw : wD (xW a cs)) (hz : zOK Z) (l : Launch) {u : St} {x1 : Int32} {r : Int32} {u' : St} (hk : f_P_bracketsOf u x1 = some (r, u')) : KI clA D cs (xW a cs) Z l y_P_bracketsOf (.code y_P_bracketsOf prog_4_method_23_code 4 (Option.some Jvm.ClassFile.FieldType.int)) rm_P_bracketsOf [.ref (a 2), .int x1] u r u' := by
  unfold f_P_bracketsOf at hk
  refine KI.of (by decide) (Nat.le_of_ble_eq_true rfl) rfl hw hz ?_
  intro p e s m args below meth c Q C I hQ ls hl
  have hl : lv_has ls 4 [(0, .ref (a 2)), (1, .int x1)] := hl
  have hx := C.1.1
  have hb := C.1.2.1
  refine lv_aload_n hx hb d_P_bracketsOf_0 rfl (lv_at hl 0 rfl) ?_
  refine lv_iload_n hx hb d_P_bracketsOf_1 rfl (lv_at hl 1 rfl) ?_
  obtain ⟨r3, u1, h2, hk⟩ := cI_u hk
  refine go_I I (call_runV (rest := []) C I (c_P_firstOf C.2.2.2.1 C.2.2.2.2.1 l h2 _) wd_P_firstOf (q0 := 2) (ci := 2) rfl rfl k_327 ⟨rfl, rfl⟩ ⟨by decide, by decide⟩ rfl hl.1 rfl (Nat.le_of_ble_eq_true rfl) d_P_bracketsOf_2) (fun H locs I => ?_)
  refine lv_istore_n (lv' := [(2, .int r3), (0, .ref (a 2)), (1, .int x1)]) hx hb d_P_bracketsOf_5 rfl hl (by decide) rfl (fun ls hl => ?_)
  refine lv_iconst (v := 0) hx hb d_P_bracketsOf_6 (by decide) ?_
  refine lv_istore_n (lv' := [(3, .int 0), (2, .int r3), (0, .ref (a 2)), (1, .int x1)]) hx hb d_P_bracketsOf_7 rfl hl (by decide) rfl (fun ls hl => ?_)
  obtain ⟨⟨u7, z8⟩, hj9, hk⟩ := cT_u hk
  refine w_P_bracketsOf_L8 C (fun H locs ls I hl => ?_) FU u1 0 _ _ _ hj9 I (lv_sub hl [2, 3, 1, 0] rfl)
  refine lv_iload_n hx hb d_P_bracketsOf_42 rfl (lv_at hl 0 rfl) ?_
  exact hQ _ _ _ _ _ _ I hk d_P_bracketsOf_43
def rm_P_refer : Room := { frames := 1, cells := 0, slots := 0, locals := 24 }
noncomputable def f_P_refer (u : St) (x1 : Int32) (x2 : Int32) : Option (Int32 × St) := cI (f_W_numberAt u x1 2) fun r3 u1 => cI (f_P_kindOf u1 r3) fun r6 u4 => bnd (if r6 = x2 then (1) else (0)) fun (z7 : Int32) => cV (f_W_need u4 z7 8 x1) fun u8 => some (r3, u8)
set_option maxHeartbeats 4000000 in
set_option maxRecDepth 100000 in
theorem c_P_refer {Z : zT} {D : va_G} {cs : Nat → ClassId} {a : Nat → Nat} (hw : wD (xW a cs)) (hz : zOK Z) (l : Launch) {u : St} {x1 : Int32} {x2 : Int32} {r : Int32} {u' : St} (hk : f_P_refer u x1 x2 = some (r, u')) : KI clA D cs (xW a cs) Z l y_P_refer (.code y_P_refer prog_4_method_14_code 4 (Option.some Jvm.ClassFile.FieldType.int)) rm_P_refer [.ref (a 2), .int x1, .int x2] u r u' := by
  unfold f_P_refer at hk
  refine KI.of (by decide) (Nat.le_of_ble_eq_true rfl) rfl hw hz ?_
  intro p e s m args below meth c Q C I hQ ls hl
  have hl : lv_has ls 4 [(0, .ref (a 2)), (1, .int x1), (2, .int x2)] := hl
  have hx := C.1.1
  have hb := C.1.2.1
  refine lv_aload_n hx hb d_P_refer_0 rfl (lv_at hl 0 rfl) ?_
  refine g_P_walk C I k_84 d_P_refer_1 ?_
  refine lv_iload_n hx hb d_P_refer_4 rfl (lv_at hl 1 rfl) ?_
  refine lv_iconst (v := 2) hx hb d_P_refer_5 (by decide) ?_
  obtain ⟨r3, u1, h2, hk⟩ := cI_u hk
  refine go_I I (call_runV (rest := []) C I (c_W_numberAt C.2.2.2.1 C.2.2.2.2.1 l h2 _) wd_W_numberAt (q0 := 4) (ci := 4) rfl rfl k_307 ⟨rfl, rfl⟩ ⟨by decide, by decide⟩ rfl hl.1 rfl (Nat.le_of_ble_eq_true rfl) d_P_refer_6) (fun H locs I => ?_)
  refine lv_istore_n (lv' := [(3, .int r3), (0, .ref (a 2)), (1, .int x1), (2, .int x2)]) hx hb d_P_refer_9 rfl hl (by decide) rfl (fun ls hl => ?_)
  refine lv_aload_n hx hb d_P_refer_10 rfl (lv_at hl 1 rfl) ?_
  refine g_P_walk C I k_84 d_P_refer_11 ?_
  refine lv_aload_n hx hb d_P_refer_14 rfl (lv_at hl 1 rfl) ?_
  refine lv_iload_n hx hb d_P_refer_15 rfl (lv_at hl 0 rfl) ?_
  obtain ⟨r6, u4, h5, hk⟩ := cI_u hk
  refine go_I I (call_runV (rest := [.ref (a 4)]) C I (c_P_kindOf C.2.2.2.1 C.2.2.2.2.1 l h5 _) wd_P_kindOf (q0 := 2) (ci := 2) rfl rfl k_438 ⟨rfl, rfl⟩ ⟨by decide, by decide⟩ rfl hl.1 rfl (Nat.le_of_ble_eq_true rfl) d_P_refer_16) (fun H locs I => ?_)
  refine lv_iload_n hx hb d_P_refer_19 rfl (lv_at hl 3 rfl) ?_
  obtain ⟨z7, hj10, hk⟩ := bnd_u hk
  have Khj10 : ∀ (H : Heap) (locs : List Loc) (ls : Array Slot), Dy clA D (xW a cs) s H locs u4 → lv_has ls 4 [(1, .int x1), (3, .int r3)] → W p l e rm_P_refer s m args below meth c H locs 0 0 Q (F0 m 28 ls [.int z7, .ref (a 4)]) := by
    intro H locs ls I hl
    refine lv_bipush (v := 8) hx hb d_P_refer_28 (by decide) ?_
    refine lv_iload_n hx hb d_P_refer_30 rfl (lv_at hl 0 rfl) ?_
    obtain ⟨u8, h9, hk⟩ := cV_u hk
    refine go_V I (call_runV (rest := []) C I (c_W_need C.2.2.2.1 C.2.2.2.2.1 l h9 _) wd_W_need (q0 := 4) (ci := 4) rfl rfl k_298 ⟨rfl, rfl⟩ ⟨by decide, by decide⟩ rfl hl.1 rfl (Nat.le_of_ble_eq_true rfl) d_P_refer_31) (fun H locs I => ?_)
    refine lv_iload_n hx hb d_P_refer_34 rfl (lv_at hl 1 rfl) ?_
    exact hQ _ _ _ _ _ _ I hk d_P_refer_35
  refine lv_icmp_ne (tgt := 27) hx hb d_P_refer_20 (by decide) (fun hc => ?_) (fun hc => ?_)
  · replace hj10 := ie_u hc hj10
    refine lv_iconst (v := 0) hx hb d_P_refer_27 (by decide) ?_
    obtain rfl := ep1 hj10
    exact Khj10 _ _ _ I (lv_sub hl [2, 0] rfl)
  · replace hj10 := it_u hc hj10
    refine lv_iconst (v := 1) hx hb d_P_refer_23 (by decide) ?_
    refine lv_goto (tgt := 28) hx hb d_P_refer_24 (by decide) ?_
    obtain rfl := ep1 hj10
    exact Khj10 _ _ _ I (lv_sub hl [2, 0] rfl)
def rm_P_linkClass : Room := { frames := 3, cells := 0, slots := 0, locals := 68 }
noncomputable def f_P_linkClass (u : St) (x1 : Int32) : Option (St) := gd x1 300 (cI (f_P_refer u ((u.2 5 x1.toNatClampNeg) + 1) 1) fun r3 u1 => cI (f_P_bracketsOf u1 r3) fun r6 u4 => bnd (if r6 ≤ 0 then (2) else (16)) fun (z7 : Int32) => cI (f_P_factsOf u4 r3) fun r10 u8 => bnd (if (r10 &&& z7) = 0 then (0) else (1)) fun (z11 : Int32) => cV (f_W_need u8 z11 9 ((u.2 5 x1.toNatClampNeg) + 1)) fun u12 => cT (if r6 = 0 then (some (1, u12)) else (cI (f_P_factsOf u12 r3) fun r22 u20 => if (r22 &&& 64) = 0 then (some (1, u20)) else (some (0, u20)))) fun (p23 : Int32 × St) => cV (f_W_need p23.2 p23.1 12 ((u.2 5 x1.toNatClampNeg) + 1)) fun u16 => gd x1 300 (bnd (sa u16 7 x1.toNatClampNeg r6) fun u18 => some u18))
set_option maxHeartbeats 4000000 in
set_option maxRecDepth 100000 in
theorem c_P_linkClass {Z : zT} {D : va_G} {cs : Nat → ClassId} {a : Nat → Nat} (hw : wD (xW a cs)) (hz : zOK Z) (l : Launch) {u : St} {x1 : Int32} {u' : St} (hk : f_P_linkClass u x1 = some u') : KV clA D cs (xW a cs) Z l y_P_linkClass (.code y_P_linkClass prog_4_method_10_code 6 (Option.none : Option Jvm.ClassFile.FieldType)) rm_P_linkClass [.ref (a 2), .int x1] u u' := by
  unfold f_P_linkClass at hk
  refine KV.of (by decide) (Nat.le_of_ble_eq_true rfl) hw hz ?_
  intro p e s m args below meth c Q C I hQ ls hl
  have hl : lv_has ls 6 [(0, .ref (a 2)), (1, .int x1)] := hl
  have hx := C.1.1
  have hb := C.1.2.1
  refine lv_aload_n hx hb d_P_linkClass_0 rfl (lv_at hl 0 rfl) ?_
  refine g_P_places C I k_86 d_P_linkClass_1 ?_
  refine lv_iload_n hx hb d_P_linkClass_4 rfl (lv_at hl 1 rfl) ?_
  obtain ⟨hi, hk⟩ := gd_u hk
  refine l_P_places C I hi d_P_linkClass_5 ?_
  refine lv_iconst (v := 1) hx hb d_P_linkClass_6 (by decide) ?_
  refine lv_iadd hx hb d_P_linkClass_7 ?_
  refine lv_istore_n (lv' := [(2, .int ((u.2 5 x1.toNatClampNeg) + 1)), (0, .ref (a 2)), (1, .int x1)]) hx hb d_P_linkClass_8 rfl hl (by decide) rfl (fun ls hl => ?_)
  refine lv_aload_n hx hb d_P_linkClass_9 rfl (lv_at hl 1 rfl) ?_
  refine lv_iload_n hx hb d_P_linkClass_10 rfl (lv_at hl 0 rfl) ?_
  refine lv_iconst (v := 1) hx hb d_P_linkClass_11 (by decide) ?_
  obtain ⟨r3, u1, h2, hk⟩ := cI_u hk
  refine go_I I (call_runV (rest := []) C I (c_P_refer C.2.2.2.1 C.2.2.2.2.1 l h2 _) wd_P_refer (q0 := 2) (ci := 2) rfl rfl k_434 ⟨rfl, rfl⟩ ⟨by decide, by decide⟩ rfl hl.1 rfl (Nat.le_of_ble_eq_true rfl) d_P_linkClass_12) (fun H locs I => ?_)
  refine lv_istore_n (lv' := [(3, .int r3), (2, .int ((u.2 5 x1.toNatClampNeg) + 1)), (0, .ref (a 2)), (1, .int x1)]) hx hb d_P_linkClass_15 rfl hl (by decide) rfl (fun ls hl => ?_)
  refine lv_aload_n hx hb d_P_linkClass_16 rfl (lv_at hl 2 rfl) ?_
  refine lv_iload_n hx hb d_P_linkClass_17 rfl (lv_at hl 0 rfl) ?_
  obtain ⟨r6, u4, h5, hk⟩ := cI_u hk
  refine go_I I (call_runV (rest := []) C I (c_P_bracketsOf C.2.2.2.1 C.2.2.2.2.1 l h5 _) wd_P_bracketsOf (q0 := 2) (ci := 2) rfl rfl k_442 ⟨rfl, rfl⟩ ⟨by decide, by decide⟩ rfl hl.1 rfl (Nat.le_of_ble_eq_true rfl) d_P_linkClass_18) (fun H locs I => ?_)
  refine lv_istore (lv' := [(4, .int r6), (3, .int r3), (2, .int ((u.2 5 x1.toNatClampNeg) + 1)), (0, .ref (a 2)), (1, .int x1)]) hx hb d_P_linkClass_21 hl (by decide) rfl (fun ls hl => ?_)
  refine lv_iload hx hb d_P_linkClass_23 (lv_at hl 0 rfl) ?_
  obtain ⟨z7, hj25, hk⟩ := bnd_u hk
  have Khj25 : ∀ (H : Heap) (locs : List Loc) (ls : Array Slot), Dy clA D (xW a cs) s H locs u4 → lv_has ls 6 [(0, .ref (a 2)), (1, .int x1), (2, .int ((u.2 5 x1.toNatClampNeg) + 1)), (3, .int r3), (4, .int r6)] → W p l e rm_P_linkClass s m args below meth c H locs 0 0 Q (F0 m 34 ls [.int z7]) := by
    intro H locs ls I hl
    refine lv_istore (lv' := [(5, .int z7), (0, .ref (a 2)), (1, .int x1), (2, .int ((u.2 5 x1.toNatClampNeg) + 1)), (3, .int r3), (4, .int r6)]) hx hb d_P_linkClass_34 hl (by decide) rfl (fun ls hl => ?_)
    refine lv_aload_n hx hb d_P_linkClass_36 rfl (lv_at hl 1 rfl) ?_
    refine g_P_walk C I k_84 d_P_linkClass_37 ?_
    refine lv_aload_n hx hb d_P_linkClass_40 rfl (lv_at hl 1 rfl) ?_
    refine lv_iload_n hx hb d_P_linkClass_41 rfl (lv_at hl 4 rfl) ?_
    obtain ⟨r10, u8, h9, hk⟩ := cI_u hk
    refine go_I I (call_runV (rest := [.ref (a 4)]) C I (c_P_factsOf C.2.2.2.1 C.2.2.2.2.1 l h9 _) wd_P_factsOf (q0 := 2) (ci := 2) rfl rfl k_446 ⟨rfl, rfl⟩ ⟨by decide, by decide⟩ rfl hl.1 rfl (Nat.le_of_ble_eq_true rfl) d_P_linkClass_42) (fun H locs I => ?_)
    refine lv_iload hx hb d_P_linkClass_45 (lv_at hl 0 rfl) ?_
    refine lv_iand hx hb d_P_linkClass_47 ?_
    obtain ⟨z11, hj24, hk⟩ := bnd_u hk
    have Khj24 : ∀ (H : Heap) (locs : List Loc) (ls : Array Slot), Dy clA D (xW a cs) s H locs u8 → lv_has ls 6 [(0, .ref (a 2)), (1, .int x1), (2, .int ((u.2 5 x1.toNatClampNeg) + 1)), (3, .int r3), (4, .int r6)] → W p l e rm_P_linkClass s m args below meth c H locs 0 0 Q (F0 m 56 ls [.int z11, .ref (a 4)]) := by
      intro H locs ls I hl
      refine lv_bipush (v := 9) hx hb d_P_linkClass_56 (by decide) ?_
      refine lv_iload_n hx hb d_P_linkClass_58 rfl (lv_at hl 2 rfl) ?_
      obtain ⟨u12, h13, hk⟩ := cV_u hk
      refine go_V I (call_runV (rest := []) C I (c_W_need C.2.2.2.1 C.2.2.2.2.1 l h13 _) wd_W_need (q0 := 4) (ci := 4) rfl rfl k_298 ⟨rfl, rfl⟩ ⟨by decide, by decide⟩ rfl hl.1 rfl (Nat.le_of_ble_eq_true rfl) d_P_linkClass_59) (fun H locs I => ?_)
      refine lv_aload_n hx hb d_P_linkClass_62 rfl (lv_at hl 0 rfl) ?_
      refine g_P_walk C I k_84 d_P_linkClass_63 ?_
      refine lv_iload hx hb d_P_linkClass_66 (lv_at hl 4 rfl) ?_
      obtain ⟨⟨z14, u15⟩, hj19, hk⟩ := cT_u hk
      have Khj19 : ∀ (H : Heap) (locs : List Loc) (ls : Array Slot), Dy clA D (xW a cs) s H locs u15 → lv_has ls 6 [(0, .ref (a 2)), (1, .int x1), (2, .int ((u.2 5 x1.toNatClampNeg) + 1)), (4, .int r6)] → W p l e rm_P_linkClass s m args below meth c H locs 0 0 Q (F0 m 87 ls [.int z14, .ref (a 4)]) := by
        intro H locs ls I hl
        refine lv_bipush (v := 12) hx hb d_P_linkClass_87 (by decide) ?_
        refine lv_iload_n hx hb d_P_linkClass_89 rfl (lv_at hl 2 rfl) ?_
        obtain ⟨u16, h17, hk⟩ := cV_u hk
        refine go_V I (call_runV (rest := []) C I (c_W_need C.2.2.2.1 C.2.2.2.2.1 l h17 _) wd_W_need (q0 := 4) (ci := 4) rfl rfl k_298 ⟨rfl, rfl⟩ ⟨by decide, by decide⟩ rfl hl.1 rfl (Nat.le_of_ble_eq_true rfl) d_P_linkClass_90) (fun H locs I => ?_)
        refine lv_aload_n hx hb d_P_linkClass_93 rfl (lv_at hl 0 rfl) ?_
        refine g_P_measures C I k_88 d_P_linkClass_94 ?_
        refine lv_iload_n hx hb d_P_linkClass_97 rfl (lv_at hl 1 rfl) ?_
        refine lv_iload hx hb d_P_linkClass_98 (lv_at hl 3 rfl) ?_
        obtain ⟨hi, hk⟩ := gd_u hk
        refine s_P_measures C I hi d_P_linkClass_100 (fun H locs I => ?_)
        obtain ⟨u18, hu, hk⟩ := bnd_u hk
        rw [hu] at I
        clear hu
        exact hQ _ _ _ _ _ I hk d_P_linkClass_101
      refine lv_if_eq (tgt := 82) hx hb d_P_linkClass_68 (by decide) (fun hc => ?_) (fun hc => ?_)
      · replace hj19 := it_u hc hj19
        refine lv_iconst (v := 1) hx hb d_P_linkClass_82 (by decide) ?_
        refine lv_goto (tgt := 87) hx hb d_P_linkClass_83 (by decide) ?_
        obtain ⟨rfl, rfl⟩ := eo2 hj19
        exact Khj19 _ _ _ I (lv_sub hl [0, 1, 2, 4] rfl)
      · replace hj19 := ie_u hc hj19
        refine lv_aload_n hx hb d_P_linkClass_71 rfl (lv_at hl 0 rfl) ?_
        refine lv_iload_n hx hb d_P_linkClass_72 rfl (lv_at hl 3 rfl) ?_
        obtain ⟨r22, u20, h21, hj19⟩ := cI_u hj19
        refine go_I I (call_runV (rest := [.ref (a 4)]) C I (c_P_factsOf C.2.2.2.1 C.2.2.2.2.1 l h21 _) wd_P_factsOf (q0 := 2) (ci := 2) rfl rfl k_446 ⟨rfl, rfl⟩ ⟨by decide, by decide⟩ rfl hl.1 rfl (Nat.le_of_ble_eq_true rfl) d_P_linkClass_73) (fun H locs I => ?_)
        refine lv_bipush (v := 64) hx hb d_P_linkClass_76 (by decide) ?_
        refine lv_iand hx hb d_P_linkClass_78 ?_
        refine lv_if_ne (tgt := 86) hx hb d_P_linkClass_79 (by decide) (fun hc => ?_) (fun hc => ?_)
        · replace hj19 := ie_u hc hj19
          refine lv_iconst (v := 0) hx hb d_P_linkClass_86 (by decide) ?_
          obtain ⟨rfl, rfl⟩ := eo2 hj19
          exact Khj19 _ _ _ I (lv_sub hl [0, 1, 2, 4] rfl)
        · replace hj19 := it_u hc hj19
          refine lv_iconst (v := 1) hx hb d_P_linkClass_82 (by decide) ?_
          refine lv_goto (tgt := 87) hx hb d_P_linkClass_83 (by decide) ?_
          obtain ⟨rfl, rfl⟩ := eo2 hj19
          exact Khj19 _ _ _ I (lv_sub hl [0, 1, 2, 4] rfl)
    refine lv_if_eq (tgt := 55) hx hb d_P_linkClass_48 (by decide) (fun hc => ?_) (fun hc => ?_)
    · replace hj24 := it_u hc hj24
      refine lv_iconst (v := 0) hx hb d_P_linkClass_55 (by decide) ?_
      obtain rfl := ep1 hj24
      exact Khj24 _ _ _ I (lv_sub hl [1, 2, 3, 4, 5] rfl)
    · replace hj24 := ie_u hc hj24
      refine lv_iconst (v := 1) hx hb d_P_linkClass_51 (by decide) ?_
      refine lv_goto (tgt := 56) hx hb d_P_linkClass_52 (by decide) ?_
      obtain rfl := ep1 hj24
      exact Khj24 _ _ _ I (lv_sub hl [1, 2, 3, 4, 5] rfl)
  refine lv_if_le (tgt := 33) hx hb d_P_linkClass_25 (by decide) (fun hc => ?_) (fun hc => ?_)
  · replace hj25 := it_u hc hj25
    refine lv_iconst (v := 2) hx hb d_P_linkClass_33 (by decide) ?_
    obtain rfl := ep1 hj25
    exact Khj25 _ _ _ I (lv_sub hl [3, 4, 2, 1, 0] rfl)
  · replace hj25 := ie_u hc hj25
    refine lv_bipush (v := 16) hx hb d_P_linkClass_28 (by decide) ?_
    refine lv_goto (tgt := 34) hx hb d_P_linkClass_30 (by decide) ?_
    obtain rfl := ep1 hj25
    exact Khj25 _ _ _ I (lv_sub hl [3, 4, 2, 1, 0] rfl)
def rm_P_fits : Room := { frames := 0, cells := 0, slots := 0, locals := 0 }
noncomputable def f_P_fits (u : St) (x0 : Int32) (x1 : Int32) (x2 : Int32) : Option (Int32 × St) := bnd (if (x1 &&& 1) = 0 then (0) else (1)) fun (z1 : Int32) => if x0 = 9 then (bnd (if z1 = 0 then (0) else (if (x2 &&& 16) = 0 then (0) else (1))) fun (z6 : Int32) => gb z6 (some (z6, u))) else (bnd (if x0 = 10 then (if (x1 &&& 4) = 0 then (0) else (if (x2 &&& 128) = 0 then (0) else (1))) else (0)) fun (z2 : Int32) => bnd (if z1 = 0 then (if z2 = 0 then (0) else (if (x2 &&& 32) = 0 then (0) else (1))) else (if (x2 &&& 32) = 0 then (0) else (1))) fun (z3 : Int32) => gb z3 (some (z3, u)))
set_option maxHeartbeats 4000000 in
set_option maxRecDepth 100000 in
theorem c_P_fits {Z : zT} {D : va_G} {cs : Nat → ClassId} {a : Nat → Nat} (hw : wD (xW a cs)) (hz : zOK Z) (l : Launch) {u : St} {x0 : Int32} {x1 : Int32} {x2 : Int32} {r : Int32} {u' : St} (hk : f_P_fits u x0 x1 x2 = some (r, u')) : KI clA D cs (xW a cs) Z l y_P_fits (.code y_P_fits prog_4_method_13_code 5 (Option.some Jvm.ClassFile.FieldType.boolean)) rm_P_fits [.int x0, .int x1, .int x2] u r u' := by
  unfold f_P_fits at hk
  refine KZ.of (by decide) (Nat.le_of_ble_eq_true rfl) hw hz ?_
  intro p e s m args below meth c Q C I hQ ls hl
  have hl : lv_has ls 5 [(0, .int x0), (1, .int x1), (2, .int x2)] := hl
  have hx := C.1.1
  have hb := C.1.2.1
  refine lv_iload_n hx hb d_P_fits_0 rfl (lv_at hl 1 rfl) ?_
  refine lv_iconst (v := 1) hx hb d_P_fits_1 (by decide) ?_
  refine lv_iand hx hb d_P_fits_2 ?_
  obtain ⟨z1, hj8, hk⟩ := bnd_u hk
  have Khj8 : ∀ (H : Heap) (locs : List Loc) (ls : Array Slot), Dy clA D (xW a cs) s H locs u → lv_has ls 5 [(0, .int x0), (1, .int x1), (2, .int x2)] → W p l e rm_P_fits s m args below meth c H locs 0 0 Q (F0 m 11 ls [.int z1]) := by
    intro H locs ls I hl
    refine lv_istore_n (lv' := [(3, .int z1), (0, .int x0), (1, .int x1), (2, .int x2)]) hx hb d_P_fits_11 rfl hl (by decide) rfl (fun ls hl => ?_)
    refine lv_iload_n hx hb d_P_fits_12 rfl (lv_at hl 1 rfl) ?_
    refine lv_bipush (v := 9) hx hb d_P_fits_13 (by decide) ?_
    refine lv_icmp_ne (tgt := 35) hx hb d_P_fits_15 (by decide) (fun hc => ?_) (fun hc => ?_)
    · replace hk := ie_u hc hk
      refine lv_iload_n hx hb d_P_fits_35 rfl (lv_at hl 1 rfl) ?_
      refine lv_bipush (v := 10) hx hb d_P_fits_36 (by decide) ?_
      obtain ⟨z2, hj5, hk⟩ := bnd_u hk
      have Khj5 : ∀ (H : Heap) (locs : List Loc) (ls : Array Slot), Dy clA D (xW a cs) s H locs u → lv_has ls 5 [(2, .int x2), (3, .int z1)] → W p l e rm_P_fits s m args below meth c H locs 0 0 Q (F0 m 60 ls [.int z2]) := by
        intro H locs ls I hl
        refine lv_istore (lv' := [(4, .int z2), (2, .int x2), (3, .int z1)]) hx hb d_P_fits_60 hl (by decide) rfl (fun ls hl => ?_)
        refine lv_iload_n hx hb d_P_fits_62 rfl (lv_at hl 2 rfl) ?_
        obtain ⟨z3, hj4, hk⟩ := bnd_u hk
        have Khj4 : ∀ (H : Heap) (locs : List Loc) (ls : Array Slot), Dy clA D (xW a cs) s H locs u → lv_has ls 5 [] → W p l e rm_P_fits s m args below meth c H locs 0 0 Q (F0 m 83 ls [.int z3]) := by
          intro H locs ls I hl
          exact hQ _ _ _ _ _ _ I hk d_P_fits_83
        refine lv_if_ne (tgt := 71) hx hb d_P_fits_63 (by decide) (fun hc => ?_) (fun hc => ?_)
        · replace hj4 := ie_u hc hj4
          refine lv_iload_n hx hb d_P_fits_71 rfl (lv_at hl 1 rfl) ?_
          refine lv_bipush (v := 32) hx hb d_P_fits_72 (by decide) ?_
          refine lv_iand hx hb d_P_fits_74 ?_
          refine lv_if_eq (tgt := 82) hx hb d_P_fits_75 (by decide) (fun hc => ?_) (fun hc => ?_)
          · replace hj4 := it_u hc hj4
            refine lv_iconst (v := 0) hx hb d_P_fits_82 (by decide) ?_
            obtain rfl := ep1 hj4
            exact Khj4 _ _ _ I (lv_sub hl [] rfl)
          · replace hj4 := ie_u hc hj4
            refine lv_iconst (v := 1) hx hb d_P_fits_78 (by decide) ?_
            refine lv_goto (tgt := 83) hx hb d_P_fits_79 (by decide) ?_
            obtain rfl := ep1 hj4
            exact Khj4 _ _ _ I (lv_sub hl [] rfl)
        · replace hj4 := it_u hc hj4
          refine lv_iload hx hb d_P_fits_66 (lv_at hl 0 rfl) ?_
          refine lv_if_eq (tgt := 82) hx hb d_P_fits_68 (by decide) (fun hc => ?_) (fun hc => ?_)
          · replace hj4 := it_u hc hj4
            refine lv_iconst (v := 0) hx hb d_P_fits_82 (by decide) ?_
            obtain rfl := ep1 hj4
            exact Khj4 _ _ _ I (lv_sub hl [] rfl)
          · replace hj4 := ie_u hc hj4
            refine lv_iload_n hx hb d_P_fits_71 rfl (lv_at hl 1 rfl) ?_
            refine lv_bipush (v := 32) hx hb d_P_fits_72 (by decide) ?_
            refine lv_iand hx hb d_P_fits_74 ?_
            refine lv_if_eq (tgt := 82) hx hb d_P_fits_75 (by decide) (fun hc => ?_) (fun hc => ?_)
            · replace hj4 := it_u hc hj4
              refine lv_iconst (v := 0) hx hb d_P_fits_82 (by decide) ?_
              obtain rfl := ep1 hj4
              exact Khj4 _ _ _ I (lv_sub hl [] rfl)
            · replace hj4 := ie_u hc hj4
              refine lv_iconst (v := 1) hx hb d_P_fits_78 (by decide) ?_
              refine lv_goto (tgt := 83) hx hb d_P_fits_79 (by decide) ?_
              obtain rfl := ep1 hj4
              exact Khj4 _ _ _ I (lv_sub hl [] rfl)
      refine lv_icmp_ne (tgt := 59) hx hb d_P_fits_38 (by decide) (fun hc => ?_) (fun hc => ?_)
      · replace hj5 := ie_u hc hj5
        refine lv_iconst (v := 0) hx hb d_P_fits_59 (by decide) ?_
        obtain rfl := ep1 hj5
        exact Khj5 _ _ _ I (lv_sub hl [3, 0] rfl)
      · replace hj5 := it_u hc hj5
        refine lv_iload_n hx hb d_P_fits_41 rfl (lv_at hl 2 rfl) ?_
        refine lv_iconst (v := 4) hx hb d_P_fits_42 (by decide) ?_
        refine lv_iand hx hb d_P_fits_43 ?_
        refine lv_if_eq (tgt := 59) hx hb d_P_fits_44 (by decide) (fun hc => ?_) (fun hc => ?_)
        · replace hj5 := it_u hc hj5
          refine lv_iconst (v := 0) hx hb d_P_fits_59 (by decide) ?_
          obtain rfl := ep1 hj5
          exact Khj5 _ _ _ I (lv_sub hl [3, 0] rfl)
        · replace hj5 := ie_u hc hj5
          refine lv_iload_n hx hb d_P_fits_47 rfl (lv_at hl 3 rfl) ?_
          refine lv_sipush (v := 128) hx hb d_P_fits_48 (by decide) ?_
          refine lv_iand hx hb d_P_fits_51 ?_
          refine lv_if_eq (tgt := 59) hx hb d_P_fits_52 (by decide) (fun hc => ?_) (fun hc => ?_)
          · replace hj5 := it_u hc hj5
            refine lv_iconst (v := 0) hx hb d_P_fits_59 (by decide) ?_
            obtain rfl := ep1 hj5
            exact Khj5 _ _ _ I (lv_sub hl [3, 0] rfl)
          · replace hj5 := ie_u hc hj5
            refine lv_iconst (v := 1) hx hb d_P_fits_55 (by decide) ?_
            refine lv_goto (tgt := 60) hx hb d_P_fits_56 (by decide) ?_
            obtain rfl := ep1 hj5
            exact Khj5 _ _ _ I (lv_sub hl [3, 0] rfl)
    · replace hk := it_u hc hk
      refine lv_iload_n hx hb d_P_fits_18 rfl (lv_at hl 0 rfl) ?_
      obtain ⟨z6, hj7, hk⟩ := bnd_u hk
      have Khj7 : ∀ (H : Heap) (locs : List Loc) (ls : Array Slot), Dy clA D (xW a cs) s H locs u → lv_has ls 5 [] → W p l e rm_P_fits s m args below meth c H locs 0 0 Q (F0 m 34 ls [.int z6]) := by
        intro H locs ls I hl
        exact hQ _ _ _ _ _ _ I hk d_P_fits_34
      refine lv_if_eq (tgt := 33) hx hb d_P_fits_19 (by decide) (fun hc => ?_) (fun hc => ?_)
      · replace hj7 := it_u hc hj7
        refine lv_iconst (v := 0) hx hb d_P_fits_33 (by decide) ?_
        obtain rfl := ep1 hj7
        exact Khj7 _ _ _ I (lv_sub hl [] rfl)
      · replace hj7 := ie_u hc hj7
        refine lv_iload_n hx hb d_P_fits_22 rfl (lv_at hl 3 rfl) ?_
        refine lv_bipush (v := 16) hx hb d_P_fits_23 (by decide) ?_
        refine lv_iand hx hb d_P_fits_25 ?_
        refine lv_if_eq (tgt := 33) hx hb d_P_fits_26 (by decide) (fun hc => ?_) (fun hc => ?_)
        · replace hj7 := it_u hc hj7
          refine lv_iconst (v := 0) hx hb d_P_fits_33 (by decide) ?_
          obtain rfl := ep1 hj7
          exact Khj7 _ _ _ I (lv_sub hl [] rfl)
        · replace hj7 := ie_u hc hj7
          refine lv_iconst (v := 1) hx hb d_P_fits_29 (by decide) ?_
          refine lv_goto (tgt := 34) hx hb d_P_fits_30 (by decide) ?_
          obtain rfl := ep1 hj7
          exact Khj7 _ _ _ I (lv_sub hl [] rfl)
  refine lv_if_eq (tgt := 10) hx hb d_P_fits_3 (by decide) (fun hc => ?_) (fun hc => ?_)
  · replace hj8 := it_u hc hj8
    refine lv_iconst (v := 0) hx hb d_P_fits_10 (by decide) ?_
    obtain rfl := ep1 hj8
    exact Khj8 _ _ _ I (lv_sub hl [0, 1, 2] rfl)
  · replace hj8 := ie_u hc hj8
    refine lv_iconst (v := 1) hx hb d_P_fits_6 (by decide) ?_
    refine lv_goto (tgt := 11) hx hb d_P_fits_7 (by decide) ?_
    obtain rfl := ep1 hj8
    exact Khj8 _ _ _ I (lv_sub hl [0, 1, 2] rfl)
def rm_P_secondOf : Room := { frames := 1, cells := 0, slots := 0, locals := 24 }
noncomputable def f_P_secondOf (u : St) (x1 : Int32) : Option (Int32 × St) := cI (f_P_within u x1) fun r3 u1 => cT (if r3 = 0 then (some (0, u1)) else (gd x1 300 (cI (f_W_numberAt u1 ((u1.2 5 x1.toNatClampNeg) + 3) 2) fun r9 u7 => some (r9, u7)))) fun (p10 : Int32 × St) => some (p10.1, p10.2)
set_option maxHeartbeats 4000000 in
set_option maxRecDepth 100000 in
theorem c_P_secondOf {Z : zT} {D : va_G} {cs : Nat → ClassId} {a : Nat → Nat} (hw : wD (xW a cs)) (hz : zOK Z) (l : Launch) {u : St} {x1 : Int32} {r : Int32} {u' : St} (hk : f_P_secondOf u x1 = some (r, u')) : KI clA D cs (xW a cs) Z l y_P_secondOf (.code y_P_secondOf prog_4_method_22_code 2 (Option.some Jvm.ClassFile.FieldType.int)) rm_P_secondOf [.ref (a 2), .int x1] u r u' := by
  unfold f_P_secondOf at hk
  refine KI.of (by decide) (Nat.le_of_ble_eq_true rfl) rfl hw hz ?_
  intro p e s m args below meth c Q C I hQ ls hl
  have hl : lv_has ls 2 [(0, .ref (a 2)), (1, .int x1)] := hl
  have hx := C.1.1
  have hb := C.1.2.1
  refine lv_aload_n hx hb d_P_secondOf_0 rfl (lv_at hl 0 rfl) ?_
  refine lv_iload_n hx hb d_P_secondOf_1 rfl (lv_at hl 1 rfl) ?_
  obtain ⟨r3, u1, h2, hk⟩ := cI_u hk
  refine go_I I (call_runV (rest := []) C I (c_P_within C.2.2.2.1 C.2.2.2.2.1 l h2 _) wd_P_within (q0 := 2) (ci := 2) rfl rfl k_331 ⟨rfl, rfl⟩ ⟨by decide, by decide⟩ rfl hl.1 rfl (Nat.le_of_ble_eq_true rfl) d_P_secondOf_2) (fun H locs I => ?_)
  obtain ⟨⟨z4, u5⟩, hj6, hk⟩ := cT_u hk
  have Khj6 : ∀ (H : Heap) (locs : List Loc) (ls : Array Slot), Dy clA D (xW a cs) s H locs u5 → lv_has ls 2 [] → W p l e rm_P_secondOf s m args below meth c H locs 0 0 Q (F0 m 28 ls [.int z4]) := by
    intro H locs ls I hl
    exact hQ _ _ _ _ _ _ I hk d_P_secondOf_28
  refine lv_if_eq (tgt := 27) hx hb d_P_secondOf_5 (by decide) (fun hc => ?_) (fun hc => ?_)
  · replace hj6 := it_u hc hj6
    refine lv_iconst (v := 0) hx hb d_P_secondOf_27 (by decide) ?_
    obtain ⟨rfl, rfl⟩ := eo2 hj6
    exact Khj6 _ _ _ I (lv_sub hl [] rfl)
  · replace hj6 := ie_u hc hj6
    refine lv_aload_n hx hb d_P_secondOf_8 rfl (lv_at hl 0 rfl) ?_
    refine g_P_walk C I k_84 d_P_secondOf_9 ?_
    refine lv_aload_n hx hb d_P_secondOf_12 rfl (lv_at hl 0 rfl) ?_
    refine g_P_places C I k_86 d_P_secondOf_13 ?_
    refine lv_iload_n hx hb d_P_secondOf_16 rfl (lv_at hl 1 rfl) ?_
    obtain ⟨hi, hj6⟩ := gd_u hj6
    refine l_P_places C I hi d_P_secondOf_17 ?_
    refine lv_iconst (v := 3) hx hb d_P_secondOf_18 (by decide) ?_
    refine lv_iadd hx hb d_P_secondOf_19 ?_
    refine lv_iconst (v := 2) hx hb d_P_secondOf_20 (by decide) ?_
    obtain ⟨r9, u7, h8, hj6⟩ := cI_u hj6
    refine go_I I (call_runV (rest := []) C I (c_W_numberAt C.2.2.2.1 C.2.2.2.2.1 l h8 _) wd_W_numberAt (q0 := 4) (ci := 4) rfl rfl k_307 ⟨rfl, rfl⟩ ⟨by decide, by decide⟩ rfl hl.1 rfl (Nat.le_of_ble_eq_true rfl) d_P_secondOf_21) (fun H locs I => ?_)
    refine lv_goto (tgt := 28) hx hb d_P_secondOf_24 (by decide) ?_
    obtain ⟨rfl, rfl⟩ := eo2 hj6
    exact Khj6 _ _ _ I (lv_sub hl [] rfl)
def rm_P_linkMember : Room := { frames := 2, cells := 0, slots := 0, locals := 47 }
noncomputable def f_P_linkMember (u : St) (x1 : Int32) : Option (St) := gd x1 300 (cI (f_P_refer u ((u.2 5 x1.toNatClampNeg) + 1) 7) fun r3 u1 => cI (f_P_refer u1 (((u.2 5 x1.toNatClampNeg) + 1) + 2) 12) fun r6 u4 => cI (f_P_firstOf u4 r6) fun r9 u7 => cI (f_P_factsOf u7 r9) fun r12 u10 => cI (f_P_secondOf u10 r6) fun r15 u13 => cI (f_P_factsOf u13 r15) fun r18 u16 => gd x1 300 (cI (f_P_fits u16 (u16.2 4 x1.toNatClampNeg) r12 r18) fun r21 u19 => cV (f_W_need u19 r21 10 (((u.2 5 x1.toNatClampNeg) + 1) + 2)) fun u22 => gd x1 300 (bnd (sa u22 6 x1.toNatClampNeg (r12 &&& 4)) fun u24 => cI (f_P_secondOf u24 r6) fun r27 u25 => cI (f_P_measureOf u25 r27) fun r30 u28 => gd x1 300 (bnd (sa u28 7 x1.toNatClampNeg r30) fun u31 => some u31))))
set_option maxHeartbeats 4000000 in
set_option maxRecDepth 100000 in
theorem c_P_linkMember {Z : zT} {D : va_G} {cs : Nat → ClassId} {a : Nat → Nat} (hw : wD (xW a cs)) (hz : zOK Z) (l : Launch) {u : St} {x1 : Int32} {u' : St} (hk : f_P_linkMember u x1 = some u') : KV clA D cs (xW a cs) Z l y_P_linkMember (.code y_P_linkMember prog_4_method_12_code 6 (Option.none : Option Jvm.ClassFile.FieldType)) rm_P_linkMember [.ref (a 2), .int x1] u u' := by
  unfold f_P_linkMember at hk
  refine KV.of (by decide) (Nat.le_of_ble_eq_true rfl) hw hz ?_
  intro p e s m args below meth c Q C I hQ ls hl
  have hl : lv_has ls 6 [(0, .ref (a 2)), (1, .int x1)] := hl
  have hx := C.1.1
  have hb := C.1.2.1
  refine lv_aload_n hx hb d_P_linkMember_0 rfl (lv_at hl 0 rfl) ?_
  refine g_P_places C I k_86 d_P_linkMember_1 ?_
  refine lv_iload_n hx hb d_P_linkMember_4 rfl (lv_at hl 1 rfl) ?_
  obtain ⟨hi, hk⟩ := gd_u hk
  refine l_P_places C I hi d_P_linkMember_5 ?_
  refine lv_iconst (v := 1) hx hb d_P_linkMember_6 (by decide) ?_
  refine lv_iadd hx hb d_P_linkMember_7 ?_
  refine lv_istore_n (lv' := [(2, .int ((u.2 5 x1.toNatClampNeg) + 1)), (0, .ref (a 2)), (1, .int x1)]) hx hb d_P_linkMember_8 rfl hl (by decide) rfl (fun ls hl => ?_)
  refine lv_aload_n hx hb d_P_linkMember_9 rfl (lv_at hl 1 rfl) ?_
  refine lv_iload_n hx hb d_P_linkMember_10 rfl (lv_at hl 0 rfl) ?_
  refine lv_bipush (v := 7) hx hb d_P_linkMember_11 (by decide) ?_
  obtain ⟨r3, u1, h2, hk⟩ := cI_u hk
  refine go_I I (call_runV (rest := []) C I (c_P_refer C.2.2.2.1 C.2.2.2.2.1 l h2 _) wd_P_refer (q0 := 2) (ci := 2) rfl rfl k_434 ⟨rfl, rfl⟩ ⟨by decide, by decide⟩ rfl hl.1 rfl (Nat.le_of_ble_eq_true rfl) d_P_linkMember_13) (fun H locs I => ?_)
  refine lv_pop hx hb d_P_linkMember_16 rfl ?_
  refine lv_aload_n hx hb d_P_linkMember_17 rfl (lv_at hl 1 rfl) ?_
  refine lv_iload_n hx hb d_P_linkMember_18 rfl (lv_at hl 0 rfl) ?_
  refine lv_iconst (v := 2) hx hb d_P_linkMember_19 (by decide) ?_
  refine lv_iadd hx hb d_P_linkMember_20 ?_
  refine lv_bipush (v := 12) hx hb d_P_linkMember_21 (by decide) ?_
  obtain ⟨r6, u4, h5, hk⟩ := cI_u hk
  refine go_I I (call_runV (rest := []) C I (c_P_refer C.2.2.2.1 C.2.2.2.2.1 l h5 _) wd_P_refer (q0 := 2) (ci := 2) rfl rfl k_434 ⟨rfl, rfl⟩ ⟨by decide, by decide⟩ rfl hl.1 rfl (Nat.le_of_ble_eq_true rfl) d_P_linkMember_23) (fun H locs I => ?_)
  refine lv_istore_n (lv' := [(3, .int r6), (2, .int ((u.2 5 x1.toNatClampNeg) + 1)), (0, .ref (a 2)), (1, .int x1)]) hx hb d_P_linkMember_26 rfl hl (by decide) rfl (fun ls hl => ?_)
  refine lv_aload_n hx hb d_P_linkMember_27 rfl (lv_at hl 2 rfl) ?_
  refine lv_aload_n hx hb d_P_linkMember_28 rfl (lv_at hl 2 rfl) ?_
  refine lv_iload_n hx hb d_P_linkMember_29 rfl (lv_at hl 0 rfl) ?_
  obtain ⟨r9, u7, h8, hk⟩ := cI_u hk
  refine go_I I (call_runV (rest := [.ref (a 2)]) C I (c_P_firstOf C.2.2.2.1 C.2.2.2.2.1 l h8 _) wd_P_firstOf (q0 := 2) (ci := 2) rfl rfl k_327 ⟨rfl, rfl⟩ ⟨by decide, by decide⟩ rfl hl.1 rfl (Nat.le_of_ble_eq_true rfl) d_P_linkMember_30) (fun H locs I => ?_)
  obtain ⟨r12, u10, h11, hk⟩ := cI_u hk
  refine go_I I (call_runV (rest := []) C I (c_P_factsOf C.2.2.2.1 C.2.2.2.2.1 l h11 _) wd_P_factsOf (q0 := 2) (ci := 2) rfl rfl k_446 ⟨rfl, rfl⟩ ⟨by decide, by decide⟩ rfl hl.1 rfl (Nat.le_of_ble_eq_true rfl) d_P_linkMember_33) (fun H locs I => ?_)
  refine lv_istore (lv' := [(4, .int r12), (3, .int r6), (2, .int ((u.2 5 x1.toNatClampNeg) + 1)), (0, .ref (a 2)), (1, .int x1)]) hx hb d_P_linkMember_36 hl (by decide) rfl (fun ls hl => ?_)
  refine lv_aload_n hx hb d_P_linkMember_38 rfl (lv_at hl 3 rfl) ?_
  refine lv_aload_n hx hb d_P_linkMember_39 rfl (lv_at hl 3 rfl) ?_
  refine lv_iload_n hx hb d_P_linkMember_40 rfl (lv_at hl 1 rfl) ?_
  obtain ⟨r15, u13, h14, hk⟩ := cI_u hk
  refine go_I I (call_runV (rest := [.ref (a 2)]) C I (c_P_secondOf C.2.2.2.1 C.2.2.2.2.1 l h14 _) wd_P_secondOf (q0 := 2) (ci := 2) rfl rfl k_462 ⟨rfl, rfl⟩ ⟨by decide, by decide⟩ rfl hl.1 rfl (Nat.le_of_ble_eq_true rfl) d_P_linkMember_41) (fun H locs I => ?_)
  obtain ⟨r18, u16, h17, hk⟩ := cI_u hk
  refine go_I I (call_runV (rest := []) C I (c_P_factsOf C.2.2.2.1 C.2.2.2.2.1 l h17 _) wd_P_factsOf (q0 := 2) (ci := 2) rfl rfl k_446 ⟨rfl, rfl⟩ ⟨by decide, by decide⟩ rfl hl.1 rfl (Nat.le_of_ble_eq_true rfl) d_P_linkMember_44) (fun H locs I => ?_)
  refine lv_istore (lv' := [(5, .int r18), (4, .int r12), (3, .int r6), (2, .int ((u.2 5 x1.toNatClampNeg) + 1)), (0, .ref (a 2)), (1, .int x1)]) hx hb d_P_linkMember_47 hl (by decide) rfl (fun ls hl => ?_)
  refine lv_aload_n hx hb d_P_linkMember_49 rfl (lv_at hl 4 rfl) ?_
  refine g_P_walk C I k_84 d_P_linkMember_50 ?_
  refine lv_aload_n hx hb d_P_linkMember_53 rfl (lv_at hl 4 rfl) ?_
  refine g_P_kinds C I k_80 d_P_linkMember_54 ?_
  refine lv_iload_n hx hb d_P_linkMember_57 rfl (lv_at hl 5 rfl) ?_
  obtain ⟨hi, hk⟩ := gd_u hk
  refine l_P_kinds C I hi d_P_linkMember_58 ?_
  refine lv_iload hx hb d_P_linkMember_59 (lv_at hl 1 rfl) ?_
  refine lv_iload hx hb d_P_linkMember_61 (lv_at hl 0 rfl) ?_
  obtain ⟨r21, u19, h20, hk⟩ := cI_u hk
  refine go_I I (call_runS (rest := [.ref (a 4)]) C I (c_P_fits C.2.2.2.1 C.2.2.2.2.1 l h20 _) wd_P_fits k_466 ⟨rfl, rfl⟩ ⟨by decide, by decide⟩ rfl hl.1 rfl (Nat.le_of_ble_eq_true rfl) d_P_linkMember_63) (fun H locs I => ?_)
  refine lv_bipush (v := 10) hx hb d_P_linkMember_66 (by decide) ?_
  refine lv_iload_n hx hb d_P_linkMember_68 rfl (lv_at hl 3 rfl) ?_
  refine lv_iconst (v := 2) hx hb d_P_linkMember_69 (by decide) ?_
  refine lv_iadd hx hb d_P_linkMember_70 ?_
  obtain ⟨u22, h23, hk⟩ := cV_u hk
  refine go_V I (call_runV (rest := []) C I (c_W_need C.2.2.2.1 C.2.2.2.2.1 l h23 _) wd_W_need (q0 := 4) (ci := 4) rfl rfl k_298 ⟨rfl, rfl⟩ ⟨by decide, by decide⟩ rfl hl.1 rfl (Nat.le_of_ble_eq_true rfl) d_P_linkMember_71) (fun H locs I => ?_)
  refine lv_aload_n hx hb d_P_linkMember_74 rfl (lv_at hl 4 rfl) ?_
  refine g_P_facts C I k_87 d_P_linkMember_75 ?_
  refine lv_iload_n hx hb d_P_linkMember_78 rfl (lv_at hl 5 rfl) ?_
  refine lv_iload hx hb d_P_linkMember_79 (lv_at hl 1 rfl) ?_
  refine lv_iconst (v := 4) hx hb d_P_linkMember_81 (by decide) ?_
  refine lv_iand hx hb d_P_linkMember_82 ?_
  obtain ⟨hi, hk⟩ := gd_u hk
  refine s_P_facts C I hi d_P_linkMember_83 (fun H locs I => ?_)
  obtain ⟨u24, hu, hk⟩ := bnd_u hk
  rw [hu] at I
  clear hu
  refine lv_aload_n hx hb d_P_linkMember_84 rfl (lv_at hl 4 rfl) ?_
  refine g_P_measures C I k_88 d_P_linkMember_85 ?_
  refine lv_iload_n hx hb d_P_linkMember_88 rfl (lv_at hl 5 rfl) ?_
  refine lv_aload_n hx hb d_P_linkMember_89 rfl (lv_at hl 4 rfl) ?_
  refine lv_aload_n hx hb d_P_linkMember_90 rfl (lv_at hl 4 rfl) ?_
  refine lv_iload_n hx hb d_P_linkMember_91 rfl (lv_at hl 2 rfl) ?_
  obtain ⟨r27, u25, h26, hk⟩ := cI_u hk
  refine go_I I (call_runV (rest := [.ref (a 2), .int x1, .ref (a 14)]) C I (c_P_secondOf C.2.2.2.1 C.2.2.2.2.1 l h26 _) wd_P_secondOf (q0 := 2) (ci := 2) rfl rfl k_462 ⟨rfl, rfl⟩ ⟨by decide, by decide⟩ rfl hl.1 rfl (Nat.le_of_ble_eq_true rfl) d_P_linkMember_92) (fun H locs I => ?_)
  obtain ⟨r30, u28, h29, hk⟩ := cI_u hk
  refine go_I I (call_runV (rest := [.int x1, .ref (a 14)]) C I (c_P_measureOf C.2.2.2.1 C.2.2.2.2.1 l h29 _) wd_P_measureOf (q0 := 2) (ci := 2) rfl rfl k_469 ⟨rfl, rfl⟩ ⟨by decide, by decide⟩ rfl hl.1 rfl (Nat.le_of_ble_eq_true rfl) d_P_linkMember_95) (fun H locs I => ?_)
  obtain ⟨hi, hk⟩ := gd_u hk
  refine s_P_measures C I hi d_P_linkMember_98 (fun H locs I => ?_)
  obtain ⟨u31, hu, hk⟩ := bnd_u hk
  rw [hu] at I
  clear hu
  exact hQ _ _ _ _ _ I hk d_P_linkMember_99
def rm_P_linkNamed : Room := { frames := 2, cells := 0, slots := 0, locals := 47 }
noncomputable def f_P_linkNamed (u : St) (x1 : Int32) : Option (St) := gd x1 300 (cI (f_P_refer u ((u.2 5 x1.toNatClampNeg) + 1) 1) fun r3 u1 => cI (f_P_factsOf u1 r3) fun r6 u4 => bnd (if (r6 &&& 13) = 0 then (0) else (1)) fun (z7 : Int32) => cV (f_W_need u4 z7 9 ((u.2 5 x1.toNatClampNeg) + 1)) fun u8 => cI (f_P_refer u8 (((u.2 5 x1.toNatClampNeg) + 1) + 2) 1) fun r12 u10 => cV (f_P_needType u10 r12 48 (((u.2 5 x1.toNatClampNeg) + 1) + 2)) fun u13 => some u13)
set_option maxHeartbeats 4000000 in
set_option maxRecDepth 100000 in
theorem c_P_linkNamed {Z : zT} {D : va_G} {cs : Nat → ClassId} {a : Nat → Nat} (hw : wD (xW a cs)) (hz : zOK Z) (l : Launch) {u : St} {x1 : Int32} {u' : St} (hk : f_P_linkNamed u x1 = some u') : KV clA D cs (xW a cs) Z l y_P_linkNamed (.code y_P_linkNamed prog_4_method_11_code 5 (Option.none : Option Jvm.ClassFile.FieldType)) rm_P_linkNamed [.ref (a 2), .int x1] u u' := by
  unfold f_P_linkNamed at hk
  refine KV.of (by decide) (Nat.le_of_ble_eq_true rfl) hw hz ?_
  intro p e s m args below meth c Q C I hQ ls hl
  have hl : lv_has ls 5 [(0, .ref (a 2)), (1, .int x1)] := hl
  have hx := C.1.1
  have hb := C.1.2.1
  refine lv_aload_n hx hb d_P_linkNamed_0 rfl (lv_at hl 0 rfl) ?_
  refine g_P_places C I k_86 d_P_linkNamed_1 ?_
  refine lv_iload_n hx hb d_P_linkNamed_4 rfl (lv_at hl 1 rfl) ?_
  obtain ⟨hi, hk⟩ := gd_u hk
  refine l_P_places C I hi d_P_linkNamed_5 ?_
  refine lv_iconst (v := 1) hx hb d_P_linkNamed_6 (by decide) ?_
  refine lv_iadd hx hb d_P_linkNamed_7 ?_
  refine lv_istore_n (lv' := [(2, .int ((u.2 5 x1.toNatClampNeg) + 1)), (0, .ref (a 2)), (1, .int x1)]) hx hb d_P_linkNamed_8 rfl hl (by decide) rfl (fun ls hl => ?_)
  refine lv_aload_n hx hb d_P_linkNamed_9 rfl (lv_at hl 1 rfl) ?_
  refine lv_iload_n hx hb d_P_linkNamed_10 rfl (lv_at hl 0 rfl) ?_
  refine lv_iconst (v := 1) hx hb d_P_linkNamed_11 (by decide) ?_
  obtain ⟨r3, u1, h2, hk⟩ := cI_u hk
  refine go_I I (call_runV (rest := []) C I (c_P_refer C.2.2.2.1 C.2.2.2.2.1 l h2 _) wd_P_refer (q0 := 2) (ci := 2) rfl rfl k_434 ⟨rfl, rfl⟩ ⟨by decide, by decide⟩ rfl hl.1 rfl (Nat.le_of_ble_eq_true rfl) d_P_linkNamed_12) (fun H locs I => ?_)
  refine lv_istore_n (lv' := [(3, .int r3), (2, .int ((u.2 5 x1.toNatClampNeg) + 1)), (0, .ref (a 2)), (1, .int x1)]) hx hb d_P_linkNamed_15 rfl hl (by decide) rfl (fun ls hl => ?_)
  refine lv_aload_n hx hb d_P_linkNamed_16 rfl (lv_at hl 2 rfl) ?_
  refine g_P_walk C I k_84 d_P_linkNamed_17 ?_
  refine lv_aload_n hx hb d_P_linkNamed_20 rfl (lv_at hl 2 rfl) ?_
  refine lv_iload_n hx hb d_P_linkNamed_21 rfl (lv_at hl 0 rfl) ?_
  obtain ⟨r6, u4, h5, hk⟩ := cI_u hk
  refine go_I I (call_runV (rest := [.ref (a 4)]) C I (c_P_factsOf C.2.2.2.1 C.2.2.2.2.1 l h5 _) wd_P_factsOf (q0 := 2) (ci := 2) rfl rfl k_446 ⟨rfl, rfl⟩ ⟨by decide, by decide⟩ rfl hl.1 rfl (Nat.le_of_ble_eq_true rfl) d_P_linkNamed_22) (fun H locs I => ?_)
  refine lv_bipush (v := 13) hx hb d_P_linkNamed_25 (by decide) ?_
  refine lv_iand hx hb d_P_linkNamed_27 ?_
  obtain ⟨z7, hj15, hk⟩ := bnd_u hk
  have Khj15 : ∀ (H : Heap) (locs : List Loc) (ls : Array Slot), Dy clA D (xW a cs) s H locs u4 → lv_has ls 5 [(0, .ref (a 2)), (2, .int ((u.2 5 x1.toNatClampNeg) + 1))] → W p l e rm_P_linkNamed s m args below meth c H locs 0 0 Q (F0 m 36 ls [.int z7, .ref (a 4)]) := by
    intro H locs ls I hl
    refine lv_bipush (v := 9) hx hb d_P_linkNamed_36 (by decide) ?_
    refine lv_iload_n hx hb d_P_linkNamed_38 rfl (lv_at hl 1 rfl) ?_
    obtain ⟨u8, h9, hk⟩ := cV_u hk
    refine go_V I (call_runV (rest := []) C I (c_W_need C.2.2.2.1 C.2.2.2.2.1 l h9 _) wd_W_need (q0 := 4) (ci := 4) rfl rfl k_298 ⟨rfl, rfl⟩ ⟨by decide, by decide⟩ rfl hl.1 rfl (Nat.le_of_ble_eq_true rfl) d_P_linkNamed_39) (fun H locs I => ?_)
    refine lv_aload_n hx hb d_P_linkNamed_42 rfl (lv_at hl 0 rfl) ?_
    refine lv_iload_n hx hb d_P_linkNamed_43 rfl (lv_at hl 1 rfl) ?_
    refine lv_iconst (v := 2) hx hb d_P_linkNamed_44 (by decide) ?_
    refine lv_iadd hx hb d_P_linkNamed_45 ?_
    refine lv_iconst (v := 1) hx hb d_P_linkNamed_46 (by decide) ?_
    obtain ⟨r12, u10, h11, hk⟩ := cI_u hk
    refine go_I I (call_runV (rest := []) C I (c_P_refer C.2.2.2.1 C.2.2.2.2.1 l h11 _) wd_P_refer (q0 := 2) (ci := 2) rfl rfl k_434 ⟨rfl, rfl⟩ ⟨by decide, by decide⟩ rfl hl.1 rfl (Nat.le_of_ble_eq_true rfl) d_P_linkNamed_47) (fun H locs I => ?_)
    refine lv_istore (lv' := [(4, .int r12), (0, .ref (a 2)), (2, .int ((u.2 5 x1.toNatClampNeg) + 1))]) hx hb d_P_linkNamed_50 hl (by decide) rfl (fun ls hl => ?_)
    refine lv_aload_n hx hb d_P_linkNamed_52 rfl (lv_at hl 1 rfl) ?_
    refine lv_iload hx hb d_P_linkNamed_53 (lv_at hl 0 rfl) ?_
    refine lv_bipush (v := 48) hx hb d_P_linkNamed_55 (by decide) ?_
    refine lv_iload_n hx hb d_P_linkNamed_57 rfl (lv_at hl 2 rfl) ?_
    refine lv_iconst (v := 2) hx hb d_P_linkNamed_58 (by decide) ?_
    refine lv_iadd hx hb d_P_linkNamed_59 ?_
    obtain ⟨u13, h14, hk⟩ := cV_u hk
    refine go_V I (call_runV (rest := []) C I (c_P_needType C.2.2.2.1 C.2.2.2.2.1 l h14 _) wd_P_needType (q0 := 2) (ci := 2) rfl rfl k_454 ⟨rfl, rfl⟩ ⟨by decide, by decide⟩ rfl hl.1 rfl (Nat.le_of_ble_eq_true rfl) d_P_linkNamed_60) (fun H locs I => ?_)
    exact hQ _ _ _ _ _ I hk d_P_linkNamed_63
  refine lv_if_eq (tgt := 35) hx hb d_P_linkNamed_28 (by decide) (fun hc => ?_) (fun hc => ?_)
  · replace hj15 := it_u hc hj15
    refine lv_iconst (v := 0) hx hb d_P_linkNamed_35 (by decide) ?_
    obtain rfl := ep1 hj15
    exact Khj15 _ _ _ I (lv_sub hl [2, 1] rfl)
  · replace hj15 := ie_u hc hj15
    refine lv_iconst (v := 1) hx hb d_P_linkNamed_31 (by decide) ?_
    refine lv_goto (tgt := 36) hx hb d_P_linkNamed_32 (by decide) ?_
    obtain rfl := ep1 hj15
    exact Khj15 _ _ _ I (lv_sub hl [2, 1] rfl)
def rm_P_readLinks : Room := { frames := 4, cells := 0, slots := 0, locals := 93 }
noncomputable def f_P_readLinks_L2 : Nat → St → Int32 → Option (St)
  | 0, _, _ => none
  | n + 1, u, x1 => if (u.1 6) ≤ x1 then (some (u)) else (cI (f_W_sound u) fun r3 u1 => if r3 = 0 then (some (u1)) else (gd x1 300 (cT (if (u1.2 4 x1.toNatClampNeg) = 7 then (cV (f_P_linkClass u1 x1) fun u6 => some (u6)) else (if (u1.2 4 x1.toNatClampNeg) = 8 then (gd x1 300 (cI (f_P_refer u1 ((u1.2 5 x1.toNatClampNeg) + 1) 1) fun r10 u8 => some (u8))) else (if (u1.2 4 x1.toNatClampNeg) = 12 then (cV (f_P_linkNamed u1 x1) fun u11 => some (u11)) else (some (u1))))) fun (u4 : St) => f_P_readLinks_L2 n u4 (x1 + 1))))
noncomputable def f_P_readLinks_L101 : Nat → St → Int32 → Option (St)
  | 0, _, _ => none
  | n + 1, u, x1 => if (u.1 6) ≤ x1 then (some (u)) else (cI (f_W_sound u) fun r16 u14 => if r16 = 0 then (some (u14)) else (gd x1 300 (cT (if (u14.2 4 x1.toNatClampNeg) = 9 then (cV (f_P_linkMember u14 x1) fun u19 => some (u19)) else (gd x1 300 (if (u14.2 4 x1.toNatClampNeg) = 10 then (cV (f_P_linkMember u14 x1) fun u21 => some (u21)) else (gd x1 300 (if (u14.2 4 x1.toNatClampNeg) = 11 then (cV (f_P_linkMember u14 x1) fun u23 => some (u23)) else (some (u14))))))) fun (u17 : St) => f_P_readLinks_L101 n u17 (x1 + 1))))
noncomputable def f_P_readLinks (u : St) : Option (St) := cT (f_P_readLinks_L2 FU u 1) fun (u13 : St) => cT (f_P_readLinks_L101 FU u13 1) fun (u25 : St) => some u25
set_option maxHeartbeats 4000000 in
set_option maxRecDepth 100000 in
theorem w_P_readLinks_L2 {Z : zT} {D : va_G} {cs : Nat → ClassId} {a : Nat → Nat} {p : Program} {l : Launch} {e : Env} {s : State} {m : MethodId} {args : Array Value} {below : List Frame} {meth : Method} {c : Code} {Q : State → Prop}  {u2 : St} (C : Cx clA R_P prog_4_method_9_code 2 D cs (xW a cs) Z p s m args c) (hE : ∀ (H : Heap) (locs : List Loc) (ls : Array Slot), Dy clA D (xW a cs) s H locs u2 → lv_has ls 2 [(0, .ref (a 2))] → W p l e rm_P_readLinks s m args below meth c H locs 0 0 Q (F0 m 99 ls [])) : ∀ (n : Nat) (u : St) (x1 : Int32) (H : Heap) (locs : List Loc) (ls : Array Slot), f_P_readLinks_L2 n u x1 = some u2 → Dy clA D (xW a cs) s H locs u → lv_has ls 2 [(0, .ref (a 2)), (1, .int x1)] → W p l e rm_P_readLinks s m args below meth c H locs 0 0 Q (F0 m 2 ls []) := by
  have hx := C.1.1
  have hb := C.1.2.1
  intro n
  induction n with
  | zero =>
    intro u x1 H locs ls hk I hl
    rw [f_P_readLinks_L2] at hk
    cases hk
  | succ n ih =>
    intro u x1 H locs ls hk I hl
    rw [f_P_readLinks_L2] at hk
    refine lv_iload_n hx hb d_P_readLinks_2 rfl (lv_at hl 1 rfl) ?_
    refine lv_aload_n hx hb d_P_readLinks_3 rfl (lv_at hl 0 rfl) ?_
    refine g_P_count C I k_82 d_P_readLinks_4 ?_
    refine lv_icmp_ge (tgt := 99) hx hb d_P_readLinks_7 (by decide) (fun hc => ?_) (fun hc => ?_)
    · replace hk := it_u hc hk
      obtain rfl := eo1 hk
      exact hE _ _ _ I (lv_sub hl [0] rfl)
    · replace hk := ie_u hc hk
      refine lv_aload_n hx hb d_P_readLinks_10 rfl (lv_at hl 0 rfl) ?_
      refine g_P_walk C I k_84 d_P_readLinks_11 ?_
      obtain ⟨r3, u1, h2, hk⟩ := cI_u hk
      refine go_I I (call_runV (rest := []) C I (c_W_sound C.2.2.2.1 C.2.2.2.2.1 l h2 _) wd_W_sound (q0 := 4) (ci := 4) rfl rfl k_299 ⟨rfl, rfl⟩ ⟨by decide, by decide⟩ rfl hl.1 rfl (Nat.le_of_ble_eq_true rfl) d_P_readLinks_14) (fun H locs I => ?_)
      refine lv_if_eq (tgt := 99) hx hb d_P_readLinks_17 (by decide) (fun hc => ?_) (fun hc => ?_)
      · replace hk := it_u hc hk
        obtain rfl := eo1 hk
        exact hE _ _ _ I (lv_sub hl [0] rfl)
      · replace hk := ie_u hc hk
        refine lv_aload_n hx hb d_P_readLinks_20 rfl (lv_at hl 0 rfl) ?_
        refine g_P_kinds C I k_80 d_P_readLinks_21 ?_
        refine lv_iload_n hx hb d_P_readLinks_24 rfl (lv_at hl 1 rfl) ?_
        obtain ⟨hi, hk⟩ := gd_u hk
        refine l_P_kinds C I hi d_P_readLinks_25 ?_
        obtain ⟨u4, hj5, hk⟩ := cT_u hk
        have Khj5 : ∀ (H : Heap) (locs : List Loc) (ls : Array Slot), Dy clA D (xW a cs) s H locs u4 → lv_has ls 2 [(0, .ref (a 2)), (1, .int x1)] → W p l e rm_P_readLinks s m args below meth c H locs 0 0 Q (F0 m 93 ls []) := by
          intro H locs ls I hl
          refine lv_iinc (v := (x1 + 1)) (lv' := [(1, .int (x1 + 1)), (0, .ref (a 2))]) hx hb d_P_readLinks_93 hl (k := 1) rfl rfl (by decide) rfl (fun ls hl => ?_)
          refine lv_goto (tgt := 2) hx hb d_P_readLinks_96 (by decide) ?_
          exact ih u4 (x1 + 1) _ _ _ hk I (lv_sub hl [1, 0] rfl)
        by_cases hs0 : (u1.2 4 x1.toNatClampNeg) = 7
        · replace hj5 := it_u hs0 hj5
          refine lv_lookup (tgt := 60) (off := 34) hx hb d_P_readLinks_26 (by decide) (by rw [hs0]; decide) (by decide) ?_
          refine lv_aload_n hx hb d_P_readLinks_60 rfl (lv_at hl 0 rfl) ?_
          refine lv_iload_n hx hb d_P_readLinks_61 rfl (lv_at hl 1 rfl) ?_
          obtain ⟨u6, h7, hj5⟩ := cV_u hj5
          refine go_V I (call_runV (rest := []) C I (c_P_linkClass C.2.2.2.1 C.2.2.2.2.1 l h7 _) wd_P_linkClass (q0 := 2) (ci := 2) rfl rfl k_430 ⟨rfl, rfl⟩ ⟨by decide, by decide⟩ rfl hl.1 rfl (Nat.le_of_ble_eq_true rfl) d_P_readLinks_62) (fun H locs I => ?_)
          refine lv_goto (tgt := 93) hx hb d_P_readLinks_65 (by decide) ?_
          obtain rfl := eo1 hj5
          exact Khj5 _ _ _ I (lv_sub hl [0, 1] rfl)
        replace hj5 := ie_u hs0 hj5
        by_cases hs1 : (u1.2 4 x1.toNatClampNeg) = 8
        · replace hj5 := it_u hs1 hj5
          refine lv_lookup (tgt := 68) (off := 42) hx hb d_P_readLinks_26 (by decide) (by rw [hs1]; decide) (by decide) ?_
          refine lv_aload_n hx hb d_P_readLinks_68 rfl (lv_at hl 0 rfl) ?_
          refine lv_aload_n hx hb d_P_readLinks_69 rfl (lv_at hl 0 rfl) ?_
          refine g_P_places C I k_86 d_P_readLinks_70 ?_
          refine lv_iload_n hx hb d_P_readLinks_73 rfl (lv_at hl 1 rfl) ?_
          obtain ⟨hi, hj5⟩ := gd_u hj5
          refine l_P_places C I hi d_P_readLinks_74 ?_
          refine lv_iconst (v := 1) hx hb d_P_readLinks_75 (by decide) ?_
          refine lv_iadd hx hb d_P_readLinks_76 ?_
          refine lv_iconst (v := 1) hx hb d_P_readLinks_77 (by decide) ?_
          obtain ⟨r10, u8, h9, hj5⟩ := cI_u hj5
          refine go_I I (call_runV (rest := []) C I (c_P_refer C.2.2.2.1 C.2.2.2.2.1 l h9 _) wd_P_refer (q0 := 2) (ci := 2) rfl rfl k_434 ⟨rfl, rfl⟩ ⟨by decide, by decide⟩ rfl hl.1 rfl (Nat.le_of_ble_eq_true rfl) d_P_readLinks_78) (fun H locs I => ?_)
          refine lv_pop hx hb d_P_readLinks_81 rfl ?_
          refine lv_goto (tgt := 93) hx hb d_P_readLinks_82 (by decide) ?_
          obtain rfl := eo1 hj5
          exact Khj5 _ _ _ I (lv_sub hl [0, 1] rfl)
        replace hj5 := ie_u hs1 hj5
        by_cases hs2 : (u1.2 4 x1.toNatClampNeg) = 12
        · replace hj5 := it_u hs2 hj5
          refine lv_lookup (tgt := 85) (off := 59) hx hb d_P_readLinks_26 (by decide) (by rw [hs2]; decide) (by decide) ?_
          refine lv_aload_n hx hb d_P_readLinks_85 rfl (lv_at hl 0 rfl) ?_
          refine lv_iload_n hx hb d_P_readLinks_86 rfl (lv_at hl 1 rfl) ?_
          obtain ⟨u11, h12, hj5⟩ := cV_u hj5
          refine go_V I (call_runV (rest := []) C I (c_P_linkNamed C.2.2.2.1 C.2.2.2.2.1 l h12 _) wd_P_linkNamed (q0 := 2) (ci := 2) rfl rfl k_450 ⟨rfl, rfl⟩ ⟨by decide, by decide⟩ rfl hl.1 rfl (Nat.le_of_ble_eq_true rfl) d_P_readLinks_87) (fun H locs I => ?_)
          refine lv_goto (tgt := 93) hx hb d_P_readLinks_90 (by decide) ?_
          obtain rfl := eo1 hj5
          exact Khj5 _ _ _ I (lv_sub hl [0, 1] rfl)
        replace hj5 := ie_u hs2 hj5
        have n7 : ¬ (u1.2 4 x1.toNatClampNeg) = 7 := fun h => hs0 h
        have n8 : ¬ (u1.2 4 x1.toNatClampNeg) = 8 := fun h => hs1 h
        have n12 : ¬ (u1.2 4 x1.toNatClampNeg) = 12 := fun h => hs2 h
        refine lv_lookup (tgt := 93) (off := 67) hx hb d_P_readLinks_26 (by decide) (by show Op.lookupswitch.offset [(7, 34), (8, 42), (12, 59)] _ _ = _; rw [lv_osw (k := 7) n7 (by decide), lv_osw (k := 8) n8 (by decide), lv_osw (k := 12) n12 (by decide)]; rfl) (by decide) ?_
        obtain rfl := eo1 hj5
        exact Khj5 _ _ _ I (lv_sub hl [0, 1] rfl)
set_option maxHeartbeats 4000000 in
set_option maxRecDepth 100000 in
theorem w_P_readLinks_L101 {Z : zT} {D : va_G} {cs : Nat → ClassId} {a : Nat → Nat} {p : Program} {l : Launch} {e : Env} {s : State} {m : MethodId} {args : Array Value} {below : List Frame} {meth : Method} {c : Code} {Q : State → Prop}  {u2 : St} (C : Cx clA R_P prog_4_method_9_code 2 D cs (xW a cs) Z p s m args c) (hE : ∀ (H : Heap) (locs : List Loc) (ls : Array Slot), Dy clA D (xW a cs) s H locs u2 → lv_has ls 2 [] → W p l e rm_P_readLinks s m args below meth c H locs 0 0 Q (F0 m 163 ls [])) : ∀ (n : Nat) (u : St) (x1 : Int32) (H : Heap) (locs : List Loc) (ls : Array Slot), f_P_readLinks_L101 n u x1 = some u2 → Dy clA D (xW a cs) s H locs u → lv_has ls 2 [(0, .ref (a 2)), (1, .int x1)] → W p l e rm_P_readLinks s m args below meth c H locs 0 0 Q (F0 m 101 ls []) := by
  have hx := C.1.1
  have hb := C.1.2.1
  intro n
  induction n with
  | zero =>
    intro u x1 H locs ls hk I hl
    rw [f_P_readLinks_L101] at hk
    cases hk
  | succ n ih =>
    intro u x1 H locs ls hk I hl
    rw [f_P_readLinks_L101] at hk
    refine lv_iload_n hx hb d_P_readLinks_101 rfl (lv_at hl 1 rfl) ?_
    refine lv_aload_n hx hb d_P_readLinks_102 rfl (lv_at hl 0 rfl) ?_
    refine g_P_count C I k_82 d_P_readLinks_103 ?_
    refine lv_icmp_ge (tgt := 163) hx hb d_P_readLinks_106 (by decide) (fun hc => ?_) (fun hc => ?_)
    · replace hk := it_u hc hk
      obtain rfl := eo1 hk
      exact hE _ _ _ I (lv_sub hl [] rfl)
    · replace hk := ie_u hc hk
      refine lv_aload_n hx hb d_P_readLinks_109 rfl (lv_at hl 0 rfl) ?_
      refine g_P_walk C I k_84 d_P_readLinks_110 ?_
      obtain ⟨r16, u14, h15, hk⟩ := cI_u hk
      refine go_I I (call_runV (rest := []) C I (c_W_sound C.2.2.2.1 C.2.2.2.2.1 l h15 _) wd_W_sound (q0 := 4) (ci := 4) rfl rfl k_299 ⟨rfl, rfl⟩ ⟨by decide, by decide⟩ rfl hl.1 rfl (Nat.le_of_ble_eq_true rfl) d_P_readLinks_113) (fun H locs I => ?_)
      refine lv_if_eq (tgt := 163) hx hb d_P_readLinks_116 (by decide) (fun hc => ?_) (fun hc => ?_)
      · replace hk := it_u hc hk
        obtain rfl := eo1 hk
        exact hE _ _ _ I (lv_sub hl [] rfl)
      · replace hk := ie_u hc hk
        refine lv_aload_n hx hb d_P_readLinks_119 rfl (lv_at hl 0 rfl) ?_
        refine g_P_kinds C I k_80 d_P_readLinks_120 ?_
        refine lv_iload_n hx hb d_P_readLinks_123 rfl (lv_at hl 1 rfl) ?_
        obtain ⟨hi, hk⟩ := gd_u hk
        refine l_P_kinds C I hi d_P_readLinks_124 ?_
        refine lv_bipush (v := 9) hx hb d_P_readLinks_125 (by decide) ?_
        obtain ⟨u17, hj18, hk⟩ := cT_u hk
        have Khj18 : ∀ (H : Heap) (locs : List Loc) (ls : Array Slot), Dy clA D (xW a cs) s H locs u17 → lv_has ls 2 [(0, .ref (a 2)), (1, .int x1)] → W p l e rm_P_readLinks s m args below meth c H locs 0 0 Q (F0 m 157 ls []) := by
          intro H locs ls I hl
          refine lv_iinc (v := (x1 + 1)) (lv' := [(1, .int (x1 + 1)), (0, .ref (a 2))]) hx hb d_P_readLinks_157 hl (k := 1) rfl rfl (by decide) rfl (fun ls hl => ?_)
          refine lv_goto (tgt := 101) hx hb d_P_readLinks_160 (by decide) ?_
          exact ih u17 (x1 + 1) _ _ _ hk I (lv_sub hl [1, 0] rfl)
        refine lv_icmp_eq (tgt := 152) hx hb d_P_readLinks_127 (by decide) (fun hc => ?_) (fun hc => ?_)
        · replace hj18 := it_u hc hj18
          refine lv_aload_n hx hb d_P_readLinks_152 rfl (lv_at hl 0 rfl) ?_
          refine lv_iload_n hx hb d_P_readLinks_153 rfl (lv_at hl 1 rfl) ?_
          obtain ⟨u19, h20, hj18⟩ := cV_u hj18
          refine go_V I (call_runV (rest := []) C I (c_P_linkMember C.2.2.2.1 C.2.2.2.2.1 l h20 _) wd_P_linkMember (q0 := 2) (ci := 2) rfl rfl k_458 ⟨rfl, rfl⟩ ⟨by decide, by decide⟩ rfl hl.1 rfl (Nat.le_of_ble_eq_true rfl) d_P_readLinks_154) (fun H locs I => ?_)
          obtain rfl := eo1 hj18
          exact Khj18 _ _ _ I (lv_sub hl [0, 1] rfl)
        · replace hj18 := ie_u hc hj18
          refine lv_aload_n hx hb d_P_readLinks_130 rfl (lv_at hl 0 rfl) ?_
          refine g_P_kinds C I k_80 d_P_readLinks_131 ?_
          refine lv_iload_n hx hb d_P_readLinks_134 rfl (lv_at hl 1 rfl) ?_
          obtain ⟨hi, hj18⟩ := gd_u hj18
          refine l_P_kinds C I hi d_P_readLinks_135 ?_
          refine lv_bipush (v := 10) hx hb d_P_readLinks_136 (by decide) ?_
          refine lv_icmp_eq (tgt := 152) hx hb d_P_readLinks_138 (by decide) (fun hc => ?_) (fun hc => ?_)
          · replace hj18 := it_u hc hj18
            refine lv_aload_n hx hb d_P_readLinks_152 rfl (lv_at hl 0 rfl) ?_
            refine lv_iload_n hx hb d_P_readLinks_153 rfl (lv_at hl 1 rfl) ?_
            obtain ⟨u21, h22, hj18⟩ := cV_u hj18
            refine go_V I (call_runV (rest := []) C I (c_P_linkMember C.2.2.2.1 C.2.2.2.2.1 l h22 _) wd_P_linkMember (q0 := 2) (ci := 2) rfl rfl k_458 ⟨rfl, rfl⟩ ⟨by decide, by decide⟩ rfl hl.1 rfl (Nat.le_of_ble_eq_true rfl) d_P_readLinks_154) (fun H locs I => ?_)
            obtain rfl := eo1 hj18
            exact Khj18 _ _ _ I (lv_sub hl [0, 1] rfl)
          · replace hj18 := ie_u hc hj18
            refine lv_aload_n hx hb d_P_readLinks_141 rfl (lv_at hl 0 rfl) ?_
            refine g_P_kinds C I k_80 d_P_readLinks_142 ?_
            refine lv_iload_n hx hb d_P_readLinks_145 rfl (lv_at hl 1 rfl) ?_
            obtain ⟨hi, hj18⟩ := gd_u hj18
            refine l_P_kinds C I hi d_P_readLinks_146 ?_
            refine lv_bipush (v := 11) hx hb d_P_readLinks_147 (by decide) ?_
            refine lv_icmp_ne (tgt := 157) hx hb d_P_readLinks_149 (by decide) (fun hc => ?_) (fun hc => ?_)
            · replace hj18 := ie_u hc hj18
              obtain rfl := eo1 hj18
              exact Khj18 _ _ _ I (lv_sub hl [0, 1] rfl)
            · replace hj18 := it_u hc hj18
              refine lv_aload_n hx hb d_P_readLinks_152 rfl (lv_at hl 0 rfl) ?_
              refine lv_iload_n hx hb d_P_readLinks_153 rfl (lv_at hl 1 rfl) ?_
              obtain ⟨u23, h24, hj18⟩ := cV_u hj18
              refine go_V I (call_runV (rest := []) C I (c_P_linkMember C.2.2.2.1 C.2.2.2.2.1 l h24 _) wd_P_linkMember (q0 := 2) (ci := 2) rfl rfl k_458 ⟨rfl, rfl⟩ ⟨by decide, by decide⟩ rfl hl.1 rfl (Nat.le_of_ble_eq_true rfl) d_P_readLinks_154) (fun H locs I => ?_)
              obtain rfl := eo1 hj18
              exact Khj18 _ _ _ I (lv_sub hl [0, 1] rfl)
set_option maxHeartbeats 4000000 in
set_option maxRecDepth 100000 in
theorem c_P_readLinks {Z : zT} {D : va_G} {cs : Nat → ClassId} {a : Nat → Nat} (hw : wD (xW a cs)) (hz : zOK Z) (l : Launch) {u : St} {u' : St} (hk : f_P_readLinks u = some u') : KV clA D cs (xW a cs) Z l y_P_readLinks (.code y_P_readLinks prog_4_method_9_code 2 (Option.none : Option Jvm.ClassFile.FieldType)) rm_P_readLinks [.ref (a 2)] u u' := by
  unfold f_P_readLinks at hk
  refine KV.of (by decide) (Nat.le_of_ble_eq_true rfl) hw hz ?_
  intro p e s m args below meth c Q C I hQ ls hl
  have hl : lv_has ls 2 [(0, .ref (a 2))] := hl
  have hx := C.1.1
  have hb := C.1.2.1
  refine lv_iconst (v := 1) hx hb d_P_readLinks_0 (by decide) ?_
  refine lv_istore_n (lv' := [(1, .int 1), (0, .ref (a 2))]) hx hb d_P_readLinks_1 rfl hl (by decide) rfl (fun ls hl => ?_)
  obtain ⟨u13, hj27, hk⟩ := cT_u hk
  refine w_P_readLinks_L2 C (fun H locs ls I hl => ?_) FU u 1 _ _ _ hj27 I (lv_sub hl [1, 0] rfl)
  refine lv_iconst (v := 1) hx hb d_P_readLinks_99 (by decide) ?_
  refine lv_istore_n (lv' := [(1, .int 1), (0, .ref (a 2))]) hx hb d_P_readLinks_100 rfl hl (by decide) rfl (fun ls hl => ?_)
  obtain ⟨u25, hj26, hk⟩ := cT_u hk
  refine w_P_readLinks_L101 C (fun H locs ls I hl => ?_) FU u13 1 _ _ _ hj26 I (lv_sub hl [1, 0] rfl)
  exact hQ _ _ _ _ _ I hk d_P_readLinks_163
