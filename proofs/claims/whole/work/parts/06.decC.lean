theorem dX8_init_0 : decode cX8_init 0 = .ok (.aload_n 0, 1) := by decide +kernel
theorem dX8_init_1 : decode cX8_init 1 = .ok (.invokespecial 1, 3) := by decide +kernel
theorem dX8_init_4 : decode cX8_init 4 = .ok (.aload_n 0, 1) := by decide +kernel
theorem dX8_init_5 : decode cX8_init 5 = .ok (.sipush 304, 3) := by decide +kernel
theorem dX8_init_8 : decode cX8_init 8 = .ok (.newarray .long, 2) := by decide +kernel
theorem dX8_init_10 : decode cX8_init 10 = .ok (.putfield 7, 3) := by decide +kernel
theorem dX8_init_13 : decode cX8_init 13 = .ok (.aload_n 0, 1) := by decide +kernel
theorem dX8_init_14 : decode cX8_init 14 = .ok (.sipush 304, 3) := by decide +kernel
theorem dX8_init_17 : decode cX8_init 17 = .ok (.newarray .long, 2) := by decide +kernel
theorem dX8_init_19 : decode cX8_init 19 = .ok (.putfield 13, 3) := by decide +kernel
theorem dX8_init_22 : decode cX8_init 22 = .ok (.aload_n 0, 1) := by decide +kernel
theorem dX8_init_23 : decode cX8_init 23 = .ok (.sipush 304, 3) := by decide +kernel
theorem dX8_init_26 : decode cX8_init 26 = .ok (.newarray .long, 2) := by decide +kernel
theorem dX8_init_28 : decode cX8_init 28 = .ok (.putfield 16, 3) := by decide +kernel
theorem dX8_init_31 : decode cX8_init 31 = .ok (.aload_n 0, 1) := by decide +kernel
theorem dX8_init_32 : decode cX8_init 32 = .ok (.sipush 1824, 3) := by decide +kernel
theorem dX8_init_35 : decode cX8_init 35 = .ok (.newarray .long, 2) := by decide +kernel
theorem dX8_init_37 : decode cX8_init 37 = .ok (.putfield 19, 3) := by decide +kernel
theorem dX8_init_40 : decode cX8_init 40 = .ok (.aload_n 0, 1) := by decide +kernel
theorem dX8_init_41 : decode cX8_init 41 = .ok (.bipush 70, 2) := by decide +kernel
theorem dX8_init_43 : decode cX8_init 43 = .ok (.newarray .int, 2) := by decide +kernel
theorem dX8_init_45 : decode cX8_init 45 = .ok (.putfield 22, 3) := by decide +kernel
theorem dX8_init_48 : decode cX8_init 48 = .ok (.aload_n 0, 1) := by decide +kernel
theorem dX8_init_49 : decode cX8_init 49 = .ok (.iconst (-1), 1) := by decide +kernel
theorem dX8_init_50 : decode cX8_init 50 = .ok (.putfield 26, 3) := by decide +kernel
theorem dX8_init_53 : decode cX8_init 53 = .ok (.aload_n 0, 1) := by decide +kernel
theorem dX8_init_54 : decode cX8_init 54 = .ok (.bipush 6, 2) := by decide +kernel
theorem dX8_init_56 : decode cX8_init 56 = .ok (.newarray .int, 2) := by decide +kernel
theorem dX8_init_58 : decode cX8_init 58 = .ok (.putfield 30, 3) := by decide +kernel
theorem dX8_init_61 : decode cX8_init 61 = .ok (.aload_n 0, 1) := by decide +kernel
theorem dX8_init_62 : decode cX8_init 62 = .ok (.bipush 36, 2) := by decide +kernel
theorem dX8_init_64 : decode cX8_init 64 = .ok (.newarray .int, 2) := by decide +kernel
theorem dX8_init_66 : decode cX8_init 66 = .ok (.putfield 33, 3) := by decide +kernel
theorem dX8_init_69 : decode cX8_init 69 = .ok (.aload_n 0, 1) := by decide +kernel
theorem dX8_init_70 : decode cX8_init 70 = .ok (.bipush 108, 2) := by decide +kernel
theorem dX8_init_72 : decode cX8_init 72 = .ok (.newarray .int, 2) := by decide +kernel
theorem dX8_init_74 : decode cX8_init 74 = .ok (.putfield 36, 3) := by decide +kernel
theorem dX8_init_77 : decode cX8_init 77 = .ok (.aload_n 0, 1) := by decide +kernel
theorem dX8_init_78 : decode cX8_init 78 = .ok (.invokevirtual 39, 3) := by decide +kernel
theorem dX8_init_81 : decode cX8_init 81 = .ok (.return_, 1) := by decide +kernel
theorem dX8_thrown_0 : decode cX8_thrown 0 = .ok (.aload_n 0, 1) := by decide +kernel
theorem dX8_thrown_1 : decode cX8_thrown 1 = .ok (.getfield 42, 3) := by decide +kernel
theorem dX8_thrown_4 : decode cX8_thrown 4 = .ok (.ireturn, 1) := by decide +kernel
theorem dX8_fails_0 : decode cX8_fails 0 = .ok (.aload_n 0, 1) := by decide +kernel
theorem dX8_fails_1 : decode cX8_fails 1 = .ok (.iload_n 1, 1) := by decide +kernel
theorem dX8_fails_2 : decode cX8_fails 2 = .ok (.putfield 42, 3) := by decide +kernel
theorem dX8_fails_5 : decode cX8_fails 5 = .ok (.iconst 0, 1) := by decide +kernel
theorem dX8_fails_6 : decode cX8_fails 6 = .ok (.ireturn, 1) := by decide +kernel
theorem dX8_failsLong_0 : decode cX8_failsLong 0 = .ok (.aload_n 0, 1) := by decide +kernel
theorem dX8_failsLong_1 : decode cX8_failsLong 1 = .ok (.iload_n 1, 1) := by decide +kernel
theorem dX8_failsLong_2 : decode cX8_failsLong 2 = .ok (.putfield 42, 3) := by decide +kernel
theorem dX8_failsLong_5 : decode cX8_failsLong 5 = .ok (.lconst 0, 1) := by decide +kernel
theorem dX8_failsLong_6 : decode cX8_failsLong 6 = .ok (.lreturn, 1) := by decide +kernel
theorem dX8_in_0 : decode cX8_in 0 = .ok (.iload_n 0, 1) := by decide +kernel
theorem dX8_in_1 : decode cX8_in 1 = .ok (.iload_n 1, 1) := by decide +kernel
theorem dX8_in_2 : decode cX8_in 2 = .ok (.if_icmp .lt 12, 3) := by decide +kernel
theorem dX8_in_5 : decode cX8_in 5 = .ok (.iload_n 0, 1) := by decide +kernel
theorem dX8_in_6 : decode cX8_in 6 = .ok (.iload_n 2, 1) := by decide +kernel
theorem dX8_in_7 : decode cX8_in 7 = .ok (.if_icmp .gt 7, 3) := by decide +kernel
theorem dX8_in_10 : decode cX8_in 10 = .ok (.iconst 1, 1) := by decide +kernel
theorem dX8_in_11 : decode cX8_in 11 = .ok (.goto 4, 3) := by decide +kernel
theorem dX8_in_14 : decode cX8_in 14 = .ok (.iconst 0, 1) := by decide +kernel
theorem dX8_in_15 : decode cX8_in 15 = .ok (.ireturn, 1) := by decide +kernel
theorem dX8_least_0 : decode cX8_least 0 = .ok (.lload_n 0, 1) := by decide +kernel
theorem dX8_least_1 : decode cX8_least 1 = .ok (.lload_n 2, 1) := by decide +kernel
theorem dX8_least_2 : decode cX8_least 2 = .ok (.lcmp, 1) := by decide +kernel
theorem dX8_least_3 : decode cX8_least 3 = .ok (.ifCond .ge 7, 3) := by decide +kernel
theorem dX8_least_6 : decode cX8_least 6 = .ok (.lload_n 0, 1) := by decide +kernel
theorem dX8_least_7 : decode cX8_least 7 = .ok (.goto 4, 3) := by decide +kernel
theorem dX8_least_10 : decode cX8_least 10 = .ok (.lload_n 2, 1) := by decide +kernel
theorem dX8_least_11 : decode cX8_least 11 = .ok (.lreturn, 1) := by decide +kernel
theorem dX8_empties_0 : decode cX8_empties 0 = .ok (.iconst 0, 1) := by decide +kernel
theorem dX8_empties_1 : decode cX8_empties 1 = .ok (.istore_n 1, 1) := by decide +kernel
theorem dX8_empties_2 : decode cX8_empties 2 = .ok (.iload_n 1, 1) := by decide +kernel
theorem dX8_empties_3 : decode cX8_empties 3 = .ok (.sipush 304, 3) := by decide +kernel
theorem dX8_empties_6 : decode cX8_empties 6 = .ok (.if_icmp .ge 16, 3) := by decide +kernel
theorem dX8_empties_9 : decode cX8_empties 9 = .ok (.aload_n 0, 1) := by decide +kernel
theorem dX8_empties_10 : decode cX8_empties 10 = .ok (.getfield 7, 3) := by decide +kernel
theorem dX8_empties_13 : decode cX8_empties 13 = .ok (.iload_n 1, 1) := by decide +kernel
theorem dX8_empties_14 : decode cX8_empties 14 = .ok (.lconst 0, 1) := by decide +kernel
theorem dX8_empties_15 : decode cX8_empties 15 = .ok (.lastore, 1) := by decide +kernel
theorem dX8_empties_16 : decode cX8_empties 16 = .ok (.iinc 1 1, 3) := by decide +kernel
theorem dX8_empties_19 : decode cX8_empties 19 = .ok (.goto (-17), 3) := by decide +kernel
theorem dX8_empties_22 : decode cX8_empties 22 = .ok (.aload_n 0, 1) := by decide +kernel
theorem dX8_empties_23 : decode cX8_empties 23 = .ok (.getfield 7, 3) := by decide +kernel
theorem dX8_empties_26 : decode cX8_empties 26 = .ok (.bipush 7, 2) := by decide +kernel
theorem dX8_empties_28 : decode cX8_empties 28 = .ok (.ldc2_w 45, 3) := by decide +kernel
theorem dX8_empties_31 : decode cX8_empties 31 = .ok (.lastore, 1) := by decide +kernel
theorem dX8_empties_32 : decode cX8_empties 32 = .ok (.aload_n 0, 1) := by decide +kernel
theorem dX8_empties_33 : decode cX8_empties 33 = .ok (.getfield 7, 3) := by decide +kernel
theorem dX8_empties_36 : decode cX8_empties 36 = .ok (.bipush 8, 2) := by decide +kernel
theorem dX8_empties_38 : decode cX8_empties 38 = .ok (.ldc2_w 47, 3) := by decide +kernel
theorem dX8_empties_41 : decode cX8_empties 41 = .ok (.lastore, 1) := by decide +kernel
theorem dX8_empties_42 : decode cX8_empties 42 = .ok (.aload_n 0, 1) := by decide +kernel
theorem dX8_empties_43 : decode cX8_empties 43 = .ok (.getfield 7, 3) := by decide +kernel
theorem dX8_empties_46 : decode cX8_empties 46 = .ok (.bipush 9, 2) := by decide +kernel
theorem dX8_empties_48 : decode cX8_empties 48 = .ok (.ldc2_w 49, 3) := by decide +kernel
theorem dX8_empties_51 : decode cX8_empties 51 = .ok (.lastore, 1) := by decide +kernel
theorem dX8_empties_52 : decode cX8_empties 52 = .ok (.aload_n 0, 1) := by decide +kernel
theorem dX8_empties_53 : decode cX8_empties 53 = .ok (.getfield 7, 3) := by decide +kernel
theorem dX8_empties_56 : decode cX8_empties 56 = .ok (.bipush 10, 2) := by decide +kernel
theorem dX8_empties_58 : decode cX8_empties 58 = .ok (.ldc2_w 51, 3) := by decide +kernel
theorem dX8_empties_61 : decode cX8_empties 61 = .ok (.lastore, 1) := by decide +kernel
theorem dX8_empties_62 : decode cX8_empties 62 = .ok (.aload_n 0, 1) := by decide +kernel
theorem dX8_empties_63 : decode cX8_empties 63 = .ok (.getfield 7, 3) := by decide +kernel
theorem dX8_empties_66 : decode cX8_empties 66 = .ok (.bipush 11, 2) := by decide +kernel
theorem dX8_empties_68 : decode cX8_empties 68 = .ok (.ldc2_w 53, 3) := by decide +kernel
theorem dX8_empties_71 : decode cX8_empties 71 = .ok (.lastore, 1) := by decide +kernel
theorem dX8_empties_72 : decode cX8_empties 72 = .ok (.aload_n 0, 1) := by decide +kernel
theorem dX8_empties_73 : decode cX8_empties 73 = .ok (.getfield 7, 3) := by decide +kernel
theorem dX8_empties_76 : decode cX8_empties 76 = .ok (.bipush 12, 2) := by decide +kernel
theorem dX8_empties_78 : decode cX8_empties 78 = .ok (.ldc2_w 55, 3) := by decide +kernel
theorem dX8_empties_81 : decode cX8_empties 81 = .ok (.lastore, 1) := by decide +kernel
theorem dX8_empties_82 : decode cX8_empties 82 = .ok (.aload_n 0, 1) := by decide +kernel
theorem dX8_empties_83 : decode cX8_empties 83 = .ok (.getfield 7, 3) := by decide +kernel
theorem dX8_empties_86 : decode cX8_empties 86 = .ok (.bipush 13, 2) := by decide +kernel
theorem dX8_empties_88 : decode cX8_empties 88 = .ok (.ldc2_w 57, 3) := by decide +kernel
theorem dX8_empties_91 : decode cX8_empties 91 = .ok (.lastore, 1) := by decide +kernel
theorem dX8_empties_92 : decode cX8_empties 92 = .ok (.return_, 1) := by decide +kernel
theorem dX8_parties_0 : decode cX8_parties 0 = .ok (.aload_n 0, 1) := by decide +kernel
theorem dX8_parties_1 : decode cX8_parties 1 = .ok (.getfield 7, 3) := by decide +kernel
theorem dX8_parties_4 : decode cX8_parties 4 = .ok (.iconst 2, 1) := by decide +kernel
theorem dX8_parties_5 : decode cX8_parties 5 = .ok (.laload, 1) := by decide +kernel
theorem dX8_parties_6 : decode cX8_parties 6 = .ok (.l2i, 1) := by decide +kernel
theorem dX8_parties_7 : decode cX8_parties 7 = .ok (.ireturn, 1) := by decide +kernel
theorem dX8_claims_0 : decode cX8_claims 0 = .ok (.aload_n 0, 1) := by decide +kernel
theorem dX8_claims_1 : decode cX8_claims 1 = .ok (.getfield 7, 3) := by decide +kernel
theorem dX8_claims_4 : decode cX8_claims 4 = .ok (.iconst 3, 1) := by decide +kernel
theorem dX8_claims_5 : decode cX8_claims 5 = .ok (.laload, 1) := by decide +kernel
theorem dX8_claims_6 : decode cX8_claims 6 = .ok (.l2i, 1) := by decide +kernel
theorem dX8_claims_7 : decode cX8_claims 7 = .ok (.ireturn, 1) := by decide +kernel
theorem dX8_debts_0 : decode cX8_debts 0 = .ok (.aload_n 0, 1) := by decide +kernel
theorem dX8_debts_1 : decode cX8_debts 1 = .ok (.getfield 7, 3) := by decide +kernel
theorem dX8_debts_4 : decode cX8_debts 4 = .ok (.iconst 4, 1) := by decide +kernel
theorem dX8_debts_5 : decode cX8_debts 5 = .ok (.laload, 1) := by decide +kernel
theorem dX8_debts_6 : decode cX8_debts 6 = .ok (.l2i, 1) := by decide +kernel
theorem dX8_debts_7 : decode cX8_debts 7 = .ok (.ireturn, 1) := by decide +kernel
theorem dX8_isParty_0 : decode cX8_isParty 0 = .ok (.iload_n 1, 1) := by decide +kernel
theorem dX8_isParty_1 : decode cX8_isParty 1 = .ok (.iconst 0, 1) := by decide +kernel
theorem dX8_isParty_2 : decode cX8_isParty 2 = .ok (.aload_n 0, 1) := by decide +kernel
theorem dX8_isParty_3 : decode cX8_isParty 3 = .ok (.invokevirtual 59, 3) := by decide +kernel
theorem dX8_isParty_6 : decode cX8_isParty 6 = .ok (.iconst 1, 1) := by decide +kernel
theorem dX8_isParty_7 : decode cX8_isParty 7 = .ok (.isub, 1) := by decide +kernel
theorem dX8_isParty_8 : decode cX8_isParty 8 = .ok (.invokestatic 63, 3) := by decide +kernel
theorem dX8_isParty_11 : decode cX8_isParty 11 = .ok (.ireturn, 1) := by decide +kernel
theorem dX8_isClaim_0 : decode cX8_isClaim 0 = .ok (.iload_n 1, 1) := by decide +kernel
theorem dX8_isClaim_1 : decode cX8_isClaim 1 = .ok (.iconst 0, 1) := by decide +kernel
theorem dX8_isClaim_2 : decode cX8_isClaim 2 = .ok (.aload_n 0, 1) := by decide +kernel
theorem dX8_isClaim_3 : decode cX8_isClaim 3 = .ok (.invokevirtual 67, 3) := by decide +kernel
theorem dX8_isClaim_6 : decode cX8_isClaim 6 = .ok (.iconst 1, 1) := by decide +kernel
theorem dX8_isClaim_7 : decode cX8_isClaim 7 = .ok (.isub, 1) := by decide +kernel
theorem dX8_isClaim_8 : decode cX8_isClaim 8 = .ok (.invokestatic 63, 3) := by decide +kernel
theorem dX8_isClaim_11 : decode cX8_isClaim 11 = .ok (.ireturn, 1) := by decide +kernel
theorem dX8_isDebt_0 : decode cX8_isDebt 0 = .ok (.iload_n 1, 1) := by decide +kernel
theorem dX8_isDebt_1 : decode cX8_isDebt 1 = .ok (.iconst 0, 1) := by decide +kernel
theorem dX8_isDebt_2 : decode cX8_isDebt 2 = .ok (.aload_n 0, 1) := by decide +kernel
theorem dX8_isDebt_3 : decode cX8_isDebt 3 = .ok (.invokevirtual 70, 3) := by decide +kernel
theorem dX8_isDebt_6 : decode cX8_isDebt 6 = .ok (.iconst 1, 1) := by decide +kernel
theorem dX8_isDebt_7 : decode cX8_isDebt 7 = .ok (.isub, 1) := by decide +kernel
theorem dX8_isDebt_8 : decode cX8_isDebt 8 = .ok (.invokestatic 63, 3) := by decide +kernel
theorem dX8_isDebt_11 : decode cX8_isDebt 11 = .ok (.ireturn, 1) := by decide +kernel
theorem dX8_claimAt_0 : decode cX8_claimAt 0 = .ok (.bipush 50, 2) := by decide +kernel
theorem dX8_claimAt_2 : decode cX8_claimAt 2 = .ok (.bipush 6, 2) := by decide +kernel
theorem dX8_claimAt_4 : decode cX8_claimAt 4 = .ok (.iload_n 1, 1) := by decide +kernel
theorem dX8_claimAt_5 : decode cX8_claimAt 5 = .ok (.imul, 1) := by decide +kernel
theorem dX8_claimAt_6 : decode cX8_claimAt 6 = .ok (.iadd, 1) := by decide +kernel
theorem dX8_claimAt_7 : decode cX8_claimAt 7 = .ok (.iload_n 2, 1) := by decide +kernel
theorem dX8_claimAt_8 : decode cX8_claimAt 8 = .ok (.iadd, 1) := by decide +kernel
theorem dX8_claimAt_9 : decode cX8_claimAt 9 = .ok (.ireturn, 1) := by decide +kernel
theorem dX8_debtAt_0 : decode cX8_debtAt 0 = .ok (.bipush 122, 2) := by decide +kernel
theorem dX8_debtAt_2 : decode cX8_debtAt 2 = .ok (.iconst 5, 1) := by decide +kernel
theorem dX8_debtAt_3 : decode cX8_debtAt 3 = .ok (.iload_n 1, 1) := by decide +kernel
theorem dX8_debtAt_4 : decode cX8_debtAt 4 = .ok (.imul, 1) := by decide +kernel
theorem dX8_debtAt_5 : decode cX8_debtAt 5 = .ok (.iadd, 1) := by decide +kernel
theorem dX8_debtAt_6 : decode cX8_debtAt 6 = .ok (.iload_n 2, 1) := by decide +kernel
theorem dX8_debtAt_7 : decode cX8_debtAt 7 = .ok (.iadd, 1) := by decide +kernel
theorem dX8_debtAt_8 : decode cX8_debtAt 8 = .ok (.ireturn, 1) := by decide +kernel
theorem dX8_remembers_0 : decode cX8_remembers 0 = .ok (.iconst 0, 1) := by decide +kernel
theorem dX8_remembers_1 : decode cX8_remembers 1 = .ok (.istore_n 1, 1) := by decide +kernel
theorem dX8_remembers_2 : decode cX8_remembers 2 = .ok (.iload_n 1, 1) := by decide +kernel
theorem dX8_remembers_3 : decode cX8_remembers 3 = .ok (.sipush 304, 3) := by decide +kernel
theorem dX8_remembers_6 : decode cX8_remembers 6 = .ok (.if_icmp .ge 21, 3) := by decide +kernel
theorem dX8_remembers_9 : decode cX8_remembers 9 = .ok (.aload_n 0, 1) := by decide +kernel
theorem dX8_remembers_10 : decode cX8_remembers 10 = .ok (.getfield 16, 3) := by decide +kernel
theorem dX8_remembers_13 : decode cX8_remembers 13 = .ok (.iload_n 1, 1) := by decide +kernel
theorem dX8_remembers_14 : decode cX8_remembers 14 = .ok (.aload_n 0, 1) := by decide +kernel
theorem dX8_remembers_15 : decode cX8_remembers 15 = .ok (.getfield 7, 3) := by decide +kernel
theorem dX8_remembers_18 : decode cX8_remembers 18 = .ok (.iload_n 1, 1) := by decide +kernel
theorem dX8_remembers_19 : decode cX8_remembers 19 = .ok (.laload, 1) := by decide +kernel
theorem dX8_remembers_20 : decode cX8_remembers 20 = .ok (.lastore, 1) := by decide +kernel
theorem dX8_remembers_21 : decode cX8_remembers 21 = .ok (.iinc 1 1, 3) := by decide +kernel
theorem dX8_remembers_24 : decode cX8_remembers 24 = .ok (.goto (-22), 3) := by decide +kernel
theorem dX8_remembers_27 : decode cX8_remembers 27 = .ok (.return_, 1) := by decide +kernel
theorem dX8_keeps_0 : decode cX8_keeps 0 = .ok (.aload_n 0, 1) := by decide +kernel
theorem dX8_keeps_1 : decode cX8_keeps 1 = .ok (.getfield 73, 3) := by decide +kernel
theorem dX8_keeps_4 : decode cX8_keeps 4 = .ok (.bipush 6, 2) := by decide +kernel
theorem dX8_keeps_6 : decode cX8_keeps 6 = .ok (.if_icmp .ne 37, 3) := by decide +kernel
theorem dX8_keeps_9 : decode cX8_keeps 9 = .ok (.iconst 0, 1) := by decide +kernel
theorem dX8_keeps_10 : decode cX8_keeps 10 = .ok (.istore_n 1, 1) := by decide +kernel
theorem dX8_keeps_11 : decode cX8_keeps 11 = .ok (.iload_n 1, 1) := by decide +kernel
theorem dX8_keeps_12 : decode cX8_keeps 12 = .ok (.sipush 1520, 3) := by decide +kernel
theorem dX8_keeps_15 : decode cX8_keeps 15 = .ok (.if_icmp .ge 25, 3) := by decide +kernel
theorem dX8_keeps_18 : decode cX8_keeps 18 = .ok (.aload_n 0, 1) := by decide +kernel
theorem dX8_keeps_19 : decode cX8_keeps 19 = .ok (.getfield 19, 3) := by decide +kernel
theorem dX8_keeps_22 : decode cX8_keeps 22 = .ok (.iload_n 1, 1) := by decide +kernel
theorem dX8_keeps_23 : decode cX8_keeps 23 = .ok (.aload_n 0, 1) := by decide +kernel
theorem dX8_keeps_24 : decode cX8_keeps 24 = .ok (.getfield 19, 3) := by decide +kernel
theorem dX8_keeps_27 : decode cX8_keeps 27 = .ok (.iload_n 1, 1) := by decide +kernel
theorem dX8_keeps_28 : decode cX8_keeps 28 = .ok (.sipush 304, 3) := by decide +kernel
theorem dX8_keeps_31 : decode cX8_keeps 31 = .ok (.iadd, 1) := by decide +kernel
theorem dX8_keeps_32 : decode cX8_keeps 32 = .ok (.laload, 1) := by decide +kernel
theorem dX8_keeps_33 : decode cX8_keeps 33 = .ok (.lastore, 1) := by decide +kernel
theorem dX8_keeps_34 : decode cX8_keeps 34 = .ok (.iinc 1 1, 3) := by decide +kernel
theorem dX8_keeps_37 : decode cX8_keeps 37 = .ok (.goto (-26), 3) := by decide +kernel
theorem dX8_keeps_40 : decode cX8_keeps 40 = .ok (.goto 13, 3) := by decide +kernel
theorem dX8_keeps_43 : decode cX8_keeps 43 = .ok (.aload_n 0, 1) := by decide +kernel
theorem dX8_keeps_44 : decode cX8_keeps 44 = .ok (.dup, 1) := by decide +kernel
theorem dX8_keeps_45 : decode cX8_keeps 45 = .ok (.getfield 73, 3) := by decide +kernel
theorem dX8_keeps_48 : decode cX8_keeps 48 = .ok (.iconst 1, 1) := by decide +kernel
theorem dX8_keeps_49 : decode cX8_keeps 49 = .ok (.iadd, 1) := by decide +kernel
theorem dX8_keeps_50 : decode cX8_keeps 50 = .ok (.putfield 73, 3) := by decide +kernel
theorem dX8_keeps_53 : decode cX8_keeps 53 = .ok (.iconst 0, 1) := by decide +kernel
theorem dX8_keeps_54 : decode cX8_keeps 54 = .ok (.istore_n 1, 1) := by decide +kernel
theorem dX8_keeps_55 : decode cX8_keeps 55 = .ok (.iload_n 1, 1) := by decide +kernel
theorem dX8_keeps_56 : decode cX8_keeps 56 = .ok (.sipush 304, 3) := by decide +kernel
theorem dX8_keeps_59 : decode cX8_keeps 59 = .ok (.if_icmp .ge 32, 3) := by decide +kernel
theorem dX8_keeps_62 : decode cX8_keeps 62 = .ok (.aload_n 0, 1) := by decide +kernel
theorem dX8_keeps_63 : decode cX8_keeps 63 = .ok (.getfield 19, 3) := by decide +kernel
theorem dX8_keeps_66 : decode cX8_keeps 66 = .ok (.sipush 304, 3) := by decide +kernel
theorem dX8_keeps_69 : decode cX8_keeps 69 = .ok (.aload_n 0, 1) := by decide +kernel
theorem dX8_keeps_70 : decode cX8_keeps 70 = .ok (.getfield 73, 3) := by decide +kernel
theorem dX8_keeps_73 : decode cX8_keeps 73 = .ok (.iconst 1, 1) := by decide +kernel
theorem dX8_keeps_74 : decode cX8_keeps 74 = .ok (.isub, 1) := by decide +kernel
theorem dX8_keeps_75 : decode cX8_keeps 75 = .ok (.imul, 1) := by decide +kernel
theorem dX8_keeps_76 : decode cX8_keeps 76 = .ok (.iload_n 1, 1) := by decide +kernel
theorem dX8_keeps_77 : decode cX8_keeps 77 = .ok (.iadd, 1) := by decide +kernel
theorem dX8_keeps_78 : decode cX8_keeps 78 = .ok (.aload_n 0, 1) := by decide +kernel
theorem dX8_keeps_79 : decode cX8_keeps 79 = .ok (.getfield 16, 3) := by decide +kernel
theorem dX8_keeps_82 : decode cX8_keeps 82 = .ok (.iload_n 1, 1) := by decide +kernel
theorem dX8_keeps_83 : decode cX8_keeps 83 = .ok (.laload, 1) := by decide +kernel
theorem dX8_keeps_84 : decode cX8_keeps 84 = .ok (.lastore, 1) := by decide +kernel
theorem dX8_keeps_85 : decode cX8_keeps 85 = .ok (.iinc 1 1, 3) := by decide +kernel
theorem dX8_keeps_88 : decode cX8_keeps 88 = .ok (.goto (-33), 3) := by decide +kernel
theorem dX8_keeps_91 : decode cX8_keeps 91 = .ok (.return_, 1) := by decide +kernel
theorem dX8_notes_0 : decode cX8_notes 0 = .ok (.aload_n 0, 1) := by decide +kernel
theorem dX8_notes_1 : decode cX8_notes 1 = .ok (.getfield 7, 3) := by decide +kernel
theorem dX8_notes_4 : decode cX8_notes 4 = .ok (.iconst 5, 1) := by decide +kernel
theorem dX8_notes_5 : decode cX8_notes 5 = .ok (.laload, 1) := by decide +kernel
theorem dX8_notes_6 : decode cX8_notes 6 = .ok (.l2i, 1) := by decide +kernel
theorem dX8_notes_7 : decode cX8_notes 7 = .ok (.istore 4, 2) := by decide +kernel
theorem dX8_notes_9 : decode cX8_notes 9 = .ok (.iload 4, 2) := by decide +kernel
theorem dX8_notes_11 : decode cX8_notes 11 = .ok (.bipush 16, 2) := by decide +kernel
theorem dX8_notes_13 : decode cX8_notes 13 = .ok (.if_icmp .ne 50, 3) := by decide +kernel
theorem dX8_notes_16 : decode cX8_notes 16 = .ok (.iconst 0, 1) := by decide +kernel
theorem dX8_notes_17 : decode cX8_notes 17 = .ok (.istore 5, 2) := by decide +kernel
theorem dX8_notes_19 : decode cX8_notes 19 = .ok (.iload 5, 2) := by decide +kernel
theorem dX8_notes_21 : decode cX8_notes 21 = .ok (.iconst 2, 1) := by decide +kernel
theorem dX8_notes_22 : decode cX8_notes 22 = .ok (.iload 4, 2) := by decide +kernel
theorem dX8_notes_24 : decode cX8_notes 24 = .ok (.imul, 1) := by decide +kernel
theorem dX8_notes_25 : decode cX8_notes 25 = .ok (.iconst 2, 1) := by decide +kernel
theorem dX8_notes_26 : decode cX8_notes 26 = .ok (.isub, 1) := by decide +kernel
theorem dX8_notes_27 : decode cX8_notes 27 = .ok (.if_icmp .ge 33, 3) := by decide +kernel
theorem dX8_notes_30 : decode cX8_notes 30 = .ok (.aload_n 0, 1) := by decide +kernel
theorem dX8_notes_31 : decode cX8_notes 31 = .ok (.getfield 7, 3) := by decide +kernel
theorem dX8_notes_34 : decode cX8_notes 34 = .ok (.sipush 272, 3) := by decide +kernel
theorem dX8_notes_37 : decode cX8_notes 37 = .ok (.iload 5, 2) := by decide +kernel
theorem dX8_notes_39 : decode cX8_notes 39 = .ok (.iadd, 1) := by decide +kernel
theorem dX8_notes_40 : decode cX8_notes 40 = .ok (.aload_n 0, 1) := by decide +kernel
theorem dX8_notes_41 : decode cX8_notes 41 = .ok (.getfield 7, 3) := by decide +kernel
theorem dX8_notes_44 : decode cX8_notes 44 = .ok (.sipush 272, 3) := by decide +kernel
theorem dX8_notes_47 : decode cX8_notes 47 = .ok (.iload 5, 2) := by decide +kernel
theorem dX8_notes_49 : decode cX8_notes 49 = .ok (.iadd, 1) := by decide +kernel
theorem dX8_notes_50 : decode cX8_notes 50 = .ok (.iconst 2, 1) := by decide +kernel
theorem dX8_notes_51 : decode cX8_notes 51 = .ok (.iadd, 1) := by decide +kernel
theorem dX8_notes_52 : decode cX8_notes 52 = .ok (.laload, 1) := by decide +kernel
theorem dX8_notes_53 : decode cX8_notes 53 = .ok (.lastore, 1) := by decide +kernel
theorem dX8_notes_54 : decode cX8_notes 54 = .ok (.iinc 5 1, 3) := by decide +kernel
theorem dX8_notes_57 : decode cX8_notes 57 = .ok (.goto (-38), 3) := by decide +kernel
theorem dX8_notes_60 : decode cX8_notes 60 = .ok (.goto 6, 3) := by decide +kernel
theorem dX8_notes_63 : decode cX8_notes 63 = .ok (.iinc 4 1, 3) := by decide +kernel
theorem dX8_notes_66 : decode cX8_notes 66 = .ok (.aload_n 0, 1) := by decide +kernel
theorem dX8_notes_67 : decode cX8_notes 67 = .ok (.getfield 7, 3) := by decide +kernel
theorem dX8_notes_70 : decode cX8_notes 70 = .ok (.iconst 5, 1) := by decide +kernel
theorem dX8_notes_71 : decode cX8_notes 71 = .ok (.iload 4, 2) := by decide +kernel
theorem dX8_notes_73 : decode cX8_notes 73 = .ok (.i2l, 1) := by decide +kernel
theorem dX8_notes_74 : decode cX8_notes 74 = .ok (.lastore, 1) := by decide +kernel
theorem dX8_notes_75 : decode cX8_notes 75 = .ok (.aload_n 0, 1) := by decide +kernel
theorem dX8_notes_76 : decode cX8_notes 76 = .ok (.getfield 7, 3) := by decide +kernel
theorem dX8_notes_79 : decode cX8_notes 79 = .ok (.sipush 272, 3) := by decide +kernel
theorem dX8_notes_82 : decode cX8_notes 82 = .ok (.iconst 2, 1) := by decide +kernel
theorem dX8_notes_83 : decode cX8_notes 83 = .ok (.iload 4, 2) := by decide +kernel
theorem dX8_notes_85 : decode cX8_notes 85 = .ok (.imul, 1) := by decide +kernel
theorem dX8_notes_86 : decode cX8_notes 86 = .ok (.iadd, 1) := by decide +kernel
theorem dX8_notes_87 : decode cX8_notes 87 = .ok (.iconst 2, 1) := by decide +kernel
theorem dX8_notes_88 : decode cX8_notes 88 = .ok (.isub, 1) := by decide +kernel
theorem dX8_notes_89 : decode cX8_notes 89 = .ok (.iload_n 1, 1) := by decide +kernel
theorem dX8_notes_90 : decode cX8_notes 90 = .ok (.i2l, 1) := by decide +kernel
theorem dX8_notes_91 : decode cX8_notes 91 = .ok (.lastore, 1) := by decide +kernel
theorem dX8_notes_92 : decode cX8_notes 92 = .ok (.aload_n 0, 1) := by decide +kernel
theorem dX8_notes_93 : decode cX8_notes 93 = .ok (.getfield 7, 3) := by decide +kernel
theorem dX8_notes_96 : decode cX8_notes 96 = .ok (.sipush 272, 3) := by decide +kernel
theorem dX8_notes_99 : decode cX8_notes 99 = .ok (.iconst 2, 1) := by decide +kernel
theorem dX8_notes_100 : decode cX8_notes 100 = .ok (.iload 4, 2) := by decide +kernel
theorem dX8_notes_102 : decode cX8_notes 102 = .ok (.imul, 1) := by decide +kernel
theorem dX8_notes_103 : decode cX8_notes 103 = .ok (.iadd, 1) := by decide +kernel
theorem dX8_notes_104 : decode cX8_notes 104 = .ok (.iconst 1, 1) := by decide +kernel
theorem dX8_notes_105 : decode cX8_notes 105 = .ok (.isub, 1) := by decide +kernel
theorem dX8_notes_106 : decode cX8_notes 106 = .ok (.lload_n 2, 1) := by decide +kernel
theorem dX8_notes_107 : decode cX8_notes 107 = .ok (.lastore, 1) := by decide +kernel
theorem dX8_notes_108 : decode cX8_notes 108 = .ok (.return_, 1) := by decide +kernel
theorem dX8_clear_0 : decode cX8_clear 0 = .ok (.aload_n 0, 1) := by decide +kernel
theorem dX8_clear_1 : decode cX8_clear 1 = .ok (.iconst 0, 1) := by decide +kernel
theorem dX8_clear_2 : decode cX8_clear 2 = .ok (.putfield 42, 3) := by decide +kernel
theorem dX8_clear_5 : decode cX8_clear 5 = .ok (.aload_n 0, 1) := by decide +kernel
theorem dX8_clear_6 : decode cX8_clear 6 = .ok (.invokevirtual 59, 3) := by decide +kernel
theorem dX8_clear_9 : decode cX8_clear 9 = .ok (.istore_n 1, 1) := by decide +kernel
theorem dX8_clear_10 : decode cX8_clear 10 = .ok (.aload_n 0, 1) := by decide +kernel
theorem dX8_clear_11 : decode cX8_clear 11 = .ok (.invokevirtual 39, 3) := by decide +kernel
theorem dX8_clear_14 : decode cX8_clear 14 = .ok (.aload_n 0, 1) := by decide +kernel
theorem dX8_clear_15 : decode cX8_clear 15 = .ok (.iconst 0, 1) := by decide +kernel
theorem dX8_clear_16 : decode cX8_clear 16 = .ok (.putfield 73, 3) := by decide +kernel
theorem dX8_clear_19 : decode cX8_clear 19 = .ok (.iload_n 1, 1) := by decide +kernel
theorem dX8_clear_20 : decode cX8_clear 20 = .ok (.ireturn, 1) := by decide +kernel
theorem dX8_addParty_0 : decode cX8_addParty 0 = .ok (.aload_n 0, 1) := by decide +kernel
theorem dX8_addParty_1 : decode cX8_addParty 1 = .ok (.iconst 0, 1) := by decide +kernel
theorem dX8_addParty_2 : decode cX8_addParty 2 = .ok (.putfield 42, 3) := by decide +kernel
theorem dX8_addParty_5 : decode cX8_addParty 5 = .ok (.aload_n 0, 1) := by decide +kernel
theorem dX8_addParty_6 : decode cX8_addParty 6 = .ok (.invokevirtual 76, 3) := by decide +kernel
theorem dX8_addParty_9 : decode cX8_addParty 9 = .ok (.iload_n 1, 1) := by decide +kernel
theorem dX8_addParty_10 : decode cX8_addParty 10 = .ok (.iconst 0, 1) := by decide +kernel
theorem dX8_addParty_11 : decode cX8_addParty 11 = .ok (.iconst 1, 1) := by decide +kernel
theorem dX8_addParty_12 : decode cX8_addParty 12 = .ok (.invokestatic 63, 3) := by decide +kernel
theorem dX8_addParty_15 : decode cX8_addParty 15 = .ok (.ifCond .eq 13, 3) := by decide +kernel
theorem dX8_addParty_18 : decode cX8_addParty 18 = .ok (.iload_n 2, 1) := by decide +kernel
theorem dX8_addParty_19 : decode cX8_addParty 19 = .ok (.iconst 1, 1) := by decide +kernel
theorem dX8_addParty_20 : decode cX8_addParty 20 = .ok (.bipush 9, 2) := by decide +kernel
theorem dX8_addParty_22 : decode cX8_addParty 22 = .ok (.invokestatic 63, 3) := by decide +kernel
theorem dX8_addParty_25 : decode cX8_addParty 25 = .ok (.ifCond .ne 9, 3) := by decide +kernel
theorem dX8_addParty_28 : decode cX8_addParty 28 = .ok (.aload_n 0, 1) := by decide +kernel
theorem dX8_addParty_29 : decode cX8_addParty 29 = .ok (.iconst 1, 1) := by decide +kernel
theorem dX8_addParty_30 : decode cX8_addParty 30 = .ok (.invokevirtual 79, 3) := by decide +kernel
theorem dX8_addParty_33 : decode cX8_addParty 33 = .ok (.ireturn, 1) := by decide +kernel
theorem dX8_addParty_34 : decode cX8_addParty 34 = .ok (.aload_n 0, 1) := by decide +kernel
theorem dX8_addParty_35 : decode cX8_addParty 35 = .ok (.invokevirtual 59, 3) := by decide +kernel
theorem dX8_addParty_38 : decode cX8_addParty 38 = .ok (.bipush 6, 2) := by decide +kernel
theorem dX8_addParty_40 : decode cX8_addParty 40 = .ok (.if_icmp .ne 9, 3) := by decide +kernel
theorem dX8_addParty_43 : decode cX8_addParty 43 = .ok (.aload_n 0, 1) := by decide +kernel
theorem dX8_addParty_44 : decode cX8_addParty 44 = .ok (.iconst 2, 1) := by decide +kernel
theorem dX8_addParty_45 : decode cX8_addParty 45 = .ok (.invokevirtual 79, 3) := by decide +kernel
theorem dX8_addParty_48 : decode cX8_addParty 48 = .ok (.ireturn, 1) := by decide +kernel
theorem dX8_addParty_49 : decode cX8_addParty 49 = .ok (.aload_n 0, 1) := by decide +kernel
theorem dX8_addParty_50 : decode cX8_addParty 50 = .ok (.invokevirtual 59, 3) := by decide +kernel
theorem dX8_addParty_53 : decode cX8_addParty 53 = .ok (.istore_n 3, 1) := by decide +kernel
theorem dX8_addParty_54 : decode cX8_addParty 54 = .ok (.aload_n 0, 1) := by decide +kernel
theorem dX8_addParty_55 : decode cX8_addParty 55 = .ok (.getfield 7, 3) := by decide +kernel
theorem dX8_addParty_58 : decode cX8_addParty 58 = .ok (.bipush 14, 2) := by decide +kernel
theorem dX8_addParty_60 : decode cX8_addParty 60 = .ok (.iload_n 3, 1) := by decide +kernel
theorem dX8_addParty_61 : decode cX8_addParty 61 = .ok (.iadd, 1) := by decide +kernel
theorem dX8_addParty_62 : decode cX8_addParty 62 = .ok (.iload_n 1, 1) := by decide +kernel
theorem dX8_addParty_63 : decode cX8_addParty 63 = .ok (.i2l, 1) := by decide +kernel
theorem dX8_addParty_64 : decode cX8_addParty 64 = .ok (.lastore, 1) := by decide +kernel
theorem dX8_addParty_65 : decode cX8_addParty 65 = .ok (.aload_n 0, 1) := by decide +kernel
theorem dX8_addParty_66 : decode cX8_addParty 66 = .ok (.getfield 7, 3) := by decide +kernel
theorem dX8_addParty_69 : decode cX8_addParty 69 = .ok (.bipush 20, 2) := by decide +kernel
theorem dX8_addParty_71 : decode cX8_addParty 71 = .ok (.iload_n 3, 1) := by decide +kernel
theorem dX8_addParty_72 : decode cX8_addParty 72 = .ok (.iadd, 1) := by decide +kernel
theorem dX8_addParty_73 : decode cX8_addParty 73 = .ok (.iload_n 2, 1) := by decide +kernel
theorem dX8_addParty_74 : decode cX8_addParty 74 = .ok (.i2l, 1) := by decide +kernel
theorem dX8_addParty_75 : decode cX8_addParty 75 = .ok (.lastore, 1) := by decide +kernel
theorem dX8_addParty_76 : decode cX8_addParty 76 = .ok (.aload_n 0, 1) := by decide +kernel
theorem dX8_addParty_77 : decode cX8_addParty 77 = .ok (.getfield 7, 3) := by decide +kernel
theorem dX8_addParty_80 : decode cX8_addParty 80 = .ok (.iconst 2, 1) := by decide +kernel
theorem dX8_addParty_81 : decode cX8_addParty 81 = .ok (.dup2, 1) := by decide +kernel
theorem dX8_addParty_82 : decode cX8_addParty 82 = .ok (.laload, 1) := by decide +kernel
theorem dX8_addParty_83 : decode cX8_addParty 83 = .ok (.lconst 1, 1) := by decide +kernel
theorem dX8_addParty_84 : decode cX8_addParty 84 = .ok (.ladd, 1) := by decide +kernel
theorem dX8_addParty_85 : decode cX8_addParty 85 = .ok (.lastore, 1) := by decide +kernel
theorem dX8_addParty_86 : decode cX8_addParty 86 = .ok (.aload_n 0, 1) := by decide +kernel
theorem dX8_addParty_87 : decode cX8_addParty 87 = .ok (.invokevirtual 83, 3) := by decide +kernel
theorem dX8_addParty_90 : decode cX8_addParty 90 = .ok (.iload_n 3, 1) := by decide +kernel
theorem dX8_addParty_91 : decode cX8_addParty 91 = .ok (.ireturn, 1) := by decide +kernel
theorem dX8_sets_0 : decode cX8_sets 0 = .ok (.aload_n 0, 1) := by decide +kernel
theorem dX8_sets_1 : decode cX8_sets 1 = .ok (.getfield 7, 3) := by decide +kernel
theorem dX8_sets_4 : decode cX8_sets 4 = .ok (.iload_n 1, 1) := by decide +kernel
theorem dX8_sets_5 : decode cX8_sets 5 = .ok (.laload, 1) := by decide +kernel
theorem dX8_sets_6 : decode cX8_sets 6 = .ok (.l2i, 1) := by decide +kernel
theorem dX8_sets_7 : decode cX8_sets 7 = .ok (.istore_n 3, 1) := by decide +kernel
theorem dX8_sets_8 : decode cX8_sets 8 = .ok (.aload_n 0, 1) := by decide +kernel
theorem dX8_sets_9 : decode cX8_sets 9 = .ok (.getfield 7, 3) := by decide +kernel
theorem dX8_sets_12 : decode cX8_sets 12 = .ok (.iload_n 1, 1) := by decide +kernel
theorem dX8_sets_13 : decode cX8_sets 13 = .ok (.iload_n 2, 1) := by decide +kernel
theorem dX8_sets_14 : decode cX8_sets 14 = .ok (.i2l, 1) := by decide +kernel
theorem dX8_sets_15 : decode cX8_sets 15 = .ok (.lastore, 1) := by decide +kernel
theorem dX8_sets_16 : decode cX8_sets 16 = .ok (.aload_n 0, 1) := by decide +kernel
theorem dX8_sets_17 : decode cX8_sets 17 = .ok (.invokevirtual 83, 3) := by decide +kernel
theorem dX8_sets_20 : decode cX8_sets 20 = .ok (.iload_n 3, 1) := by decide +kernel
theorem dX8_sets_21 : decode cX8_sets 21 = .ok (.ireturn, 1) := by decide +kernel
theorem dX8_setRate_0 : decode cX8_setRate 0 = .ok (.aload_n 0, 1) := by decide +kernel
theorem dX8_setRate_1 : decode cX8_setRate 1 = .ok (.iconst 0, 1) := by decide +kernel
theorem dX8_setRate_2 : decode cX8_setRate 2 = .ok (.putfield 42, 3) := by decide +kernel
theorem dX8_setRate_5 : decode cX8_setRate 5 = .ok (.aload_n 0, 1) := by decide +kernel
theorem dX8_setRate_6 : decode cX8_setRate 6 = .ok (.invokevirtual 76, 3) := by decide +kernel
theorem dX8_setRate_9 : decode cX8_setRate 9 = .ok (.iload_n 1, 1) := by decide +kernel
theorem dX8_setRate_10 : decode cX8_setRate 10 = .ok (.iconst 0, 1) := by decide +kernel
theorem dX8_setRate_11 : decode cX8_setRate 11 = .ok (.iconst 3, 1) := by decide +kernel
theorem dX8_setRate_12 : decode cX8_setRate 12 = .ok (.invokestatic 63, 3) := by decide +kernel
theorem dX8_setRate_15 : decode cX8_setRate 15 = .ok (.ifCond .ne 9, 3) := by decide +kernel
theorem dX8_setRate_18 : decode cX8_setRate 18 = .ok (.aload_n 0, 1) := by decide +kernel
theorem dX8_setRate_19 : decode cX8_setRate 19 = .ok (.iconst 1, 1) := by decide +kernel
theorem dX8_setRate_20 : decode cX8_setRate 20 = .ok (.invokevirtual 79, 3) := by decide +kernel
theorem dX8_setRate_23 : decode cX8_setRate 23 = .ok (.ireturn, 1) := by decide +kernel
theorem dX8_setRate_24 : decode cX8_setRate 24 = .ok (.iload_n 2, 1) := by decide +kernel
theorem dX8_setRate_25 : decode cX8_setRate 25 = .ok (.iconst 0, 1) := by decide +kernel
theorem dX8_setRate_26 : decode cX8_setRate 26 = .ok (.sipush 2000, 3) := by decide +kernel
theorem dX8_setRate_29 : decode cX8_setRate 29 = .ok (.invokestatic 63, 3) := by decide +kernel
theorem dX8_setRate_32 : decode cX8_setRate 32 = .ok (.ifCond .eq 15, 3) := by decide +kernel
theorem dX8_setRate_35 : decode cX8_setRate 35 = .ok (.aload_n 0, 1) := by decide +kernel
theorem dX8_setRate_36 : decode cX8_setRate 36 = .ok (.bipush 6, 2) := by decide +kernel
theorem dX8_setRate_38 : decode cX8_setRate 38 = .ok (.iload_n 1, 1) := by decide +kernel
theorem dX8_setRate_39 : decode cX8_setRate 39 = .ok (.iadd, 1) := by decide +kernel
theorem dX8_setRate_40 : decode cX8_setRate 40 = .ok (.iload_n 2, 1) := by decide +kernel
theorem dX8_setRate_41 : decode cX8_setRate 41 = .ok (.invokevirtual 86, 3) := by decide +kernel
theorem dX8_setRate_44 : decode cX8_setRate 44 = .ok (.goto 8, 3) := by decide +kernel
theorem dX8_setRate_47 : decode cX8_setRate 47 = .ok (.aload_n 0, 1) := by decide +kernel
theorem dX8_setRate_48 : decode cX8_setRate 48 = .ok (.iconst 2, 1) := by decide +kernel
theorem dX8_setRate_49 : decode cX8_setRate 49 = .ok (.invokevirtual 79, 3) := by decide +kernel
theorem dX8_setRate_52 : decode cX8_setRate 52 = .ok (.ireturn, 1) := by decide +kernel
theorem dX8_setTier_0 : decode cX8_setTier 0 = .ok (.aload_n 0, 1) := by decide +kernel
theorem dX8_setTier_1 : decode cX8_setTier 1 = .ok (.iconst 0, 1) := by decide +kernel
theorem dX8_setTier_2 : decode cX8_setTier 2 = .ok (.putfield 42, 3) := by decide +kernel
theorem dX8_setTier_5 : decode cX8_setTier 5 = .ok (.aload_n 0, 1) := by decide +kernel
theorem dX8_setTier_6 : decode cX8_setTier 6 = .ok (.invokevirtual 76, 3) := by decide +kernel
theorem dX8_setTier_9 : decode cX8_setTier 9 = .ok (.iload_n 1, 1) := by decide +kernel
theorem dX8_setTier_10 : decode cX8_setTier 10 = .ok (.iconst 0, 1) := by decide +kernel
theorem dX8_setTier_11 : decode cX8_setTier 11 = .ok (.iconst 3, 1) := by decide +kernel
theorem dX8_setTier_12 : decode cX8_setTier 12 = .ok (.invokestatic 63, 3) := by decide +kernel
theorem dX8_setTier_15 : decode cX8_setTier 15 = .ok (.ifCond .ne 9, 3) := by decide +kernel
theorem dX8_setTier_18 : decode cX8_setTier 18 = .ok (.aload_n 0, 1) := by decide +kernel
theorem dX8_setTier_19 : decode cX8_setTier 19 = .ok (.iconst 1, 1) := by decide +kernel
theorem dX8_setTier_20 : decode cX8_setTier 20 = .ok (.invokevirtual 79, 3) := by decide +kernel
theorem dX8_setTier_23 : decode cX8_setTier 23 = .ok (.ireturn, 1) := by decide +kernel
theorem dX8_setTier_24 : decode cX8_setTier 24 = .ok (.iload_n 2, 1) := by decide +kernel
theorem dX8_setTier_25 : decode cX8_setTier 25 = .ok (.iconst 0, 1) := by decide +kernel
theorem dX8_setTier_26 : decode cX8_setTier 26 = .ok (.sipush 2000, 3) := by decide +kernel
theorem dX8_setTier_29 : decode cX8_setTier 29 = .ok (.invokestatic 63, 3) := by decide +kernel
theorem dX8_setTier_32 : decode cX8_setTier 32 = .ok (.ifCond .eq 15, 3) := by decide +kernel
theorem dX8_setTier_35 : decode cX8_setTier 35 = .ok (.aload_n 0, 1) := by decide +kernel
theorem dX8_setTier_36 : decode cX8_setTier 36 = .ok (.bipush 10, 2) := by decide +kernel
theorem dX8_setTier_38 : decode cX8_setTier 38 = .ok (.iload_n 1, 1) := by decide +kernel
theorem dX8_setTier_39 : decode cX8_setTier 39 = .ok (.iadd, 1) := by decide +kernel
theorem dX8_setTier_40 : decode cX8_setTier 40 = .ok (.iload_n 2, 1) := by decide +kernel
theorem dX8_setTier_41 : decode cX8_setTier 41 = .ok (.invokevirtual 86, 3) := by decide +kernel
theorem dX8_setTier_44 : decode cX8_setTier 44 = .ok (.goto 8, 3) := by decide +kernel
theorem dX8_setTier_47 : decode cX8_setTier 47 = .ok (.aload_n 0, 1) := by decide +kernel
theorem dX8_setTier_48 : decode cX8_setTier 48 = .ok (.iconst 2, 1) := by decide +kernel
theorem dX8_setTier_49 : decode cX8_setTier 49 = .ok (.invokevirtual 79, 3) := by decide +kernel
theorem dX8_setTier_52 : decode cX8_setTier 52 = .ok (.ireturn, 1) := by decide +kernel
theorem dX8_disputed_0 : decode cX8_disputed 0 = .ok (.lconst 0, 1) := by decide +kernel
theorem dX8_disputed_1 : decode cX8_disputed 1 = .ok (.lstore_n 1, 1) := by decide +kernel
theorem dX8_disputed_2 : decode cX8_disputed 2 = .ok (.iconst 0, 1) := by decide +kernel
theorem dX8_disputed_3 : decode cX8_disputed 3 = .ok (.istore_n 3, 1) := by decide +kernel
theorem dX8_disputed_4 : decode cX8_disputed 4 = .ok (.iload_n 3, 1) := by decide +kernel
theorem dX8_disputed_5 : decode cX8_disputed 5 = .ok (.aload_n 0, 1) := by decide +kernel
theorem dX8_disputed_6 : decode cX8_disputed 6 = .ok (.invokevirtual 67, 3) := by decide +kernel
theorem dX8_disputed_9 : decode cX8_disputed 9 = .ok (.if_icmp .ge 35, 3) := by decide +kernel
theorem dX8_disputed_12 : decode cX8_disputed 12 = .ok (.lload_n 1, 1) := by decide +kernel
theorem dX8_disputed_13 : decode cX8_disputed 13 = .ok (.aload_n 0, 1) := by decide +kernel
theorem dX8_disputed_14 : decode cX8_disputed 14 = .ok (.getfield 7, 3) := by decide +kernel
theorem dX8_disputed_17 : decode cX8_disputed 17 = .ok (.aload_n 0, 1) := by decide +kernel
theorem dX8_disputed_18 : decode cX8_disputed 18 = .ok (.iload_n 3, 1) := by decide +kernel
theorem dX8_disputed_19 : decode cX8_disputed 19 = .ok (.iconst 2, 1) := by decide +kernel
theorem dX8_disputed_20 : decode cX8_disputed 20 = .ok (.invokevirtual 90, 3) := by decide +kernel
theorem dX8_disputed_23 : decode cX8_disputed 23 = .ok (.laload, 1) := by decide +kernel
theorem dX8_disputed_24 : decode cX8_disputed 24 = .ok (.aload_n 0, 1) := by decide +kernel
theorem dX8_disputed_25 : decode cX8_disputed 25 = .ok (.getfield 7, 3) := by decide +kernel
theorem dX8_disputed_28 : decode cX8_disputed 28 = .ok (.aload_n 0, 1) := by decide +kernel
theorem dX8_disputed_29 : decode cX8_disputed 29 = .ok (.iload_n 3, 1) := by decide +kernel
theorem dX8_disputed_30 : decode cX8_disputed 30 = .ok (.iconst 5, 1) := by decide +kernel
theorem dX8_disputed_31 : decode cX8_disputed 31 = .ok (.invokevirtual 90, 3) := by decide +kernel
theorem dX8_disputed_34 : decode cX8_disputed 34 = .ok (.laload, 1) := by decide +kernel
theorem dX8_disputed_35 : decode cX8_disputed 35 = .ok (.lsub, 1) := by decide +kernel
theorem dX8_disputed_36 : decode cX8_disputed 36 = .ok (.ladd, 1) := by decide +kernel
theorem dX8_disputed_37 : decode cX8_disputed 37 = .ok (.lstore_n 1, 1) := by decide +kernel
theorem dX8_disputed_38 : decode cX8_disputed 38 = .ok (.iinc 3 1, 3) := by decide +kernel
theorem dX8_disputed_41 : decode cX8_disputed 41 = .ok (.goto (-37), 3) := by decide +kernel
theorem dX8_disputed_44 : decode cX8_disputed 44 = .ok (.lload_n 1, 1) := by decide +kernel
theorem dX8_disputed_45 : decode cX8_disputed 45 = .ok (.lreturn, 1) := by decide +kernel
theorem dX8_partOf_0 : decode cX8_partOf 0 = .ok (.iload_n 3, 1) := by decide +kernel
theorem dX8_partOf_1 : decode cX8_partOf 1 = .ok (.ifCond .ne 7, 3) := by decide +kernel
theorem dX8_partOf_4 : decode cX8_partOf 4 = .ok (.lconst 0, 1) := by decide +kernel
theorem dX8_partOf_5 : decode cX8_partOf 5 = .ok (.goto 28, 3) := by decide +kernel
theorem dX8_partOf_8 : decode cX8_partOf 8 = .ok (.iload_n 3, 1) := by decide +kernel
theorem dX8_partOf_9 : decode cX8_partOf 9 = .ok (.iconst 1, 1) := by decide +kernel
theorem dX8_partOf_10 : decode cX8_partOf 10 = .ok (.if_icmp .ne 9, 3) := by decide +kernel
theorem dX8_partOf_13 : decode cX8_partOf 13 = .ok (.ldc2_w 93, 3) := by decide +kernel
theorem dX8_partOf_16 : decode cX8_partOf 16 = .ok (.goto 17, 3) := by decide +kernel
theorem dX8_partOf_19 : decode cX8_partOf 19 = .ok (.iload_n 3, 1) := by decide +kernel
theorem dX8_partOf_20 : decode cX8_partOf 20 = .ok (.iconst 2, 1) := by decide +kernel
theorem dX8_partOf_21 : decode cX8_partOf 21 = .ok (.if_icmp .ne 9, 3) := by decide +kernel
theorem dX8_partOf_24 : decode cX8_partOf 24 = .ok (.ldc2_w 95, 3) := by decide +kernel
theorem dX8_partOf_27 : decode cX8_partOf 27 = .ok (.goto 6, 3) := by decide +kernel
theorem dX8_partOf_30 : decode cX8_partOf 30 = .ok (.ldc2_w 97, 3) := by decide +kernel
theorem dX8_partOf_33 : decode cX8_partOf 33 = .ok (.lstore 4, 2) := by decide +kernel
theorem dX8_partOf_35 : decode cX8_partOf 35 = .ok (.iload_n 3, 1) := by decide +kernel
theorem dX8_partOf_36 : decode cX8_partOf 36 = .ok (.ifCond .ne 9, 3) := by decide +kernel
theorem dX8_partOf_39 : decode cX8_partOf 39 = .ok (.ldc2_w 93, 3) := by decide +kernel
theorem dX8_partOf_42 : decode cX8_partOf 42 = .ok (.goto 26, 3) := by decide +kernel
theorem dX8_partOf_45 : decode cX8_partOf 45 = .ok (.iload_n 3, 1) := by decide +kernel
theorem dX8_partOf_46 : decode cX8_partOf 46 = .ok (.iconst 1, 1) := by decide +kernel
theorem dX8_partOf_47 : decode cX8_partOf 47 = .ok (.if_icmp .ne 9, 3) := by decide +kernel
theorem dX8_partOf_50 : decode cX8_partOf 50 = .ok (.ldc2_w 95, 3) := by decide +kernel
theorem dX8_partOf_53 : decode cX8_partOf 53 = .ok (.goto 15, 3) := by decide +kernel
theorem dX8_partOf_56 : decode cX8_partOf 56 = .ok (.iload_n 3, 1) := by decide +kernel
theorem dX8_partOf_57 : decode cX8_partOf 57 = .ok (.iconst 2, 1) := by decide +kernel
theorem dX8_partOf_58 : decode cX8_partOf 58 = .ok (.if_icmp .ne 9, 3) := by decide +kernel
theorem dX8_partOf_61 : decode cX8_partOf 61 = .ok (.ldc2_w 97, 3) := by decide +kernel
theorem dX8_partOf_64 : decode cX8_partOf 64 = .ok (.goto 4, 3) := by decide +kernel
theorem dX8_partOf_67 : decode cX8_partOf 67 = .ok (.lload_n 1, 1) := by decide +kernel
theorem dX8_partOf_68 : decode cX8_partOf 68 = .ok (.lstore 6, 2) := by decide +kernel
theorem dX8_partOf_70 : decode cX8_partOf 70 = .ok (.lload_n 1, 1) := by decide +kernel
theorem dX8_partOf_71 : decode cX8_partOf 71 = .ok (.lload 6, 2) := by decide +kernel
theorem dX8_partOf_73 : decode cX8_partOf 73 = .ok (.invokestatic 99, 3) := by decide +kernel
theorem dX8_partOf_76 : decode cX8_partOf 76 = .ok (.lstore 8, 2) := by decide +kernel
theorem dX8_partOf_78 : decode cX8_partOf 78 = .ok (.lload 8, 2) := by decide +kernel
theorem dX8_partOf_80 : decode cX8_partOf 80 = .ok (.lload 4, 2) := by decide +kernel
theorem dX8_partOf_82 : decode cX8_partOf 82 = .ok (.lcmp, 1) := by decide +kernel
theorem dX8_partOf_83 : decode cX8_partOf 83 = .ok (.ifCond .le 11, 3) := by decide +kernel
theorem dX8_partOf_86 : decode cX8_partOf 86 = .ok (.lload 8, 2) := by decide +kernel
theorem dX8_partOf_88 : decode cX8_partOf 88 = .ok (.lload 4, 2) := by decide +kernel
theorem dX8_partOf_90 : decode cX8_partOf 90 = .ok (.lsub, 1) := by decide +kernel
theorem dX8_partOf_91 : decode cX8_partOf 91 = .ok (.goto 4, 3) := by decide +kernel
theorem dX8_partOf_94 : decode cX8_partOf 94 = .ok (.lconst 0, 1) := by decide +kernel
theorem dX8_partOf_95 : decode cX8_partOf 95 = .ok (.lreturn, 1) := by decide +kernel
theorem dX8_feeOf_0 : decode cX8_feeOf 0 = .ok (.aload_n 0, 1) := by decide +kernel
theorem dX8_feeOf_1 : decode cX8_feeOf 1 = .ok (.lload_n 1, 1) := by decide +kernel
theorem dX8_feeOf_2 : decode cX8_feeOf 2 = .ok (.iload_n 3, 1) := by decide +kernel
theorem dX8_feeOf_3 : decode cX8_feeOf 3 = .ok (.invokevirtual 103, 3) := by decide +kernel
theorem dX8_feeOf_6 : decode cX8_feeOf 6 = .ok (.aload_n 0, 1) := by decide +kernel
theorem dX8_feeOf_7 : decode cX8_feeOf 7 = .ok (.getfield 7, 3) := by decide +kernel
theorem dX8_feeOf_10 : decode cX8_feeOf 10 = .ok (.bipush 10, 2) := by decide +kernel
theorem dX8_feeOf_12 : decode cX8_feeOf 12 = .ok (.iload_n 3, 1) := by decide +kernel
theorem dX8_feeOf_13 : decode cX8_feeOf 13 = .ok (.iadd, 1) := by decide +kernel
theorem dX8_feeOf_14 : decode cX8_feeOf 14 = .ok (.laload, 1) := by decide +kernel
theorem dX8_feeOf_15 : decode cX8_feeOf 15 = .ok (.lmul, 1) := by decide +kernel
theorem dX8_feeOf_16 : decode cX8_feeOf 16 = .ok (.ldc2_w 107, 3) := by decide +kernel
theorem dX8_feeOf_19 : decode cX8_feeOf 19 = .ok (.ldiv, 1) := by decide +kernel
theorem dX8_feeOf_20 : decode cX8_feeOf 20 = .ok (.lreturn, 1) := by decide +kernel
theorem dX8_tiersOf_0 : decode cX8_tiersOf 0 = .ok (.aload_n 0, 1) := by decide +kernel
theorem dX8_tiersOf_1 : decode cX8_tiersOf 1 = .ok (.lload_n 1, 1) := by decide +kernel
theorem dX8_tiersOf_2 : decode cX8_tiersOf 2 = .ok (.iconst 0, 1) := by decide +kernel
theorem dX8_tiersOf_3 : decode cX8_tiersOf 3 = .ok (.invokevirtual 109, 3) := by decide +kernel
theorem dX8_tiersOf_6 : decode cX8_tiersOf 6 = .ok (.aload_n 0, 1) := by decide +kernel
theorem dX8_tiersOf_7 : decode cX8_tiersOf 7 = .ok (.lload_n 1, 1) := by decide +kernel
theorem dX8_tiersOf_8 : decode cX8_tiersOf 8 = .ok (.iconst 1, 1) := by decide +kernel
theorem dX8_tiersOf_9 : decode cX8_tiersOf 9 = .ok (.invokevirtual 109, 3) := by decide +kernel
theorem dX8_tiersOf_12 : decode cX8_tiersOf 12 = .ok (.ladd, 1) := by decide +kernel
theorem dX8_tiersOf_13 : decode cX8_tiersOf 13 = .ok (.aload_n 0, 1) := by decide +kernel
theorem dX8_tiersOf_14 : decode cX8_tiersOf 14 = .ok (.lload_n 1, 1) := by decide +kernel
theorem dX8_tiersOf_15 : decode cX8_tiersOf 15 = .ok (.iconst 2, 1) := by decide +kernel
theorem dX8_tiersOf_16 : decode cX8_tiersOf 16 = .ok (.invokevirtual 109, 3) := by decide +kernel
theorem dX8_tiersOf_19 : decode cX8_tiersOf 19 = .ok (.ladd, 1) := by decide +kernel
theorem dX8_tiersOf_20 : decode cX8_tiersOf 20 = .ok (.aload_n 0, 1) := by decide +kernel
theorem dX8_tiersOf_21 : decode cX8_tiersOf 21 = .ok (.lload_n 1, 1) := by decide +kernel
theorem dX8_tiersOf_22 : decode cX8_tiersOf 22 = .ok (.iconst 3, 1) := by decide +kernel
theorem dX8_tiersOf_23 : decode cX8_tiersOf 23 = .ok (.invokevirtual 109, 3) := by decide +kernel
theorem dX8_tiersOf_26 : decode cX8_tiersOf 26 = .ok (.ladd, 1) := by decide +kernel
theorem dX8_tiersOf_27 : decode cX8_tiersOf 27 = .ok (.lreturn, 1) := by decide +kernel
theorem dX8_allFees_0 : decode cX8_allFees 0 = .ok (.aload_n 0, 1) := by decide +kernel
theorem dX8_allFees_1 : decode cX8_allFees 1 = .ok (.aload_n 0, 1) := by decide +kernel
theorem dX8_allFees_2 : decode cX8_allFees 2 = .ok (.invokevirtual 112, 3) := by decide +kernel
theorem dX8_allFees_5 : decode cX8_allFees 5 = .ok (.invokevirtual 116, 3) := by decide +kernel
theorem dX8_allFees_8 : decode cX8_allFees 8 = .ok (.aload_n 0, 1) := by decide +kernel
theorem dX8_allFees_9 : decode cX8_allFees 9 = .ok (.invokevirtual 67, 3) := by decide +kernel
theorem dX8_allFees_12 : decode cX8_allFees 12 = .ok (.ifCond .le 9, 3) := by decide +kernel
theorem dX8_allFees_15 : decode cX8_allFees 15 = .ok (.ldc2_w 120, 3) := by decide +kernel
theorem dX8_allFees_18 : decode cX8_allFees 18 = .ok (.goto 4, 3) := by decide +kernel
theorem dX8_allFees_21 : decode cX8_allFees 21 = .ok (.lconst 0, 1) := by decide +kernel
theorem dX8_allFees_22 : decode cX8_allFees 22 = .ok (.ladd, 1) := by decide +kernel
theorem dX8_allFees_23 : decode cX8_allFees 23 = .ok (.lreturn, 1) := by decide +kernel
theorem dX8_lostBy_0 : decode cX8_lostBy 0 = .ok (.lconst 0, 1) := by decide +kernel
theorem dX8_lostBy_1 : decode cX8_lostBy 1 = .ok (.lstore_n 2, 1) := by decide +kernel
theorem dX8_lostBy_2 : decode cX8_lostBy 2 = .ok (.iconst 0, 1) := by decide +kernel
theorem dX8_lostBy_3 : decode cX8_lostBy 3 = .ok (.istore 4, 2) := by decide +kernel
theorem dX8_lostBy_5 : decode cX8_lostBy 5 = .ok (.iload 4, 2) := by decide +kernel
theorem dX8_lostBy_7 : decode cX8_lostBy 7 = .ok (.aload_n 0, 1) := by decide +kernel
theorem dX8_lostBy_8 : decode cX8_lostBy 8 = .ok (.invokevirtual 67, 3) := by decide +kernel
theorem dX8_lostBy_11 : decode cX8_lostBy 11 = .ok (.if_icmp .ge 78, 3) := by decide +kernel
theorem dX8_lostBy_14 : decode cX8_lostBy 14 = .ok (.aload_n 0, 1) := by decide +kernel
theorem dX8_lostBy_15 : decode cX8_lostBy 15 = .ok (.getfield 7, 3) := by decide +kernel
theorem dX8_lostBy_18 : decode cX8_lostBy 18 = .ok (.bipush 14, 2) := by decide +kernel
theorem dX8_lostBy_20 : decode cX8_lostBy 20 = .ok (.aload_n 0, 1) := by decide +kernel
theorem dX8_lostBy_21 : decode cX8_lostBy 21 = .ok (.getfield 7, 3) := by decide +kernel
theorem dX8_lostBy_24 : decode cX8_lostBy 24 = .ok (.aload_n 0, 1) := by decide +kernel
theorem dX8_lostBy_25 : decode cX8_lostBy 25 = .ok (.iload 4, 2) := by decide +kernel
theorem dX8_lostBy_27 : decode cX8_lostBy 27 = .ok (.iconst 0, 1) := by decide +kernel
theorem dX8_lostBy_28 : decode cX8_lostBy 28 = .ok (.invokevirtual 90, 3) := by decide +kernel
theorem dX8_lostBy_31 : decode cX8_lostBy 31 = .ok (.laload, 1) := by decide +kernel
theorem dX8_lostBy_32 : decode cX8_lostBy 32 = .ok (.l2i, 1) := by decide +kernel
theorem dX8_lostBy_33 : decode cX8_lostBy 33 = .ok (.iadd, 1) := by decide +kernel
theorem dX8_lostBy_34 : decode cX8_lostBy 34 = .ok (.laload, 1) := by decide +kernel
theorem dX8_lostBy_35 : decode cX8_lostBy 35 = .ok (.iload_n 1, 1) := by decide +kernel
theorem dX8_lostBy_36 : decode cX8_lostBy 36 = .ok (.i2l, 1) := by decide +kernel
theorem dX8_lostBy_37 : decode cX8_lostBy 37 = .ok (.lcmp, 1) := by decide +kernel
theorem dX8_lostBy_38 : decode cX8_lostBy 38 = .ok (.ifCond .ne 7, 3) := by decide +kernel
theorem dX8_lostBy_41 : decode cX8_lostBy 41 = .ok (.iconst 1, 1) := by decide +kernel
theorem dX8_lostBy_42 : decode cX8_lostBy 42 = .ok (.goto 4, 3) := by decide +kernel
theorem dX8_lostBy_45 : decode cX8_lostBy 45 = .ok (.iconst 0, 1) := by decide +kernel
theorem dX8_lostBy_46 : decode cX8_lostBy 46 = .ok (.istore 5, 2) := by decide +kernel
theorem dX8_lostBy_48 : decode cX8_lostBy 48 = .ok (.lload_n 2, 1) := by decide +kernel
theorem dX8_lostBy_49 : decode cX8_lostBy 49 = .ok (.iload 5, 2) := by decide +kernel
theorem dX8_lostBy_51 : decode cX8_lostBy 51 = .ok (.ifCond .eq 18, 3) := by decide +kernel
theorem dX8_lostBy_54 : decode cX8_lostBy 54 = .ok (.aload_n 0, 1) := by decide +kernel
theorem dX8_lostBy_55 : decode cX8_lostBy 55 = .ok (.getfield 7, 3) := by decide +kernel
theorem dX8_lostBy_58 : decode cX8_lostBy 58 = .ok (.aload_n 0, 1) := by decide +kernel
theorem dX8_lostBy_59 : decode cX8_lostBy 59 = .ok (.iload 4, 2) := by decide +kernel
theorem dX8_lostBy_61 : decode cX8_lostBy 61 = .ok (.iconst 4, 1) := by decide +kernel
theorem dX8_lostBy_62 : decode cX8_lostBy 62 = .ok (.invokevirtual 90, 3) := by decide +kernel
theorem dX8_lostBy_65 : decode cX8_lostBy 65 = .ok (.laload, 1) := by decide +kernel
theorem dX8_lostBy_66 : decode cX8_lostBy 66 = .ok (.goto 15, 3) := by decide +kernel
theorem dX8_lostBy_69 : decode cX8_lostBy 69 = .ok (.aload_n 0, 1) := by decide +kernel
theorem dX8_lostBy_70 : decode cX8_lostBy 70 = .ok (.getfield 7, 3) := by decide +kernel
theorem dX8_lostBy_73 : decode cX8_lostBy 73 = .ok (.aload_n 0, 1) := by decide +kernel
theorem dX8_lostBy_74 : decode cX8_lostBy 74 = .ok (.iload 4, 2) := by decide +kernel
theorem dX8_lostBy_76 : decode cX8_lostBy 76 = .ok (.iconst 3, 1) := by decide +kernel
theorem dX8_lostBy_77 : decode cX8_lostBy 77 = .ok (.invokevirtual 90, 3) := by decide +kernel
theorem dX8_lostBy_80 : decode cX8_lostBy 80 = .ok (.laload, 1) := by decide +kernel
theorem dX8_lostBy_81 : decode cX8_lostBy 81 = .ok (.ladd, 1) := by decide +kernel
theorem dX8_lostBy_82 : decode cX8_lostBy 82 = .ok (.lstore_n 2, 1) := by decide +kernel
theorem dX8_lostBy_83 : decode cX8_lostBy 83 = .ok (.iinc 4 1, 3) := by decide +kernel
theorem dX8_lostBy_86 : decode cX8_lostBy 86 = .ok (.goto (-81), 3) := by decide +kernel
theorem dX8_lostBy_89 : decode cX8_lostBy 89 = .ok (.lload_n 2, 1) := by decide +kernel
theorem dX8_lostBy_90 : decode cX8_lostBy 90 = .ok (.lreturn, 1) := by decide +kernel
theorem dX8_shareOfSide_0 : decode cX8_shareOfSide 0 = .ok (.aload_n 0, 1) := by decide +kernel
theorem dX8_shareOfSide_1 : decode cX8_shareOfSide 1 = .ok (.invokevirtual 122, 3) := by decide +kernel
theorem dX8_shareOfSide_4 : decode cX8_shareOfSide 4 = .ok (.lstore_n 2, 1) := by decide +kernel
theorem dX8_shareOfSide_5 : decode cX8_shareOfSide 5 = .ok (.aload_n 0, 1) := by decide +kernel
theorem dX8_shareOfSide_6 : decode cX8_shareOfSide 6 = .ok (.iconst 0, 1) := by decide +kernel
theorem dX8_shareOfSide_7 : decode cX8_shareOfSide 7 = .ok (.invokevirtual 125, 3) := by decide +kernel
theorem dX8_shareOfSide_10 : decode cX8_shareOfSide 10 = .ok (.aload_n 0, 1) := by decide +kernel
theorem dX8_shareOfSide_11 : decode cX8_shareOfSide 11 = .ok (.iconst 1, 1) := by decide +kernel
theorem dX8_shareOfSide_12 : decode cX8_shareOfSide 12 = .ok (.invokevirtual 125, 3) := by decide +kernel
theorem dX8_shareOfSide_15 : decode cX8_shareOfSide 15 = .ok (.ladd, 1) := by decide +kernel
theorem dX8_shareOfSide_16 : decode cX8_shareOfSide 16 = .ok (.lstore 4, 2) := by decide +kernel
theorem dX8_shareOfSide_18 : decode cX8_shareOfSide 18 = .ok (.lload 4, 2) := by decide +kernel
theorem dX8_shareOfSide_20 : decode cX8_shareOfSide 20 = .ok (.lconst 0, 1) := by decide +kernel
theorem dX8_shareOfSide_21 : decode cX8_shareOfSide 21 = .ok (.lcmp, 1) := by decide +kernel
theorem dX8_shareOfSide_22 : decode cX8_shareOfSide 22 = .ok (.ifCond .ne 11, 3) := by decide +kernel
theorem dX8_shareOfSide_25 : decode cX8_shareOfSide 25 = .ok (.lload_n 2, 1) := by decide +kernel
theorem dX8_shareOfSide_26 : decode cX8_shareOfSide 26 = .ok (.ldc2_w 129, 3) := by decide +kernel
theorem dX8_shareOfSide_29 : decode cX8_shareOfSide 29 = .ok (.ldiv, 1) := by decide +kernel
theorem dX8_shareOfSide_30 : decode cX8_shareOfSide 30 = .ok (.goto 13, 3) := by decide +kernel
theorem dX8_shareOfSide_33 : decode cX8_shareOfSide 33 = .ok (.lload_n 2, 1) := by decide +kernel
theorem dX8_shareOfSide_34 : decode cX8_shareOfSide 34 = .ok (.aload_n 0, 1) := by decide +kernel
theorem dX8_shareOfSide_35 : decode cX8_shareOfSide 35 = .ok (.iconst 1, 1) := by decide +kernel
theorem dX8_shareOfSide_36 : decode cX8_shareOfSide 36 = .ok (.invokevirtual 125, 3) := by decide +kernel
theorem dX8_shareOfSide_39 : decode cX8_shareOfSide 39 = .ok (.lmul, 1) := by decide +kernel
theorem dX8_shareOfSide_40 : decode cX8_shareOfSide 40 = .ok (.lload 4, 2) := by decide +kernel
theorem dX8_shareOfSide_42 : decode cX8_shareOfSide 42 = .ok (.ldiv, 1) := by decide +kernel
theorem dX8_shareOfSide_43 : decode cX8_shareOfSide 43 = .ok (.lstore 6, 2) := by decide +kernel
theorem dX8_shareOfSide_45 : decode cX8_shareOfSide 45 = .ok (.iload_n 1, 1) := by decide +kernel
theorem dX8_shareOfSide_46 : decode cX8_shareOfSide 46 = .ok (.iconst 1, 1) := by decide +kernel
theorem dX8_shareOfSide_47 : decode cX8_shareOfSide 47 = .ok (.if_icmp .ne 8, 3) := by decide +kernel
theorem dX8_shareOfSide_50 : decode cX8_shareOfSide 50 = .ok (.lload 6, 2) := by decide +kernel
theorem dX8_shareOfSide_52 : decode cX8_shareOfSide 52 = .ok (.goto 7, 3) := by decide +kernel
theorem dX8_shareOfSide_55 : decode cX8_shareOfSide 55 = .ok (.lload_n 2, 1) := by decide +kernel
theorem dX8_shareOfSide_56 : decode cX8_shareOfSide 56 = .ok (.lload 6, 2) := by decide +kernel
theorem dX8_shareOfSide_58 : decode cX8_shareOfSide 58 = .ok (.lsub, 1) := by decide +kernel
theorem dX8_shareOfSide_59 : decode cX8_shareOfSide 59 = .ok (.lreturn, 1) := by decide +kernel
theorem dX8_weights_0 : decode cX8_weights 0 = .ok (.lconst 0, 1) := by decide +kernel
theorem dX8_weights_1 : decode cX8_weights 1 = .ok (.lstore_n 2, 1) := by decide +kernel
theorem dX8_weights_2 : decode cX8_weights 2 = .ok (.iconst 0, 1) := by decide +kernel
theorem dX8_weights_3 : decode cX8_weights 3 = .ok (.istore 4, 2) := by decide +kernel
theorem dX8_weights_5 : decode cX8_weights 5 = .ok (.iload 4, 2) := by decide +kernel
theorem dX8_weights_7 : decode cX8_weights 7 = .ok (.aload_n 0, 1) := by decide +kernel
theorem dX8_weights_8 : decode cX8_weights 8 = .ok (.invokevirtual 59, 3) := by decide +kernel
theorem dX8_weights_11 : decode cX8_weights 11 = .ok (.if_icmp .ge 42, 3) := by decide +kernel
theorem dX8_weights_14 : decode cX8_weights 14 = .ok (.lload_n 2, 1) := by decide +kernel
theorem dX8_weights_15 : decode cX8_weights 15 = .ok (.aload_n 0, 1) := by decide +kernel
theorem dX8_weights_16 : decode cX8_weights 16 = .ok (.getfield 7, 3) := by decide +kernel
theorem dX8_weights_19 : decode cX8_weights 19 = .ok (.bipush 14, 2) := by decide +kernel
theorem dX8_weights_21 : decode cX8_weights 21 = .ok (.iload 4, 2) := by decide +kernel
theorem dX8_weights_23 : decode cX8_weights 23 = .ok (.iadd, 1) := by decide +kernel
theorem dX8_weights_24 : decode cX8_weights 24 = .ok (.laload, 1) := by decide +kernel
theorem dX8_weights_25 : decode cX8_weights 25 = .ok (.iload_n 1, 1) := by decide +kernel
theorem dX8_weights_26 : decode cX8_weights 26 = .ok (.i2l, 1) := by decide +kernel
theorem dX8_weights_27 : decode cX8_weights 27 = .ok (.lcmp, 1) := by decide +kernel
theorem dX8_weights_28 : decode cX8_weights 28 = .ok (.ifCond .ne 16, 3) := by decide +kernel
theorem dX8_weights_31 : decode cX8_weights 31 = .ok (.aload_n 0, 1) := by decide +kernel
theorem dX8_weights_32 : decode cX8_weights 32 = .ok (.getfield 7, 3) := by decide +kernel
theorem dX8_weights_35 : decode cX8_weights 35 = .ok (.bipush 20, 2) := by decide +kernel
theorem dX8_weights_37 : decode cX8_weights 37 = .ok (.iload 4, 2) := by decide +kernel
theorem dX8_weights_39 : decode cX8_weights 39 = .ok (.iadd, 1) := by decide +kernel
theorem dX8_weights_40 : decode cX8_weights 40 = .ok (.laload, 1) := by decide +kernel
theorem dX8_weights_41 : decode cX8_weights 41 = .ok (.goto 4, 3) := by decide +kernel
theorem dX8_weights_44 : decode cX8_weights 44 = .ok (.lconst 0, 1) := by decide +kernel
theorem dX8_weights_45 : decode cX8_weights 45 = .ok (.ladd, 1) := by decide +kernel
theorem dX8_weights_46 : decode cX8_weights 46 = .ok (.lstore_n 2, 1) := by decide +kernel
theorem dX8_weights_47 : decode cX8_weights 47 = .ok (.iinc 4 1, 3) := by decide +kernel
theorem dX8_weights_50 : decode cX8_weights 50 = .ok (.goto (-45), 3) := by decide +kernel
theorem dX8_weights_53 : decode cX8_weights 53 = .ok (.lload_n 2, 1) := by decide +kernel
theorem dX8_weights_54 : decode cX8_weights 54 = .ok (.lreturn, 1) := by decide +kernel
theorem dX8_split_0 : decode cX8_split 0 = .ok (.aload_n 0, 1) := by decide +kernel
theorem dX8_split_1 : decode cX8_split 1 = .ok (.getfield 7, 3) := by decide +kernel
theorem dX8_split_4 : decode cX8_split 4 = .ok (.bipush 14, 2) := by decide +kernel
theorem dX8_split_6 : decode cX8_split 6 = .ok (.iload_n 3, 1) := by decide +kernel
theorem dX8_split_7 : decode cX8_split 7 = .ok (.iadd, 1) := by decide +kernel
theorem dX8_split_8 : decode cX8_split 8 = .ok (.laload, 1) := by decide +kernel
theorem dX8_split_9 : decode cX8_split 9 = .ok (.l2i, 1) := by decide +kernel
theorem dX8_split_10 : decode cX8_split 10 = .ok (.istore 4, 2) := by decide +kernel
theorem dX8_split_12 : decode cX8_split 12 = .ok (.aload_n 0, 1) := by decide +kernel
theorem dX8_split_13 : decode cX8_split 13 = .ok (.iload 4, 2) := by decide +kernel
theorem dX8_split_15 : decode cX8_split 15 = .ok (.invokevirtual 131, 3) := by decide +kernel
theorem dX8_split_18 : decode cX8_split 18 = .ok (.lstore 5, 2) := by decide +kernel
theorem dX8_split_20 : decode cX8_split 20 = .ok (.lload_n 1, 1) := by decide +kernel
theorem dX8_split_21 : decode cX8_split 21 = .ok (.lstore 7, 2) := by decide +kernel
theorem dX8_split_23 : decode cX8_split 23 = .ok (.iconst 0, 1) := by decide +kernel
theorem dX8_split_24 : decode cX8_split 24 = .ok (.istore 9, 2) := by decide +kernel
theorem dX8_split_26 : decode cX8_split 26 = .ok (.iconst 0, 1) := by decide +kernel
theorem dX8_split_27 : decode cX8_split 27 = .ok (.istore 10, 2) := by decide +kernel
theorem dX8_split_29 : decode cX8_split 29 = .ok (.iload 10, 2) := by decide +kernel
theorem dX8_split_31 : decode cX8_split 31 = .ok (.aload_n 0, 1) := by decide +kernel
theorem dX8_split_32 : decode cX8_split 32 = .ok (.invokevirtual 59, 3) := by decide +kernel
theorem dX8_split_35 : decode cX8_split 35 = .ok (.if_icmp .ge 62, 3) := by decide +kernel
theorem dX8_split_38 : decode cX8_split 38 = .ok (.aload_n 0, 1) := by decide +kernel
theorem dX8_split_39 : decode cX8_split 39 = .ok (.getfield 7, 3) := by decide +kernel
theorem dX8_split_42 : decode cX8_split 42 = .ok (.bipush 14, 2) := by decide +kernel
theorem dX8_split_44 : decode cX8_split 44 = .ok (.iload 10, 2) := by decide +kernel
theorem dX8_split_46 : decode cX8_split 46 = .ok (.iadd, 1) := by decide +kernel
theorem dX8_split_47 : decode cX8_split 47 = .ok (.laload, 1) := by decide +kernel
theorem dX8_split_48 : decode cX8_split 48 = .ok (.iload 4, 2) := by decide +kernel
theorem dX8_split_50 : decode cX8_split 50 = .ok (.i2l, 1) := by decide +kernel
theorem dX8_split_51 : decode cX8_split 51 = .ok (.lcmp, 1) := by decide +kernel
theorem dX8_split_52 : decode cX8_split 52 = .ok (.ifCond .ne 39, 3) := by decide +kernel
theorem dX8_split_55 : decode cX8_split 55 = .ok (.lload 7, 2) := by decide +kernel
theorem dX8_split_57 : decode cX8_split 57 = .ok (.lload_n 1, 1) := by decide +kernel
theorem dX8_split_58 : decode cX8_split 58 = .ok (.aload_n 0, 1) := by decide +kernel
theorem dX8_split_59 : decode cX8_split 59 = .ok (.getfield 7, 3) := by decide +kernel
theorem dX8_split_62 : decode cX8_split 62 = .ok (.bipush 20, 2) := by decide +kernel
theorem dX8_split_64 : decode cX8_split 64 = .ok (.iload 10, 2) := by decide +kernel
theorem dX8_split_66 : decode cX8_split 66 = .ok (.iadd, 1) := by decide +kernel
theorem dX8_split_67 : decode cX8_split 67 = .ok (.laload, 1) := by decide +kernel
theorem dX8_split_68 : decode cX8_split 68 = .ok (.lmul, 1) := by decide +kernel
theorem dX8_split_69 : decode cX8_split 69 = .ok (.lload 5, 2) := by decide +kernel
theorem dX8_split_71 : decode cX8_split 71 = .ok (.ldiv, 1) := by decide +kernel
theorem dX8_split_72 : decode cX8_split 72 = .ok (.lsub, 1) := by decide +kernel
theorem dX8_split_73 : decode cX8_split 73 = .ok (.lstore 7, 2) := by decide +kernel
theorem dX8_split_75 : decode cX8_split 75 = .ok (.iload 9, 2) := by decide +kernel
theorem dX8_split_77 : decode cX8_split 77 = .ok (.iload 10, 2) := by decide +kernel
theorem dX8_split_79 : decode cX8_split 79 = .ok (.iload_n 3, 1) := by decide +kernel
theorem dX8_split_80 : decode cX8_split 80 = .ok (.if_icmp .ge 7, 3) := by decide +kernel
theorem dX8_split_83 : decode cX8_split 83 = .ok (.iconst 1, 1) := by decide +kernel
theorem dX8_split_84 : decode cX8_split 84 = .ok (.goto 4, 3) := by decide +kernel
theorem dX8_split_87 : decode cX8_split 87 = .ok (.iconst 0, 1) := by decide +kernel
theorem dX8_split_88 : decode cX8_split 88 = .ok (.iadd, 1) := by decide +kernel
theorem dX8_split_89 : decode cX8_split 89 = .ok (.istore 9, 2) := by decide +kernel
theorem dX8_split_91 : decode cX8_split 91 = .ok (.iinc 10 1, 3) := by decide +kernel
theorem dX8_split_94 : decode cX8_split 94 = .ok (.goto (-65), 3) := by decide +kernel
theorem dX8_split_97 : decode cX8_split 97 = .ok (.lload_n 1, 1) := by decide +kernel
theorem dX8_split_98 : decode cX8_split 98 = .ok (.aload_n 0, 1) := by decide +kernel
theorem dX8_split_99 : decode cX8_split 99 = .ok (.getfield 7, 3) := by decide +kernel
theorem dX8_split_102 : decode cX8_split 102 = .ok (.bipush 20, 2) := by decide +kernel
theorem dX8_split_104 : decode cX8_split 104 = .ok (.iload_n 3, 1) := by decide +kernel
theorem dX8_split_105 : decode cX8_split 105 = .ok (.iadd, 1) := by decide +kernel
theorem dX8_split_106 : decode cX8_split 106 = .ok (.laload, 1) := by decide +kernel
theorem dX8_split_107 : decode cX8_split 107 = .ok (.lmul, 1) := by decide +kernel
theorem dX8_split_108 : decode cX8_split 108 = .ok (.lload 5, 2) := by decide +kernel
theorem dX8_split_110 : decode cX8_split 110 = .ok (.ldiv, 1) := by decide +kernel
theorem dX8_split_111 : decode cX8_split 111 = .ok (.iload 9, 2) := by decide +kernel
theorem dX8_split_113 : decode cX8_split 113 = .ok (.i2l, 1) := by decide +kernel
theorem dX8_split_114 : decode cX8_split 114 = .ok (.lload 7, 2) := by decide +kernel
theorem dX8_split_116 : decode cX8_split 116 = .ok (.lcmp, 1) := by decide +kernel
theorem dX8_split_117 : decode cX8_split 117 = .ok (.ifCond .ge 7, 3) := by decide +kernel
theorem dX8_split_120 : decode cX8_split 120 = .ok (.lconst 1, 1) := by decide +kernel
theorem dX8_split_121 : decode cX8_split 121 = .ok (.goto 4, 3) := by decide +kernel
theorem dX8_split_124 : decode cX8_split 124 = .ok (.lconst 0, 1) := by decide +kernel
theorem dX8_split_125 : decode cX8_split 125 = .ok (.ladd, 1) := by decide +kernel
theorem dX8_split_126 : decode cX8_split 126 = .ok (.lreturn, 1) := by decide +kernel
theorem dX8_shareOf_0 : decode cX8_shareOf 0 = .ok (.aload_n 0, 1) := by decide +kernel
theorem dX8_shareOf_1 : decode cX8_shareOf 1 = .ok (.aload_n 0, 1) := by decide +kernel
theorem dX8_shareOf_2 : decode cX8_shareOf 2 = .ok (.aload_n 0, 1) := by decide +kernel
theorem dX8_shareOf_3 : decode cX8_shareOf 3 = .ok (.getfield 7, 3) := by decide +kernel
theorem dX8_shareOf_6 : decode cX8_shareOf 6 = .ok (.bipush 14, 2) := by decide +kernel
theorem dX8_shareOf_8 : decode cX8_shareOf 8 = .ok (.iload_n 1, 1) := by decide +kernel
theorem dX8_shareOf_9 : decode cX8_shareOf 9 = .ok (.iadd, 1) := by decide +kernel
theorem dX8_shareOf_10 : decode cX8_shareOf 10 = .ok (.laload, 1) := by decide +kernel
theorem dX8_shareOf_11 : decode cX8_shareOf 11 = .ok (.l2i, 1) := by decide +kernel
theorem dX8_shareOf_12 : decode cX8_shareOf 12 = .ok (.invokevirtual 134, 3) := by decide +kernel
theorem dX8_shareOf_15 : decode cX8_shareOf 15 = .ok (.iload_n 1, 1) := by decide +kernel
theorem dX8_shareOf_16 : decode cX8_shareOf 16 = .ok (.invokevirtual 137, 3) := by decide +kernel
theorem dX8_shareOf_19 : decode cX8_shareOf 19 = .ok (.lreturn, 1) := by decide +kernel
theorem dX8_held_0 : decode cX8_held 0 = .ok (.aload_n 0, 1) := by decide +kernel
theorem dX8_held_1 : decode cX8_held 1 = .ok (.getfield 7, 3) := by decide +kernel
theorem dX8_held_4 : decode cX8_held 4 = .ok (.bipush 32, 2) := by decide +kernel
theorem dX8_held_6 : decode cX8_held 6 = .ok (.iload_n 1, 1) := by decide +kernel
theorem dX8_held_7 : decode cX8_held 7 = .ok (.iadd, 1) := by decide +kernel
theorem dX8_held_8 : decode cX8_held 8 = .ok (.laload, 1) := by decide +kernel
theorem dX8_held_9 : decode cX8_held 9 = .ok (.aload_n 0, 1) := by decide +kernel
theorem dX8_held_10 : decode cX8_held 10 = .ok (.getfield 7, 3) := by decide +kernel
theorem dX8_held_13 : decode cX8_held 13 = .ok (.bipush 38, 2) := by decide +kernel
theorem dX8_held_15 : decode cX8_held 15 = .ok (.iload_n 1, 1) := by decide +kernel
theorem dX8_held_16 : decode cX8_held 16 = .ok (.iadd, 1) := by decide +kernel
theorem dX8_held_17 : decode cX8_held 17 = .ok (.laload, 1) := by decide +kernel
theorem dX8_held_18 : decode cX8_held 18 = .ok (.lsub, 1) := by decide +kernel
theorem dX8_held_19 : decode cX8_held 19 = .ok (.aload_n 0, 1) := by decide +kernel
theorem dX8_held_20 : decode cX8_held 20 = .ok (.getfield 7, 3) := by decide +kernel
theorem dX8_held_23 : decode cX8_held 23 = .ok (.bipush 44, 2) := by decide +kernel
theorem dX8_held_25 : decode cX8_held 25 = .ok (.iload_n 1, 1) := by decide +kernel
theorem dX8_held_26 : decode cX8_held 26 = .ok (.iadd, 1) := by decide +kernel
theorem dX8_held_27 : decode cX8_held 27 = .ok (.laload, 1) := by decide +kernel
theorem dX8_held_28 : decode cX8_held 28 = .ok (.lsub, 1) := by decide +kernel
theorem dX8_held_29 : decode cX8_held 29 = .ok (.lreturn, 1) := by decide +kernel
theorem dX8_shortBy_0 : decode cX8_shortBy 0 = .ok (.aload_n 0, 1) := by decide +kernel
theorem dX8_shortBy_1 : decode cX8_shortBy 1 = .ok (.getfield 7, 3) := by decide +kernel
theorem dX8_shortBy_4 : decode cX8_shortBy 4 = .ok (.bipush 26, 2) := by decide +kernel
theorem dX8_shortBy_6 : decode cX8_shortBy 6 = .ok (.iload_n 1, 1) := by decide +kernel
theorem dX8_shortBy_7 : decode cX8_shortBy 7 = .ok (.iadd, 1) := by decide +kernel
theorem dX8_shortBy_8 : decode cX8_shortBy 8 = .ok (.laload, 1) := by decide +kernel
theorem dX8_shortBy_9 : decode cX8_shortBy 9 = .ok (.aload_n 0, 1) := by decide +kernel
theorem dX8_shortBy_10 : decode cX8_shortBy 10 = .ok (.getfield 7, 3) := by decide +kernel
theorem dX8_shortBy_13 : decode cX8_shortBy 13 = .ok (.bipush 32, 2) := by decide +kernel
theorem dX8_shortBy_15 : decode cX8_shortBy 15 = .ok (.iload_n 1, 1) := by decide +kernel
theorem dX8_shortBy_16 : decode cX8_shortBy 16 = .ok (.iadd, 1) := by decide +kernel
theorem dX8_shortBy_17 : decode cX8_shortBy 17 = .ok (.laload, 1) := by decide +kernel
theorem dX8_shortBy_18 : decode cX8_shortBy 18 = .ok (.lcmp, 1) := by decide +kernel
theorem dX8_shortBy_19 : decode cX8_shortBy 19 = .ok (.ifCond .le 25, 3) := by decide +kernel
theorem dX8_shortBy_22 : decode cX8_shortBy 22 = .ok (.aload_n 0, 1) := by decide +kernel
theorem dX8_shortBy_23 : decode cX8_shortBy 23 = .ok (.getfield 7, 3) := by decide +kernel
theorem dX8_shortBy_26 : decode cX8_shortBy 26 = .ok (.bipush 26, 2) := by decide +kernel
theorem dX8_shortBy_28 : decode cX8_shortBy 28 = .ok (.iload_n 1, 1) := by decide +kernel
theorem dX8_shortBy_29 : decode cX8_shortBy 29 = .ok (.iadd, 1) := by decide +kernel
theorem dX8_shortBy_30 : decode cX8_shortBy 30 = .ok (.laload, 1) := by decide +kernel
theorem dX8_shortBy_31 : decode cX8_shortBy 31 = .ok (.aload_n 0, 1) := by decide +kernel
theorem dX8_shortBy_32 : decode cX8_shortBy 32 = .ok (.getfield 7, 3) := by decide +kernel
theorem dX8_shortBy_35 : decode cX8_shortBy 35 = .ok (.bipush 32, 2) := by decide +kernel
theorem dX8_shortBy_37 : decode cX8_shortBy 37 = .ok (.iload_n 1, 1) := by decide +kernel
theorem dX8_shortBy_38 : decode cX8_shortBy 38 = .ok (.iadd, 1) := by decide +kernel
theorem dX8_shortBy_39 : decode cX8_shortBy 39 = .ok (.laload, 1) := by decide +kernel
theorem dX8_shortBy_40 : decode cX8_shortBy 40 = .ok (.lsub, 1) := by decide +kernel
theorem dX8_shortBy_41 : decode cX8_shortBy 41 = .ok (.goto 4, 3) := by decide +kernel
theorem dX8_shortBy_44 : decode cX8_shortBy 44 = .ok (.lconst 0, 1) := by decide +kernel
theorem dX8_shortBy_45 : decode cX8_shortBy 45 = .ok (.lreturn, 1) := by decide +kernel
theorem dX8_find_0 : decode cX8_find 0 = .ok (.iconst 0, 1) := by decide +kernel
theorem dX8_find_1 : decode cX8_find 1 = .ok (.istore_n 3, 1) := by decide +kernel
theorem dX8_find_2 : decode cX8_find 2 = .ok (.iload_n 3, 1) := by decide +kernel
theorem dX8_find_3 : decode cX8_find 3 = .ok (.aload_n 0, 1) := by decide +kernel
theorem dX8_find_4 : decode cX8_find 4 = .ok (.invokevirtual 70, 3) := by decide +kernel
theorem dX8_find_7 : decode cX8_find 7 = .ok (.if_icmp .ge 45, 3) := by decide +kernel
theorem dX8_find_10 : decode cX8_find 10 = .ok (.aload_n 0, 1) := by decide +kernel
theorem dX8_find_11 : decode cX8_find 11 = .ok (.getfield 7, 3) := by decide +kernel
theorem dX8_find_14 : decode cX8_find 14 = .ok (.aload_n 0, 1) := by decide +kernel
theorem dX8_find_15 : decode cX8_find 15 = .ok (.iload_n 3, 1) := by decide +kernel
theorem dX8_find_16 : decode cX8_find 16 = .ok (.iconst 0, 1) := by decide +kernel
theorem dX8_find_17 : decode cX8_find 17 = .ok (.invokevirtual 140, 3) := by decide +kernel
theorem dX8_find_20 : decode cX8_find 20 = .ok (.laload, 1) := by decide +kernel
theorem dX8_find_21 : decode cX8_find 21 = .ok (.iload_n 1, 1) := by decide +kernel
theorem dX8_find_22 : decode cX8_find 22 = .ok (.i2l, 1) := by decide +kernel
theorem dX8_find_23 : decode cX8_find 23 = .ok (.lcmp, 1) := by decide +kernel
theorem dX8_find_24 : decode cX8_find 24 = .ok (.ifCond .ne 22, 3) := by decide +kernel
theorem dX8_find_27 : decode cX8_find 27 = .ok (.aload_n 0, 1) := by decide +kernel
theorem dX8_find_28 : decode cX8_find 28 = .ok (.getfield 7, 3) := by decide +kernel
theorem dX8_find_31 : decode cX8_find 31 = .ok (.aload_n 0, 1) := by decide +kernel
theorem dX8_find_32 : decode cX8_find 32 = .ok (.iload_n 3, 1) := by decide +kernel
theorem dX8_find_33 : decode cX8_find 33 = .ok (.iconst 1, 1) := by decide +kernel
theorem dX8_find_34 : decode cX8_find 34 = .ok (.invokevirtual 140, 3) := by decide +kernel
theorem dX8_find_37 : decode cX8_find 37 = .ok (.laload, 1) := by decide +kernel
theorem dX8_find_38 : decode cX8_find 38 = .ok (.iload_n 2, 1) := by decide +kernel
theorem dX8_find_39 : decode cX8_find 39 = .ok (.i2l, 1) := by decide +kernel
theorem dX8_find_40 : decode cX8_find 40 = .ok (.lcmp, 1) := by decide +kernel
theorem dX8_find_41 : decode cX8_find 41 = .ok (.ifCond .ne 5, 3) := by decide +kernel
theorem dX8_find_44 : decode cX8_find 44 = .ok (.iload_n 3, 1) := by decide +kernel
theorem dX8_find_45 : decode cX8_find 45 = .ok (.ireturn, 1) := by decide +kernel
theorem dX8_find_46 : decode cX8_find 46 = .ok (.iinc 3 1, 3) := by decide +kernel
theorem dX8_find_49 : decode cX8_find 49 = .ok (.goto (-47), 3) := by decide +kernel
theorem dX8_find_52 : decode cX8_find 52 = .ok (.iconst (-1), 1) := by decide +kernel
theorem dX8_find_53 : decode cX8_find 53 = .ok (.ireturn, 1) := by decide +kernel
theorem dX8_owing_0 : decode cX8_owing 0 = .ok (.aload_n 0, 1) := by decide +kernel
theorem dX8_owing_1 : decode cX8_owing 1 = .ok (.getfield 7, 3) := by decide +kernel
theorem dX8_owing_4 : decode cX8_owing 4 = .ok (.aload_n 0, 1) := by decide +kernel
theorem dX8_owing_5 : decode cX8_owing 5 = .ok (.iload_n 1, 1) := by decide +kernel
theorem dX8_owing_6 : decode cX8_owing 6 = .ok (.iconst 2, 1) := by decide +kernel
theorem dX8_owing_7 : decode cX8_owing 7 = .ok (.invokevirtual 140, 3) := by decide +kernel
theorem dX8_owing_10 : decode cX8_owing 10 = .ok (.laload, 1) := by decide +kernel
theorem dX8_owing_11 : decode cX8_owing 11 = .ok (.aload_n 0, 1) := by decide +kernel
theorem dX8_owing_12 : decode cX8_owing 12 = .ok (.getfield 7, 3) := by decide +kernel
theorem dX8_owing_15 : decode cX8_owing 15 = .ok (.aload_n 0, 1) := by decide +kernel
theorem dX8_owing_16 : decode cX8_owing 16 = .ok (.iload_n 1, 1) := by decide +kernel
theorem dX8_owing_17 : decode cX8_owing 17 = .ok (.iconst 3, 1) := by decide +kernel
theorem dX8_owing_18 : decode cX8_owing 18 = .ok (.invokevirtual 140, 3) := by decide +kernel
theorem dX8_owing_21 : decode cX8_owing 21 = .ok (.laload, 1) := by decide +kernel
theorem dX8_owing_22 : decode cX8_owing 22 = .ok (.ladd, 1) := by decide +kernel
theorem dX8_owing_23 : decode cX8_owing 23 = .ok (.lreturn, 1) := by decide +kernel
theorem dX8_owedBy_0 : decode cX8_owedBy 0 = .ok (.aload_n 0, 1) := by decide +kernel
theorem dX8_owedBy_1 : decode cX8_owedBy 1 = .ok (.iload_n 1, 1) := by decide +kernel
theorem dX8_owedBy_2 : decode cX8_owedBy 2 = .ok (.iload_n 2, 1) := by decide +kernel
theorem dX8_owedBy_3 : decode cX8_owedBy 3 = .ok (.invokevirtual 143, 3) := by decide +kernel
theorem dX8_owedBy_6 : decode cX8_owedBy 6 = .ok (.istore_n 3, 1) := by decide +kernel
theorem dX8_owedBy_7 : decode cX8_owedBy 7 = .ok (.iload_n 3, 1) := by decide +kernel
theorem dX8_owedBy_8 : decode cX8_owedBy 8 = .ok (.iconst (-1), 1) := by decide +kernel
theorem dX8_owedBy_9 : decode cX8_owedBy 9 = .ok (.if_icmp .ne 7, 3) := by decide +kernel
theorem dX8_owedBy_12 : decode cX8_owedBy 12 = .ok (.lconst 0, 1) := by decide +kernel
theorem dX8_owedBy_13 : decode cX8_owedBy 13 = .ok (.goto 8, 3) := by decide +kernel
theorem dX8_owedBy_16 : decode cX8_owedBy 16 = .ok (.aload_n 0, 1) := by decide +kernel
theorem dX8_owedBy_17 : decode cX8_owedBy 17 = .ok (.iload_n 3, 1) := by decide +kernel
theorem dX8_owedBy_18 : decode cX8_owedBy 18 = .ok (.invokevirtual 146, 3) := by decide +kernel
theorem dX8_owedBy_21 : decode cX8_owedBy 21 = .ok (.lreturn, 1) := by decide +kernel
theorem dX8_owes_0 : decode cX8_owes 0 = .ok (.aload_n 0, 1) := by decide +kernel
theorem dX8_owes_1 : decode cX8_owes 1 = .ok (.iload_n 1, 1) := by decide +kernel
theorem dX8_owes_2 : decode cX8_owes 2 = .ok (.iload_n 2, 1) := by decide +kernel
theorem dX8_owes_3 : decode cX8_owes 3 = .ok (.invokevirtual 143, 3) := by decide +kernel
theorem dX8_owes_6 : decode cX8_owes 6 = .ok (.istore 5, 2) := by decide +kernel
theorem dX8_owes_8 : decode cX8_owes 8 = .ok (.iload 5, 2) := by decide +kernel
theorem dX8_owes_10 : decode cX8_owes 10 = .ok (.iconst (-1), 1) := by decide +kernel
theorem dX8_owes_11 : decode cX8_owes 11 = .ok (.if_icmp .ne 86, 3) := by decide +kernel
theorem dX8_owes_14 : decode cX8_owes 14 = .ok (.aload_n 0, 1) := by decide +kernel
theorem dX8_owes_15 : decode cX8_owes 15 = .ok (.invokevirtual 70, 3) := by decide +kernel
theorem dX8_owes_18 : decode cX8_owes 18 = .ok (.istore 5, 2) := by decide +kernel
theorem dX8_owes_20 : decode cX8_owes 20 = .ok (.aload_n 0, 1) := by decide +kernel
theorem dX8_owes_21 : decode cX8_owes 21 = .ok (.getfield 7, 3) := by decide +kernel
theorem dX8_owes_24 : decode cX8_owes 24 = .ok (.aload_n 0, 1) := by decide +kernel
theorem dX8_owes_25 : decode cX8_owes 25 = .ok (.iload 5, 2) := by decide +kernel
theorem dX8_owes_27 : decode cX8_owes 27 = .ok (.iconst 0, 1) := by decide +kernel
theorem dX8_owes_28 : decode cX8_owes 28 = .ok (.invokevirtual 140, 3) := by decide +kernel
theorem dX8_owes_31 : decode cX8_owes 31 = .ok (.iload_n 1, 1) := by decide +kernel
theorem dX8_owes_32 : decode cX8_owes 32 = .ok (.i2l, 1) := by decide +kernel
theorem dX8_owes_33 : decode cX8_owes 33 = .ok (.lastore, 1) := by decide +kernel
theorem dX8_owes_34 : decode cX8_owes 34 = .ok (.aload_n 0, 1) := by decide +kernel
theorem dX8_owes_35 : decode cX8_owes 35 = .ok (.getfield 7, 3) := by decide +kernel
theorem dX8_owes_38 : decode cX8_owes 38 = .ok (.aload_n 0, 1) := by decide +kernel
theorem dX8_owes_39 : decode cX8_owes 39 = .ok (.iload 5, 2) := by decide +kernel
theorem dX8_owes_41 : decode cX8_owes 41 = .ok (.iconst 1, 1) := by decide +kernel
theorem dX8_owes_42 : decode cX8_owes 42 = .ok (.invokevirtual 140, 3) := by decide +kernel
theorem dX8_owes_45 : decode cX8_owes 45 = .ok (.iload_n 2, 1) := by decide +kernel
theorem dX8_owes_46 : decode cX8_owes 46 = .ok (.i2l, 1) := by decide +kernel
theorem dX8_owes_47 : decode cX8_owes 47 = .ok (.lastore, 1) := by decide +kernel
theorem dX8_owes_48 : decode cX8_owes 48 = .ok (.aload_n 0, 1) := by decide +kernel
theorem dX8_owes_49 : decode cX8_owes 49 = .ok (.getfield 7, 3) := by decide +kernel
theorem dX8_owes_52 : decode cX8_owes 52 = .ok (.aload_n 0, 1) := by decide +kernel
theorem dX8_owes_53 : decode cX8_owes 53 = .ok (.iload 5, 2) := by decide +kernel
theorem dX8_owes_55 : decode cX8_owes 55 = .ok (.iconst 2, 1) := by decide +kernel
theorem dX8_owes_56 : decode cX8_owes 56 = .ok (.invokevirtual 140, 3) := by decide +kernel
theorem dX8_owes_59 : decode cX8_owes 59 = .ok (.lconst 0, 1) := by decide +kernel
theorem dX8_owes_60 : decode cX8_owes 60 = .ok (.lastore, 1) := by decide +kernel
theorem dX8_owes_61 : decode cX8_owes 61 = .ok (.aload_n 0, 1) := by decide +kernel
theorem dX8_owes_62 : decode cX8_owes 62 = .ok (.getfield 7, 3) := by decide +kernel
theorem dX8_owes_65 : decode cX8_owes 65 = .ok (.aload_n 0, 1) := by decide +kernel
theorem dX8_owes_66 : decode cX8_owes 66 = .ok (.iload 5, 2) := by decide +kernel
theorem dX8_owes_68 : decode cX8_owes 68 = .ok (.iconst 3, 1) := by decide +kernel
theorem dX8_owes_69 : decode cX8_owes 69 = .ok (.invokevirtual 140, 3) := by decide +kernel
theorem dX8_owes_72 : decode cX8_owes 72 = .ok (.lconst 0, 1) := by decide +kernel
theorem dX8_owes_73 : decode cX8_owes 73 = .ok (.lastore, 1) := by decide +kernel
theorem dX8_owes_74 : decode cX8_owes 74 = .ok (.aload_n 0, 1) := by decide +kernel
theorem dX8_owes_75 : decode cX8_owes 75 = .ok (.getfield 7, 3) := by decide +kernel
theorem dX8_owes_78 : decode cX8_owes 78 = .ok (.aload_n 0, 1) := by decide +kernel
theorem dX8_owes_79 : decode cX8_owes 79 = .ok (.iload 5, 2) := by decide +kernel
theorem dX8_owes_81 : decode cX8_owes 81 = .ok (.iconst 4, 1) := by decide +kernel
theorem dX8_owes_82 : decode cX8_owes 82 = .ok (.invokevirtual 140, 3) := by decide +kernel
theorem dX8_owes_85 : decode cX8_owes 85 = .ok (.lconst 0, 1) := by decide +kernel
theorem dX8_owes_86 : decode cX8_owes 86 = .ok (.lastore, 1) := by decide +kernel
theorem dX8_owes_87 : decode cX8_owes 87 = .ok (.aload_n 0, 1) := by decide +kernel
theorem dX8_owes_88 : decode cX8_owes 88 = .ok (.getfield 7, 3) := by decide +kernel
theorem dX8_owes_91 : decode cX8_owes 91 = .ok (.iconst 4, 1) := by decide +kernel
theorem dX8_owes_92 : decode cX8_owes 92 = .ok (.dup2, 1) := by decide +kernel
theorem dX8_owes_93 : decode cX8_owes 93 = .ok (.laload, 1) := by decide +kernel
theorem dX8_owes_94 : decode cX8_owes 94 = .ok (.lconst 1, 1) := by decide +kernel
theorem dX8_owes_95 : decode cX8_owes 95 = .ok (.ladd, 1) := by decide +kernel
theorem dX8_owes_96 : decode cX8_owes 96 = .ok (.lastore, 1) := by decide +kernel
theorem dX8_owes_97 : decode cX8_owes 97 = .ok (.aload_n 0, 1) := by decide +kernel
theorem dX8_owes_98 : decode cX8_owes 98 = .ok (.getfield 7, 3) := by decide +kernel
theorem dX8_owes_101 : decode cX8_owes 101 = .ok (.aload_n 0, 1) := by decide +kernel
theorem dX8_owes_102 : decode cX8_owes 102 = .ok (.iload 5, 2) := by decide +kernel
theorem dX8_owes_104 : decode cX8_owes 104 = .ok (.iconst 2, 1) := by decide +kernel
theorem dX8_owes_105 : decode cX8_owes 105 = .ok (.invokevirtual 140, 3) := by decide +kernel
theorem dX8_owes_108 : decode cX8_owes 108 = .ok (.dup2, 1) := by decide +kernel
theorem dX8_owes_109 : decode cX8_owes 109 = .ok (.laload, 1) := by decide +kernel
theorem dX8_owes_110 : decode cX8_owes 110 = .ok (.lload_n 3, 1) := by decide +kernel
theorem dX8_owes_111 : decode cX8_owes 111 = .ok (.ladd, 1) := by decide +kernel
theorem dX8_owes_112 : decode cX8_owes 112 = .ok (.lastore, 1) := by decide +kernel
theorem dX8_owes_113 : decode cX8_owes 113 = .ok (.return_, 1) := by decide +kernel
theorem dX8_pays_0 : decode cX8_pays 0 = .ok (.aload_n 0, 1) := by decide +kernel
theorem dX8_pays_1 : decode cX8_pays 1 = .ok (.iload_n 1, 1) := by decide +kernel
theorem dX8_pays_2 : decode cX8_pays 2 = .ok (.iload_n 2, 1) := by decide +kernel
theorem dX8_pays_3 : decode cX8_pays 3 = .ok (.invokevirtual 143, 3) := by decide +kernel
theorem dX8_pays_6 : decode cX8_pays 6 = .ok (.istore 5, 2) := by decide +kernel
theorem dX8_pays_8 : decode cX8_pays 8 = .ok (.lload_n 3, 1) := by decide +kernel
theorem dX8_pays_9 : decode cX8_pays 9 = .ok (.aload_n 0, 1) := by decide +kernel
theorem dX8_pays_10 : decode cX8_pays 10 = .ok (.getfield 7, 3) := by decide +kernel
theorem dX8_pays_13 : decode cX8_pays 13 = .ok (.aload_n 0, 1) := by decide +kernel
theorem dX8_pays_14 : decode cX8_pays 14 = .ok (.iload 5, 2) := by decide +kernel
theorem dX8_pays_16 : decode cX8_pays 16 = .ok (.iconst 3, 1) := by decide +kernel
theorem dX8_pays_17 : decode cX8_pays 17 = .ok (.invokevirtual 140, 3) := by decide +kernel
theorem dX8_pays_20 : decode cX8_pays 20 = .ok (.laload, 1) := by decide +kernel
theorem dX8_pays_21 : decode cX8_pays 21 = .ok (.invokestatic 99, 3) := by decide +kernel
theorem dX8_pays_24 : decode cX8_pays 24 = .ok (.lstore 6, 2) := by decide +kernel
theorem dX8_pays_26 : decode cX8_pays 26 = .ok (.aload_n 0, 1) := by decide +kernel
theorem dX8_pays_27 : decode cX8_pays 27 = .ok (.getfield 7, 3) := by decide +kernel
theorem dX8_pays_30 : decode cX8_pays 30 = .ok (.aload_n 0, 1) := by decide +kernel
theorem dX8_pays_31 : decode cX8_pays 31 = .ok (.iload 5, 2) := by decide +kernel
theorem dX8_pays_33 : decode cX8_pays 33 = .ok (.iconst 3, 1) := by decide +kernel
theorem dX8_pays_34 : decode cX8_pays 34 = .ok (.invokevirtual 140, 3) := by decide +kernel
theorem dX8_pays_37 : decode cX8_pays 37 = .ok (.dup2, 1) := by decide +kernel
theorem dX8_pays_38 : decode cX8_pays 38 = .ok (.laload, 1) := by decide +kernel
theorem dX8_pays_39 : decode cX8_pays 39 = .ok (.lload 6, 2) := by decide +kernel
theorem dX8_pays_41 : decode cX8_pays 41 = .ok (.lsub, 1) := by decide +kernel
theorem dX8_pays_42 : decode cX8_pays 42 = .ok (.lastore, 1) := by decide +kernel
theorem dX8_pays_43 : decode cX8_pays 43 = .ok (.aload_n 0, 1) := by decide +kernel
theorem dX8_pays_44 : decode cX8_pays 44 = .ok (.getfield 7, 3) := by decide +kernel
theorem dX8_pays_47 : decode cX8_pays 47 = .ok (.aload_n 0, 1) := by decide +kernel
theorem dX8_pays_48 : decode cX8_pays 48 = .ok (.iload 5, 2) := by decide +kernel
theorem dX8_pays_50 : decode cX8_pays 50 = .ok (.iconst 2, 1) := by decide +kernel
theorem dX8_pays_51 : decode cX8_pays 51 = .ok (.invokevirtual 140, 3) := by decide +kernel
theorem dX8_pays_54 : decode cX8_pays 54 = .ok (.dup2, 1) := by decide +kernel
theorem dX8_pays_55 : decode cX8_pays 55 = .ok (.laload, 1) := by decide +kernel
theorem dX8_pays_56 : decode cX8_pays 56 = .ok (.lload_n 3, 1) := by decide +kernel
theorem dX8_pays_57 : decode cX8_pays 57 = .ok (.lload 6, 2) := by decide +kernel
theorem dX8_pays_59 : decode cX8_pays 59 = .ok (.lsub, 1) := by decide +kernel
theorem dX8_pays_60 : decode cX8_pays 60 = .ok (.lsub, 1) := by decide +kernel
theorem dX8_pays_61 : decode cX8_pays 61 = .ok (.lastore, 1) := by decide +kernel
theorem dX8_pays_62 : decode cX8_pays 62 = .ok (.aload_n 0, 1) := by decide +kernel
theorem dX8_pays_63 : decode cX8_pays 63 = .ok (.iload 5, 2) := by decide +kernel
theorem dX8_pays_65 : decode cX8_pays 65 = .ok (.invokevirtual 146, 3) := by decide +kernel
theorem dX8_pays_68 : decode cX8_pays 68 = .ok (.lconst 0, 1) := by decide +kernel
theorem dX8_pays_69 : decode cX8_pays 69 = .ok (.lcmp, 1) := by decide +kernel
theorem dX8_pays_70 : decode cX8_pays 70 = .ok (.ifCond .ne 60, 3) := by decide +kernel
theorem dX8_pays_73 : decode cX8_pays 73 = .ok (.aload_n 0, 1) := by decide +kernel
theorem dX8_pays_74 : decode cX8_pays 74 = .ok (.iload 5, 2) := by decide +kernel
theorem dX8_pays_76 : decode cX8_pays 76 = .ok (.iconst 0, 1) := by decide +kernel
theorem dX8_pays_77 : decode cX8_pays 77 = .ok (.invokevirtual 140, 3) := by decide +kernel
theorem dX8_pays_80 : decode cX8_pays 80 = .ok (.istore 8, 2) := by decide +kernel
theorem dX8_pays_82 : decode cX8_pays 82 = .ok (.iload 8, 2) := by decide +kernel
theorem dX8_pays_84 : decode cX8_pays 84 = .ok (.aload_n 0, 1) := by decide +kernel
theorem dX8_pays_85 : decode cX8_pays 85 = .ok (.aload_n 0, 1) := by decide +kernel
theorem dX8_pays_86 : decode cX8_pays 86 = .ok (.invokevirtual 70, 3) := by decide +kernel
theorem dX8_pays_89 : decode cX8_pays 89 = .ok (.iconst 1, 1) := by decide +kernel
theorem dX8_pays_90 : decode cX8_pays 90 = .ok (.isub, 1) := by decide +kernel
theorem dX8_pays_91 : decode cX8_pays 91 = .ok (.iconst 0, 1) := by decide +kernel
theorem dX8_pays_92 : decode cX8_pays 92 = .ok (.invokevirtual 140, 3) := by decide +kernel
theorem dX8_pays_95 : decode cX8_pays 95 = .ok (.if_icmp .ge 25, 3) := by decide +kernel
theorem dX8_pays_98 : decode cX8_pays 98 = .ok (.aload_n 0, 1) := by decide +kernel
theorem dX8_pays_99 : decode cX8_pays 99 = .ok (.getfield 7, 3) := by decide +kernel
theorem dX8_pays_102 : decode cX8_pays 102 = .ok (.iload 8, 2) := by decide +kernel
theorem dX8_pays_104 : decode cX8_pays 104 = .ok (.aload_n 0, 1) := by decide +kernel
theorem dX8_pays_105 : decode cX8_pays 105 = .ok (.getfield 7, 3) := by decide +kernel
theorem dX8_pays_108 : decode cX8_pays 108 = .ok (.iload 8, 2) := by decide +kernel
theorem dX8_pays_110 : decode cX8_pays 110 = .ok (.iconst 5, 1) := by decide +kernel
theorem dX8_pays_111 : decode cX8_pays 111 = .ok (.iadd, 1) := by decide +kernel
theorem dX8_pays_112 : decode cX8_pays 112 = .ok (.laload, 1) := by decide +kernel
theorem dX8_pays_113 : decode cX8_pays 113 = .ok (.lastore, 1) := by decide +kernel
theorem dX8_pays_114 : decode cX8_pays 114 = .ok (.iinc 8 1, 3) := by decide +kernel
theorem dX8_pays_117 : decode cX8_pays 117 = .ok (.goto (-35), 3) := by decide +kernel
theorem dX8_pays_120 : decode cX8_pays 120 = .ok (.aload_n 0, 1) := by decide +kernel
theorem dX8_pays_121 : decode cX8_pays 121 = .ok (.getfield 7, 3) := by decide +kernel
theorem dX8_pays_124 : decode cX8_pays 124 = .ok (.iconst 4, 1) := by decide +kernel
theorem dX8_pays_125 : decode cX8_pays 125 = .ok (.dup2, 1) := by decide +kernel
theorem dX8_pays_126 : decode cX8_pays 126 = .ok (.laload, 1) := by decide +kernel
theorem dX8_pays_127 : decode cX8_pays 127 = .ok (.lconst 1, 1) := by decide +kernel
theorem dX8_pays_128 : decode cX8_pays 128 = .ok (.lsub, 1) := by decide +kernel
theorem dX8_pays_129 : decode cX8_pays 129 = .ok (.lastore, 1) := by decide +kernel
theorem dX8_pays_130 : decode cX8_pays 130 = .ok (.return_, 1) := by decide +kernel
theorem dX8_allOwed_0 : decode cX8_allOwed 0 = .ok (.lconst 0, 1) := by decide +kernel
theorem dX8_allOwed_1 : decode cX8_allOwed 1 = .ok (.lstore_n 3, 1) := by decide +kernel
theorem dX8_allOwed_2 : decode cX8_allOwed 2 = .ok (.iconst 0, 1) := by decide +kernel
theorem dX8_allOwed_3 : decode cX8_allOwed 3 = .ok (.istore 5, 2) := by decide +kernel
theorem dX8_allOwed_5 : decode cX8_allOwed 5 = .ok (.iload 5, 2) := by decide +kernel
theorem dX8_allOwed_7 : decode cX8_allOwed 7 = .ok (.aload_n 0, 1) := by decide +kernel
theorem dX8_allOwed_8 : decode cX8_allOwed 8 = .ok (.invokevirtual 70, 3) := by decide +kernel
theorem dX8_allOwed_11 : decode cX8_allOwed 11 = .ok (.if_icmp .ge 48, 3) := by decide +kernel
theorem dX8_allOwed_14 : decode cX8_allOwed 14 = .ok (.lload_n 3, 1) := by decide +kernel
theorem dX8_allOwed_15 : decode cX8_allOwed 15 = .ok (.aload_n 0, 1) := by decide +kernel
theorem dX8_allOwed_16 : decode cX8_allOwed 16 = .ok (.getfield 7, 3) := by decide +kernel
theorem dX8_allOwed_19 : decode cX8_allOwed 19 = .ok (.aload_n 0, 1) := by decide +kernel
theorem dX8_allOwed_20 : decode cX8_allOwed 20 = .ok (.iload 5, 2) := by decide +kernel
theorem dX8_allOwed_22 : decode cX8_allOwed 22 = .ok (.iload_n 2, 1) := by decide +kernel
theorem dX8_allOwed_23 : decode cX8_allOwed 23 = .ok (.ifCond .eq 7, 3) := by decide +kernel
theorem dX8_allOwed_26 : decode cX8_allOwed 26 = .ok (.iconst 1, 1) := by decide +kernel
theorem dX8_allOwed_27 : decode cX8_allOwed 27 = .ok (.goto 4, 3) := by decide +kernel
theorem dX8_allOwed_30 : decode cX8_allOwed 30 = .ok (.iconst 0, 1) := by decide +kernel
theorem dX8_allOwed_31 : decode cX8_allOwed 31 = .ok (.invokevirtual 140, 3) := by decide +kernel
theorem dX8_allOwed_34 : decode cX8_allOwed 34 = .ok (.laload, 1) := by decide +kernel
theorem dX8_allOwed_35 : decode cX8_allOwed 35 = .ok (.iload_n 1, 1) := by decide +kernel
theorem dX8_allOwed_36 : decode cX8_allOwed 36 = .ok (.i2l, 1) := by decide +kernel
theorem dX8_allOwed_37 : decode cX8_allOwed 37 = .ok (.lcmp, 1) := by decide +kernel
theorem dX8_allOwed_38 : decode cX8_allOwed 38 = .ok (.ifCond .ne 12, 3) := by decide +kernel
theorem dX8_allOwed_41 : decode cX8_allOwed 41 = .ok (.aload_n 0, 1) := by decide +kernel
theorem dX8_allOwed_42 : decode cX8_allOwed 42 = .ok (.iload 5, 2) := by decide +kernel
theorem dX8_allOwed_44 : decode cX8_allOwed 44 = .ok (.invokevirtual 146, 3) := by decide +kernel
theorem dX8_allOwed_47 : decode cX8_allOwed 47 = .ok (.goto 4, 3) := by decide +kernel
theorem dX8_allOwed_50 : decode cX8_allOwed 50 = .ok (.lconst 0, 1) := by decide +kernel
theorem dX8_allOwed_51 : decode cX8_allOwed 51 = .ok (.ladd, 1) := by decide +kernel
theorem dX8_allOwed_52 : decode cX8_allOwed 52 = .ok (.lstore_n 3, 1) := by decide +kernel
theorem dX8_allOwed_53 : decode cX8_allOwed 53 = .ok (.iinc 5 1, 3) := by decide +kernel
theorem dX8_allOwed_56 : decode cX8_allOwed 56 = .ok (.goto (-51), 3) := by decide +kernel
theorem dX8_allOwed_59 : decode cX8_allOwed 59 = .ok (.lload_n 3, 1) := by decide +kernel
theorem dX8_allOwed_60 : decode cX8_allOwed 60 = .ok (.lreturn, 1) := by decide +kernel
theorem dX8_party_0 : decode cX8_party 0 = .ok (.aload_n 0, 1) := by decide +kernel
theorem dX8_party_1 : decode cX8_party 1 = .ok (.iconst 0, 1) := by decide +kernel
theorem dX8_party_2 : decode cX8_party 2 = .ok (.putfield 42, 3) := by decide +kernel
theorem dX8_party_5 : decode cX8_party 5 = .ok (.aload_n 0, 1) := by decide +kernel
theorem dX8_party_6 : decode cX8_party 6 = .ok (.iload_n 1, 1) := by decide +kernel
theorem dX8_party_7 : decode cX8_party 7 = .ok (.invokevirtual 149, 3) := by decide +kernel
theorem dX8_party_10 : decode cX8_party 10 = .ok (.ifCond .ne 9, 3) := by decide +kernel
theorem dX8_party_13 : decode cX8_party 13 = .ok (.aload_n 0, 1) := by decide +kernel
theorem dX8_party_14 : decode cX8_party 14 = .ok (.iconst 1, 1) := by decide +kernel
theorem dX8_party_15 : decode cX8_party 15 = .ok (.invokevirtual 153, 3) := by decide +kernel
theorem dX8_party_18 : decode cX8_party 18 = .ok (.lreturn, 1) := by decide +kernel
theorem dX8_party_19 : decode cX8_party 19 = .ok (.iload_n 2, 1) := by decide +kernel
theorem dX8_party_20 : decode cX8_party 20 = .ok (.tableswitch 68 6 10 #[36, 42, 48, 54, 61], 36) := by decide +kernel
theorem dX8_party_56 : decode cX8_party 56 = .ok (.aload_n 0, 1) := by decide +kernel
theorem dX8_party_57 : decode cX8_party 57 = .ok (.iload_n 1, 1) := by decide +kernel
theorem dX8_party_58 : decode cX8_party 58 = .ok (.invokevirtual 156, 3) := by decide +kernel
theorem dX8_party_61 : decode cX8_party 61 = .ok (.lreturn, 1) := by decide +kernel
theorem dX8_party_62 : decode cX8_party 62 = .ok (.aload_n 0, 1) := by decide +kernel
theorem dX8_party_63 : decode cX8_party 63 = .ok (.iload_n 1, 1) := by decide +kernel
theorem dX8_party_64 : decode cX8_party 64 = .ok (.invokevirtual 159, 3) := by decide +kernel
theorem dX8_party_67 : decode cX8_party 67 = .ok (.lreturn, 1) := by decide +kernel
theorem dX8_party_68 : decode cX8_party 68 = .ok (.aload_n 0, 1) := by decide +kernel
theorem dX8_party_69 : decode cX8_party 69 = .ok (.iload_n 1, 1) := by decide +kernel
theorem dX8_party_70 : decode cX8_party 70 = .ok (.invokevirtual 162, 3) := by decide +kernel
theorem dX8_party_73 : decode cX8_party 73 = .ok (.lreturn, 1) := by decide +kernel
theorem dX8_party_74 : decode cX8_party 74 = .ok (.aload_n 0, 1) := by decide +kernel
theorem dX8_party_75 : decode cX8_party 75 = .ok (.iload_n 1, 1) := by decide +kernel
theorem dX8_party_76 : decode cX8_party 76 = .ok (.iconst 0, 1) := by decide +kernel
theorem dX8_party_77 : decode cX8_party 77 = .ok (.invokevirtual 165, 3) := by decide +kernel
theorem dX8_party_80 : decode cX8_party 80 = .ok (.lreturn, 1) := by decide +kernel
theorem dX8_party_81 : decode cX8_party 81 = .ok (.aload_n 0, 1) := by decide +kernel
theorem dX8_party_82 : decode cX8_party 82 = .ok (.iload_n 1, 1) := by decide +kernel
theorem dX8_party_83 : decode cX8_party 83 = .ok (.iconst 1, 1) := by decide +kernel
theorem dX8_party_84 : decode cX8_party 84 = .ok (.invokevirtual 165, 3) := by decide +kernel
theorem dX8_party_87 : decode cX8_party 87 = .ok (.lreturn, 1) := by decide +kernel
theorem dX8_party_88 : decode cX8_party 88 = .ok (.iload_n 2, 1) := by decide +kernel
theorem dX8_party_89 : decode cX8_party 89 = .ok (.iconst 0, 1) := by decide +kernel
theorem dX8_party_90 : decode cX8_party 90 = .ok (.iconst 5, 1) := by decide +kernel
theorem dX8_party_91 : decode cX8_party 91 = .ok (.invokestatic 63, 3) := by decide +kernel
theorem dX8_party_94 : decode cX8_party 94 = .ok (.ifCond .eq 20, 3) := by decide +kernel
theorem dX8_party_97 : decode cX8_party 97 = .ok (.aload_n 0, 1) := by decide +kernel
theorem dX8_party_98 : decode cX8_party 98 = .ok (.getfield 7, 3) := by decide +kernel
theorem dX8_party_101 : decode cX8_party 101 = .ok (.bipush 14, 2) := by decide +kernel
theorem dX8_party_103 : decode cX8_party 103 = .ok (.bipush 6, 2) := by decide +kernel
theorem dX8_party_105 : decode cX8_party 105 = .ok (.iload_n 2, 1) := by decide +kernel
theorem dX8_party_106 : decode cX8_party 106 = .ok (.imul, 1) := by decide +kernel
theorem dX8_party_107 : decode cX8_party 107 = .ok (.iadd, 1) := by decide +kernel
theorem dX8_party_108 : decode cX8_party 108 = .ok (.iload_n 1, 1) := by decide +kernel
theorem dX8_party_109 : decode cX8_party 109 = .ok (.iadd, 1) := by decide +kernel
theorem dX8_party_110 : decode cX8_party 110 = .ok (.laload, 1) := by decide +kernel
theorem dX8_party_111 : decode cX8_party 111 = .ok (.goto 8, 3) := by decide +kernel
theorem dX8_party_114 : decode cX8_party 114 = .ok (.aload_n 0, 1) := by decide +kernel
theorem dX8_party_115 : decode cX8_party 115 = .ok (.iconst 2, 1) := by decide +kernel
theorem dX8_party_116 : decode cX8_party 116 = .ok (.invokevirtual 153, 3) := by decide +kernel
theorem dX8_party_119 : decode cX8_party 119 = .ok (.lreturn, 1) := by decide +kernel
theorem dX8_refuses_0 : decode cX8_refuses 0 = .ok (.aload_n 0, 1) := by decide +kernel
theorem dX8_refuses_1 : decode cX8_refuses 1 = .ok (.iload_n 1, 1) := by decide +kernel
theorem dX8_refuses_2 : decode cX8_refuses 2 = .ok (.putfield 169, 3) := by decide +kernel
theorem dX8_refuses_5 : decode cX8_refuses 5 = .ok (.bipush 9, 2) := by decide +kernel
theorem dX8_refuses_7 : decode cX8_refuses 7 = .ok (.ireturn, 1) := by decide +kernel
theorem dX8_claiming_0 : decode cX8_claiming 0 = .ok (.aload_n 0, 1) := by decide +kernel
theorem dX8_claiming_1 : decode cX8_claiming 1 = .ok (.iload_n 1, 1) := by decide +kernel
theorem dX8_claiming_2 : decode cX8_claiming 2 = .ok (.invokevirtual 149, 3) := by decide +kernel
theorem dX8_claiming_5 : decode cX8_claiming 5 = .ok (.ifCond .eq 11, 3) := by decide +kernel
theorem dX8_claiming_8 : decode cX8_claiming 8 = .ok (.aload_n 0, 1) := by decide +kernel
theorem dX8_claiming_9 : decode cX8_claiming 9 = .ok (.iload_n 2, 1) := by decide +kernel
theorem dX8_claiming_10 : decode cX8_claiming 10 = .ok (.invokevirtual 149, 3) := by decide +kernel
theorem dX8_claiming_13 : decode cX8_claiming 13 = .ok (.ifCond .ne 5, 3) := by decide +kernel
theorem dX8_claiming_16 : decode cX8_claiming 16 = .ok (.iconst 1, 1) := by decide +kernel
theorem dX8_claiming_17 : decode cX8_claiming 17 = .ok (.ireturn, 1) := by decide +kernel
theorem dX8_claiming_18 : decode cX8_claiming 18 = .ok (.aload_n 0, 1) := by decide +kernel
theorem dX8_claiming_19 : decode cX8_claiming 19 = .ok (.getfield 7, 3) := by decide +kernel
theorem dX8_claiming_22 : decode cX8_claiming 22 = .ok (.bipush 14, 2) := by decide +kernel
theorem dX8_claiming_24 : decode cX8_claiming 24 = .ok (.iload_n 1, 1) := by decide +kernel
theorem dX8_claiming_25 : decode cX8_claiming 25 = .ok (.iadd, 1) := by decide +kernel
theorem dX8_claiming_26 : decode cX8_claiming 26 = .ok (.laload, 1) := by decide +kernel
theorem dX8_claiming_27 : decode cX8_claiming 27 = .ok (.aload_n 0, 1) := by decide +kernel
theorem dX8_claiming_28 : decode cX8_claiming 28 = .ok (.getfield 7, 3) := by decide +kernel
theorem dX8_claiming_31 : decode cX8_claiming 31 = .ok (.bipush 14, 2) := by decide +kernel
theorem dX8_claiming_33 : decode cX8_claiming 33 = .ok (.iload_n 2, 1) := by decide +kernel
theorem dX8_claiming_34 : decode cX8_claiming 34 = .ok (.iadd, 1) := by decide +kernel
theorem dX8_claiming_35 : decode cX8_claiming 35 = .ok (.laload, 1) := by decide +kernel
theorem dX8_claiming_36 : decode cX8_claiming 36 = .ok (.lcmp, 1) := by decide +kernel
theorem dX8_claiming_37 : decode cX8_claiming 37 = .ok (.ifCond .eq 13, 3) := by decide +kernel
theorem dX8_claiming_40 : decode cX8_claiming 40 = .ok (.iload_n 3, 1) := by decide +kernel
theorem dX8_claiming_41 : decode cX8_claiming 41 = .ok (.iconst 1, 1) := by decide +kernel
theorem dX8_claiming_42 : decode cX8_claiming 42 = .ok (.ldc 172, 2) := by decide +kernel
theorem dX8_claiming_44 : decode cX8_claiming 44 = .ok (.invokestatic 63, 3) := by decide +kernel
theorem dX8_claiming_47 : decode cX8_claiming 47 = .ok (.ifCond .ne 5, 3) := by decide +kernel
theorem dX8_claiming_50 : decode cX8_claiming 50 = .ok (.iconst 2, 1) := by decide +kernel
theorem dX8_claiming_51 : decode cX8_claiming 51 = .ok (.ireturn, 1) := by decide +kernel
theorem dX8_claiming_52 : decode cX8_claiming 52 = .ok (.aload_n 0, 1) := by decide +kernel
theorem dX8_claiming_53 : decode cX8_claiming 53 = .ok (.invokevirtual 67, 3) := by decide +kernel
theorem dX8_claiming_56 : decode cX8_claiming 56 = .ok (.bipush 12, 2) := by decide +kernel
theorem dX8_claiming_58 : decode cX8_claiming 58 = .ok (.if_icmp .eq 16, 3) := by decide +kernel
theorem dX8_claiming_61 : decode cX8_claiming 61 = .ok (.aload_n 0, 1) := by decide +kernel
theorem dX8_claiming_62 : decode cX8_claiming 62 = .ok (.getfield 7, 3) := by decide +kernel
theorem dX8_claiming_65 : decode cX8_claiming 65 = .ok (.iconst 1, 1) := by decide +kernel
theorem dX8_claiming_66 : decode cX8_claiming 66 = .ok (.laload, 1) := by decide +kernel
theorem dX8_claiming_67 : decode cX8_claiming 67 = .ok (.ldc2_w 173, 3) := by decide +kernel
theorem dX8_claiming_70 : decode cX8_claiming 70 = .ok (.lcmp, 1) := by decide +kernel
theorem dX8_claiming_71 : decode cX8_claiming 71 = .ok (.ifCond .ne 5, 3) := by decide +kernel
theorem dX8_claiming_74 : decode cX8_claiming 74 = .ok (.iconst 3, 1) := by decide +kernel
theorem dX8_claiming_75 : decode cX8_claiming 75 = .ok (.ireturn, 1) := by decide +kernel
theorem dX8_claiming_76 : decode cX8_claiming 76 = .ok (.aload_n 0, 1) := by decide +kernel
theorem dX8_claiming_77 : decode cX8_claiming 77 = .ok (.invokevirtual 67, 3) := by decide +kernel
theorem dX8_claiming_80 : decode cX8_claiming 80 = .ok (.istore 4, 2) := by decide +kernel
theorem dX8_claiming_82 : decode cX8_claiming 82 = .ok (.aload_n 0, 1) := by decide +kernel
theorem dX8_claiming_83 : decode cX8_claiming 83 = .ok (.getfield 7, 3) := by decide +kernel
theorem dX8_claiming_86 : decode cX8_claiming 86 = .ok (.aload_n 0, 1) := by decide +kernel
theorem dX8_claiming_87 : decode cX8_claiming 87 = .ok (.iload 4, 2) := by decide +kernel
theorem dX8_claiming_89 : decode cX8_claiming 89 = .ok (.iconst 0, 1) := by decide +kernel
theorem dX8_claiming_90 : decode cX8_claiming 90 = .ok (.invokevirtual 90, 3) := by decide +kernel
theorem dX8_claiming_93 : decode cX8_claiming 93 = .ok (.iload_n 1, 1) := by decide +kernel
theorem dX8_claiming_94 : decode cX8_claiming 94 = .ok (.i2l, 1) := by decide +kernel
theorem dX8_claiming_95 : decode cX8_claiming 95 = .ok (.lastore, 1) := by decide +kernel
theorem dX8_claiming_96 : decode cX8_claiming 96 = .ok (.aload_n 0, 1) := by decide +kernel
theorem dX8_claiming_97 : decode cX8_claiming 97 = .ok (.getfield 7, 3) := by decide +kernel
theorem dX8_claiming_100 : decode cX8_claiming 100 = .ok (.aload_n 0, 1) := by decide +kernel
theorem dX8_claiming_101 : decode cX8_claiming 101 = .ok (.iload 4, 2) := by decide +kernel
theorem dX8_claiming_103 : decode cX8_claiming 103 = .ok (.iconst 1, 1) := by decide +kernel
theorem dX8_claiming_104 : decode cX8_claiming 104 = .ok (.invokevirtual 90, 3) := by decide +kernel
theorem dX8_claiming_107 : decode cX8_claiming 107 = .ok (.iload_n 2, 1) := by decide +kernel
theorem dX8_claiming_108 : decode cX8_claiming 108 = .ok (.i2l, 1) := by decide +kernel
theorem dX8_claiming_109 : decode cX8_claiming 109 = .ok (.lastore, 1) := by decide +kernel
theorem dX8_claiming_110 : decode cX8_claiming 110 = .ok (.aload_n 0, 1) := by decide +kernel
theorem dX8_claiming_111 : decode cX8_claiming 111 = .ok (.getfield 7, 3) := by decide +kernel
theorem dX8_claiming_114 : decode cX8_claiming 114 = .ok (.aload_n 0, 1) := by decide +kernel
theorem dX8_claiming_115 : decode cX8_claiming 115 = .ok (.iload 4, 2) := by decide +kernel
theorem dX8_claiming_117 : decode cX8_claiming 117 = .ok (.iconst 2, 1) := by decide +kernel
theorem dX8_claiming_118 : decode cX8_claiming 118 = .ok (.invokevirtual 90, 3) := by decide +kernel
theorem dX8_claiming_121 : decode cX8_claiming 121 = .ok (.iload_n 3, 1) := by decide +kernel
theorem dX8_claiming_122 : decode cX8_claiming 122 = .ok (.i2l, 1) := by decide +kernel
theorem dX8_claiming_123 : decode cX8_claiming 123 = .ok (.lastore, 1) := by decide +kernel
theorem dX8_claiming_124 : decode cX8_claiming 124 = .ok (.aload_n 0, 1) := by decide +kernel
theorem dX8_claiming_125 : decode cX8_claiming 125 = .ok (.getfield 7, 3) := by decide +kernel
theorem dX8_claiming_128 : decode cX8_claiming 128 = .ok (.iconst 3, 1) := by decide +kernel
theorem dX8_claiming_129 : decode cX8_claiming 129 = .ok (.dup2, 1) := by decide +kernel
theorem dX8_claiming_130 : decode cX8_claiming 130 = .ok (.laload, 1) := by decide +kernel
theorem dX8_claiming_131 : decode cX8_claiming 131 = .ok (.lconst 1, 1) := by decide +kernel
theorem dX8_claiming_132 : decode cX8_claiming 132 = .ok (.ladd, 1) := by decide +kernel
theorem dX8_claiming_133 : decode cX8_claiming 133 = .ok (.lastore, 1) := by decide +kernel
theorem dX8_claiming_134 : decode cX8_claiming 134 = .ok (.aload_n 0, 1) := by decide +kernel
theorem dX8_claiming_135 : decode cX8_claiming 135 = .ok (.iload 4, 2) := by decide +kernel
theorem dX8_claiming_137 : decode cX8_claiming 137 = .ok (.i2l, 1) := by decide +kernel
theorem dX8_claiming_138 : decode cX8_claiming 138 = .ok (.putfield 175, 3) := by decide +kernel
theorem dX8_claiming_141 : decode cX8_claiming 141 = .ok (.iconst 0, 1) := by decide +kernel
theorem dX8_claiming_142 : decode cX8_claiming 142 = .ok (.ireturn, 1) := by decide +kernel
theorem dX8_restOf_0 : decode cX8_restOf 0 = .ok (.aload_n 0, 1) := by decide +kernel
theorem dX8_restOf_1 : decode cX8_restOf 1 = .ok (.getfield 7, 3) := by decide +kernel
theorem dX8_restOf_4 : decode cX8_restOf 4 = .ok (.aload_n 0, 1) := by decide +kernel
theorem dX8_restOf_5 : decode cX8_restOf 5 = .ok (.iload_n 1, 1) := by decide +kernel
theorem dX8_restOf_6 : decode cX8_restOf 6 = .ok (.iconst 2, 1) := by decide +kernel
theorem dX8_restOf_7 : decode cX8_restOf 7 = .ok (.invokevirtual 90, 3) := by decide +kernel
theorem dX8_restOf_10 : decode cX8_restOf 10 = .ok (.laload, 1) := by decide +kernel
theorem dX8_restOf_11 : decode cX8_restOf 11 = .ok (.aload_n 0, 1) := by decide +kernel
theorem dX8_restOf_12 : decode cX8_restOf 12 = .ok (.getfield 7, 3) := by decide +kernel
theorem dX8_restOf_15 : decode cX8_restOf 15 = .ok (.aload_n 0, 1) := by decide +kernel
theorem dX8_restOf_16 : decode cX8_restOf 16 = .ok (.iload_n 1, 1) := by decide +kernel
theorem dX8_restOf_17 : decode cX8_restOf 17 = .ok (.iconst 3, 1) := by decide +kernel
theorem dX8_restOf_18 : decode cX8_restOf 18 = .ok (.invokevirtual 90, 3) := by decide +kernel
theorem dX8_restOf_21 : decode cX8_restOf 21 = .ok (.laload, 1) := by decide +kernel
theorem dX8_restOf_22 : decode cX8_restOf 22 = .ok (.lsub, 1) := by decide +kernel
theorem dX8_restOf_23 : decode cX8_restOf 23 = .ok (.aload_n 0, 1) := by decide +kernel
theorem dX8_restOf_24 : decode cX8_restOf 24 = .ok (.getfield 7, 3) := by decide +kernel
theorem dX8_restOf_27 : decode cX8_restOf 27 = .ok (.aload_n 0, 1) := by decide +kernel
theorem dX8_restOf_28 : decode cX8_restOf 28 = .ok (.iload_n 1, 1) := by decide +kernel
theorem dX8_restOf_29 : decode cX8_restOf 29 = .ok (.iconst 4, 1) := by decide +kernel
theorem dX8_restOf_30 : decode cX8_restOf 30 = .ok (.invokevirtual 90, 3) := by decide +kernel
theorem dX8_restOf_33 : decode cX8_restOf 33 = .ok (.laload, 1) := by decide +kernel
theorem dX8_restOf_34 : decode cX8_restOf 34 = .ok (.lsub, 1) := by decide +kernel
theorem dX8_restOf_35 : decode cX8_restOf 35 = .ok (.aload_n 0, 1) := by decide +kernel
theorem dX8_restOf_36 : decode cX8_restOf 36 = .ok (.getfield 7, 3) := by decide +kernel
theorem dX8_restOf_39 : decode cX8_restOf 39 = .ok (.aload_n 0, 1) := by decide +kernel
theorem dX8_restOf_40 : decode cX8_restOf 40 = .ok (.iload_n 1, 1) := by decide +kernel
theorem dX8_restOf_41 : decode cX8_restOf 41 = .ok (.iconst 5, 1) := by decide +kernel
theorem dX8_restOf_42 : decode cX8_restOf 42 = .ok (.invokevirtual 90, 3) := by decide +kernel
theorem dX8_restOf_45 : decode cX8_restOf 45 = .ok (.laload, 1) := by decide +kernel
theorem dX8_restOf_46 : decode cX8_restOf 46 = .ok (.lsub, 1) := by decide +kernel
theorem dX8_restOf_47 : decode cX8_restOf 47 = .ok (.lreturn, 1) := by decide +kernel
theorem dX8_deciding_0 : decode cX8_deciding 0 = .ok (.aload_n 0, 1) := by decide +kernel
theorem dX8_deciding_1 : decode cX8_deciding 1 = .ok (.iload_n 2, 1) := by decide +kernel
theorem dX8_deciding_2 : decode cX8_deciding 2 = .ok (.invokevirtual 179, 3) := by decide +kernel
theorem dX8_deciding_5 : decode cX8_deciding 5 = .ok (.ifCond .ne 5, 3) := by decide +kernel
theorem dX8_deciding_8 : decode cX8_deciding 8 = .ok (.iconst 1, 1) := by decide +kernel
theorem dX8_deciding_9 : decode cX8_deciding 9 = .ok (.ireturn, 1) := by decide +kernel
theorem dX8_deciding_10 : decode cX8_deciding 10 = .ok (.iload_n 3, 1) := by decide +kernel
theorem dX8_deciding_11 : decode cX8_deciding 11 = .ok (.iconst 1, 1) := by decide +kernel
theorem dX8_deciding_12 : decode cX8_deciding 12 = .ok (.if_icmp .ge 5, 3) := by decide +kernel
theorem dX8_deciding_15 : decode cX8_deciding 15 = .ok (.iconst 2, 1) := by decide +kernel
theorem dX8_deciding_16 : decode cX8_deciding 16 = .ok (.ireturn, 1) := by decide +kernel
theorem dX8_deciding_17 : decode cX8_deciding 17 = .ok (.iload_n 1, 1) := by decide +kernel
theorem dX8_deciding_18 : decode cX8_deciding 18 = .ok (.iconst 3, 1) := by decide +kernel
theorem dX8_deciding_19 : decode cX8_deciding 19 = .ok (.if_icmp .ge 20, 3) := by decide +kernel
theorem dX8_deciding_22 : decode cX8_deciding 22 = .ok (.aload_n 0, 1) := by decide +kernel
theorem dX8_deciding_23 : decode cX8_deciding 23 = .ok (.getfield 7, 3) := by decide +kernel
theorem dX8_deciding_26 : decode cX8_deciding 26 = .ok (.iconst 1, 1) := by decide +kernel
theorem dX8_deciding_27 : decode cX8_deciding 27 = .ok (.laload, 1) := by decide +kernel
theorem dX8_deciding_28 : decode cX8_deciding 28 = .ok (.lconst 0, 1) := by decide +kernel
theorem dX8_deciding_29 : decode cX8_deciding 29 = .ok (.lcmp, 1) := by decide +kernel
theorem dX8_deciding_30 : decode cX8_deciding 30 = .ok (.ifCond .ne 9, 3) := by decide +kernel
theorem dX8_deciding_33 : decode cX8_deciding 33 = .ok (.aload_n 0, 1) := by decide +kernel
theorem dX8_deciding_34 : decode cX8_deciding 34 = .ok (.iconst 1, 1) := by decide +kernel
theorem dX8_deciding_35 : decode cX8_deciding 35 = .ok (.invokevirtual 182, 3) := by decide +kernel
theorem dX8_deciding_38 : decode cX8_deciding 38 = .ok (.ireturn, 1) := by decide +kernel
theorem dX8_deciding_39 : decode cX8_deciding 39 = .ok (.iload_n 1, 1) := by decide +kernel
theorem dX8_deciding_40 : decode cX8_deciding 40 = .ok (.iconst 3, 1) := by decide +kernel
theorem dX8_deciding_41 : decode cX8_deciding 41 = .ok (.if_icmp .ne 20, 3) := by decide +kernel
theorem dX8_deciding_44 : decode cX8_deciding 44 = .ok (.aload_n 0, 1) := by decide +kernel
theorem dX8_deciding_45 : decode cX8_deciding 45 = .ok (.getfield 7, 3) := by decide +kernel
theorem dX8_deciding_48 : decode cX8_deciding 48 = .ok (.iconst 1, 1) := by decide +kernel
theorem dX8_deciding_49 : decode cX8_deciding 49 = .ok (.laload, 1) := by decide +kernel
theorem dX8_deciding_50 : decode cX8_deciding 50 = .ok (.lconst 1, 1) := by decide +kernel
theorem dX8_deciding_51 : decode cX8_deciding 51 = .ok (.lcmp, 1) := by decide +kernel
theorem dX8_deciding_52 : decode cX8_deciding 52 = .ok (.ifCond .le 9, 3) := by decide +kernel
theorem dX8_deciding_55 : decode cX8_deciding 55 = .ok (.aload_n 0, 1) := by decide +kernel
theorem dX8_deciding_56 : decode cX8_deciding 56 = .ok (.iconst 2, 1) := by decide +kernel
theorem dX8_deciding_57 : decode cX8_deciding 57 = .ok (.invokevirtual 182, 3) := by decide +kernel
theorem dX8_deciding_60 : decode cX8_deciding 60 = .ok (.ireturn, 1) := by decide +kernel
theorem dX8_deciding_61 : decode cX8_deciding 61 = .ok (.iload_n 3, 1) := by decide +kernel
theorem dX8_deciding_62 : decode cX8_deciding 62 = .ok (.i2l, 1) := by decide +kernel
theorem dX8_deciding_63 : decode cX8_deciding 63 = .ok (.aload_n 0, 1) := by decide +kernel
theorem dX8_deciding_64 : decode cX8_deciding 64 = .ok (.iload_n 2, 1) := by decide +kernel
theorem dX8_deciding_65 : decode cX8_deciding 65 = .ok (.invokevirtual 185, 3) := by decide +kernel
theorem dX8_deciding_68 : decode cX8_deciding 68 = .ok (.lcmp, 1) := by decide +kernel
theorem dX8_deciding_69 : decode cX8_deciding 69 = .ok (.ifCond .le 9, 3) := by decide +kernel
theorem dX8_deciding_72 : decode cX8_deciding 72 = .ok (.aload_n 0, 1) := by decide +kernel
theorem dX8_deciding_73 : decode cX8_deciding 73 = .ok (.iconst 3, 1) := by decide +kernel
theorem dX8_deciding_74 : decode cX8_deciding 74 = .ok (.invokevirtual 182, 3) := by decide +kernel
theorem dX8_deciding_77 : decode cX8_deciding 77 = .ok (.ireturn, 1) := by decide +kernel
theorem dX8_deciding_78 : decode cX8_deciding 78 = .ok (.aload_n 0, 1) := by decide +kernel
theorem dX8_deciding_79 : decode cX8_deciding 79 = .ok (.getfield 7, 3) := by decide +kernel
theorem dX8_deciding_82 : decode cX8_deciding 82 = .ok (.aload_n 0, 1) := by decide +kernel
theorem dX8_deciding_83 : decode cX8_deciding 83 = .ok (.iload_n 2, 1) := by decide +kernel
theorem dX8_deciding_84 : decode cX8_deciding 84 = .ok (.iconst 2, 1) := by decide +kernel
theorem dX8_deciding_85 : decode cX8_deciding 85 = .ok (.iload_n 1, 1) := by decide +kernel
theorem dX8_deciding_86 : decode cX8_deciding 86 = .ok (.iadd, 1) := by decide +kernel
theorem dX8_deciding_87 : decode cX8_deciding 87 = .ok (.invokevirtual 90, 3) := by decide +kernel
theorem dX8_deciding_90 : decode cX8_deciding 90 = .ok (.dup2, 1) := by decide +kernel
theorem dX8_deciding_91 : decode cX8_deciding 91 = .ok (.laload, 1) := by decide +kernel
theorem dX8_deciding_92 : decode cX8_deciding 92 = .ok (.iload_n 3, 1) := by decide +kernel
theorem dX8_deciding_93 : decode cX8_deciding 93 = .ok (.i2l, 1) := by decide +kernel
theorem dX8_deciding_94 : decode cX8_deciding 94 = .ok (.ladd, 1) := by decide +kernel
theorem dX8_deciding_95 : decode cX8_deciding 95 = .ok (.lastore, 1) := by decide +kernel
theorem dX8_deciding_96 : decode cX8_deciding 96 = .ok (.iload_n 1, 1) := by decide +kernel
theorem dX8_deciding_97 : decode cX8_deciding 97 = .ok (.iconst 1, 1) := by decide +kernel
theorem dX8_deciding_98 : decode cX8_deciding 98 = .ok (.if_icmp .ne 33, 3) := by decide +kernel
theorem dX8_deciding_101 : decode cX8_deciding 101 = .ok (.aload_n 0, 1) := by decide +kernel
theorem dX8_deciding_102 : decode cX8_deciding 102 = .ok (.aload_n 0, 1) := by decide +kernel
theorem dX8_deciding_103 : decode cX8_deciding 103 = .ok (.getfield 7, 3) := by decide +kernel
theorem dX8_deciding_106 : decode cX8_deciding 106 = .ok (.aload_n 0, 1) := by decide +kernel
theorem dX8_deciding_107 : decode cX8_deciding 107 = .ok (.iload_n 2, 1) := by decide +kernel
theorem dX8_deciding_108 : decode cX8_deciding 108 = .ok (.iconst 1, 1) := by decide +kernel
theorem dX8_deciding_109 : decode cX8_deciding 109 = .ok (.invokevirtual 90, 3) := by decide +kernel
theorem dX8_deciding_112 : decode cX8_deciding 112 = .ok (.laload, 1) := by decide +kernel
theorem dX8_deciding_113 : decode cX8_deciding 113 = .ok (.l2i, 1) := by decide +kernel
theorem dX8_deciding_114 : decode cX8_deciding 114 = .ok (.aload_n 0, 1) := by decide +kernel
theorem dX8_deciding_115 : decode cX8_deciding 115 = .ok (.getfield 7, 3) := by decide +kernel
theorem dX8_deciding_118 : decode cX8_deciding 118 = .ok (.aload_n 0, 1) := by decide +kernel
theorem dX8_deciding_119 : decode cX8_deciding 119 = .ok (.iload_n 2, 1) := by decide +kernel
theorem dX8_deciding_120 : decode cX8_deciding 120 = .ok (.iconst 0, 1) := by decide +kernel
theorem dX8_deciding_121 : decode cX8_deciding 121 = .ok (.invokevirtual 90, 3) := by decide +kernel
theorem dX8_deciding_124 : decode cX8_deciding 124 = .ok (.laload, 1) := by decide +kernel
theorem dX8_deciding_125 : decode cX8_deciding 125 = .ok (.l2i, 1) := by decide +kernel
theorem dX8_deciding_126 : decode cX8_deciding 126 = .ok (.iload_n 3, 1) := by decide +kernel
theorem dX8_deciding_127 : decode cX8_deciding 127 = .ok (.i2l, 1) := by decide +kernel
theorem dX8_deciding_128 : decode cX8_deciding 128 = .ok (.invokevirtual 188, 3) := by decide +kernel
theorem dX8_deciding_131 : decode cX8_deciding 131 = .ok (.aload_n 0, 1) := by decide +kernel
theorem dX8_deciding_132 : decode cX8_deciding 132 = .ok (.iload_n 1, 1) := by decide +kernel
theorem dX8_deciding_133 : decode cX8_deciding 133 = .ok (.iload_n 3, 1) := by decide +kernel
theorem dX8_deciding_134 : decode cX8_deciding 134 = .ok (.i2l, 1) := by decide +kernel
theorem dX8_deciding_135 : decode cX8_deciding 135 = .ok (.invokevirtual 192, 3) := by decide +kernel
theorem dX8_deciding_138 : decode cX8_deciding 138 = .ok (.aload_n 0, 1) := by decide +kernel
theorem dX8_deciding_139 : decode cX8_deciding 139 = .ok (.aload_n 0, 1) := by decide +kernel
theorem dX8_deciding_140 : decode cX8_deciding 140 = .ok (.iload_n 2, 1) := by decide +kernel
theorem dX8_deciding_141 : decode cX8_deciding 141 = .ok (.invokevirtual 185, 3) := by decide +kernel
theorem dX8_deciding_144 : decode cX8_deciding 144 = .ok (.putfield 175, 3) := by decide +kernel
theorem dX8_deciding_147 : decode cX8_deciding 147 = .ok (.iconst 0, 1) := by decide +kernel
theorem dX8_deciding_148 : decode cX8_deciding 148 = .ok (.ireturn, 1) := by decide +kernel
theorem dX8_paying_0 : decode cX8_paying 0 = .ok (.aload_n 0, 1) := by decide +kernel
theorem dX8_paying_1 : decode cX8_paying 1 = .ok (.iload_n 1, 1) := by decide +kernel
theorem dX8_paying_2 : decode cX8_paying 2 = .ok (.invokevirtual 149, 3) := by decide +kernel
theorem dX8_paying_5 : decode cX8_paying 5 = .ok (.ifCond .ne 5, 3) := by decide +kernel
theorem dX8_paying_8 : decode cX8_paying 8 = .ok (.iconst 1, 1) := by decide +kernel
theorem dX8_paying_9 : decode cX8_paying 9 = .ok (.ireturn, 1) := by decide +kernel
theorem dX8_paying_10 : decode cX8_paying 10 = .ok (.iload_n 2, 1) := by decide +kernel
theorem dX8_paying_11 : decode cX8_paying 11 = .ok (.iconst 1, 1) := by decide +kernel
theorem dX8_paying_12 : decode cX8_paying 12 = .ok (.ldc 172, 2) := by decide +kernel
theorem dX8_paying_14 : decode cX8_paying 14 = .ok (.invokestatic 63, 3) := by decide +kernel
theorem dX8_paying_17 : decode cX8_paying 17 = .ok (.ifCond .ne 5, 3) := by decide +kernel
theorem dX8_paying_20 : decode cX8_paying 20 = .ok (.iconst 2, 1) := by decide +kernel
theorem dX8_paying_21 : decode cX8_paying 21 = .ok (.ireturn, 1) := by decide +kernel
theorem dX8_paying_22 : decode cX8_paying 22 = .ok (.aload_n 0, 1) := by decide +kernel
theorem dX8_paying_23 : decode cX8_paying 23 = .ok (.getfield 7, 3) := by decide +kernel
theorem dX8_paying_26 : decode cX8_paying 26 = .ok (.bipush 32, 2) := by decide +kernel
theorem dX8_paying_28 : decode cX8_paying 28 = .ok (.iload_n 1, 1) := by decide +kernel
theorem dX8_paying_29 : decode cX8_paying 29 = .ok (.iadd, 1) := by decide +kernel
theorem dX8_paying_30 : decode cX8_paying 30 = .ok (.dup2, 1) := by decide +kernel
theorem dX8_paying_31 : decode cX8_paying 31 = .ok (.laload, 1) := by decide +kernel
theorem dX8_paying_32 : decode cX8_paying 32 = .ok (.iload_n 2, 1) := by decide +kernel
theorem dX8_paying_33 : decode cX8_paying 33 = .ok (.i2l, 1) := by decide +kernel
theorem dX8_paying_34 : decode cX8_paying 34 = .ok (.ladd, 1) := by decide +kernel
theorem dX8_paying_35 : decode cX8_paying 35 = .ok (.lastore, 1) := by decide +kernel
theorem dX8_paying_36 : decode cX8_paying 36 = .ok (.aload_n 0, 1) := by decide +kernel
theorem dX8_paying_37 : decode cX8_paying 37 = .ok (.iconst 5, 1) := by decide +kernel
theorem dX8_paying_38 : decode cX8_paying 38 = .ok (.iload_n 2, 1) := by decide +kernel
theorem dX8_paying_39 : decode cX8_paying 39 = .ok (.i2l, 1) := by decide +kernel
theorem dX8_paying_40 : decode cX8_paying 40 = .ok (.invokevirtual 192, 3) := by decide +kernel
theorem dX8_paying_43 : decode cX8_paying 43 = .ok (.aload_n 0, 1) := by decide +kernel
theorem dX8_paying_44 : decode cX8_paying 44 = .ok (.aload_n 0, 1) := by decide +kernel
theorem dX8_paying_45 : decode cX8_paying 45 = .ok (.iload_n 1, 1) := by decide +kernel
theorem dX8_paying_46 : decode cX8_paying 46 = .ok (.invokevirtual 156, 3) := by decide +kernel
theorem dX8_paying_49 : decode cX8_paying 49 = .ok (.putfield 175, 3) := by decide +kernel
theorem dX8_paying_52 : decode cX8_paying 52 = .ok (.iconst 0, 1) := by decide +kernel
theorem dX8_paying_53 : decode cX8_paying 53 = .ok (.ireturn, 1) := by decide +kernel
theorem dX8_settling_0 : decode cX8_settling 0 = .ok (.aload_n 0, 1) := by decide +kernel
theorem dX8_settling_1 : decode cX8_settling 1 = .ok (.iload_n 1, 1) := by decide +kernel
theorem dX8_settling_2 : decode cX8_settling 2 = .ok (.invokevirtual 149, 3) := by decide +kernel
theorem dX8_settling_5 : decode cX8_settling 5 = .ok (.ifCond .eq 11, 3) := by decide +kernel
theorem dX8_settling_8 : decode cX8_settling 8 = .ok (.aload_n 0, 1) := by decide +kernel
theorem dX8_settling_9 : decode cX8_settling 9 = .ok (.iload_n 2, 1) := by decide +kernel
theorem dX8_settling_10 : decode cX8_settling 10 = .ok (.invokevirtual 149, 3) := by decide +kernel
theorem dX8_settling_13 : decode cX8_settling 13 = .ok (.ifCond .ne 5, 3) := by decide +kernel
theorem dX8_settling_16 : decode cX8_settling 16 = .ok (.iconst 1, 1) := by decide +kernel
theorem dX8_settling_17 : decode cX8_settling 17 = .ok (.ireturn, 1) := by decide +kernel
theorem dX8_settling_18 : decode cX8_settling 18 = .ok (.iload_n 3, 1) := by decide +kernel
theorem dX8_settling_19 : decode cX8_settling 19 = .ok (.iconst 1, 1) := by decide +kernel
theorem dX8_settling_20 : decode cX8_settling 20 = .ok (.if_icmp .ge 5, 3) := by decide +kernel
theorem dX8_settling_23 : decode cX8_settling 23 = .ok (.iconst 2, 1) := by decide +kernel
theorem dX8_settling_24 : decode cX8_settling 24 = .ok (.ireturn, 1) := by decide +kernel
theorem dX8_settling_25 : decode cX8_settling 25 = .ok (.iload_n 3, 1) := by decide +kernel
theorem dX8_settling_26 : decode cX8_settling 26 = .ok (.i2l, 1) := by decide +kernel
theorem dX8_settling_27 : decode cX8_settling 27 = .ok (.aload_n 0, 1) := by decide +kernel
theorem dX8_settling_28 : decode cX8_settling 28 = .ok (.iload_n 1, 1) := by decide +kernel
theorem dX8_settling_29 : decode cX8_settling 29 = .ok (.iload_n 2, 1) := by decide +kernel
theorem dX8_settling_30 : decode cX8_settling 30 = .ok (.invokevirtual 196, 3) := by decide +kernel
theorem dX8_settling_33 : decode cX8_settling 33 = .ok (.lcmp, 1) := by decide +kernel
theorem dX8_settling_34 : decode cX8_settling 34 = .ok (.ifCond .le 9, 3) := by decide +kernel
theorem dX8_settling_37 : decode cX8_settling 37 = .ok (.aload_n 0, 1) := by decide +kernel
theorem dX8_settling_38 : decode cX8_settling 38 = .ok (.iconst 4, 1) := by decide +kernel
theorem dX8_settling_39 : decode cX8_settling 39 = .ok (.invokevirtual 182, 3) := by decide +kernel
theorem dX8_settling_42 : decode cX8_settling 42 = .ok (.ireturn, 1) := by decide +kernel
theorem dX8_settling_43 : decode cX8_settling 43 = .ok (.aload_n 0, 1) := by decide +kernel
theorem dX8_settling_44 : decode cX8_settling 44 = .ok (.iload_n 1, 1) := by decide +kernel
theorem dX8_settling_45 : decode cX8_settling 45 = .ok (.iload_n 2, 1) := by decide +kernel
theorem dX8_settling_46 : decode cX8_settling 46 = .ok (.iload_n 3, 1) := by decide +kernel
theorem dX8_settling_47 : decode cX8_settling 47 = .ok (.i2l, 1) := by decide +kernel
theorem dX8_settling_48 : decode cX8_settling 48 = .ok (.invokevirtual 200, 3) := by decide +kernel
theorem dX8_settling_51 : decode cX8_settling 51 = .ok (.aload_n 0, 1) := by decide +kernel
theorem dX8_settling_52 : decode cX8_settling 52 = .ok (.bipush 8, 2) := by decide +kernel
theorem dX8_settling_54 : decode cX8_settling 54 = .ok (.iload_n 3, 1) := by decide +kernel
theorem dX8_settling_55 : decode cX8_settling 55 = .ok (.i2l, 1) := by decide +kernel
theorem dX8_settling_56 : decode cX8_settling 56 = .ok (.invokevirtual 192, 3) := by decide +kernel
theorem dX8_settling_59 : decode cX8_settling 59 = .ok (.aload_n 0, 1) := by decide +kernel
theorem dX8_settling_60 : decode cX8_settling 60 = .ok (.aload_n 0, 1) := by decide +kernel
theorem dX8_settling_61 : decode cX8_settling 61 = .ok (.iload_n 1, 1) := by decide +kernel
theorem dX8_settling_62 : decode cX8_settling 62 = .ok (.iload_n 2, 1) := by decide +kernel
theorem dX8_settling_63 : decode cX8_settling 63 = .ok (.invokevirtual 196, 3) := by decide +kernel
theorem dX8_settling_66 : decode cX8_settling 66 = .ok (.putfield 175, 3) := by decide +kernel
theorem dX8_settling_69 : decode cX8_settling 69 = .ok (.iconst 0, 1) := by decide +kernel
theorem dX8_settling_70 : decode cX8_settling 70 = .ok (.ireturn, 1) := by decide +kernel
theorem dX8_grows_0 : decode cX8_grows 0 = .ok (.aload_n 0, 1) := by decide +kernel
theorem dX8_grows_1 : decode cX8_grows 1 = .ok (.getfield 7, 3) := by decide +kernel
theorem dX8_grows_4 : decode cX8_grows 4 = .ok (.aload_n 0, 1) := by decide +kernel
theorem dX8_grows_5 : decode cX8_grows 5 = .ok (.iload_n 1, 1) := by decide +kernel
theorem dX8_grows_6 : decode cX8_grows 6 = .ok (.iconst 4, 1) := by decide +kernel
theorem dX8_grows_7 : decode cX8_grows 7 = .ok (.invokevirtual 140, 3) := by decide +kernel
theorem dX8_grows_10 : decode cX8_grows 10 = .ok (.laload, 1) := by decide +kernel
theorem dX8_grows_11 : decode cX8_grows 11 = .ok (.aload_n 0, 1) := by decide +kernel
theorem dX8_grows_12 : decode cX8_grows 12 = .ok (.getfield 7, 3) := by decide +kernel
theorem dX8_grows_15 : decode cX8_grows 15 = .ok (.aload_n 0, 1) := by decide +kernel
theorem dX8_grows_16 : decode cX8_grows 16 = .ok (.iload_n 1, 1) := by decide +kernel
theorem dX8_grows_17 : decode cX8_grows 17 = .ok (.iconst 2, 1) := by decide +kernel
theorem dX8_grows_18 : decode cX8_grows 18 = .ok (.invokevirtual 140, 3) := by decide +kernel
theorem dX8_grows_21 : decode cX8_grows 21 = .ok (.laload, 1) := by decide +kernel
theorem dX8_grows_22 : decode cX8_grows 22 = .ok (.aload_n 0, 1) := by decide +kernel
theorem dX8_grows_23 : decode cX8_grows 23 = .ok (.getfield 7, 3) := by decide +kernel
theorem dX8_grows_26 : decode cX8_grows 26 = .ok (.bipush 6, 2) := by decide +kernel
theorem dX8_grows_28 : decode cX8_grows 28 = .ok (.aload_n 0, 1) := by decide +kernel
theorem dX8_grows_29 : decode cX8_grows 29 = .ok (.getfield 7, 3) := by decide +kernel
theorem dX8_grows_32 : decode cX8_grows 32 = .ok (.iconst 1, 1) := by decide +kernel
theorem dX8_grows_33 : decode cX8_grows 33 = .ok (.laload, 1) := by decide +kernel
theorem dX8_grows_34 : decode cX8_grows 34 = .ok (.l2i, 1) := by decide +kernel
theorem dX8_grows_35 : decode cX8_grows 35 = .ok (.iadd, 1) := by decide +kernel
theorem dX8_grows_36 : decode cX8_grows 36 = .ok (.laload, 1) := by decide +kernel
theorem dX8_grows_37 : decode cX8_grows 37 = .ok (.lmul, 1) := by decide +kernel
theorem dX8_grows_38 : decode cX8_grows 38 = .ok (.ladd, 1) := by decide +kernel
theorem dX8_grows_39 : decode cX8_grows 39 = .ok (.lstore_n 2, 1) := by decide +kernel
theorem dX8_grows_40 : decode cX8_grows 40 = .ok (.aload_n 0, 1) := by decide +kernel
theorem dX8_grows_41 : decode cX8_grows 41 = .ok (.getfield 7, 3) := by decide +kernel
theorem dX8_grows_44 : decode cX8_grows 44 = .ok (.aload_n 0, 1) := by decide +kernel
theorem dX8_grows_45 : decode cX8_grows 45 = .ok (.iload_n 1, 1) := by decide +kernel
theorem dX8_grows_46 : decode cX8_grows 46 = .ok (.iconst 4, 1) := by decide +kernel
theorem dX8_grows_47 : decode cX8_grows 47 = .ok (.invokevirtual 140, 3) := by decide +kernel
theorem dX8_grows_50 : decode cX8_grows 50 = .ok (.lload_n 2, 1) := by decide +kernel
theorem dX8_grows_51 : decode cX8_grows 51 = .ok (.ldc2_w 203, 3) := by decide +kernel
theorem dX8_grows_54 : decode cX8_grows 54 = .ok (.lrem, 1) := by decide +kernel
theorem dX8_grows_55 : decode cX8_grows 55 = .ok (.lastore, 1) := by decide +kernel
theorem dX8_grows_56 : decode cX8_grows 56 = .ok (.aload_n 0, 1) := by decide +kernel
theorem dX8_grows_57 : decode cX8_grows 57 = .ok (.getfield 7, 3) := by decide +kernel
theorem dX8_grows_60 : decode cX8_grows 60 = .ok (.aload_n 0, 1) := by decide +kernel
theorem dX8_grows_61 : decode cX8_grows 61 = .ok (.iload_n 1, 1) := by decide +kernel
theorem dX8_grows_62 : decode cX8_grows 62 = .ok (.iconst 3, 1) := by decide +kernel
theorem dX8_grows_63 : decode cX8_grows 63 = .ok (.invokevirtual 140, 3) := by decide +kernel
theorem dX8_grows_66 : decode cX8_grows 66 = .ok (.dup2, 1) := by decide +kernel
theorem dX8_grows_67 : decode cX8_grows 67 = .ok (.laload, 1) := by decide +kernel
theorem dX8_grows_68 : decode cX8_grows 68 = .ok (.lload_n 2, 1) := by decide +kernel
theorem dX8_grows_69 : decode cX8_grows 69 = .ok (.ldc2_w 203, 3) := by decide +kernel
theorem dX8_grows_72 : decode cX8_grows 72 = .ok (.ldiv, 1) := by decide +kernel
theorem dX8_grows_73 : decode cX8_grows 73 = .ok (.ladd, 1) := by decide +kernel
theorem dX8_grows_74 : decode cX8_grows 74 = .ok (.lastore, 1) := by decide +kernel
theorem dX8_grows_75 : decode cX8_grows 75 = .ok (.lload_n 2, 1) := by decide +kernel
theorem dX8_grows_76 : decode cX8_grows 76 = .ok (.ldc2_w 203, 3) := by decide +kernel
theorem dX8_grows_79 : decode cX8_grows 79 = .ok (.ldiv, 1) := by decide +kernel
theorem dX8_grows_80 : decode cX8_grows 80 = .ok (.lreturn, 1) := by decide +kernel
theorem dX8_passing_0 : decode cX8_passing 0 = .ok (.iload_n 1, 1) := by decide +kernel
theorem dX8_passing_1 : decode cX8_passing 1 = .ok (.iconst 0, 1) := by decide +kernel
theorem dX8_passing_2 : decode cX8_passing 2 = .ok (.sipush 999, 3) := by decide +kernel
theorem dX8_passing_5 : decode cX8_passing 5 = .ok (.invokestatic 63, 3) := by decide +kernel
theorem dX8_passing_8 : decode cX8_passing 8 = .ok (.ifCond .ne 5, 3) := by decide +kernel
theorem dX8_passing_11 : decode cX8_passing 11 = .ok (.iconst 1, 1) := by decide +kernel
theorem dX8_passing_12 : decode cX8_passing 12 = .ok (.ireturn, 1) := by decide +kernel
theorem dX8_passing_13 : decode cX8_passing 13 = .ok (.aload_n 0, 1) := by decide +kernel
theorem dX8_passing_14 : decode cX8_passing 14 = .ok (.getfield 7, 3) := by decide +kernel
theorem dX8_passing_17 : decode cX8_passing 17 = .ok (.iconst 0, 1) := by decide +kernel
theorem dX8_passing_18 : decode cX8_passing 18 = .ok (.laload, 1) := by decide +kernel
theorem dX8_passing_19 : decode cX8_passing 19 = .ok (.iload_n 1, 1) := by decide +kernel
theorem dX8_passing_20 : decode cX8_passing 20 = .ok (.i2l, 1) := by decide +kernel
theorem dX8_passing_21 : decode cX8_passing 21 = .ok (.ladd, 1) := by decide +kernel
theorem dX8_passing_22 : decode cX8_passing 22 = .ok (.ldc2_w 205, 3) := by decide +kernel
theorem dX8_passing_25 : decode cX8_passing 25 = .ok (.lcmp, 1) := by decide +kernel
theorem dX8_passing_26 : decode cX8_passing 26 = .ok (.ifCond .le 5, 3) := by decide +kernel
theorem dX8_passing_29 : decode cX8_passing 29 = .ok (.iconst 2, 1) := by decide +kernel
theorem dX8_passing_30 : decode cX8_passing 30 = .ok (.ireturn, 1) := by decide +kernel
theorem dX8_passing_31 : decode cX8_passing 31 = .ok (.aload_n 0, 1) := by decide +kernel
theorem dX8_passing_32 : decode cX8_passing 32 = .ok (.lconst 0, 1) := by decide +kernel
theorem dX8_passing_33 : decode cX8_passing 33 = .ok (.putfield 175, 3) := by decide +kernel
theorem dX8_passing_36 : decode cX8_passing 36 = .ok (.iconst 0, 1) := by decide +kernel
theorem dX8_passing_37 : decode cX8_passing 37 = .ok (.istore_n 2, 1) := by decide +kernel
theorem dX8_passing_38 : decode cX8_passing 38 = .ok (.iload_n 2, 1) := by decide +kernel
theorem dX8_passing_39 : decode cX8_passing 39 = .ok (.iload_n 1, 1) := by decide +kernel
theorem dX8_passing_40 : decode cX8_passing 40 = .ok (.if_icmp .ge 39, 3) := by decide +kernel
theorem dX8_passing_43 : decode cX8_passing 43 = .ok (.iconst 0, 1) := by decide +kernel
theorem dX8_passing_44 : decode cX8_passing 44 = .ok (.istore_n 3, 1) := by decide +kernel
theorem dX8_passing_45 : decode cX8_passing 45 = .ok (.iload_n 3, 1) := by decide +kernel
theorem dX8_passing_46 : decode cX8_passing 46 = .ok (.aload_n 0, 1) := by decide +kernel
theorem dX8_passing_47 : decode cX8_passing 47 = .ok (.invokevirtual 70, 3) := by decide +kernel
theorem dX8_passing_50 : decode cX8_passing 50 = .ok (.if_icmp .ge 23, 3) := by decide +kernel
theorem dX8_passing_53 : decode cX8_passing 53 = .ok (.aload_n 0, 1) := by decide +kernel
theorem dX8_passing_54 : decode cX8_passing 54 = .ok (.dup, 1) := by decide +kernel
theorem dX8_passing_55 : decode cX8_passing 55 = .ok (.getfield 175, 3) := by decide +kernel
theorem dX8_passing_58 : decode cX8_passing 58 = .ok (.aload_n 0, 1) := by decide +kernel
theorem dX8_passing_59 : decode cX8_passing 59 = .ok (.iload_n 3, 1) := by decide +kernel
theorem dX8_passing_60 : decode cX8_passing 60 = .ok (.invokevirtual 207, 3) := by decide +kernel
theorem dX8_passing_63 : decode cX8_passing 63 = .ok (.ladd, 1) := by decide +kernel
theorem dX8_passing_64 : decode cX8_passing 64 = .ok (.putfield 175, 3) := by decide +kernel
theorem dX8_passing_67 : decode cX8_passing 67 = .ok (.iinc 3 1, 3) := by decide +kernel
theorem dX8_passing_70 : decode cX8_passing 70 = .ok (.goto (-25), 3) := by decide +kernel
theorem dX8_passing_73 : decode cX8_passing 73 = .ok (.iinc 2 1, 3) := by decide +kernel
theorem dX8_passing_76 : decode cX8_passing 76 = .ok (.goto (-38), 3) := by decide +kernel
theorem dX8_passing_79 : decode cX8_passing 79 = .ok (.aload_n 0, 1) := by decide +kernel
theorem dX8_passing_80 : decode cX8_passing 80 = .ok (.getfield 7, 3) := by decide +kernel
theorem dX8_passing_83 : decode cX8_passing 83 = .ok (.iconst 0, 1) := by decide +kernel
theorem dX8_passing_84 : decode cX8_passing 84 = .ok (.dup2, 1) := by decide +kernel
theorem dX8_passing_85 : decode cX8_passing 85 = .ok (.laload, 1) := by decide +kernel
theorem dX8_passing_86 : decode cX8_passing 86 = .ok (.iload_n 1, 1) := by decide +kernel
theorem dX8_passing_87 : decode cX8_passing 87 = .ok (.i2l, 1) := by decide +kernel
theorem dX8_passing_88 : decode cX8_passing 88 = .ok (.ladd, 1) := by decide +kernel
theorem dX8_passing_89 : decode cX8_passing 89 = .ok (.lastore, 1) := by decide +kernel
theorem dX8_passing_90 : decode cX8_passing 90 = .ok (.iconst 0, 1) := by decide +kernel
theorem dX8_passing_91 : decode cX8_passing 91 = .ok (.ireturn, 1) := by decide +kernel
theorem dX8_goingOn_0 : decode cX8_goingOn 0 = .ok (.aload_n 0, 1) := by decide +kernel
theorem dX8_goingOn_1 : decode cX8_goingOn 1 = .ok (.getfield 7, 3) := by decide +kernel
theorem dX8_goingOn_4 : decode cX8_goingOn 4 = .ok (.iconst 1, 1) := by decide +kernel
theorem dX8_goingOn_5 : decode cX8_goingOn 5 = .ok (.laload, 1) := by decide +kernel
theorem dX8_goingOn_6 : decode cX8_goingOn 6 = .ok (.ldc2_w 173, 3) := by decide +kernel
theorem dX8_goingOn_9 : decode cX8_goingOn 9 = .ok (.lcmp, 1) := by decide +kernel
theorem dX8_goingOn_10 : decode cX8_goingOn 10 = .ok (.ifCond .ne 5, 3) := by decide +kernel
theorem dX8_goingOn_13 : decode cX8_goingOn 13 = .ok (.iconst 1, 1) := by decide +kernel
theorem dX8_goingOn_14 : decode cX8_goingOn 14 = .ok (.ireturn, 1) := by decide +kernel
theorem dX8_goingOn_15 : decode cX8_goingOn 15 = .ok (.aload_n 0, 1) := by decide +kernel
theorem dX8_goingOn_16 : decode cX8_goingOn 16 = .ok (.getfield 7, 3) := by decide +kernel
theorem dX8_goingOn_19 : decode cX8_goingOn 19 = .ok (.iconst 1, 1) := by decide +kernel
theorem dX8_goingOn_20 : decode cX8_goingOn 20 = .ok (.dup2, 1) := by decide +kernel
theorem dX8_goingOn_21 : decode cX8_goingOn 21 = .ok (.laload, 1) := by decide +kernel
theorem dX8_goingOn_22 : decode cX8_goingOn 22 = .ok (.lconst 1, 1) := by decide +kernel
theorem dX8_goingOn_23 : decode cX8_goingOn 23 = .ok (.ladd, 1) := by decide +kernel
theorem dX8_goingOn_24 : decode cX8_goingOn 24 = .ok (.lastore, 1) := by decide +kernel
theorem dX8_goingOn_25 : decode cX8_goingOn 25 = .ok (.aload_n 0, 1) := by decide +kernel
theorem dX8_goingOn_26 : decode cX8_goingOn 26 = .ok (.aload_n 0, 1) := by decide +kernel
theorem dX8_goingOn_27 : decode cX8_goingOn 27 = .ok (.getfield 7, 3) := by decide +kernel
theorem dX8_goingOn_30 : decode cX8_goingOn 30 = .ok (.iconst 1, 1) := by decide +kernel
theorem dX8_goingOn_31 : decode cX8_goingOn 31 = .ok (.laload, 1) := by decide +kernel
theorem dX8_goingOn_32 : decode cX8_goingOn 32 = .ok (.putfield 175, 3) := by decide +kernel
theorem dX8_goingOn_35 : decode cX8_goingOn 35 = .ok (.iconst 0, 1) := by decide +kernel
theorem dX8_goingOn_36 : decode cX8_goingOn 36 = .ok (.ireturn, 1) := by decide +kernel
theorem dX8_ends_0 : decode cX8_ends 0 = .ok (.aload_n 0, 1) := by decide +kernel
theorem dX8_ends_1 : decode cX8_ends 1 = .ok (.iload_n 1, 1) := by decide +kernel
theorem dX8_ends_2 : decode cX8_ends 2 = .ok (.bipush 9, 2) := by decide +kernel
theorem dX8_ends_4 : decode cX8_ends 4 = .ok (.if_icmp .ne 7, 3) := by decide +kernel
theorem dX8_ends_7 : decode cX8_ends 7 = .ok (.iconst 3, 1) := by decide +kernel
theorem dX8_ends_8 : decode cX8_ends 8 = .ok (.goto 4, 3) := by decide +kernel
theorem dX8_ends_11 : decode cX8_ends 11 = .ok (.iload_n 1, 1) := by decide +kernel
theorem dX8_ends_12 : decode cX8_ends 12 = .ok (.putfield 42, 3) := by decide +kernel
theorem dX8_ends_15 : decode cX8_ends 15 = .ok (.aload_n 0, 1) := by decide +kernel
theorem dX8_ends_16 : decode cX8_ends 16 = .ok (.getfield 42, 3) := by decide +kernel
theorem dX8_ends_19 : decode cX8_ends 19 = .ok (.ifCond .le 5, 3) := by decide +kernel
theorem dX8_ends_22 : decode cX8_ends 22 = .ok (.lconst 0, 1) := by decide +kernel
theorem dX8_ends_23 : decode cX8_ends 23 = .ok (.lreturn, 1) := by decide +kernel
theorem dX8_ends_24 : decode cX8_ends 24 = .ok (.aload_n 0, 1) := by decide +kernel
theorem dX8_ends_25 : decode cX8_ends 25 = .ok (.invokevirtual 83, 3) := by decide +kernel
theorem dX8_ends_28 : decode cX8_ends 28 = .ok (.aload_n 0, 1) := by decide +kernel
theorem dX8_ends_29 : decode cX8_ends 29 = .ok (.getfield 175, 3) := by decide +kernel
theorem dX8_ends_32 : decode cX8_ends 32 = .ok (.lreturn, 1) := by decide +kernel
theorem dX8_claim_0 : decode cX8_claim 0 = .ok (.aload_n 0, 1) := by decide +kernel
theorem dX8_claim_1 : decode cX8_claim 1 = .ok (.invokevirtual 76, 3) := by decide +kernel
theorem dX8_claim_4 : decode cX8_claim 4 = .ok (.aload_n 0, 1) := by decide +kernel
theorem dX8_claim_5 : decode cX8_claim 5 = .ok (.aload_n 0, 1) := by decide +kernel
theorem dX8_claim_6 : decode cX8_claim 6 = .ok (.iload_n 1, 1) := by decide +kernel
theorem dX8_claim_7 : decode cX8_claim 7 = .ok (.iload_n 2, 1) := by decide +kernel
theorem dX8_claim_8 : decode cX8_claim 8 = .ok (.iload_n 3, 1) := by decide +kernel
theorem dX8_claim_9 : decode cX8_claim 9 = .ok (.invokevirtual 210, 3) := by decide +kernel
theorem dX8_claim_12 : decode cX8_claim 12 = .ok (.invokevirtual 214, 3) := by decide +kernel
theorem dX8_claim_15 : decode cX8_claim 15 = .ok (.l2i, 1) := by decide +kernel
theorem dX8_claim_16 : decode cX8_claim 16 = .ok (.ireturn, 1) := by decide +kernel
theorem dX8_award_0 : decode cX8_award 0 = .ok (.aload_n 0, 1) := by decide +kernel
theorem dX8_award_1 : decode cX8_award 1 = .ok (.invokevirtual 76, 3) := by decide +kernel
theorem dX8_award_4 : decode cX8_award 4 = .ok (.aload_n 0, 1) := by decide +kernel
theorem dX8_award_5 : decode cX8_award 5 = .ok (.aload_n 0, 1) := by decide +kernel
theorem dX8_award_6 : decode cX8_award 6 = .ok (.iconst 1, 1) := by decide +kernel
theorem dX8_award_7 : decode cX8_award 7 = .ok (.iload_n 1, 1) := by decide +kernel
theorem dX8_award_8 : decode cX8_award 8 = .ok (.iload_n 2, 1) := by decide +kernel
theorem dX8_award_9 : decode cX8_award 9 = .ok (.invokevirtual 217, 3) := by decide +kernel
theorem dX8_award_12 : decode cX8_award 12 = .ok (.invokevirtual 214, 3) := by decide +kernel
theorem dX8_award_15 : decode cX8_award 15 = .ok (.l2i, 1) := by decide +kernel
theorem dX8_award_16 : decode cX8_award 16 = .ok (.ireturn, 1) := by decide +kernel
theorem dX8_dismiss_0 : decode cX8_dismiss 0 = .ok (.aload_n 0, 1) := by decide +kernel
theorem dX8_dismiss_1 : decode cX8_dismiss 1 = .ok (.invokevirtual 76, 3) := by decide +kernel
theorem dX8_dismiss_4 : decode cX8_dismiss 4 = .ok (.aload_n 0, 1) := by decide +kernel
theorem dX8_dismiss_5 : decode cX8_dismiss 5 = .ok (.aload_n 0, 1) := by decide +kernel
theorem dX8_dismiss_6 : decode cX8_dismiss 6 = .ok (.iconst 2, 1) := by decide +kernel
theorem dX8_dismiss_7 : decode cX8_dismiss 7 = .ok (.iload_n 1, 1) := by decide +kernel
theorem dX8_dismiss_8 : decode cX8_dismiss 8 = .ok (.iload_n 2, 1) := by decide +kernel
theorem dX8_dismiss_9 : decode cX8_dismiss 9 = .ok (.invokevirtual 217, 3) := by decide +kernel
theorem dX8_dismiss_12 : decode cX8_dismiss 12 = .ok (.invokevirtual 214, 3) := by decide +kernel
theorem dX8_dismiss_15 : decode cX8_dismiss 15 = .ok (.l2i, 1) := by decide +kernel
theorem dX8_dismiss_16 : decode cX8_dismiss 16 = .ok (.ireturn, 1) := by decide +kernel
theorem dX8_withdraw_0 : decode cX8_withdraw 0 = .ok (.aload_n 0, 1) := by decide +kernel
theorem dX8_withdraw_1 : decode cX8_withdraw 1 = .ok (.invokevirtual 76, 3) := by decide +kernel
theorem dX8_withdraw_4 : decode cX8_withdraw 4 = .ok (.aload_n 0, 1) := by decide +kernel
theorem dX8_withdraw_5 : decode cX8_withdraw 5 = .ok (.aload_n 0, 1) := by decide +kernel
theorem dX8_withdraw_6 : decode cX8_withdraw 6 = .ok (.iconst 3, 1) := by decide +kernel
theorem dX8_withdraw_7 : decode cX8_withdraw 7 = .ok (.iload_n 1, 1) := by decide +kernel
theorem dX8_withdraw_8 : decode cX8_withdraw 8 = .ok (.iload_n 2, 1) := by decide +kernel
theorem dX8_withdraw_9 : decode cX8_withdraw 9 = .ok (.invokevirtual 217, 3) := by decide +kernel
theorem dX8_withdraw_12 : decode cX8_withdraw 12 = .ok (.invokevirtual 214, 3) := by decide +kernel
theorem dX8_withdraw_15 : decode cX8_withdraw 15 = .ok (.l2i, 1) := by decide +kernel
theorem dX8_withdraw_16 : decode cX8_withdraw 16 = .ok (.ireturn, 1) := by decide +kernel
theorem dX8_claimed_0 : decode cX8_claimed 0 = .ok (.aload_n 0, 1) := by decide +kernel
theorem dX8_claimed_1 : decode cX8_claimed 1 = .ok (.iconst 0, 1) := by decide +kernel
theorem dX8_claimed_2 : decode cX8_claimed 2 = .ok (.putfield 42, 3) := by decide +kernel
theorem dX8_claimed_5 : decode cX8_claimed 5 = .ok (.aload_n 0, 1) := by decide +kernel
theorem dX8_claimed_6 : decode cX8_claimed 6 = .ok (.iload_n 1, 1) := by decide +kernel
theorem dX8_claimed_7 : decode cX8_claimed 7 = .ok (.invokevirtual 179, 3) := by decide +kernel
theorem dX8_claimed_10 : decode cX8_claimed 10 = .ok (.ifCond .ne 9, 3) := by decide +kernel
theorem dX8_claimed_13 : decode cX8_claimed 13 = .ok (.aload_n 0, 1) := by decide +kernel
theorem dX8_claimed_14 : decode cX8_claimed 14 = .ok (.iconst 1, 1) := by decide +kernel
theorem dX8_claimed_15 : decode cX8_claimed 15 = .ok (.invokevirtual 79, 3) := by decide +kernel
theorem dX8_claimed_18 : decode cX8_claimed 18 = .ok (.ireturn, 1) := by decide +kernel
theorem dX8_claimed_19 : decode cX8_claimed 19 = .ok (.iload_n 2, 1) := by decide +kernel
theorem dX8_claimed_20 : decode cX8_claimed 20 = .ok (.iconst 0, 1) := by decide +kernel
theorem dX8_claimed_21 : decode cX8_claimed 21 = .ok (.iconst 5, 1) := by decide +kernel
theorem dX8_claimed_22 : decode cX8_claimed 22 = .ok (.invokestatic 63, 3) := by decide +kernel
theorem dX8_claimed_25 : decode cX8_claimed 25 = .ok (.ifCond .eq 18, 3) := by decide +kernel
theorem dX8_claimed_28 : decode cX8_claimed 28 = .ok (.aload_n 0, 1) := by decide +kernel
theorem dX8_claimed_29 : decode cX8_claimed 29 = .ok (.getfield 7, 3) := by decide +kernel
theorem dX8_claimed_32 : decode cX8_claimed 32 = .ok (.aload_n 0, 1) := by decide +kernel
theorem dX8_claimed_33 : decode cX8_claimed 33 = .ok (.iload_n 1, 1) := by decide +kernel
theorem dX8_claimed_34 : decode cX8_claimed 34 = .ok (.iload_n 2, 1) := by decide +kernel
theorem dX8_claimed_35 : decode cX8_claimed 35 = .ok (.invokevirtual 90, 3) := by decide +kernel
theorem dX8_claimed_38 : decode cX8_claimed 38 = .ok (.laload, 1) := by decide +kernel
theorem dX8_claimed_39 : decode cX8_claimed 39 = .ok (.l2i, 1) := by decide +kernel
theorem dX8_claimed_40 : decode cX8_claimed 40 = .ok (.goto 23, 3) := by decide +kernel
theorem dX8_claimed_43 : decode cX8_claimed 43 = .ok (.iload_n 2, 1) := by decide +kernel
theorem dX8_claimed_44 : decode cX8_claimed 44 = .ok (.bipush 6, 2) := by decide +kernel
theorem dX8_claimed_46 : decode cX8_claimed 46 = .ok (.if_icmp .ne 12, 3) := by decide +kernel
theorem dX8_claimed_49 : decode cX8_claimed 49 = .ok (.aload_n 0, 1) := by decide +kernel
theorem dX8_claimed_50 : decode cX8_claimed 50 = .ok (.iload_n 1, 1) := by decide +kernel
theorem dX8_claimed_51 : decode cX8_claimed 51 = .ok (.invokevirtual 185, 3) := by decide +kernel
theorem dX8_claimed_54 : decode cX8_claimed 54 = .ok (.l2i, 1) := by decide +kernel
theorem dX8_claimed_55 : decode cX8_claimed 55 = .ok (.goto 8, 3) := by decide +kernel
theorem dX8_claimed_58 : decode cX8_claimed 58 = .ok (.aload_n 0, 1) := by decide +kernel
theorem dX8_claimed_59 : decode cX8_claimed 59 = .ok (.iconst 2, 1) := by decide +kernel
theorem dX8_claimed_60 : decode cX8_claimed 60 = .ok (.invokevirtual 79, 3) := by decide +kernel
theorem dX8_claimed_63 : decode cX8_claimed 63 = .ok (.ireturn, 1) := by decide +kernel
theorem dX8_reason_0 : decode cX8_reason 0 = .ok (.aload_n 0, 1) := by decide +kernel
theorem dX8_reason_1 : decode cX8_reason 1 = .ok (.iconst 0, 1) := by decide +kernel
theorem dX8_reason_2 : decode cX8_reason 2 = .ok (.putfield 42, 3) := by decide +kernel
theorem dX8_reason_5 : decode cX8_reason 5 = .ok (.aload_n 0, 1) := by decide +kernel
theorem dX8_reason_6 : decode cX8_reason 6 = .ok (.getfield 169, 3) := by decide +kernel
theorem dX8_reason_9 : decode cX8_reason 9 = .ok (.ifCond .ne 11, 3) := by decide +kernel
theorem dX8_reason_12 : decode cX8_reason 12 = .ok (.aload_n 0, 1) := by decide +kernel
theorem dX8_reason_13 : decode cX8_reason 13 = .ok (.iconst 1, 1) := by decide +kernel
theorem dX8_reason_14 : decode cX8_reason 14 = .ok (.invokevirtual 79, 3) := by decide +kernel
theorem dX8_reason_17 : decode cX8_reason 17 = .ok (.goto 7, 3) := by decide +kernel
theorem dX8_reason_20 : decode cX8_reason 20 = .ok (.aload_n 0, 1) := by decide +kernel
theorem dX8_reason_21 : decode cX8_reason 21 = .ok (.getfield 169, 3) := by decide +kernel
theorem dX8_reason_24 : decode cX8_reason 24 = .ok (.ireturn, 1) := by decide +kernel
theorem dX8_inDispute_0 : decode cX8_inDispute 0 = .ok (.aload_n 0, 1) := by decide +kernel
theorem dX8_inDispute_1 : decode cX8_inDispute 1 = .ok (.iconst 0, 1) := by decide +kernel
theorem dX8_inDispute_2 : decode cX8_inDispute 2 = .ok (.putfield 42, 3) := by decide +kernel
theorem dX8_inDispute_5 : decode cX8_inDispute 5 = .ok (.aload_n 0, 1) := by decide +kernel
theorem dX8_inDispute_6 : decode cX8_inDispute 6 = .ok (.invokevirtual 112, 3) := by decide +kernel
theorem dX8_inDispute_9 : decode cX8_inDispute 9 = .ok (.lreturn, 1) := by decide +kernel
theorem dX8_fees_0 : decode cX8_fees 0 = .ok (.aload_n 0, 1) := by decide +kernel
theorem dX8_fees_1 : decode cX8_fees 1 = .ok (.iconst 0, 1) := by decide +kernel
theorem dX8_fees_2 : decode cX8_fees 2 = .ok (.putfield 42, 3) := by decide +kernel
theorem dX8_fees_5 : decode cX8_fees 5 = .ok (.iload_n 1, 1) := by decide +kernel
theorem dX8_fees_6 : decode cX8_fees 6 = .ok (.iconst (-1), 1) := by decide +kernel
theorem dX8_fees_7 : decode cX8_fees 7 = .ok (.if_icmp .ne 10, 3) := by decide +kernel
theorem dX8_fees_10 : decode cX8_fees 10 = .ok (.aload_n 0, 1) := by decide +kernel
theorem dX8_fees_11 : decode cX8_fees 11 = .ok (.invokevirtual 122, 3) := by decide +kernel
theorem dX8_fees_14 : decode cX8_fees 14 = .ok (.goto 29, 3) := by decide +kernel
theorem dX8_fees_17 : decode cX8_fees 17 = .ok (.iload_n 1, 1) := by decide +kernel
theorem dX8_fees_18 : decode cX8_fees 18 = .ok (.iconst 0, 1) := by decide +kernel
theorem dX8_fees_19 : decode cX8_fees 19 = .ok (.iconst 3, 1) := by decide +kernel
theorem dX8_fees_20 : decode cX8_fees 20 = .ok (.invokestatic 63, 3) := by decide +kernel
theorem dX8_fees_23 : decode cX8_fees 23 = .ok (.ifCond .eq 15, 3) := by decide +kernel
theorem dX8_fees_26 : decode cX8_fees 26 = .ok (.aload_n 0, 1) := by decide +kernel
theorem dX8_fees_27 : decode cX8_fees 27 = .ok (.aload_n 0, 1) := by decide +kernel
theorem dX8_fees_28 : decode cX8_fees 28 = .ok (.invokevirtual 112, 3) := by decide +kernel
theorem dX8_fees_31 : decode cX8_fees 31 = .ok (.iload_n 1, 1) := by decide +kernel
theorem dX8_fees_32 : decode cX8_fees 32 = .ok (.invokevirtual 109, 3) := by decide +kernel
theorem dX8_fees_35 : decode cX8_fees 35 = .ok (.goto 8, 3) := by decide +kernel
theorem dX8_fees_38 : decode cX8_fees 38 = .ok (.aload_n 0, 1) := by decide +kernel
theorem dX8_fees_39 : decode cX8_fees 39 = .ok (.iconst 1, 1) := by decide +kernel
theorem dX8_fees_40 : decode cX8_fees 40 = .ok (.invokevirtual 153, 3) := by decide +kernel
theorem dX8_fees_43 : decode cX8_fees 43 = .ok (.lreturn, 1) := by decide +kernel
theorem dX8_wouldBe_0 : decode cX8_wouldBe 0 = .ok (.aload_n 0, 1) := by decide +kernel
theorem dX8_wouldBe_1 : decode cX8_wouldBe 1 = .ok (.iconst 0, 1) := by decide +kernel
theorem dX8_wouldBe_2 : decode cX8_wouldBe 2 = .ok (.putfield 42, 3) := by decide +kernel
theorem dX8_wouldBe_5 : decode cX8_wouldBe 5 = .ok (.iload_n 1, 1) := by decide +kernel
theorem dX8_wouldBe_6 : decode cX8_wouldBe 6 = .ok (.iconst 1, 1) := by decide +kernel
theorem dX8_wouldBe_7 : decode cX8_wouldBe 7 = .ok (.ldc 220, 2) := by decide +kernel
theorem dX8_wouldBe_9 : decode cX8_wouldBe 9 = .ok (.invokestatic 63, 3) := by decide +kernel
theorem dX8_wouldBe_12 : decode cX8_wouldBe 12 = .ok (.ifCond .eq 16, 3) := by decide +kernel
theorem dX8_wouldBe_15 : decode cX8_wouldBe 15 = .ok (.aload_n 0, 1) := by decide +kernel
theorem dX8_wouldBe_16 : decode cX8_wouldBe 16 = .ok (.iload_n 1, 1) := by decide +kernel
theorem dX8_wouldBe_17 : decode cX8_wouldBe 17 = .ok (.i2l, 1) := by decide +kernel
theorem dX8_wouldBe_18 : decode cX8_wouldBe 18 = .ok (.invokevirtual 116, 3) := by decide +kernel
theorem dX8_wouldBe_21 : decode cX8_wouldBe 21 = .ok (.ldc2_w 120, 3) := by decide +kernel
theorem dX8_wouldBe_24 : decode cX8_wouldBe 24 = .ok (.ladd, 1) := by decide +kernel
theorem dX8_wouldBe_25 : decode cX8_wouldBe 25 = .ok (.goto 8, 3) := by decide +kernel
theorem dX8_wouldBe_28 : decode cX8_wouldBe 28 = .ok (.aload_n 0, 1) := by decide +kernel
theorem dX8_wouldBe_29 : decode cX8_wouldBe 29 = .ok (.iconst 1, 1) := by decide +kernel
theorem dX8_wouldBe_30 : decode cX8_wouldBe 30 = .ok (.invokevirtual 153, 3) := by decide +kernel
theorem dX8_wouldBe_33 : decode cX8_wouldBe 33 = .ok (.lreturn, 1) := by decide +kernel
theorem dX8_partiesOf_0 : decode cX8_partiesOf 0 = .ok (.iconst 0, 1) := by decide +kernel
theorem dX8_partiesOf_1 : decode cX8_partiesOf 1 = .ok (.istore_n 2, 1) := by decide +kernel
theorem dX8_partiesOf_2 : decode cX8_partiesOf 2 = .ok (.iconst 0, 1) := by decide +kernel
theorem dX8_partiesOf_3 : decode cX8_partiesOf 3 = .ok (.istore_n 3, 1) := by decide +kernel
theorem dX8_partiesOf_4 : decode cX8_partiesOf 4 = .ok (.iload_n 3, 1) := by decide +kernel
theorem dX8_partiesOf_5 : decode cX8_partiesOf 5 = .ok (.aload_n 0, 1) := by decide +kernel
theorem dX8_partiesOf_6 : decode cX8_partiesOf 6 = .ok (.invokevirtual 59, 3) := by decide +kernel
theorem dX8_partiesOf_9 : decode cX8_partiesOf 9 = .ok (.if_icmp .ge 32, 3) := by decide +kernel
theorem dX8_partiesOf_12 : decode cX8_partiesOf 12 = .ok (.iload_n 2, 1) := by decide +kernel
theorem dX8_partiesOf_13 : decode cX8_partiesOf 13 = .ok (.aload_n 0, 1) := by decide +kernel
theorem dX8_partiesOf_14 : decode cX8_partiesOf 14 = .ok (.getfield 7, 3) := by decide +kernel
theorem dX8_partiesOf_17 : decode cX8_partiesOf 17 = .ok (.bipush 14, 2) := by decide +kernel
theorem dX8_partiesOf_19 : decode cX8_partiesOf 19 = .ok (.iload_n 3, 1) := by decide +kernel
theorem dX8_partiesOf_20 : decode cX8_partiesOf 20 = .ok (.iadd, 1) := by decide +kernel
theorem dX8_partiesOf_21 : decode cX8_partiesOf 21 = .ok (.laload, 1) := by decide +kernel
theorem dX8_partiesOf_22 : decode cX8_partiesOf 22 = .ok (.iload_n 1, 1) := by decide +kernel
theorem dX8_partiesOf_23 : decode cX8_partiesOf 23 = .ok (.i2l, 1) := by decide +kernel
theorem dX8_partiesOf_24 : decode cX8_partiesOf 24 = .ok (.lcmp, 1) := by decide +kernel
theorem dX8_partiesOf_25 : decode cX8_partiesOf 25 = .ok (.ifCond .ne 7, 3) := by decide +kernel
theorem dX8_partiesOf_28 : decode cX8_partiesOf 28 = .ok (.iconst 1, 1) := by decide +kernel
theorem dX8_partiesOf_29 : decode cX8_partiesOf 29 = .ok (.goto 4, 3) := by decide +kernel
theorem dX8_partiesOf_32 : decode cX8_partiesOf 32 = .ok (.iconst 0, 1) := by decide +kernel
theorem dX8_partiesOf_33 : decode cX8_partiesOf 33 = .ok (.iadd, 1) := by decide +kernel
theorem dX8_partiesOf_34 : decode cX8_partiesOf 34 = .ok (.istore_n 2, 1) := by decide +kernel
theorem dX8_partiesOf_35 : decode cX8_partiesOf 35 = .ok (.iinc 3 1, 3) := by decide +kernel
theorem dX8_partiesOf_38 : decode cX8_partiesOf 38 = .ok (.goto (-34), 3) := by decide +kernel
theorem dX8_partiesOf_41 : decode cX8_partiesOf 41 = .ok (.iload_n 2, 1) := by decide +kernel
theorem dX8_partiesOf_42 : decode cX8_partiesOf 42 = .ok (.ireturn, 1) := by decide +kernel
theorem dX8_side_0 : decode cX8_side 0 = .ok (.aload_n 0, 1) := by decide +kernel
theorem dX8_side_1 : decode cX8_side 1 = .ok (.iconst 0, 1) := by decide +kernel
theorem dX8_side_2 : decode cX8_side 2 = .ok (.putfield 42, 3) := by decide +kernel
theorem dX8_side_5 : decode cX8_side 5 = .ok (.iload_n 1, 1) := by decide +kernel
theorem dX8_side_6 : decode cX8_side 6 = .ok (.iconst 0, 1) := by decide +kernel
theorem dX8_side_7 : decode cX8_side 7 = .ok (.iconst 1, 1) := by decide +kernel
theorem dX8_side_8 : decode cX8_side 8 = .ok (.invokestatic 63, 3) := by decide +kernel
theorem dX8_side_11 : decode cX8_side 11 = .ok (.ifCond .ne 9, 3) := by decide +kernel
theorem dX8_side_14 : decode cX8_side 14 = .ok (.aload_n 0, 1) := by decide +kernel
theorem dX8_side_15 : decode cX8_side 15 = .ok (.iconst 1, 1) := by decide +kernel
theorem dX8_side_16 : decode cX8_side 16 = .ok (.invokevirtual 153, 3) := by decide +kernel
theorem dX8_side_19 : decode cX8_side 19 = .ok (.lreturn, 1) := by decide +kernel
theorem dX8_side_20 : decode cX8_side 20 = .ok (.iload_n 2, 1) := by decide +kernel
theorem dX8_side_21 : decode cX8_side 21 = .ok (.tableswitch 56 0 3 #[31, 37, 43, 50], 31) := by decide +kernel
theorem dX8_side_52 : decode cX8_side 52 = .ok (.aload_n 0, 1) := by decide +kernel
theorem dX8_side_53 : decode cX8_side 53 = .ok (.iload_n 1, 1) := by decide +kernel
theorem dX8_side_54 : decode cX8_side 54 = .ok (.invokevirtual 125, 3) := by decide +kernel
theorem dX8_side_57 : decode cX8_side 57 = .ok (.lreturn, 1) := by decide +kernel
theorem dX8_side_58 : decode cX8_side 58 = .ok (.aload_n 0, 1) := by decide +kernel
theorem dX8_side_59 : decode cX8_side 59 = .ok (.iload_n 1, 1) := by decide +kernel
theorem dX8_side_60 : decode cX8_side 60 = .ok (.invokevirtual 134, 3) := by decide +kernel
theorem dX8_side_63 : decode cX8_side 63 = .ok (.lreturn, 1) := by decide +kernel
theorem dX8_side_64 : decode cX8_side 64 = .ok (.aload_n 0, 1) := by decide +kernel
theorem dX8_side_65 : decode cX8_side 65 = .ok (.iload_n 1, 1) := by decide +kernel
theorem dX8_side_66 : decode cX8_side 66 = .ok (.invokevirtual 221, 3) := by decide +kernel
theorem dX8_side_69 : decode cX8_side 69 = .ok (.i2l, 1) := by decide +kernel
theorem dX8_side_70 : decode cX8_side 70 = .ok (.lreturn, 1) := by decide +kernel
theorem dX8_side_71 : decode cX8_side 71 = .ok (.aload_n 0, 1) := by decide +kernel
theorem dX8_side_72 : decode cX8_side 72 = .ok (.iload_n 1, 1) := by decide +kernel
theorem dX8_side_73 : decode cX8_side 73 = .ok (.invokevirtual 131, 3) := by decide +kernel
theorem dX8_side_76 : decode cX8_side 76 = .ok (.lreturn, 1) := by decide +kernel
theorem dX8_side_77 : decode cX8_side 77 = .ok (.aload_n 0, 1) := by decide +kernel
theorem dX8_side_78 : decode cX8_side 78 = .ok (.iconst 2, 1) := by decide +kernel
theorem dX8_side_79 : decode cX8_side 79 = .ok (.invokevirtual 153, 3) := by decide +kernel
theorem dX8_side_82 : decode cX8_side 82 = .ok (.lreturn, 1) := by decide +kernel
theorem dX8_call_0 : decode cX8_call 0 = .ok (.aload_n 0, 1) := by decide +kernel
theorem dX8_call_1 : decode cX8_call 1 = .ok (.iconst 0, 1) := by decide +kernel
theorem dX8_call_2 : decode cX8_call 2 = .ok (.putfield 42, 3) := by decide +kernel
theorem dX8_call_5 : decode cX8_call 5 = .ok (.aload_n 0, 1) := by decide +kernel
theorem dX8_call_6 : decode cX8_call 6 = .ok (.invokevirtual 76, 3) := by decide +kernel
theorem dX8_call_9 : decode cX8_call 9 = .ok (.iload_n 1, 1) := by decide +kernel
theorem dX8_call_10 : decode cX8_call 10 = .ok (.iconst 1, 1) := by decide +kernel
theorem dX8_call_11 : decode cX8_call 11 = .ok (.ldc 172, 2) := by decide +kernel
theorem dX8_call_13 : decode cX8_call 13 = .ok (.invokestatic 63, 3) := by decide +kernel
theorem dX8_call_16 : decode cX8_call 16 = .ok (.ifCond .ne 9, 3) := by decide +kernel
theorem dX8_call_19 : decode cX8_call 19 = .ok (.aload_n 0, 1) := by decide +kernel
theorem dX8_call_20 : decode cX8_call 20 = .ok (.iconst 1, 1) := by decide +kernel
theorem dX8_call_21 : decode cX8_call 21 = .ok (.invokevirtual 153, 3) := by decide +kernel
theorem dX8_call_24 : decode cX8_call 24 = .ok (.lreturn, 1) := by decide +kernel
theorem dX8_call_25 : decode cX8_call 25 = .ok (.iload_n 1, 1) := by decide +kernel
theorem dX8_call_26 : decode cX8_call 26 = .ok (.iconst 2, 1) := by decide +kernel
theorem dX8_call_27 : decode cX8_call 27 = .ok (.idiv, 1) := by decide +kernel
theorem dX8_call_28 : decode cX8_call 28 = .ok (.i2l, 1) := by decide +kernel
theorem dX8_call_29 : decode cX8_call 29 = .ok (.lstore_n 2, 1) := by decide +kernel
theorem dX8_call_30 : decode cX8_call 30 = .ok (.lconst 0, 1) := by decide +kernel
theorem dX8_call_31 : decode cX8_call 31 = .ok (.lstore 4, 2) := by decide +kernel
theorem dX8_call_33 : decode cX8_call 33 = .ok (.iconst 0, 1) := by decide +kernel
theorem dX8_call_34 : decode cX8_call 34 = .ok (.istore 6, 2) := by decide +kernel
theorem dX8_call_36 : decode cX8_call 36 = .ok (.iload 6, 2) := by decide +kernel
theorem dX8_call_38 : decode cX8_call 38 = .ok (.aload_n 0, 1) := by decide +kernel
theorem dX8_call_39 : decode cX8_call 39 = .ok (.invokevirtual 59, 3) := by decide +kernel
theorem dX8_call_42 : decode cX8_call 42 = .ok (.if_icmp .ge 62, 3) := by decide +kernel
theorem dX8_call_45 : decode cX8_call 45 = .ok (.aload_n 0, 1) := by decide +kernel
theorem dX8_call_46 : decode cX8_call 46 = .ok (.aload_n 0, 1) := by decide +kernel
theorem dX8_call_47 : decode cX8_call 47 = .ok (.getfield 7, 3) := by decide +kernel
theorem dX8_call_50 : decode cX8_call 50 = .ok (.bipush 14, 2) := by decide +kernel
theorem dX8_call_52 : decode cX8_call 52 = .ok (.iload 6, 2) := by decide +kernel
theorem dX8_call_54 : decode cX8_call 54 = .ok (.iadd, 1) := by decide +kernel
theorem dX8_call_55 : decode cX8_call 55 = .ok (.laload, 1) := by decide +kernel
theorem dX8_call_56 : decode cX8_call 56 = .ok (.lconst 1, 1) := by decide +kernel
theorem dX8_call_57 : decode cX8_call 57 = .ok (.lcmp, 1) := by decide +kernel
theorem dX8_call_58 : decode cX8_call 58 = .ok (.ifCond .ne 7, 3) := by decide +kernel
theorem dX8_call_61 : decode cX8_call 61 = .ok (.lload_n 2, 1) := by decide +kernel
theorem dX8_call_62 : decode cX8_call 62 = .ok (.goto 7, 3) := by decide +kernel
theorem dX8_call_65 : decode cX8_call 65 = .ok (.iload_n 1, 1) := by decide +kernel
theorem dX8_call_66 : decode cX8_call 66 = .ok (.i2l, 1) := by decide +kernel
theorem dX8_call_67 : decode cX8_call 67 = .ok (.lload_n 2, 1) := by decide +kernel
theorem dX8_call_68 : decode cX8_call 68 = .ok (.lsub, 1) := by decide +kernel
theorem dX8_call_69 : decode cX8_call 69 = .ok (.iload 6, 2) := by decide +kernel
theorem dX8_call_71 : decode cX8_call 71 = .ok (.invokevirtual 137, 3) := by decide +kernel
theorem dX8_call_74 : decode cX8_call 74 = .ok (.lstore 7, 2) := by decide +kernel
theorem dX8_call_76 : decode cX8_call 76 = .ok (.aload_n 0, 1) := by decide +kernel
theorem dX8_call_77 : decode cX8_call 77 = .ok (.getfield 7, 3) := by decide +kernel
theorem dX8_call_80 : decode cX8_call 80 = .ok (.bipush 26, 2) := by decide +kernel
theorem dX8_call_82 : decode cX8_call 82 = .ok (.iload 6, 2) := by decide +kernel
theorem dX8_call_84 : decode cX8_call 84 = .ok (.iadd, 1) := by decide +kernel
theorem dX8_call_85 : decode cX8_call 85 = .ok (.dup2, 1) := by decide +kernel
theorem dX8_call_86 : decode cX8_call 86 = .ok (.laload, 1) := by decide +kernel
theorem dX8_call_87 : decode cX8_call 87 = .ok (.lload 7, 2) := by decide +kernel
theorem dX8_call_89 : decode cX8_call 89 = .ok (.ladd, 1) := by decide +kernel
theorem dX8_call_90 : decode cX8_call 90 = .ok (.lastore, 1) := by decide +kernel
theorem dX8_call_91 : decode cX8_call 91 = .ok (.lload 4, 2) := by decide +kernel
theorem dX8_call_93 : decode cX8_call 93 = .ok (.lload 7, 2) := by decide +kernel
theorem dX8_call_95 : decode cX8_call 95 = .ok (.ladd, 1) := by decide +kernel
theorem dX8_call_96 : decode cX8_call 96 = .ok (.lstore 4, 2) := by decide +kernel
theorem dX8_call_98 : decode cX8_call 98 = .ok (.iinc 6 1, 3) := by decide +kernel
theorem dX8_call_101 : decode cX8_call 101 = .ok (.goto (-65), 3) := by decide +kernel
theorem dX8_call_104 : decode cX8_call 104 = .ok (.aload_n 0, 1) := by decide +kernel
theorem dX8_call_105 : decode cX8_call 105 = .ok (.iconst 4, 1) := by decide +kernel
theorem dX8_call_106 : decode cX8_call 106 = .ok (.lload 4, 2) := by decide +kernel
theorem dX8_call_108 : decode cX8_call 108 = .ok (.invokevirtual 192, 3) := by decide +kernel
theorem dX8_call_111 : decode cX8_call 111 = .ok (.aload_n 0, 1) := by decide +kernel
theorem dX8_call_112 : decode cX8_call 112 = .ok (.invokevirtual 83, 3) := by decide +kernel
theorem dX8_call_115 : decode cX8_call 115 = .ok (.lload 4, 2) := by decide +kernel
theorem dX8_call_117 : decode cX8_call 117 = .ok (.lreturn, 1) := by decide +kernel
theorem dX8_pay_0 : decode cX8_pay 0 = .ok (.aload_n 0, 1) := by decide +kernel
theorem dX8_pay_1 : decode cX8_pay 1 = .ok (.invokevirtual 76, 3) := by decide +kernel
theorem dX8_pay_4 : decode cX8_pay 4 = .ok (.aload_n 0, 1) := by decide +kernel
theorem dX8_pay_5 : decode cX8_pay 5 = .ok (.aload_n 0, 1) := by decide +kernel
theorem dX8_pay_6 : decode cX8_pay 6 = .ok (.iload_n 1, 1) := by decide +kernel
theorem dX8_pay_7 : decode cX8_pay 7 = .ok (.iload_n 2, 1) := by decide +kernel
theorem dX8_pay_8 : decode cX8_pay 8 = .ok (.invokevirtual 224, 3) := by decide +kernel
theorem dX8_pay_11 : decode cX8_pay 11 = .ok (.invokevirtual 214, 3) := by decide +kernel
theorem dX8_pay_14 : decode cX8_pay 14 = .ok (.lreturn, 1) := by decide +kernel
theorem dX8_payFor_0 : decode cX8_payFor 0 = .ok (.aload_n 0, 1) := by decide +kernel
theorem dX8_payFor_1 : decode cX8_payFor 1 = .ok (.iconst 0, 1) := by decide +kernel
theorem dX8_payFor_2 : decode cX8_payFor 2 = .ok (.putfield 42, 3) := by decide +kernel
theorem dX8_payFor_5 : decode cX8_payFor 5 = .ok (.aload_n 0, 1) := by decide +kernel
theorem dX8_payFor_6 : decode cX8_payFor 6 = .ok (.invokevirtual 76, 3) := by decide +kernel
theorem dX8_payFor_9 : decode cX8_payFor 9 = .ok (.aload_n 0, 1) := by decide +kernel
theorem dX8_payFor_10 : decode cX8_payFor 10 = .ok (.iload_n 1, 1) := by decide +kernel
theorem dX8_payFor_11 : decode cX8_payFor 11 = .ok (.invokevirtual 149, 3) := by decide +kernel
theorem dX8_payFor_14 : decode cX8_payFor 14 = .ok (.ifCond .eq 11, 3) := by decide +kernel
theorem dX8_payFor_17 : decode cX8_payFor 17 = .ok (.aload_n 0, 1) := by decide +kernel
theorem dX8_payFor_18 : decode cX8_payFor 18 = .ok (.iload_n 2, 1) := by decide +kernel
theorem dX8_payFor_19 : decode cX8_payFor 19 = .ok (.invokevirtual 149, 3) := by decide +kernel
theorem dX8_payFor_22 : decode cX8_payFor 22 = .ok (.ifCond .ne 9, 3) := by decide +kernel
theorem dX8_payFor_25 : decode cX8_payFor 25 = .ok (.aload_n 0, 1) := by decide +kernel
theorem dX8_payFor_26 : decode cX8_payFor 26 = .ok (.iconst 1, 1) := by decide +kernel
theorem dX8_payFor_27 : decode cX8_payFor 27 = .ok (.invokevirtual 153, 3) := by decide +kernel
theorem dX8_payFor_30 : decode cX8_payFor 30 = .ok (.lreturn, 1) := by decide +kernel
theorem dX8_payFor_31 : decode cX8_payFor 31 = .ok (.iload_n 1, 1) := by decide +kernel
theorem dX8_payFor_32 : decode cX8_payFor 32 = .ok (.iload_n 2, 1) := by decide +kernel
theorem dX8_payFor_33 : decode cX8_payFor 33 = .ok (.if_icmp .ne 9, 3) := by decide +kernel
theorem dX8_payFor_36 : decode cX8_payFor 36 = .ok (.aload_n 0, 1) := by decide +kernel
theorem dX8_payFor_37 : decode cX8_payFor 37 = .ok (.iconst 2, 1) := by decide +kernel
theorem dX8_payFor_38 : decode cX8_payFor 38 = .ok (.invokevirtual 153, 3) := by decide +kernel
theorem dX8_payFor_41 : decode cX8_payFor 41 = .ok (.lreturn, 1) := by decide +kernel
theorem dX8_payFor_42 : decode cX8_payFor 42 = .ok (.aload_n 0, 1) := by decide +kernel
theorem dX8_payFor_43 : decode cX8_payFor 43 = .ok (.iload_n 2, 1) := by decide +kernel
theorem dX8_payFor_44 : decode cX8_payFor 44 = .ok (.invokevirtual 162, 3) := by decide +kernel
theorem dX8_payFor_47 : decode cX8_payFor 47 = .ok (.lstore_n 3, 1) := by decide +kernel
theorem dX8_payFor_48 : decode cX8_payFor 48 = .ok (.lload_n 3, 1) := by decide +kernel
theorem dX8_payFor_49 : decode cX8_payFor 49 = .ok (.lconst 0, 1) := by decide +kernel
theorem dX8_payFor_50 : decode cX8_payFor 50 = .ok (.lcmp, 1) := by decide +kernel
theorem dX8_payFor_51 : decode cX8_payFor 51 = .ok (.ifCond .ne 9, 3) := by decide +kernel
theorem dX8_payFor_54 : decode cX8_payFor 54 = .ok (.aload_n 0, 1) := by decide +kernel
theorem dX8_payFor_55 : decode cX8_payFor 55 = .ok (.iconst 3, 1) := by decide +kernel
theorem dX8_payFor_56 : decode cX8_payFor 56 = .ok (.invokevirtual 153, 3) := by decide +kernel
theorem dX8_payFor_59 : decode cX8_payFor 59 = .ok (.lreturn, 1) := by decide +kernel
theorem dX8_payFor_60 : decode cX8_payFor 60 = .ok (.aload_n 0, 1) := by decide +kernel
theorem dX8_payFor_61 : decode cX8_payFor 61 = .ok (.getfield 7, 3) := by decide +kernel
theorem dX8_payFor_64 : decode cX8_payFor 64 = .ok (.bipush 32, 2) := by decide +kernel
theorem dX8_payFor_66 : decode cX8_payFor 66 = .ok (.iload_n 2, 1) := by decide +kernel
theorem dX8_payFor_67 : decode cX8_payFor 67 = .ok (.iadd, 1) := by decide +kernel
theorem dX8_payFor_68 : decode cX8_payFor 68 = .ok (.dup2, 1) := by decide +kernel
theorem dX8_payFor_69 : decode cX8_payFor 69 = .ok (.laload, 1) := by decide +kernel
theorem dX8_payFor_70 : decode cX8_payFor 70 = .ok (.lload_n 3, 1) := by decide +kernel
theorem dX8_payFor_71 : decode cX8_payFor 71 = .ok (.ladd, 1) := by decide +kernel
theorem dX8_payFor_72 : decode cX8_payFor 72 = .ok (.lastore, 1) := by decide +kernel
theorem dX8_payFor_73 : decode cX8_payFor 73 = .ok (.aload_n 0, 1) := by decide +kernel
theorem dX8_payFor_74 : decode cX8_payFor 74 = .ok (.iload_n 2, 1) := by decide +kernel
theorem dX8_payFor_75 : decode cX8_payFor 75 = .ok (.iload_n 1, 1) := by decide +kernel
theorem dX8_payFor_76 : decode cX8_payFor 76 = .ok (.lload_n 3, 1) := by decide +kernel
theorem dX8_payFor_77 : decode cX8_payFor 77 = .ok (.invokevirtual 188, 3) := by decide +kernel
theorem dX8_payFor_80 : decode cX8_payFor 80 = .ok (.aload_n 0, 1) := by decide +kernel
theorem dX8_payFor_81 : decode cX8_payFor 81 = .ok (.iconst 5, 1) := by decide +kernel
theorem dX8_payFor_82 : decode cX8_payFor 82 = .ok (.lload_n 3, 1) := by decide +kernel
theorem dX8_payFor_83 : decode cX8_payFor 83 = .ok (.invokevirtual 192, 3) := by decide +kernel
theorem dX8_payFor_86 : decode cX8_payFor 86 = .ok (.aload_n 0, 1) := by decide +kernel
theorem dX8_payFor_87 : decode cX8_payFor 87 = .ok (.invokevirtual 83, 3) := by decide +kernel
theorem dX8_payFor_90 : decode cX8_payFor 90 = .ok (.lload_n 3, 1) := by decide +kernel
theorem dX8_payFor_91 : decode cX8_payFor 91 = .ok (.lreturn, 1) := by decide +kernel
theorem dX8_takeFees_0 : decode cX8_takeFees 0 = .ok (.aload_n 0, 1) := by decide +kernel
theorem dX8_takeFees_1 : decode cX8_takeFees 1 = .ok (.iconst 0, 1) := by decide +kernel
theorem dX8_takeFees_2 : decode cX8_takeFees 2 = .ok (.putfield 42, 3) := by decide +kernel
theorem dX8_takeFees_5 : decode cX8_takeFees 5 = .ok (.aload_n 0, 1) := by decide +kernel
theorem dX8_takeFees_6 : decode cX8_takeFees 6 = .ok (.invokevirtual 76, 3) := by decide +kernel
theorem dX8_takeFees_9 : decode cX8_takeFees 9 = .ok (.lconst 0, 1) := by decide +kernel
theorem dX8_takeFees_10 : decode cX8_takeFees 10 = .ok (.lstore_n 1, 1) := by decide +kernel
theorem dX8_takeFees_11 : decode cX8_takeFees 11 = .ok (.iconst 0, 1) := by decide +kernel
theorem dX8_takeFees_12 : decode cX8_takeFees 12 = .ok (.istore_n 3, 1) := by decide +kernel
theorem dX8_takeFees_13 : decode cX8_takeFees 13 = .ok (.iload_n 3, 1) := by decide +kernel
theorem dX8_takeFees_14 : decode cX8_takeFees 14 = .ok (.aload_n 0, 1) := by decide +kernel
theorem dX8_takeFees_15 : decode cX8_takeFees 15 = .ok (.invokevirtual 59, 3) := by decide +kernel
theorem dX8_takeFees_18 : decode cX8_takeFees 18 = .ok (.if_icmp .ge 69, 3) := by decide +kernel
theorem dX8_takeFees_21 : decode cX8_takeFees 21 = .ok (.aload_n 0, 1) := by decide +kernel
theorem dX8_takeFees_22 : decode cX8_takeFees 22 = .ok (.iload_n 3, 1) := by decide +kernel
theorem dX8_takeFees_23 : decode cX8_takeFees 23 = .ok (.invokevirtual 159, 3) := by decide +kernel
theorem dX8_takeFees_26 : decode cX8_takeFees 26 = .ok (.aload_n 0, 1) := by decide +kernel
theorem dX8_takeFees_27 : decode cX8_takeFees 27 = .ok (.getfield 7, 3) := by decide +kernel
theorem dX8_takeFees_30 : decode cX8_takeFees 30 = .ok (.bipush 38, 2) := by decide +kernel
theorem dX8_takeFees_32 : decode cX8_takeFees 32 = .ok (.iload_n 3, 1) := by decide +kernel
theorem dX8_takeFees_33 : decode cX8_takeFees 33 = .ok (.iadd, 1) := by decide +kernel
theorem dX8_takeFees_34 : decode cX8_takeFees 34 = .ok (.laload, 1) := by decide +kernel
theorem dX8_takeFees_35 : decode cX8_takeFees 35 = .ok (.lsub, 1) := by decide +kernel
theorem dX8_takeFees_36 : decode cX8_takeFees 36 = .ok (.lstore 4, 2) := by decide +kernel
theorem dX8_takeFees_38 : decode cX8_takeFees 38 = .ok (.lload 4, 2) := by decide +kernel
theorem dX8_takeFees_40 : decode cX8_takeFees 40 = .ok (.lconst 0, 1) := by decide +kernel
theorem dX8_takeFees_41 : decode cX8_takeFees 41 = .ok (.lcmp, 1) := by decide +kernel
theorem dX8_takeFees_42 : decode cX8_takeFees 42 = .ok (.ifCond .le 16, 3) := by decide +kernel
theorem dX8_takeFees_45 : decode cX8_takeFees 45 = .ok (.lload 4, 2) := by decide +kernel
theorem dX8_takeFees_47 : decode cX8_takeFees 47 = .ok (.aload_n 0, 1) := by decide +kernel
theorem dX8_takeFees_48 : decode cX8_takeFees 48 = .ok (.iload_n 3, 1) := by decide +kernel
theorem dX8_takeFees_49 : decode cX8_takeFees 49 = .ok (.invokevirtual 156, 3) := by decide +kernel
theorem dX8_takeFees_52 : decode cX8_takeFees 52 = .ok (.invokestatic 99, 3) := by decide +kernel
theorem dX8_takeFees_55 : decode cX8_takeFees 55 = .ok (.goto 5, 3) := by decide +kernel
theorem dX8_takeFees_58 : decode cX8_takeFees 58 = .ok (.lload 4, 2) := by decide +kernel
theorem dX8_takeFees_60 : decode cX8_takeFees 60 = .ok (.lstore 4, 2) := by decide +kernel
theorem dX8_takeFees_62 : decode cX8_takeFees 62 = .ok (.aload_n 0, 1) := by decide +kernel
theorem dX8_takeFees_63 : decode cX8_takeFees 63 = .ok (.getfield 7, 3) := by decide +kernel
theorem dX8_takeFees_66 : decode cX8_takeFees 66 = .ok (.bipush 38, 2) := by decide +kernel
theorem dX8_takeFees_68 : decode cX8_takeFees 68 = .ok (.iload_n 3, 1) := by decide +kernel
theorem dX8_takeFees_69 : decode cX8_takeFees 69 = .ok (.iadd, 1) := by decide +kernel
theorem dX8_takeFees_70 : decode cX8_takeFees 70 = .ok (.dup2, 1) := by decide +kernel
theorem dX8_takeFees_71 : decode cX8_takeFees 71 = .ok (.laload, 1) := by decide +kernel
theorem dX8_takeFees_72 : decode cX8_takeFees 72 = .ok (.lload 4, 2) := by decide +kernel
theorem dX8_takeFees_74 : decode cX8_takeFees 74 = .ok (.ladd, 1) := by decide +kernel
theorem dX8_takeFees_75 : decode cX8_takeFees 75 = .ok (.lastore, 1) := by decide +kernel
theorem dX8_takeFees_76 : decode cX8_takeFees 76 = .ok (.lload_n 1, 1) := by decide +kernel
theorem dX8_takeFees_77 : decode cX8_takeFees 77 = .ok (.lload 4, 2) := by decide +kernel
theorem dX8_takeFees_79 : decode cX8_takeFees 79 = .ok (.ladd, 1) := by decide +kernel
theorem dX8_takeFees_80 : decode cX8_takeFees 80 = .ok (.lstore_n 1, 1) := by decide +kernel
theorem dX8_takeFees_81 : decode cX8_takeFees 81 = .ok (.iinc 3 1, 3) := by decide +kernel
theorem dX8_takeFees_84 : decode cX8_takeFees 84 = .ok (.goto (-71), 3) := by decide +kernel
theorem dX8_takeFees_87 : decode cX8_takeFees 87 = .ok (.aload_n 0, 1) := by decide +kernel
theorem dX8_takeFees_88 : decode cX8_takeFees 88 = .ok (.bipush 6, 2) := by decide +kernel
theorem dX8_takeFees_90 : decode cX8_takeFees 90 = .ok (.lload_n 1, 1) := by decide +kernel
theorem dX8_takeFees_91 : decode cX8_takeFees 91 = .ok (.invokevirtual 192, 3) := by decide +kernel
theorem dX8_takeFees_94 : decode cX8_takeFees 94 = .ok (.aload_n 0, 1) := by decide +kernel
theorem dX8_takeFees_95 : decode cX8_takeFees 95 = .ok (.invokevirtual 83, 3) := by decide +kernel
theorem dX8_takeFees_98 : decode cX8_takeFees 98 = .ok (.lload_n 1, 1) := by decide +kernel
theorem dX8_takeFees_99 : decode cX8_takeFees 99 = .ok (.lreturn, 1) := by decide +kernel
theorem dX8_giveBack_0 : decode cX8_giveBack 0 = .ok (.aload_n 0, 1) := by decide +kernel
theorem dX8_giveBack_1 : decode cX8_giveBack 1 = .ok (.iconst 0, 1) := by decide +kernel
theorem dX8_giveBack_2 : decode cX8_giveBack 2 = .ok (.putfield 42, 3) := by decide +kernel
theorem dX8_giveBack_5 : decode cX8_giveBack 5 = .ok (.aload_n 0, 1) := by decide +kernel
theorem dX8_giveBack_6 : decode cX8_giveBack 6 = .ok (.invokevirtual 76, 3) := by decide +kernel
theorem dX8_giveBack_9 : decode cX8_giveBack 9 = .ok (.aload_n 0, 1) := by decide +kernel
theorem dX8_giveBack_10 : decode cX8_giveBack 10 = .ok (.getfield 7, 3) := by decide +kernel
theorem dX8_giveBack_13 : decode cX8_giveBack 13 = .ok (.iconst 1, 1) := by decide +kernel
theorem dX8_giveBack_14 : decode cX8_giveBack 14 = .ok (.laload, 1) := by decide +kernel
theorem dX8_giveBack_15 : decode cX8_giveBack 15 = .ok (.ldc2_w 173, 3) := by decide +kernel
theorem dX8_giveBack_18 : decode cX8_giveBack 18 = .ok (.lcmp, 1) := by decide +kernel
theorem dX8_giveBack_19 : decode cX8_giveBack 19 = .ok (.ifCond .ge 16, 3) := by decide +kernel
theorem dX8_giveBack_22 : decode cX8_giveBack 22 = .ok (.aload_n 0, 1) := by decide +kernel
theorem dX8_giveBack_23 : decode cX8_giveBack 23 = .ok (.bipush 6, 2) := by decide +kernel
theorem dX8_giveBack_25 : decode cX8_giveBack 25 = .ok (.invokevirtual 182, 3) := by decide +kernel
theorem dX8_giveBack_28 : decode cX8_giveBack 28 = .ok (.pop, 1) := by decide +kernel
theorem dX8_giveBack_29 : decode cX8_giveBack 29 = .ok (.aload_n 0, 1) := by decide +kernel
theorem dX8_giveBack_30 : decode cX8_giveBack 30 = .ok (.iconst 1, 1) := by decide +kernel
theorem dX8_giveBack_31 : decode cX8_giveBack 31 = .ok (.invokevirtual 153, 3) := by decide +kernel
theorem dX8_giveBack_34 : decode cX8_giveBack 34 = .ok (.lreturn, 1) := by decide +kernel
theorem dX8_giveBack_35 : decode cX8_giveBack 35 = .ok (.lconst 0, 1) := by decide +kernel
theorem dX8_giveBack_36 : decode cX8_giveBack 36 = .ok (.lstore_n 1, 1) := by decide +kernel
theorem dX8_giveBack_37 : decode cX8_giveBack 37 = .ok (.iconst 0, 1) := by decide +kernel
theorem dX8_giveBack_38 : decode cX8_giveBack 38 = .ok (.istore_n 3, 1) := by decide +kernel
theorem dX8_giveBack_39 : decode cX8_giveBack 39 = .ok (.iload_n 3, 1) := by decide +kernel
theorem dX8_giveBack_40 : decode cX8_giveBack 40 = .ok (.aload_n 0, 1) := by decide +kernel
theorem dX8_giveBack_41 : decode cX8_giveBack 41 = .ok (.invokevirtual 59, 3) := by decide +kernel
theorem dX8_giveBack_44 : decode cX8_giveBack 44 = .ok (.if_icmp .ge 81, 3) := by decide +kernel
theorem dX8_giveBack_47 : decode cX8_giveBack 47 = .ok (.aload_n 0, 1) := by decide +kernel
theorem dX8_giveBack_48 : decode cX8_giveBack 48 = .ok (.iload_n 3, 1) := by decide +kernel
theorem dX8_giveBack_49 : decode cX8_giveBack 49 = .ok (.invokevirtual 159, 3) := by decide +kernel
theorem dX8_giveBack_52 : decode cX8_giveBack 52 = .ok (.aload_n 0, 1) := by decide +kernel
theorem dX8_giveBack_53 : decode cX8_giveBack 53 = .ok (.getfield 7, 3) := by decide +kernel
theorem dX8_giveBack_56 : decode cX8_giveBack 56 = .ok (.bipush 38, 2) := by decide +kernel
theorem dX8_giveBack_58 : decode cX8_giveBack 58 = .ok (.iload_n 3, 1) := by decide +kernel
theorem dX8_giveBack_59 : decode cX8_giveBack 59 = .ok (.iadd, 1) := by decide +kernel
theorem dX8_giveBack_60 : decode cX8_giveBack 60 = .ok (.laload, 1) := by decide +kernel
theorem dX8_giveBack_61 : decode cX8_giveBack 61 = .ok (.lsub, 1) := by decide +kernel
theorem dX8_giveBack_62 : decode cX8_giveBack 62 = .ok (.lstore 4, 2) := by decide +kernel
theorem dX8_giveBack_64 : decode cX8_giveBack 64 = .ok (.aload_n 0, 1) := by decide +kernel
theorem dX8_giveBack_65 : decode cX8_giveBack 65 = .ok (.iload_n 3, 1) := by decide +kernel
theorem dX8_giveBack_66 : decode cX8_giveBack 66 = .ok (.invokevirtual 156, 3) := by decide +kernel
theorem dX8_giveBack_69 : decode cX8_giveBack 69 = .ok (.lload 4, 2) := by decide +kernel
theorem dX8_giveBack_71 : decode cX8_giveBack 71 = .ok (.lconst 0, 1) := by decide +kernel
theorem dX8_giveBack_72 : decode cX8_giveBack 72 = .ok (.lcmp, 1) := by decide +kernel
theorem dX8_giveBack_73 : decode cX8_giveBack 73 = .ok (.ifCond .le 8, 3) := by decide +kernel
theorem dX8_giveBack_76 : decode cX8_giveBack 76 = .ok (.lload 4, 2) := by decide +kernel
theorem dX8_giveBack_78 : decode cX8_giveBack 78 = .ok (.goto 4, 3) := by decide +kernel
theorem dX8_giveBack_81 : decode cX8_giveBack 81 = .ok (.lconst 0, 1) := by decide +kernel
theorem dX8_giveBack_82 : decode cX8_giveBack 82 = .ok (.lsub, 1) := by decide +kernel
theorem dX8_giveBack_83 : decode cX8_giveBack 83 = .ok (.lstore 6, 2) := by decide +kernel
theorem dX8_giveBack_85 : decode cX8_giveBack 85 = .ok (.lload 6, 2) := by decide +kernel
theorem dX8_giveBack_87 : decode cX8_giveBack 87 = .ok (.lconst 0, 1) := by decide +kernel
theorem dX8_giveBack_88 : decode cX8_giveBack 88 = .ok (.lcmp, 1) := by decide +kernel
theorem dX8_giveBack_89 : decode cX8_giveBack 89 = .ok (.ifCond .le 8, 3) := by decide +kernel
theorem dX8_giveBack_92 : decode cX8_giveBack 92 = .ok (.lload 6, 2) := by decide +kernel
theorem dX8_giveBack_94 : decode cX8_giveBack 94 = .ok (.goto 4, 3) := by decide +kernel
theorem dX8_giveBack_97 : decode cX8_giveBack 97 = .ok (.lconst 0, 1) := by decide +kernel
theorem dX8_giveBack_98 : decode cX8_giveBack 98 = .ok (.lstore 6, 2) := by decide +kernel
theorem dX8_giveBack_100 : decode cX8_giveBack 100 = .ok (.aload_n 0, 1) := by decide +kernel
theorem dX8_giveBack_101 : decode cX8_giveBack 101 = .ok (.getfield 7, 3) := by decide +kernel
theorem dX8_giveBack_104 : decode cX8_giveBack 104 = .ok (.bipush 44, 2) := by decide +kernel
theorem dX8_giveBack_106 : decode cX8_giveBack 106 = .ok (.iload_n 3, 1) := by decide +kernel
theorem dX8_giveBack_107 : decode cX8_giveBack 107 = .ok (.iadd, 1) := by decide +kernel
theorem dX8_giveBack_108 : decode cX8_giveBack 108 = .ok (.dup2, 1) := by decide +kernel
theorem dX8_giveBack_109 : decode cX8_giveBack 109 = .ok (.laload, 1) := by decide +kernel
theorem dX8_giveBack_110 : decode cX8_giveBack 110 = .ok (.lload 6, 2) := by decide +kernel
theorem dX8_giveBack_112 : decode cX8_giveBack 112 = .ok (.ladd, 1) := by decide +kernel
theorem dX8_giveBack_113 : decode cX8_giveBack 113 = .ok (.lastore, 1) := by decide +kernel
theorem dX8_giveBack_114 : decode cX8_giveBack 114 = .ok (.lload_n 1, 1) := by decide +kernel
theorem dX8_giveBack_115 : decode cX8_giveBack 115 = .ok (.lload 6, 2) := by decide +kernel
theorem dX8_giveBack_117 : decode cX8_giveBack 117 = .ok (.ladd, 1) := by decide +kernel
theorem dX8_giveBack_118 : decode cX8_giveBack 118 = .ok (.lstore_n 1, 1) := by decide +kernel
theorem dX8_giveBack_119 : decode cX8_giveBack 119 = .ok (.iinc 3 1, 3) := by decide +kernel
theorem dX8_giveBack_122 : decode cX8_giveBack 122 = .ok (.goto (-83), 3) := by decide +kernel
theorem dX8_giveBack_125 : decode cX8_giveBack 125 = .ok (.aload_n 0, 1) := by decide +kernel
theorem dX8_giveBack_126 : decode cX8_giveBack 126 = .ok (.bipush 7, 2) := by decide +kernel
theorem dX8_giveBack_128 : decode cX8_giveBack 128 = .ok (.lload_n 1, 1) := by decide +kernel
theorem dX8_giveBack_129 : decode cX8_giveBack 129 = .ok (.invokevirtual 192, 3) := by decide +kernel
theorem dX8_giveBack_132 : decode cX8_giveBack 132 = .ok (.aload_n 0, 1) := by decide +kernel
theorem dX8_giveBack_133 : decode cX8_giveBack 133 = .ok (.invokevirtual 83, 3) := by decide +kernel
theorem dX8_giveBack_136 : decode cX8_giveBack 136 = .ok (.lload_n 1, 1) := by decide +kernel
theorem dX8_giveBack_137 : decode cX8_giveBack 137 = .ok (.lreturn, 1) := by decide +kernel
theorem dX8_owed_0 : decode cX8_owed 0 = .ok (.aload_n 0, 1) := by decide +kernel
theorem dX8_owed_1 : decode cX8_owed 1 = .ok (.iconst 0, 1) := by decide +kernel
theorem dX8_owed_2 : decode cX8_owed 2 = .ok (.putfield 42, 3) := by decide +kernel
theorem dX8_owed_5 : decode cX8_owed 5 = .ok (.aload_n 0, 1) := by decide +kernel
theorem dX8_owed_6 : decode cX8_owed 6 = .ok (.iload_n 1, 1) := by decide +kernel
theorem dX8_owed_7 : decode cX8_owed 7 = .ok (.invokevirtual 149, 3) := by decide +kernel
theorem dX8_owed_10 : decode cX8_owed 10 = .ok (.ifCond .eq 20, 3) := by decide +kernel
theorem dX8_owed_13 : decode cX8_owed 13 = .ok (.aload_n 0, 1) := by decide +kernel
theorem dX8_owed_14 : decode cX8_owed 14 = .ok (.iload_n 2, 1) := by decide +kernel
theorem dX8_owed_15 : decode cX8_owed 15 = .ok (.invokevirtual 149, 3) := by decide +kernel
theorem dX8_owed_18 : decode cX8_owed 18 = .ok (.ifCond .eq 12, 3) := by decide +kernel
theorem dX8_owed_21 : decode cX8_owed 21 = .ok (.aload_n 0, 1) := by decide +kernel
theorem dX8_owed_22 : decode cX8_owed 22 = .ok (.iload_n 1, 1) := by decide +kernel
theorem dX8_owed_23 : decode cX8_owed 23 = .ok (.iload_n 2, 1) := by decide +kernel
theorem dX8_owed_24 : decode cX8_owed 24 = .ok (.invokevirtual 196, 3) := by decide +kernel
theorem dX8_owed_27 : decode cX8_owed 27 = .ok (.goto 8, 3) := by decide +kernel
theorem dX8_owed_30 : decode cX8_owed 30 = .ok (.aload_n 0, 1) := by decide +kernel
theorem dX8_owed_31 : decode cX8_owed 31 = .ok (.iconst 1, 1) := by decide +kernel
theorem dX8_owed_32 : decode cX8_owed 32 = .ok (.invokevirtual 153, 3) := by decide +kernel
theorem dX8_owed_35 : decode cX8_owed 35 = .ok (.lreturn, 1) := by decide +kernel
theorem dX8_debt_0 : decode cX8_debt 0 = .ok (.aload_n 0, 1) := by decide +kernel
theorem dX8_debt_1 : decode cX8_debt 1 = .ok (.iconst 0, 1) := by decide +kernel
theorem dX8_debt_2 : decode cX8_debt 2 = .ok (.putfield 42, 3) := by decide +kernel
theorem dX8_debt_5 : decode cX8_debt 5 = .ok (.aload_n 0, 1) := by decide +kernel
theorem dX8_debt_6 : decode cX8_debt 6 = .ok (.iload_n 1, 1) := by decide +kernel
theorem dX8_debt_7 : decode cX8_debt 7 = .ok (.invokevirtual 227, 3) := by decide +kernel
theorem dX8_debt_10 : decode cX8_debt 10 = .ok (.ifCond .ne 9, 3) := by decide +kernel
theorem dX8_debt_13 : decode cX8_debt 13 = .ok (.aload_n 0, 1) := by decide +kernel
theorem dX8_debt_14 : decode cX8_debt 14 = .ok (.iconst 1, 1) := by decide +kernel
theorem dX8_debt_15 : decode cX8_debt 15 = .ok (.invokevirtual 153, 3) := by decide +kernel
theorem dX8_debt_18 : decode cX8_debt 18 = .ok (.lreturn, 1) := by decide +kernel
theorem dX8_debt_19 : decode cX8_debt 19 = .ok (.iload_n 2, 1) := by decide +kernel
theorem dX8_debt_20 : decode cX8_debt 20 = .ok (.iconst 0, 1) := by decide +kernel
theorem dX8_debt_21 : decode cX8_debt 21 = .ok (.iconst 4, 1) := by decide +kernel
theorem dX8_debt_22 : decode cX8_debt 22 = .ok (.invokestatic 63, 3) := by decide +kernel
theorem dX8_debt_25 : decode cX8_debt 25 = .ok (.ifCond .eq 17, 3) := by decide +kernel
theorem dX8_debt_28 : decode cX8_debt 28 = .ok (.aload_n 0, 1) := by decide +kernel
theorem dX8_debt_29 : decode cX8_debt 29 = .ok (.getfield 7, 3) := by decide +kernel
theorem dX8_debt_32 : decode cX8_debt 32 = .ok (.aload_n 0, 1) := by decide +kernel
theorem dX8_debt_33 : decode cX8_debt 33 = .ok (.iload_n 1, 1) := by decide +kernel
theorem dX8_debt_34 : decode cX8_debt 34 = .ok (.iload_n 2, 1) := by decide +kernel
theorem dX8_debt_35 : decode cX8_debt 35 = .ok (.invokevirtual 140, 3) := by decide +kernel
theorem dX8_debt_38 : decode cX8_debt 38 = .ok (.laload, 1) := by decide +kernel
theorem dX8_debt_39 : decode cX8_debt 39 = .ok (.goto 8, 3) := by decide +kernel
theorem dX8_debt_42 : decode cX8_debt 42 = .ok (.aload_n 0, 1) := by decide +kernel
theorem dX8_debt_43 : decode cX8_debt 43 = .ok (.iconst 2, 1) := by decide +kernel
theorem dX8_debt_44 : decode cX8_debt 44 = .ok (.invokevirtual 153, 3) := by decide +kernel
theorem dX8_debt_47 : decode cX8_debt 47 = .ok (.lreturn, 1) := by decide +kernel
theorem dX8_settle_0 : decode cX8_settle 0 = .ok (.aload_n 0, 1) := by decide +kernel
theorem dX8_settle_1 : decode cX8_settle 1 = .ok (.invokevirtual 76, 3) := by decide +kernel
theorem dX8_settle_4 : decode cX8_settle 4 = .ok (.aload_n 0, 1) := by decide +kernel
theorem dX8_settle_5 : decode cX8_settle 5 = .ok (.aload_n 0, 1) := by decide +kernel
theorem dX8_settle_6 : decode cX8_settle 6 = .ok (.iload_n 1, 1) := by decide +kernel
theorem dX8_settle_7 : decode cX8_settle 7 = .ok (.iload_n 2, 1) := by decide +kernel
theorem dX8_settle_8 : decode cX8_settle 8 = .ok (.iload_n 3, 1) := by decide +kernel
theorem dX8_settle_9 : decode cX8_settle 9 = .ok (.invokevirtual 230, 3) := by decide +kernel
theorem dX8_settle_12 : decode cX8_settle 12 = .ok (.invokevirtual 214, 3) := by decide +kernel
theorem dX8_settle_15 : decode cX8_settle 15 = .ok (.lreturn, 1) := by decide +kernel
theorem dX8_offset_0 : decode cX8_offset 0 = .ok (.aload_n 0, 1) := by decide +kernel
theorem dX8_offset_1 : decode cX8_offset 1 = .ok (.iconst 0, 1) := by decide +kernel
theorem dX8_offset_2 : decode cX8_offset 2 = .ok (.putfield 42, 3) := by decide +kernel
theorem dX8_offset_5 : decode cX8_offset 5 = .ok (.aload_n 0, 1) := by decide +kernel
theorem dX8_offset_6 : decode cX8_offset 6 = .ok (.invokevirtual 76, 3) := by decide +kernel
theorem dX8_offset_9 : decode cX8_offset 9 = .ok (.aload_n 0, 1) := by decide +kernel
theorem dX8_offset_10 : decode cX8_offset 10 = .ok (.iload_n 1, 1) := by decide +kernel
theorem dX8_offset_11 : decode cX8_offset 11 = .ok (.invokevirtual 149, 3) := by decide +kernel
theorem dX8_offset_14 : decode cX8_offset 14 = .ok (.ifCond .eq 11, 3) := by decide +kernel
theorem dX8_offset_17 : decode cX8_offset 17 = .ok (.aload_n 0, 1) := by decide +kernel
theorem dX8_offset_18 : decode cX8_offset 18 = .ok (.iload_n 2, 1) := by decide +kernel
theorem dX8_offset_19 : decode cX8_offset 19 = .ok (.invokevirtual 149, 3) := by decide +kernel
theorem dX8_offset_22 : decode cX8_offset 22 = .ok (.ifCond .ne 9, 3) := by decide +kernel
theorem dX8_offset_25 : decode cX8_offset 25 = .ok (.aload_n 0, 1) := by decide +kernel
theorem dX8_offset_26 : decode cX8_offset 26 = .ok (.iconst 1, 1) := by decide +kernel
theorem dX8_offset_27 : decode cX8_offset 27 = .ok (.invokevirtual 153, 3) := by decide +kernel
theorem dX8_offset_30 : decode cX8_offset 30 = .ok (.lreturn, 1) := by decide +kernel
theorem dX8_offset_31 : decode cX8_offset 31 = .ok (.iload_n 1, 1) := by decide +kernel
theorem dX8_offset_32 : decode cX8_offset 32 = .ok (.iload_n 2, 1) := by decide +kernel
theorem dX8_offset_33 : decode cX8_offset 33 = .ok (.if_icmp .ne 9, 3) := by decide +kernel
theorem dX8_offset_36 : decode cX8_offset 36 = .ok (.aload_n 0, 1) := by decide +kernel
theorem dX8_offset_37 : decode cX8_offset 37 = .ok (.iconst 2, 1) := by decide +kernel
theorem dX8_offset_38 : decode cX8_offset 38 = .ok (.invokevirtual 153, 3) := by decide +kernel
theorem dX8_offset_41 : decode cX8_offset 41 = .ok (.lreturn, 1) := by decide +kernel
theorem dX8_offset_42 : decode cX8_offset 42 = .ok (.aload_n 0, 1) := by decide +kernel
theorem dX8_offset_43 : decode cX8_offset 43 = .ok (.iload_n 1, 1) := by decide +kernel
theorem dX8_offset_44 : decode cX8_offset 44 = .ok (.iload_n 2, 1) := by decide +kernel
theorem dX8_offset_45 : decode cX8_offset 45 = .ok (.invokevirtual 196, 3) := by decide +kernel
theorem dX8_offset_48 : decode cX8_offset 48 = .ok (.aload_n 0, 1) := by decide +kernel
theorem dX8_offset_49 : decode cX8_offset 49 = .ok (.iload_n 2, 1) := by decide +kernel
theorem dX8_offset_50 : decode cX8_offset 50 = .ok (.iload_n 1, 1) := by decide +kernel
theorem dX8_offset_51 : decode cX8_offset 51 = .ok (.invokevirtual 196, 3) := by decide +kernel
theorem dX8_offset_54 : decode cX8_offset 54 = .ok (.invokestatic 99, 3) := by decide +kernel
theorem dX8_offset_57 : decode cX8_offset 57 = .ok (.lstore_n 3, 1) := by decide +kernel
theorem dX8_offset_58 : decode cX8_offset 58 = .ok (.lload_n 3, 1) := by decide +kernel
theorem dX8_offset_59 : decode cX8_offset 59 = .ok (.lconst 0, 1) := by decide +kernel
theorem dX8_offset_60 : decode cX8_offset 60 = .ok (.lcmp, 1) := by decide +kernel
theorem dX8_offset_61 : decode cX8_offset 61 = .ok (.ifCond .ne 15, 3) := by decide +kernel
theorem dX8_offset_64 : decode cX8_offset 64 = .ok (.aload_n 0, 1) := by decide +kernel
theorem dX8_offset_65 : decode cX8_offset 65 = .ok (.iconst 5, 1) := by decide +kernel
theorem dX8_offset_66 : decode cX8_offset 66 = .ok (.invokevirtual 182, 3) := by decide +kernel
theorem dX8_offset_69 : decode cX8_offset 69 = .ok (.pop, 1) := by decide +kernel
theorem dX8_offset_70 : decode cX8_offset 70 = .ok (.aload_n 0, 1) := by decide +kernel
theorem dX8_offset_71 : decode cX8_offset 71 = .ok (.iconst 3, 1) := by decide +kernel
theorem dX8_offset_72 : decode cX8_offset 72 = .ok (.invokevirtual 153, 3) := by decide +kernel
theorem dX8_offset_75 : decode cX8_offset 75 = .ok (.lreturn, 1) := by decide +kernel
theorem dX8_offset_76 : decode cX8_offset 76 = .ok (.aload_n 0, 1) := by decide +kernel
theorem dX8_offset_77 : decode cX8_offset 77 = .ok (.iload_n 1, 1) := by decide +kernel
theorem dX8_offset_78 : decode cX8_offset 78 = .ok (.iload_n 2, 1) := by decide +kernel
theorem dX8_offset_79 : decode cX8_offset 79 = .ok (.lload_n 3, 1) := by decide +kernel
theorem dX8_offset_80 : decode cX8_offset 80 = .ok (.invokevirtual 200, 3) := by decide +kernel
theorem dX8_offset_83 : decode cX8_offset 83 = .ok (.aload_n 0, 1) := by decide +kernel
theorem dX8_offset_84 : decode cX8_offset 84 = .ok (.iload_n 2, 1) := by decide +kernel
theorem dX8_offset_85 : decode cX8_offset 85 = .ok (.iload_n 1, 1) := by decide +kernel
theorem dX8_offset_86 : decode cX8_offset 86 = .ok (.lload_n 3, 1) := by decide +kernel
theorem dX8_offset_87 : decode cX8_offset 87 = .ok (.invokevirtual 200, 3) := by decide +kernel
theorem dX8_offset_90 : decode cX8_offset 90 = .ok (.aload_n 0, 1) := by decide +kernel
theorem dX8_offset_91 : decode cX8_offset 91 = .ok (.bipush 9, 2) := by decide +kernel
theorem dX8_offset_93 : decode cX8_offset 93 = .ok (.lload_n 3, 1) := by decide +kernel
theorem dX8_offset_94 : decode cX8_offset 94 = .ok (.invokevirtual 192, 3) := by decide +kernel
theorem dX8_offset_97 : decode cX8_offset 97 = .ok (.aload_n 0, 1) := by decide +kernel
theorem dX8_offset_98 : decode cX8_offset 98 = .ok (.invokevirtual 83, 3) := by decide +kernel
theorem dX8_offset_101 : decode cX8_offset 101 = .ok (.lload_n 3, 1) := by decide +kernel
theorem dX8_offset_102 : decode cX8_offset 102 = .ok (.lreturn, 1) := by decide +kernel
theorem dX8_isNew_0 : decode cX8_isNew 0 = .ok (.iload_n 2, 1) := by decide +kernel
theorem dX8_isNew_1 : decode cX8_isNew 1 = .ok (.aload_n 0, 1) := by decide +kernel
theorem dX8_isNew_2 : decode cX8_isNew 2 = .ok (.getfield 30, 3) := by decide +kernel
theorem dX8_isNew_5 : decode cX8_isNew 5 = .ok (.iconst 0, 1) := by decide +kernel
theorem dX8_isNew_6 : decode cX8_isNew 6 = .ok (.iaload, 1) := by decide +kernel
theorem dX8_isNew_7 : decode cX8_isNew 7 = .ok (.if_icmp .le 7, 3) := by decide +kernel
theorem dX8_isNew_10 : decode cX8_isNew 10 = .ok (.iconst 1, 1) := by decide +kernel
theorem dX8_isNew_11 : decode cX8_isNew 11 = .ok (.goto 4, 3) := by decide +kernel
theorem dX8_isNew_14 : decode cX8_isNew 14 = .ok (.iconst 0, 1) := by decide +kernel
theorem dX8_isNew_15 : decode cX8_isNew 15 = .ok (.istore_n 3, 1) := by decide +kernel
theorem dX8_isNew_16 : decode cX8_isNew 16 = .ok (.iconst 0, 1) := by decide +kernel
theorem dX8_isNew_17 : decode cX8_isNew 17 = .ok (.istore 4, 2) := by decide +kernel
theorem dX8_isNew_19 : decode cX8_isNew 19 = .ok (.iload 4, 2) := by decide +kernel
theorem dX8_isNew_21 : decode cX8_isNew 21 = .ok (.iload_n 1, 1) := by decide +kernel
theorem dX8_isNew_22 : decode cX8_isNew 22 = .ok (.if_icmp .ge 30, 3) := by decide +kernel
theorem dX8_isNew_25 : decode cX8_isNew 25 = .ok (.iload_n 3, 1) := by decide +kernel
theorem dX8_isNew_26 : decode cX8_isNew 26 = .ok (.ifCond .eq 18, 3) := by decide +kernel
theorem dX8_isNew_29 : decode cX8_isNew 29 = .ok (.aload_n 0, 1) := by decide +kernel
theorem dX8_isNew_30 : decode cX8_isNew 30 = .ok (.getfield 30, 3) := by decide +kernel
theorem dX8_isNew_33 : decode cX8_isNew 33 = .ok (.iload 4, 2) := by decide +kernel
theorem dX8_isNew_35 : decode cX8_isNew 35 = .ok (.iaload, 1) := by decide +kernel
theorem dX8_isNew_36 : decode cX8_isNew 36 = .ok (.iload_n 2, 1) := by decide +kernel
theorem dX8_isNew_37 : decode cX8_isNew 37 = .ok (.if_icmp .eq 7, 3) := by decide +kernel
theorem dX8_isNew_40 : decode cX8_isNew 40 = .ok (.iconst 1, 1) := by decide +kernel
theorem dX8_isNew_41 : decode cX8_isNew 41 = .ok (.goto 4, 3) := by decide +kernel
theorem dX8_isNew_44 : decode cX8_isNew 44 = .ok (.iconst 0, 1) := by decide +kernel
theorem dX8_isNew_45 : decode cX8_isNew 45 = .ok (.istore_n 3, 1) := by decide +kernel
theorem dX8_isNew_46 : decode cX8_isNew 46 = .ok (.iinc 4 1, 3) := by decide +kernel
theorem dX8_isNew_49 : decode cX8_isNew 49 = .ok (.goto (-30), 3) := by decide +kernel
theorem dX8_isNew_52 : decode cX8_isNew 52 = .ok (.iload_n 3, 1) := by decide +kernel
theorem dX8_isNew_53 : decode cX8_isNew 53 = .ok (.ireturn, 1) := by decide +kernel
theorem dX8_nextAt_0 : decode cX8_nextAt 0 = .ok (.iload_n 2, 1) := by decide +kernel
theorem dX8_nextAt_1 : decode cX8_nextAt 1 = .ok (.iconst 1, 1) := by decide +kernel
theorem dX8_nextAt_2 : decode cX8_nextAt 2 = .ok (.iadd, 1) := by decide +kernel
theorem dX8_nextAt_3 : decode cX8_nextAt 3 = .ok (.istore_n 3, 1) := by decide +kernel
theorem dX8_nextAt_4 : decode cX8_nextAt 4 = .ok (.iload_n 3, 1) := by decide +kernel
theorem dX8_nextAt_5 : decode cX8_nextAt 5 = .ok (.aload_n 0, 1) := by decide +kernel
theorem dX8_nextAt_6 : decode cX8_nextAt 6 = .ok (.invokevirtual 59, 3) := by decide +kernel
theorem dX8_nextAt_9 : decode cX8_nextAt 9 = .ok (.if_icmp .ge 42, 3) := by decide +kernel
theorem dX8_nextAt_12 : decode cX8_nextAt 12 = .ok (.iload_n 1, 1) := by decide +kernel
theorem dX8_nextAt_13 : decode cX8_nextAt 13 = .ok (.ifCond .eq 30, 3) := by decide +kernel
theorem dX8_nextAt_16 : decode cX8_nextAt 16 = .ok (.aload_n 0, 1) := by decide +kernel
theorem dX8_nextAt_17 : decode cX8_nextAt 17 = .ok (.iload_n 1, 1) := by decide +kernel
theorem dX8_nextAt_18 : decode cX8_nextAt 18 = .ok (.iload_n 3, 1) := by decide +kernel
theorem dX8_nextAt_19 : decode cX8_nextAt 19 = .ok (.invokevirtual 233, 3) := by decide +kernel
theorem dX8_nextAt_22 : decode cX8_nextAt 22 = .ok (.ifCond .eq 23, 3) := by decide +kernel
theorem dX8_nextAt_25 : decode cX8_nextAt 25 = .ok (.aload_n 0, 1) := by decide +kernel
theorem dX8_nextAt_26 : decode cX8_nextAt 26 = .ok (.aload_n 0, 1) := by decide +kernel
theorem dX8_nextAt_27 : decode cX8_nextAt 27 = .ok (.getfield 30, 3) := by decide +kernel
theorem dX8_nextAt_30 : decode cX8_nextAt 30 = .ok (.iload_n 1, 1) := by decide +kernel
theorem dX8_nextAt_31 : decode cX8_nextAt 31 = .ok (.iconst 1, 1) := by decide +kernel
theorem dX8_nextAt_32 : decode cX8_nextAt 32 = .ok (.isub, 1) := by decide +kernel
theorem dX8_nextAt_33 : decode cX8_nextAt 33 = .ok (.iaload, 1) := by decide +kernel
theorem dX8_nextAt_34 : decode cX8_nextAt 34 = .ok (.iload_n 3, 1) := by decide +kernel
theorem dX8_nextAt_35 : decode cX8_nextAt 35 = .ok (.invokevirtual 196, 3) := by decide +kernel
theorem dX8_nextAt_38 : decode cX8_nextAt 38 = .ok (.lconst 0, 1) := by decide +kernel
theorem dX8_nextAt_39 : decode cX8_nextAt 39 = .ok (.lcmp, 1) := by decide +kernel
theorem dX8_nextAt_40 : decode cX8_nextAt 40 = .ok (.ifCond .le 5, 3) := by decide +kernel
theorem dX8_nextAt_43 : decode cX8_nextAt 43 = .ok (.iload_n 3, 1) := by decide +kernel
theorem dX8_nextAt_44 : decode cX8_nextAt 44 = .ok (.ireturn, 1) := by decide +kernel
theorem dX8_nextAt_45 : decode cX8_nextAt 45 = .ok (.iinc 3 1, 3) := by decide +kernel
theorem dX8_nextAt_48 : decode cX8_nextAt 48 = .ok (.goto (-44), 3) := by decide +kernel
theorem dX8_nextAt_51 : decode cX8_nextAt 51 = .ok (.iconst (-1), 1) := by decide +kernel
theorem dX8_nextAt_52 : decode cX8_nextAt 52 = .ok (.ireturn, 1) := by decide +kernel
theorem dX8_hasRing_0 : decode cX8_hasRing 0 = .ok (.iconst 0, 1) := by decide +kernel
theorem dX8_hasRing_1 : decode cX8_hasRing 1 = .ok (.istore_n 2, 1) := by decide +kernel
theorem dX8_hasRing_2 : decode cX8_hasRing 2 = .ok (.iconst (-1), 1) := by decide +kernel
theorem dX8_hasRing_3 : decode cX8_hasRing 3 = .ok (.istore_n 3, 1) := by decide +kernel
theorem dX8_hasRing_4 : decode cX8_hasRing 4 = .ok (.iload_n 2, 1) := by decide +kernel
theorem dX8_hasRing_5 : decode cX8_hasRing 5 = .ok (.ifCond .lt 84, 3) := by decide +kernel
theorem dX8_hasRing_8 : decode cX8_hasRing 8 = .ok (.aload_n 0, 1) := by decide +kernel
theorem dX8_hasRing_9 : decode cX8_hasRing 9 = .ok (.iload_n 2, 1) := by decide +kernel
theorem dX8_hasRing_10 : decode cX8_hasRing 10 = .ok (.iload_n 3, 1) := by decide +kernel
theorem dX8_hasRing_11 : decode cX8_hasRing 11 = .ok (.invokevirtual 237, 3) := by decide +kernel
theorem dX8_hasRing_14 : decode cX8_hasRing 14 = .ok (.istore 4, 2) := by decide +kernel
theorem dX8_hasRing_16 : decode cX8_hasRing 16 = .ok (.iload 4, 2) := by decide +kernel
theorem dX8_hasRing_18 : decode cX8_hasRing 18 = .ok (.iconst (-1), 1) := by decide +kernel
theorem dX8_hasRing_19 : decode cX8_hasRing 19 = .ok (.if_icmp .ne 24, 3) := by decide +kernel
theorem dX8_hasRing_22 : decode cX8_hasRing 22 = .ok (.iinc 2 (-1), 3) := by decide +kernel
theorem dX8_hasRing_25 : decode cX8_hasRing 25 = .ok (.iload_n 2, 1) := by decide +kernel
theorem dX8_hasRing_26 : decode cX8_hasRing 26 = .ok (.ifCond .lt 12, 3) := by decide +kernel
theorem dX8_hasRing_29 : decode cX8_hasRing 29 = .ok (.aload_n 0, 1) := by decide +kernel
theorem dX8_hasRing_30 : decode cX8_hasRing 30 = .ok (.getfield 30, 3) := by decide +kernel
theorem dX8_hasRing_33 : decode cX8_hasRing 33 = .ok (.iload_n 2, 1) := by decide +kernel
theorem dX8_hasRing_34 : decode cX8_hasRing 34 = .ok (.iaload, 1) := by decide +kernel
theorem dX8_hasRing_35 : decode cX8_hasRing 35 = .ok (.goto 4, 3) := by decide +kernel
theorem dX8_hasRing_38 : decode cX8_hasRing 38 = .ok (.iconst (-1), 1) := by decide +kernel
theorem dX8_hasRing_39 : decode cX8_hasRing 39 = .ok (.istore_n 3, 1) := by decide +kernel
theorem dX8_hasRing_40 : decode cX8_hasRing 40 = .ok (.goto 46, 3) := by decide +kernel
theorem dX8_hasRing_43 : decode cX8_hasRing 43 = .ok (.aload_n 0, 1) := by decide +kernel
theorem dX8_hasRing_44 : decode cX8_hasRing 44 = .ok (.getfield 30, 3) := by decide +kernel
theorem dX8_hasRing_47 : decode cX8_hasRing 47 = .ok (.iload_n 2, 1) := by decide +kernel
theorem dX8_hasRing_48 : decode cX8_hasRing 48 = .ok (.iload 4, 2) := by decide +kernel
theorem dX8_hasRing_50 : decode cX8_hasRing 50 = .ok (.iastore, 1) := by decide +kernel
theorem dX8_hasRing_51 : decode cX8_hasRing 51 = .ok (.iinc 2 1, 3) := by decide +kernel
theorem dX8_hasRing_54 : decode cX8_hasRing 54 = .ok (.iconst (-1), 1) := by decide +kernel
theorem dX8_hasRing_55 : decode cX8_hasRing 55 = .ok (.istore_n 3, 1) := by decide +kernel
theorem dX8_hasRing_56 : decode cX8_hasRing 56 = .ok (.iload_n 2, 1) := by decide +kernel
theorem dX8_hasRing_57 : decode cX8_hasRing 57 = .ok (.iload_n 1, 1) := by decide +kernel
theorem dX8_hasRing_58 : decode cX8_hasRing 58 = .ok (.if_icmp .ne 28, 3) := by decide +kernel
theorem dX8_hasRing_61 : decode cX8_hasRing 61 = .ok (.aload_n 0, 1) := by decide +kernel
theorem dX8_hasRing_62 : decode cX8_hasRing 62 = .ok (.iload 4, 2) := by decide +kernel
theorem dX8_hasRing_64 : decode cX8_hasRing 64 = .ok (.aload_n 0, 1) := by decide +kernel
theorem dX8_hasRing_65 : decode cX8_hasRing 65 = .ok (.getfield 30, 3) := by decide +kernel
theorem dX8_hasRing_68 : decode cX8_hasRing 68 = .ok (.iconst 0, 1) := by decide +kernel
theorem dX8_hasRing_69 : decode cX8_hasRing 69 = .ok (.iaload, 1) := by decide +kernel
theorem dX8_hasRing_70 : decode cX8_hasRing 70 = .ok (.invokevirtual 196, 3) := by decide +kernel
theorem dX8_hasRing_73 : decode cX8_hasRing 73 = .ok (.lconst 0, 1) := by decide +kernel
theorem dX8_hasRing_74 : decode cX8_hasRing 74 = .ok (.lcmp, 1) := by decide +kernel
theorem dX8_hasRing_75 : decode cX8_hasRing 75 = .ok (.ifCond .le 5, 3) := by decide +kernel
theorem dX8_hasRing_78 : decode cX8_hasRing 78 = .ok (.iconst 1, 1) := by decide +kernel
theorem dX8_hasRing_79 : decode cX8_hasRing 79 = .ok (.ireturn, 1) := by decide +kernel
theorem dX8_hasRing_80 : decode cX8_hasRing 80 = .ok (.iinc 2 (-1), 3) := by decide +kernel
theorem dX8_hasRing_83 : decode cX8_hasRing 83 = .ok (.iload 4, 2) := by decide +kernel
theorem dX8_hasRing_85 : decode cX8_hasRing 85 = .ok (.istore_n 3, 1) := by decide +kernel
theorem dX8_hasRing_86 : decode cX8_hasRing 86 = .ok (.goto (-82), 3) := by decide +kernel
theorem dX8_hasRing_89 : decode cX8_hasRing 89 = .ok (.iconst 0, 1) := by decide +kernel
theorem dX8_hasRing_90 : decode cX8_hasRing 90 = .ok (.ireturn, 1) := by decide +kernel
theorem dX8_firstRing_0 : decode cX8_firstRing 0 = .ok (.iconst 2, 1) := by decide +kernel
theorem dX8_firstRing_1 : decode cX8_firstRing 1 = .ok (.istore_n 1, 1) := by decide +kernel
theorem dX8_firstRing_2 : decode cX8_firstRing 2 = .ok (.iload_n 1, 1) := by decide +kernel
theorem dX8_firstRing_3 : decode cX8_firstRing 3 = .ok (.aload_n 0, 1) := by decide +kernel
theorem dX8_firstRing_4 : decode cX8_firstRing 4 = .ok (.invokevirtual 59, 3) := by decide +kernel
theorem dX8_firstRing_7 : decode cX8_firstRing 7 = .ok (.if_icmp .gt 19, 3) := by decide +kernel
theorem dX8_firstRing_10 : decode cX8_firstRing 10 = .ok (.aload_n 0, 1) := by decide +kernel
theorem dX8_firstRing_11 : decode cX8_firstRing 11 = .ok (.iload_n 1, 1) := by decide +kernel
theorem dX8_firstRing_12 : decode cX8_firstRing 12 = .ok (.invokevirtual 240, 3) := by decide +kernel
theorem dX8_firstRing_15 : decode cX8_firstRing 15 = .ok (.ifCond .eq 5, 3) := by decide +kernel
theorem dX8_firstRing_18 : decode cX8_firstRing 18 = .ok (.iload_n 1, 1) := by decide +kernel
theorem dX8_firstRing_19 : decode cX8_firstRing 19 = .ok (.ireturn, 1) := by decide +kernel
theorem dX8_firstRing_20 : decode cX8_firstRing 20 = .ok (.iinc 1 1, 3) := by decide +kernel
theorem dX8_firstRing_23 : decode cX8_firstRing 23 = .ok (.goto (-21), 3) := by decide +kernel
theorem dX8_firstRing_26 : decode cX8_firstRing 26 = .ok (.iconst 0, 1) := by decide +kernel
theorem dX8_firstRing_27 : decode cX8_firstRing 27 = .ok (.ireturn, 1) := by decide +kernel
theorem dX8_ring_0 : decode cX8_ring 0 = .ok (.aload_n 0, 1) := by decide +kernel
theorem dX8_ring_1 : decode cX8_ring 1 = .ok (.iconst 0, 1) := by decide +kernel
theorem dX8_ring_2 : decode cX8_ring 2 = .ok (.putfield 42, 3) := by decide +kernel
theorem dX8_ring_5 : decode cX8_ring 5 = .ok (.aload_n 0, 1) := by decide +kernel
theorem dX8_ring_6 : decode cX8_ring 6 = .ok (.invokevirtual 243, 3) := by decide +kernel
theorem dX8_ring_9 : decode cX8_ring 9 = .ok (.istore_n 2, 1) := by decide +kernel
theorem dX8_ring_10 : decode cX8_ring 10 = .ok (.iload_n 1, 1) := by decide +kernel
theorem dX8_ring_11 : decode cX8_ring 11 = .ok (.iconst 0, 1) := by decide +kernel
theorem dX8_ring_12 : decode cX8_ring 12 = .ok (.iload_n 2, 1) := by decide +kernel
theorem dX8_ring_13 : decode cX8_ring 13 = .ok (.iconst 1, 1) := by decide +kernel
theorem dX8_ring_14 : decode cX8_ring 14 = .ok (.isub, 1) := by decide +kernel
theorem dX8_ring_15 : decode cX8_ring 15 = .ok (.invokestatic 63, 3) := by decide +kernel
theorem dX8_ring_18 : decode cX8_ring 18 = .ok (.ifCond .eq 12, 3) := by decide +kernel
theorem dX8_ring_21 : decode cX8_ring 21 = .ok (.aload_n 0, 1) := by decide +kernel
theorem dX8_ring_22 : decode cX8_ring 22 = .ok (.getfield 30, 3) := by decide +kernel
theorem dX8_ring_25 : decode cX8_ring 25 = .ok (.iload_n 1, 1) := by decide +kernel
theorem dX8_ring_26 : decode cX8_ring 26 = .ok (.iaload, 1) := by decide +kernel
theorem dX8_ring_27 : decode cX8_ring 27 = .ok (.goto 8, 3) := by decide +kernel
theorem dX8_ring_30 : decode cX8_ring 30 = .ok (.aload_n 0, 1) := by decide +kernel
theorem dX8_ring_31 : decode cX8_ring 31 = .ok (.iconst 1, 1) := by decide +kernel
theorem dX8_ring_32 : decode cX8_ring 32 = .ok (.invokevirtual 79, 3) := by decide +kernel
theorem dX8_ring_35 : decode cX8_ring 35 = .ok (.ireturn, 1) := by decide +kernel
theorem dX8_clearRings_0 : decode cX8_clearRings 0 = .ok (.aload_n 0, 1) := by decide +kernel
theorem dX8_clearRings_1 : decode cX8_clearRings 1 = .ok (.iconst 0, 1) := by decide +kernel
theorem dX8_clearRings_2 : decode cX8_clearRings 2 = .ok (.putfield 42, 3) := by decide +kernel
theorem dX8_clearRings_5 : decode cX8_clearRings 5 = .ok (.aload_n 0, 1) := by decide +kernel
theorem dX8_clearRings_6 : decode cX8_clearRings 6 = .ok (.invokevirtual 76, 3) := by decide +kernel
theorem dX8_clearRings_9 : decode cX8_clearRings 9 = .ok (.lconst 0, 1) := by decide +kernel
theorem dX8_clearRings_10 : decode cX8_clearRings 10 = .ok (.lstore_n 1, 1) := by decide +kernel
theorem dX8_clearRings_11 : decode cX8_clearRings 11 = .ok (.aload_n 0, 1) := by decide +kernel
theorem dX8_clearRings_12 : decode cX8_clearRings 12 = .ok (.invokevirtual 243, 3) := by decide +kernel
theorem dX8_clearRings_15 : decode cX8_clearRings 15 = .ok (.istore_n 3, 1) := by decide +kernel
theorem dX8_clearRings_16 : decode cX8_clearRings 16 = .ok (.iload_n 3, 1) := by decide +kernel
theorem dX8_clearRings_17 : decode cX8_clearRings 17 = .ok (.ifCond .le 122, 3) := by decide +kernel
theorem dX8_clearRings_20 : decode cX8_clearRings 20 = .ok (.aload_n 0, 1) := by decide +kernel
theorem dX8_clearRings_21 : decode cX8_clearRings 21 = .ok (.aload_n 0, 1) := by decide +kernel
theorem dX8_clearRings_22 : decode cX8_clearRings 22 = .ok (.getfield 30, 3) := by decide +kernel
theorem dX8_clearRings_25 : decode cX8_clearRings 25 = .ok (.iload_n 3, 1) := by decide +kernel
theorem dX8_clearRings_26 : decode cX8_clearRings 26 = .ok (.iconst 1, 1) := by decide +kernel
theorem dX8_clearRings_27 : decode cX8_clearRings 27 = .ok (.isub, 1) := by decide +kernel
theorem dX8_clearRings_28 : decode cX8_clearRings 28 = .ok (.iaload, 1) := by decide +kernel
theorem dX8_clearRings_29 : decode cX8_clearRings 29 = .ok (.aload_n 0, 1) := by decide +kernel
theorem dX8_clearRings_30 : decode cX8_clearRings 30 = .ok (.getfield 30, 3) := by decide +kernel
theorem dX8_clearRings_33 : decode cX8_clearRings 33 = .ok (.iconst 0, 1) := by decide +kernel
theorem dX8_clearRings_34 : decode cX8_clearRings 34 = .ok (.iaload, 1) := by decide +kernel
theorem dX8_clearRings_35 : decode cX8_clearRings 35 = .ok (.invokevirtual 196, 3) := by decide +kernel
theorem dX8_clearRings_38 : decode cX8_clearRings 38 = .ok (.lstore 4, 2) := by decide +kernel
theorem dX8_clearRings_40 : decode cX8_clearRings 40 = .ok (.iconst 0, 1) := by decide +kernel
theorem dX8_clearRings_41 : decode cX8_clearRings 41 = .ok (.istore 6, 2) := by decide +kernel
theorem dX8_clearRings_43 : decode cX8_clearRings 43 = .ok (.iload 6, 2) := by decide +kernel
theorem dX8_clearRings_45 : decode cX8_clearRings 45 = .ok (.iload_n 3, 1) := by decide +kernel
theorem dX8_clearRings_46 : decode cX8_clearRings 46 = .ok (.iconst 1, 1) := by decide +kernel
theorem dX8_clearRings_47 : decode cX8_clearRings 47 = .ok (.isub, 1) := by decide +kernel
theorem dX8_clearRings_48 : decode cX8_clearRings 48 = .ok (.if_icmp .ge 36, 3) := by decide +kernel
theorem dX8_clearRings_51 : decode cX8_clearRings 51 = .ok (.lload 4, 2) := by decide +kernel
theorem dX8_clearRings_53 : decode cX8_clearRings 53 = .ok (.aload_n 0, 1) := by decide +kernel
theorem dX8_clearRings_54 : decode cX8_clearRings 54 = .ok (.aload_n 0, 1) := by decide +kernel
theorem dX8_clearRings_55 : decode cX8_clearRings 55 = .ok (.getfield 30, 3) := by decide +kernel
theorem dX8_clearRings_58 : decode cX8_clearRings 58 = .ok (.iload 6, 2) := by decide +kernel
theorem dX8_clearRings_60 : decode cX8_clearRings 60 = .ok (.iaload, 1) := by decide +kernel
theorem dX8_clearRings_61 : decode cX8_clearRings 61 = .ok (.aload_n 0, 1) := by decide +kernel
theorem dX8_clearRings_62 : decode cX8_clearRings 62 = .ok (.getfield 30, 3) := by decide +kernel
theorem dX8_clearRings_65 : decode cX8_clearRings 65 = .ok (.iload 6, 2) := by decide +kernel
theorem dX8_clearRings_67 : decode cX8_clearRings 67 = .ok (.iconst 1, 1) := by decide +kernel
theorem dX8_clearRings_68 : decode cX8_clearRings 68 = .ok (.iadd, 1) := by decide +kernel
theorem dX8_clearRings_69 : decode cX8_clearRings 69 = .ok (.iaload, 1) := by decide +kernel
theorem dX8_clearRings_70 : decode cX8_clearRings 70 = .ok (.invokevirtual 196, 3) := by decide +kernel
theorem dX8_clearRings_73 : decode cX8_clearRings 73 = .ok (.invokestatic 99, 3) := by decide +kernel
theorem dX8_clearRings_76 : decode cX8_clearRings 76 = .ok (.lstore 4, 2) := by decide +kernel
theorem dX8_clearRings_78 : decode cX8_clearRings 78 = .ok (.iinc 6 1, 3) := by decide +kernel
theorem dX8_clearRings_81 : decode cX8_clearRings 81 = .ok (.goto (-38), 3) := by decide +kernel
theorem dX8_clearRings_84 : decode cX8_clearRings 84 = .ok (.iconst 0, 1) := by decide +kernel
theorem dX8_clearRings_85 : decode cX8_clearRings 85 = .ok (.istore 6, 2) := by decide +kernel
theorem dX8_clearRings_87 : decode cX8_clearRings 87 = .ok (.iload 6, 2) := by decide +kernel
theorem dX8_clearRings_89 : decode cX8_clearRings 89 = .ok (.iload_n 3, 1) := by decide +kernel
theorem dX8_clearRings_90 : decode cX8_clearRings 90 = .ok (.if_icmp .ge 33, 3) := by decide +kernel
theorem dX8_clearRings_93 : decode cX8_clearRings 93 = .ok (.aload_n 0, 1) := by decide +kernel
theorem dX8_clearRings_94 : decode cX8_clearRings 94 = .ok (.aload_n 0, 1) := by decide +kernel
theorem dX8_clearRings_95 : decode cX8_clearRings 95 = .ok (.getfield 30, 3) := by decide +kernel
theorem dX8_clearRings_98 : decode cX8_clearRings 98 = .ok (.iload 6, 2) := by decide +kernel
theorem dX8_clearRings_100 : decode cX8_clearRings 100 = .ok (.iaload, 1) := by decide +kernel
theorem dX8_clearRings_101 : decode cX8_clearRings 101 = .ok (.aload_n 0, 1) := by decide +kernel
theorem dX8_clearRings_102 : decode cX8_clearRings 102 = .ok (.getfield 30, 3) := by decide +kernel
theorem dX8_clearRings_105 : decode cX8_clearRings 105 = .ok (.iload 6, 2) := by decide +kernel
theorem dX8_clearRings_107 : decode cX8_clearRings 107 = .ok (.iconst 1, 1) := by decide +kernel
theorem dX8_clearRings_108 : decode cX8_clearRings 108 = .ok (.iadd, 1) := by decide +kernel
theorem dX8_clearRings_109 : decode cX8_clearRings 109 = .ok (.iload_n 3, 1) := by decide +kernel
theorem dX8_clearRings_110 : decode cX8_clearRings 110 = .ok (.irem, 1) := by decide +kernel
theorem dX8_clearRings_111 : decode cX8_clearRings 111 = .ok (.iaload, 1) := by decide +kernel
theorem dX8_clearRings_112 : decode cX8_clearRings 112 = .ok (.lload 4, 2) := by decide +kernel
theorem dX8_clearRings_114 : decode cX8_clearRings 114 = .ok (.invokevirtual 200, 3) := by decide +kernel
theorem dX8_clearRings_117 : decode cX8_clearRings 117 = .ok (.iinc 6 1, 3) := by decide +kernel
theorem dX8_clearRings_120 : decode cX8_clearRings 120 = .ok (.goto (-33), 3) := by decide +kernel
theorem dX8_clearRings_123 : decode cX8_clearRings 123 = .ok (.lload_n 1, 1) := by decide +kernel
theorem dX8_clearRings_124 : decode cX8_clearRings 124 = .ok (.lload 4, 2) := by decide +kernel
theorem dX8_clearRings_126 : decode cX8_clearRings 126 = .ok (.iload_n 3, 1) := by decide +kernel
theorem dX8_clearRings_127 : decode cX8_clearRings 127 = .ok (.i2l, 1) := by decide +kernel
theorem dX8_clearRings_128 : decode cX8_clearRings 128 = .ok (.lmul, 1) := by decide +kernel
theorem dX8_clearRings_129 : decode cX8_clearRings 129 = .ok (.ladd, 1) := by decide +kernel
theorem dX8_clearRings_130 : decode cX8_clearRings 130 = .ok (.lstore_n 1, 1) := by decide +kernel
theorem dX8_clearRings_131 : decode cX8_clearRings 131 = .ok (.aload_n 0, 1) := by decide +kernel
theorem dX8_clearRings_132 : decode cX8_clearRings 132 = .ok (.invokevirtual 243, 3) := by decide +kernel
theorem dX8_clearRings_135 : decode cX8_clearRings 135 = .ok (.istore_n 3, 1) := by decide +kernel
theorem dX8_clearRings_136 : decode cX8_clearRings 136 = .ok (.goto (-120), 3) := by decide +kernel
theorem dX8_clearRings_139 : decode cX8_clearRings 139 = .ok (.aload_n 0, 1) := by decide +kernel
theorem dX8_clearRings_140 : decode cX8_clearRings 140 = .ok (.bipush 10, 2) := by decide +kernel
theorem dX8_clearRings_142 : decode cX8_clearRings 142 = .ok (.lload_n 1, 1) := by decide +kernel
theorem dX8_clearRings_143 : decode cX8_clearRings 143 = .ok (.invokevirtual 192, 3) := by decide +kernel
theorem dX8_clearRings_146 : decode cX8_clearRings 146 = .ok (.aload_n 0, 1) := by decide +kernel
theorem dX8_clearRings_147 : decode cX8_clearRings 147 = .ok (.invokevirtual 83, 3) := by decide +kernel
theorem dX8_clearRings_150 : decode cX8_clearRings 150 = .ok (.lload_n 1, 1) := by decide +kernel
theorem dX8_clearRings_151 : decode cX8_clearRings 151 = .ok (.lreturn, 1) := by decide +kernel
theorem dX8_net_0 : decode cX8_net 0 = .ok (.aload_n 0, 1) := by decide +kernel
theorem dX8_net_1 : decode cX8_net 1 = .ok (.iconst 0, 1) := by decide +kernel
theorem dX8_net_2 : decode cX8_net 2 = .ok (.putfield 42, 3) := by decide +kernel
theorem dX8_net_5 : decode cX8_net 5 = .ok (.aload_n 0, 1) := by decide +kernel
theorem dX8_net_6 : decode cX8_net 6 = .ok (.iload_n 1, 1) := by decide +kernel
theorem dX8_net_7 : decode cX8_net 7 = .ok (.invokevirtual 149, 3) := by decide +kernel
theorem dX8_net_10 : decode cX8_net 10 = .ok (.ifCond .eq 19, 3) := by decide +kernel
theorem dX8_net_13 : decode cX8_net 13 = .ok (.aload_n 0, 1) := by decide +kernel
theorem dX8_net_14 : decode cX8_net 14 = .ok (.iload_n 1, 1) := by decide +kernel
theorem dX8_net_15 : decode cX8_net 15 = .ok (.iconst 1, 1) := by decide +kernel
theorem dX8_net_16 : decode cX8_net 16 = .ok (.invokevirtual 165, 3) := by decide +kernel
theorem dX8_net_19 : decode cX8_net 19 = .ok (.aload_n 0, 1) := by decide +kernel
theorem dX8_net_20 : decode cX8_net 20 = .ok (.iload_n 1, 1) := by decide +kernel
theorem dX8_net_21 : decode cX8_net 21 = .ok (.iconst 0, 1) := by decide +kernel
theorem dX8_net_22 : decode cX8_net 22 = .ok (.invokevirtual 165, 3) := by decide +kernel
theorem dX8_net_25 : decode cX8_net 25 = .ok (.lsub, 1) := by decide +kernel
theorem dX8_net_26 : decode cX8_net 26 = .ok (.goto 8, 3) := by decide +kernel
theorem dX8_net_29 : decode cX8_net 29 = .ok (.aload_n 0, 1) := by decide +kernel
theorem dX8_net_30 : decode cX8_net 30 = .ok (.iconst 1, 1) := by decide +kernel
theorem dX8_net_31 : decode cX8_net 31 = .ok (.invokevirtual 153, 3) := by decide +kernel
theorem dX8_net_34 : decode cX8_net 34 = .ok (.lreturn, 1) := by decide +kernel
theorem dX8_growsTo_0 : decode cX8_growsTo 0 = .ok (.aload_n 0, 1) := by decide +kernel
theorem dX8_growsTo_1 : decode cX8_growsTo 1 = .ok (.iconst 0, 1) := by decide +kernel
theorem dX8_growsTo_2 : decode cX8_growsTo 2 = .ok (.putfield 42, 3) := by decide +kernel
theorem dX8_growsTo_5 : decode cX8_growsTo 5 = .ok (.aload_n 0, 1) := by decide +kernel
theorem dX8_growsTo_6 : decode cX8_growsTo 6 = .ok (.iload_n 1, 1) := by decide +kernel
theorem dX8_growsTo_7 : decode cX8_growsTo 7 = .ok (.invokevirtual 227, 3) := by decide +kernel
theorem dX8_growsTo_10 : decode cX8_growsTo 10 = .ok (.ifCond .ne 9, 3) := by decide +kernel
theorem dX8_growsTo_13 : decode cX8_growsTo 13 = .ok (.aload_n 0, 1) := by decide +kernel
theorem dX8_growsTo_14 : decode cX8_growsTo 14 = .ok (.iconst 1, 1) := by decide +kernel
theorem dX8_growsTo_15 : decode cX8_growsTo 15 = .ok (.invokevirtual 79, 3) := by decide +kernel
theorem dX8_growsTo_18 : decode cX8_growsTo 18 = .ok (.ireturn, 1) := by decide +kernel
theorem dX8_growsTo_19 : decode cX8_growsTo 19 = .ok (.iload_n 2, 1) := by decide +kernel
theorem dX8_growsTo_20 : decode cX8_growsTo 20 = .ok (.iconst 1, 1) := by decide +kernel
theorem dX8_growsTo_21 : decode cX8_growsTo 21 = .ok (.ldc 246, 2) := by decide +kernel
theorem dX8_growsTo_23 : decode cX8_growsTo 23 = .ok (.invokestatic 63, 3) := by decide +kernel
theorem dX8_growsTo_26 : decode cX8_growsTo 26 = .ok (.ifCond .ne 9, 3) := by decide +kernel
theorem dX8_growsTo_29 : decode cX8_growsTo 29 = .ok (.aload_n 0, 1) := by decide +kernel
theorem dX8_growsTo_30 : decode cX8_growsTo 30 = .ok (.iconst 2, 1) := by decide +kernel
theorem dX8_growsTo_31 : decode cX8_growsTo 31 = .ok (.invokevirtual 79, 3) := by decide +kernel
theorem dX8_growsTo_34 : decode cX8_growsTo 34 = .ok (.ireturn, 1) := by decide +kernel
theorem dX8_growsTo_35 : decode cX8_growsTo 35 = .ok (.aload_n 0, 1) := by decide +kernel
theorem dX8_growsTo_36 : decode cX8_growsTo 36 = .ok (.getfield 7, 3) := by decide +kernel
theorem dX8_growsTo_39 : decode cX8_growsTo 39 = .ok (.aload_n 0, 1) := by decide +kernel
theorem dX8_growsTo_40 : decode cX8_growsTo 40 = .ok (.iload_n 1, 1) := by decide +kernel
theorem dX8_growsTo_41 : decode cX8_growsTo 41 = .ok (.iconst 4, 1) := by decide +kernel
theorem dX8_growsTo_42 : decode cX8_growsTo 42 = .ok (.invokevirtual 140, 3) := by decide +kernel
theorem dX8_growsTo_45 : decode cX8_growsTo 45 = .ok (.laload, 1) := by decide +kernel
theorem dX8_growsTo_46 : decode cX8_growsTo 46 = .ok (.lstore_n 3, 1) := by decide +kernel
theorem dX8_growsTo_47 : decode cX8_growsTo 47 = .ok (.aload_n 0, 1) := by decide +kernel
theorem dX8_growsTo_48 : decode cX8_growsTo 48 = .ok (.iload_n 1, 1) := by decide +kernel
theorem dX8_growsTo_49 : decode cX8_growsTo 49 = .ok (.invokevirtual 146, 3) := by decide +kernel
theorem dX8_growsTo_52 : decode cX8_growsTo 52 = .ok (.lstore 5, 2) := by decide +kernel
theorem dX8_growsTo_54 : decode cX8_growsTo 54 = .ok (.aload_n 0, 1) := by decide +kernel
theorem dX8_growsTo_55 : decode cX8_growsTo 55 = .ok (.getfield 7, 3) := by decide +kernel
theorem dX8_growsTo_58 : decode cX8_growsTo 58 = .ok (.aload_n 0, 1) := by decide +kernel
theorem dX8_growsTo_59 : decode cX8_growsTo 59 = .ok (.iload_n 1, 1) := by decide +kernel
theorem dX8_growsTo_60 : decode cX8_growsTo 60 = .ok (.iconst 2, 1) := by decide +kernel
theorem dX8_growsTo_61 : decode cX8_growsTo 61 = .ok (.invokevirtual 140, 3) := by decide +kernel
theorem dX8_growsTo_64 : decode cX8_growsTo 64 = .ok (.laload, 1) := by decide +kernel
theorem dX8_growsTo_65 : decode cX8_growsTo 65 = .ok (.aload_n 0, 1) := by decide +kernel
theorem dX8_growsTo_66 : decode cX8_growsTo 66 = .ok (.getfield 7, 3) := by decide +kernel
theorem dX8_growsTo_69 : decode cX8_growsTo 69 = .ok (.bipush 6, 2) := by decide +kernel
theorem dX8_growsTo_71 : decode cX8_growsTo 71 = .ok (.aload_n 0, 1) := by decide +kernel
theorem dX8_growsTo_72 : decode cX8_growsTo 72 = .ok (.getfield 7, 3) := by decide +kernel
theorem dX8_growsTo_75 : decode cX8_growsTo 75 = .ok (.iconst 1, 1) := by decide +kernel
theorem dX8_growsTo_76 : decode cX8_growsTo 76 = .ok (.laload, 1) := by decide +kernel
theorem dX8_growsTo_77 : decode cX8_growsTo 77 = .ok (.l2i, 1) := by decide +kernel
theorem dX8_growsTo_78 : decode cX8_growsTo 78 = .ok (.iadd, 1) := by decide +kernel
theorem dX8_growsTo_79 : decode cX8_growsTo 79 = .ok (.laload, 1) := by decide +kernel
theorem dX8_growsTo_80 : decode cX8_growsTo 80 = .ok (.lmul, 1) := by decide +kernel
theorem dX8_growsTo_81 : decode cX8_growsTo 81 = .ok (.lstore 7, 2) := by decide +kernel
theorem dX8_growsTo_83 : decode cX8_growsTo 83 = .ok (.iconst 0, 1) := by decide +kernel
theorem dX8_growsTo_84 : decode cX8_growsTo 84 = .ok (.istore 9, 2) := by decide +kernel
theorem dX8_growsTo_86 : decode cX8_growsTo 86 = .ok (.iload 9, 2) := by decide +kernel
theorem dX8_growsTo_88 : decode cX8_growsTo 88 = .ok (.sipush 3650, 3) := by decide +kernel
theorem dX8_growsTo_91 : decode cX8_growsTo 91 = .ok (.if_icmp .gt 41, 3) := by decide +kernel
theorem dX8_growsTo_94 : decode cX8_growsTo 94 = .ok (.lload 5, 2) := by decide +kernel
theorem dX8_growsTo_96 : decode cX8_growsTo 96 = .ok (.iload_n 2, 1) := by decide +kernel
theorem dX8_growsTo_97 : decode cX8_growsTo 97 = .ok (.i2l, 1) := by decide +kernel
theorem dX8_growsTo_98 : decode cX8_growsTo 98 = .ok (.lcmp, 1) := by decide +kernel
theorem dX8_growsTo_99 : decode cX8_growsTo 99 = .ok (.ifCond .lt 6, 3) := by decide +kernel
theorem dX8_growsTo_102 : decode cX8_growsTo 102 = .ok (.iload 9, 2) := by decide +kernel
theorem dX8_growsTo_104 : decode cX8_growsTo 104 = .ok (.ireturn, 1) := by decide +kernel
theorem dX8_growsTo_105 : decode cX8_growsTo 105 = .ok (.lload_n 3, 1) := by decide +kernel
theorem dX8_growsTo_106 : decode cX8_growsTo 106 = .ok (.lload 7, 2) := by decide +kernel
theorem dX8_growsTo_108 : decode cX8_growsTo 108 = .ok (.ladd, 1) := by decide +kernel
theorem dX8_growsTo_109 : decode cX8_growsTo 109 = .ok (.lstore_n 3, 1) := by decide +kernel
theorem dX8_growsTo_110 : decode cX8_growsTo 110 = .ok (.lload 5, 2) := by decide +kernel
theorem dX8_growsTo_112 : decode cX8_growsTo 112 = .ok (.lload_n 3, 1) := by decide +kernel
theorem dX8_growsTo_113 : decode cX8_growsTo 113 = .ok (.ldc2_w 203, 3) := by decide +kernel
theorem dX8_growsTo_116 : decode cX8_growsTo 116 = .ok (.ldiv, 1) := by decide +kernel
theorem dX8_growsTo_117 : decode cX8_growsTo 117 = .ok (.ladd, 1) := by decide +kernel
theorem dX8_growsTo_118 : decode cX8_growsTo 118 = .ok (.lstore 5, 2) := by decide +kernel
theorem dX8_growsTo_120 : decode cX8_growsTo 120 = .ok (.lload_n 3, 1) := by decide +kernel
theorem dX8_growsTo_121 : decode cX8_growsTo 121 = .ok (.ldc2_w 203, 3) := by decide +kernel
theorem dX8_growsTo_124 : decode cX8_growsTo 124 = .ok (.lrem, 1) := by decide +kernel
theorem dX8_growsTo_125 : decode cX8_growsTo 125 = .ok (.lstore_n 3, 1) := by decide +kernel
theorem dX8_growsTo_126 : decode cX8_growsTo 126 = .ok (.iinc 9 1, 3) := by decide +kernel
theorem dX8_growsTo_129 : decode cX8_growsTo 129 = .ok (.goto (-43), 3) := by decide +kernel
theorem dX8_growsTo_132 : decode cX8_growsTo 132 = .ok (.aload_n 0, 1) := by decide +kernel
theorem dX8_growsTo_133 : decode cX8_growsTo 133 = .ok (.iconst 3, 1) := by decide +kernel
theorem dX8_growsTo_134 : decode cX8_growsTo 134 = .ok (.invokevirtual 79, 3) := by decide +kernel
theorem dX8_growsTo_137 : decode cX8_growsTo 137 = .ok (.ireturn, 1) := by decide +kernel
theorem dX8_pass_0 : decode cX8_pass 0 = .ok (.aload_n 0, 1) := by decide +kernel
theorem dX8_pass_1 : decode cX8_pass 1 = .ok (.invokevirtual 76, 3) := by decide +kernel
theorem dX8_pass_4 : decode cX8_pass 4 = .ok (.aload_n 0, 1) := by decide +kernel
theorem dX8_pass_5 : decode cX8_pass 5 = .ok (.aload_n 0, 1) := by decide +kernel
theorem dX8_pass_6 : decode cX8_pass 6 = .ok (.iload_n 1, 1) := by decide +kernel
theorem dX8_pass_7 : decode cX8_pass 7 = .ok (.invokevirtual 247, 3) := by decide +kernel
theorem dX8_pass_10 : decode cX8_pass 10 = .ok (.invokevirtual 214, 3) := by decide +kernel
theorem dX8_pass_13 : decode cX8_pass 13 = .ok (.lreturn, 1) := by decide +kernel
theorem dX8_goOn_0 : decode cX8_goOn 0 = .ok (.aload_n 0, 1) := by decide +kernel
theorem dX8_goOn_1 : decode cX8_goOn 1 = .ok (.invokevirtual 76, 3) := by decide +kernel
theorem dX8_goOn_4 : decode cX8_goOn 4 = .ok (.aload_n 0, 1) := by decide +kernel
theorem dX8_goOn_5 : decode cX8_goOn 5 = .ok (.aload_n 0, 1) := by decide +kernel
theorem dX8_goOn_6 : decode cX8_goOn 6 = .ok (.invokevirtual 250, 3) := by decide +kernel
theorem dX8_goOn_9 : decode cX8_goOn 9 = .ok (.invokevirtual 214, 3) := by decide +kernel
theorem dX8_goOn_12 : decode cX8_goOn 12 = .ok (.l2i, 1) := by decide +kernel
theorem dX8_goOn_13 : decode cX8_goOn 13 = .ok (.ireturn, 1) := by decide +kernel
theorem dX8_together_0 : decode cX8_together 0 = .ok (.lconst 0, 1) := by decide +kernel
theorem dX8_together_1 : decode cX8_together 1 = .ok (.lstore_n 2, 1) := by decide +kernel
theorem dX8_together_2 : decode cX8_together 2 = .ok (.iconst 0, 1) := by decide +kernel
theorem dX8_together_3 : decode cX8_together 3 = .ok (.istore 4, 2) := by decide +kernel
theorem dX8_together_5 : decode cX8_together 5 = .ok (.iload 4, 2) := by decide +kernel
theorem dX8_together_7 : decode cX8_together 7 = .ok (.aload_n 0, 1) := by decide +kernel
theorem dX8_together_8 : decode cX8_together 8 = .ok (.invokevirtual 59, 3) := by decide +kernel
theorem dX8_together_11 : decode cX8_together 11 = .ok (.if_icmp .ge 59, 3) := by decide +kernel
theorem dX8_together_14 : decode cX8_together 14 = .ok (.lload_n 2, 1) := by decide +kernel
theorem dX8_together_15 : decode cX8_together 15 = .ok (.iload_n 1, 1) := by decide +kernel
theorem dX8_together_16 : decode cX8_together 16 = .ok (.bipush 7, 2) := by decide +kernel
theorem dX8_together_18 : decode cX8_together 18 = .ok (.if_icmp .ne 12, 3) := by decide +kernel
theorem dX8_together_21 : decode cX8_together 21 = .ok (.aload_n 0, 1) := by decide +kernel
theorem dX8_together_22 : decode cX8_together 22 = .ok (.iload 4, 2) := by decide +kernel
theorem dX8_together_24 : decode cX8_together 24 = .ok (.invokevirtual 156, 3) := by decide +kernel
theorem dX8_together_27 : decode cX8_together 27 = .ok (.goto 35, 3) := by decide +kernel
theorem dX8_together_30 : decode cX8_together 30 = .ok (.iload_n 1, 1) := by decide +kernel
theorem dX8_together_31 : decode cX8_together 31 = .ok (.bipush 11, 2) := by decide +kernel
theorem dX8_together_33 : decode cX8_together 33 = .ok (.if_icmp .ne 12, 3) := by decide +kernel
theorem dX8_together_36 : decode cX8_together 36 = .ok (.aload_n 0, 1) := by decide +kernel
theorem dX8_together_37 : decode cX8_together 37 = .ok (.iload 4, 2) := by decide +kernel
theorem dX8_together_39 : decode cX8_together 39 = .ok (.invokevirtual 162, 3) := by decide +kernel
theorem dX8_together_42 : decode cX8_together 42 = .ok (.goto 20, 3) := by decide +kernel
theorem dX8_together_45 : decode cX8_together 45 = .ok (.aload_n 0, 1) := by decide +kernel
theorem dX8_together_46 : decode cX8_together 46 = .ok (.getfield 7, 3) := by decide +kernel
theorem dX8_together_49 : decode cX8_together 49 = .ok (.bipush 32, 2) := by decide +kernel
theorem dX8_together_51 : decode cX8_together 51 = .ok (.bipush 6, 2) := by decide +kernel
theorem dX8_together_53 : decode cX8_together 53 = .ok (.iload_n 1, 1) := by decide +kernel
theorem dX8_together_54 : decode cX8_together 54 = .ok (.iconst 4, 1) := by decide +kernel
theorem dX8_together_55 : decode cX8_together 55 = .ok (.isub, 1) := by decide +kernel
theorem dX8_together_56 : decode cX8_together 56 = .ok (.imul, 1) := by decide +kernel
theorem dX8_together_57 : decode cX8_together 57 = .ok (.iadd, 1) := by decide +kernel
theorem dX8_together_58 : decode cX8_together 58 = .ok (.iload 4, 2) := by decide +kernel
theorem dX8_together_60 : decode cX8_together 60 = .ok (.iadd, 1) := by decide +kernel
theorem dX8_together_61 : decode cX8_together 61 = .ok (.laload, 1) := by decide +kernel
theorem dX8_together_62 : decode cX8_together 62 = .ok (.ladd, 1) := by decide +kernel
theorem dX8_together_63 : decode cX8_together 63 = .ok (.lstore_n 2, 1) := by decide +kernel
theorem dX8_together_64 : decode cX8_together 64 = .ok (.iinc 4 1, 3) := by decide +kernel
theorem dX8_together_67 : decode cX8_together 67 = .ok (.goto (-62), 3) := by decide +kernel
theorem dX8_together_70 : decode cX8_together 70 = .ok (.lload_n 2, 1) := by decide +kernel
theorem dX8_together_71 : decode cX8_together 71 = .ok (.lreturn, 1) := by decide +kernel
theorem dX8_rests_0 : decode cX8_rests 0 = .ok (.lconst 0, 1) := by decide +kernel
theorem dX8_rests_1 : decode cX8_rests 1 = .ok (.lstore_n 1, 1) := by decide +kernel
theorem dX8_rests_2 : decode cX8_rests 2 = .ok (.iconst 0, 1) := by decide +kernel
theorem dX8_rests_3 : decode cX8_rests 3 = .ok (.istore_n 3, 1) := by decide +kernel
theorem dX8_rests_4 : decode cX8_rests 4 = .ok (.iload_n 3, 1) := by decide +kernel
theorem dX8_rests_5 : decode cX8_rests 5 = .ok (.aload_n 0, 1) := by decide +kernel
theorem dX8_rests_6 : decode cX8_rests 6 = .ok (.invokevirtual 67, 3) := by decide +kernel
theorem dX8_rests_9 : decode cX8_rests 9 = .ok (.if_icmp .ge 17, 3) := by decide +kernel
theorem dX8_rests_12 : decode cX8_rests 12 = .ok (.lload_n 1, 1) := by decide +kernel
theorem dX8_rests_13 : decode cX8_rests 13 = .ok (.aload_n 0, 1) := by decide +kernel
theorem dX8_rests_14 : decode cX8_rests 14 = .ok (.iload_n 3, 1) := by decide +kernel
theorem dX8_rests_15 : decode cX8_rests 15 = .ok (.invokevirtual 185, 3) := by decide +kernel
theorem dX8_rests_18 : decode cX8_rests 18 = .ok (.ladd, 1) := by decide +kernel
theorem dX8_rests_19 : decode cX8_rests 19 = .ok (.lstore_n 1, 1) := by decide +kernel
theorem dX8_rests_20 : decode cX8_rests 20 = .ok (.iinc 3 1, 3) := by decide +kernel
theorem dX8_rests_23 : decode cX8_rests 23 = .ok (.goto (-19), 3) := by decide +kernel
theorem dX8_rests_26 : decode cX8_rests 26 = .ok (.lload_n 1, 1) := by decide +kernel
theorem dX8_rests_27 : decode cX8_rests 27 = .ok (.lreturn, 1) := by decide +kernel
theorem dX8_allDebts_0 : decode cX8_allDebts 0 = .ok (.lconst 0, 1) := by decide +kernel
theorem dX8_allDebts_1 : decode cX8_allDebts 1 = .ok (.lstore_n 1, 1) := by decide +kernel
theorem dX8_allDebts_2 : decode cX8_allDebts 2 = .ok (.iconst 0, 1) := by decide +kernel
theorem dX8_allDebts_3 : decode cX8_allDebts 3 = .ok (.istore_n 3, 1) := by decide +kernel
theorem dX8_allDebts_4 : decode cX8_allDebts 4 = .ok (.iload_n 3, 1) := by decide +kernel
theorem dX8_allDebts_5 : decode cX8_allDebts 5 = .ok (.aload_n 0, 1) := by decide +kernel
theorem dX8_allDebts_6 : decode cX8_allDebts 6 = .ok (.invokevirtual 70, 3) := by decide +kernel
theorem dX8_allDebts_9 : decode cX8_allDebts 9 = .ok (.if_icmp .ge 17, 3) := by decide +kernel
theorem dX8_allDebts_12 : decode cX8_allDebts 12 = .ok (.lload_n 1, 1) := by decide +kernel
theorem dX8_allDebts_13 : decode cX8_allDebts 13 = .ok (.aload_n 0, 1) := by decide +kernel
theorem dX8_allDebts_14 : decode cX8_allDebts 14 = .ok (.iload_n 3, 1) := by decide +kernel
theorem dX8_allDebts_15 : decode cX8_allDebts 15 = .ok (.invokevirtual 146, 3) := by decide +kernel
theorem dX8_allDebts_18 : decode cX8_allDebts 18 = .ok (.ladd, 1) := by decide +kernel
theorem dX8_allDebts_19 : decode cX8_allDebts 19 = .ok (.lstore_n 1, 1) := by decide +kernel
theorem dX8_allDebts_20 : decode cX8_allDebts 20 = .ok (.iinc 3 1, 3) := by decide +kernel
theorem dX8_allDebts_23 : decode cX8_allDebts 23 = .ok (.goto (-19), 3) := by decide +kernel
theorem dX8_allDebts_26 : decode cX8_allDebts 26 = .ok (.lload_n 1, 1) := by decide +kernel
theorem dX8_allDebts_27 : decode cX8_allDebts 27 = .ok (.lreturn, 1) := by decide +kernel
theorem dX8_account_0 : decode cX8_account 0 = .ok (.aload_n 0, 1) := by decide +kernel
theorem dX8_account_1 : decode cX8_account 1 = .ok (.iconst 0, 1) := by decide +kernel
theorem dX8_account_2 : decode cX8_account 2 = .ok (.putfield 42, 3) := by decide +kernel
theorem dX8_account_5 : decode cX8_account 5 = .ok (.iload_n 1, 1) := by decide +kernel
theorem dX8_account_6 : decode cX8_account 6 = .ok (.tableswitch 103 0 10 #[58, 65, 72, 79, 103, 103, 103, 103, 84, 91, 98], 58) := by decide +kernel
theorem dX8_account_64 : decode cX8_account 64 = .ok (.aload_n 0, 1) := by decide +kernel
theorem dX8_account_65 : decode cX8_account 65 = .ok (.getfield 7, 3) := by decide +kernel
theorem dX8_account_68 : decode cX8_account 68 = .ok (.iconst 2, 1) := by decide +kernel
theorem dX8_account_69 : decode cX8_account 69 = .ok (.laload, 1) := by decide +kernel
theorem dX8_account_70 : decode cX8_account 70 = .ok (.lreturn, 1) := by decide +kernel
theorem dX8_account_71 : decode cX8_account 71 = .ok (.aload_n 0, 1) := by decide +kernel
theorem dX8_account_72 : decode cX8_account 72 = .ok (.getfield 7, 3) := by decide +kernel
theorem dX8_account_75 : decode cX8_account 75 = .ok (.iconst 3, 1) := by decide +kernel
theorem dX8_account_76 : decode cX8_account 76 = .ok (.laload, 1) := by decide +kernel
theorem dX8_account_77 : decode cX8_account 77 = .ok (.lreturn, 1) := by decide +kernel
theorem dX8_account_78 : decode cX8_account 78 = .ok (.aload_n 0, 1) := by decide +kernel
theorem dX8_account_79 : decode cX8_account 79 = .ok (.getfield 7, 3) := by decide +kernel
theorem dX8_account_82 : decode cX8_account 82 = .ok (.iconst 4, 1) := by decide +kernel
theorem dX8_account_83 : decode cX8_account 83 = .ok (.laload, 1) := by decide +kernel
theorem dX8_account_84 : decode cX8_account 84 = .ok (.lreturn, 1) := by decide +kernel
theorem dX8_account_85 : decode cX8_account 85 = .ok (.aload_n 0, 1) := by decide +kernel
theorem dX8_account_86 : decode cX8_account 86 = .ok (.invokevirtual 253, 3) := by decide +kernel
theorem dX8_account_89 : decode cX8_account 89 = .ok (.lreturn, 1) := by decide +kernel
theorem dX8_account_90 : decode cX8_account 90 = .ok (.aload_n 0, 1) := by decide +kernel
theorem dX8_account_91 : decode cX8_account 91 = .ok (.getfield 7, 3) := by decide +kernel
theorem dX8_account_94 : decode cX8_account 94 = .ok (.iconst 0, 1) := by decide +kernel
theorem dX8_account_95 : decode cX8_account 95 = .ok (.laload, 1) := by decide +kernel
theorem dX8_account_96 : decode cX8_account 96 = .ok (.lreturn, 1) := by decide +kernel
theorem dX8_account_97 : decode cX8_account 97 = .ok (.aload_n 0, 1) := by decide +kernel
theorem dX8_account_98 : decode cX8_account 98 = .ok (.getfield 7, 3) := by decide +kernel
theorem dX8_account_101 : decode cX8_account 101 = .ok (.iconst 1, 1) := by decide +kernel
theorem dX8_account_102 : decode cX8_account 102 = .ok (.laload, 1) := by decide +kernel
theorem dX8_account_103 : decode cX8_account 103 = .ok (.lreturn, 1) := by decide +kernel
theorem dX8_account_104 : decode cX8_account 104 = .ok (.aload_n 0, 1) := by decide +kernel
theorem dX8_account_105 : decode cX8_account 105 = .ok (.invokevirtual 256, 3) := by decide +kernel
theorem dX8_account_108 : decode cX8_account 108 = .ok (.lreturn, 1) := by decide +kernel
theorem dX8_account_109 : decode cX8_account 109 = .ok (.iload_n 1, 1) := by decide +kernel
theorem dX8_account_110 : decode cX8_account 110 = .ok (.iconst 4, 1) := by decide +kernel
theorem dX8_account_111 : decode cX8_account 111 = .ok (.bipush 7, 2) := by decide +kernel
theorem dX8_account_113 : decode cX8_account 113 = .ok (.invokestatic 63, 3) := by decide +kernel
theorem dX8_account_116 : decode cX8_account 116 = .ok (.ifCond .ne 9, 3) := by decide +kernel
theorem dX8_account_119 : decode cX8_account 119 = .ok (.iload_n 1, 1) := by decide +kernel
theorem dX8_account_120 : decode cX8_account 120 = .ok (.bipush 11, 2) := by decide +kernel
theorem dX8_account_122 : decode cX8_account 122 = .ok (.if_icmp .ne 11, 3) := by decide +kernel
theorem dX8_account_125 : decode cX8_account 125 = .ok (.aload_n 0, 1) := by decide +kernel
theorem dX8_account_126 : decode cX8_account 126 = .ok (.iload_n 1, 1) := by decide +kernel
theorem dX8_account_127 : decode cX8_account 127 = .ok (.invokevirtual 259, 3) := by decide +kernel
theorem dX8_account_130 : decode cX8_account 130 = .ok (.goto 8, 3) := by decide +kernel
theorem dX8_account_133 : decode cX8_account 133 = .ok (.aload_n 0, 1) := by decide +kernel
theorem dX8_account_134 : decode cX8_account 134 = .ok (.iconst 1, 1) := by decide +kernel
theorem dX8_account_135 : decode cX8_account 135 = .ok (.invokevirtual 153, 3) := by decide +kernel
theorem dX8_account_138 : decode cX8_account 138 = .ok (.lreturn, 1) := by decide +kernel
theorem dX8_entry_0 : decode cX8_entry 0 = .ok (.aload_n 0, 1) := by decide +kernel
theorem dX8_entry_1 : decode cX8_entry 1 = .ok (.iconst 0, 1) := by decide +kernel
theorem dX8_entry_2 : decode cX8_entry 2 = .ok (.putfield 42, 3) := by decide +kernel
theorem dX8_entry_5 : decode cX8_entry 5 = .ok (.iload_n 1, 1) := by decide +kernel
theorem dX8_entry_6 : decode cX8_entry 6 = .ok (.iconst 0, 1) := by decide +kernel
theorem dX8_entry_7 : decode cX8_entry 7 = .ok (.aload_n 0, 1) := by decide +kernel
theorem dX8_entry_8 : decode cX8_entry 8 = .ok (.getfield 7, 3) := by decide +kernel
theorem dX8_entry_11 : decode cX8_entry 11 = .ok (.iconst 5, 1) := by decide +kernel
theorem dX8_entry_12 : decode cX8_entry 12 = .ok (.laload, 1) := by decide +kernel
theorem dX8_entry_13 : decode cX8_entry 13 = .ok (.l2i, 1) := by decide +kernel
theorem dX8_entry_14 : decode cX8_entry 14 = .ok (.iconst 1, 1) := by decide +kernel
theorem dX8_entry_15 : decode cX8_entry 15 = .ok (.isub, 1) := by decide +kernel
theorem dX8_entry_16 : decode cX8_entry 16 = .ok (.invokestatic 63, 3) := by decide +kernel
theorem dX8_entry_19 : decode cX8_entry 19 = .ok (.ifCond .eq 28, 3) := by decide +kernel
theorem dX8_entry_22 : decode cX8_entry 22 = .ok (.aload_n 0, 1) := by decide +kernel
theorem dX8_entry_23 : decode cX8_entry 23 = .ok (.getfield 7, 3) := by decide +kernel
theorem dX8_entry_26 : decode cX8_entry 26 = .ok (.sipush 272, 3) := by decide +kernel
theorem dX8_entry_29 : decode cX8_entry 29 = .ok (.iconst 2, 1) := by decide +kernel
theorem dX8_entry_30 : decode cX8_entry 30 = .ok (.iload_n 1, 1) := by decide +kernel
theorem dX8_entry_31 : decode cX8_entry 31 = .ok (.imul, 1) := by decide +kernel
theorem dX8_entry_32 : decode cX8_entry 32 = .ok (.iadd, 1) := by decide +kernel
theorem dX8_entry_33 : decode cX8_entry 33 = .ok (.iload_n 2, 1) := by decide +kernel
theorem dX8_entry_34 : decode cX8_entry 34 = .ok (.ifCond .eq 7, 3) := by decide +kernel
theorem dX8_entry_37 : decode cX8_entry 37 = .ok (.iconst 1, 1) := by decide +kernel
theorem dX8_entry_38 : decode cX8_entry 38 = .ok (.goto 4, 3) := by decide +kernel
theorem dX8_entry_41 : decode cX8_entry 41 = .ok (.iconst 0, 1) := by decide +kernel
theorem dX8_entry_42 : decode cX8_entry 42 = .ok (.iadd, 1) := by decide +kernel
theorem dX8_entry_43 : decode cX8_entry 43 = .ok (.laload, 1) := by decide +kernel
theorem dX8_entry_44 : decode cX8_entry 44 = .ok (.goto 8, 3) := by decide +kernel
theorem dX8_entry_47 : decode cX8_entry 47 = .ok (.aload_n 0, 1) := by decide +kernel
theorem dX8_entry_48 : decode cX8_entry 48 = .ok (.iconst 1, 1) := by decide +kernel
theorem dX8_entry_49 : decode cX8_entry 49 = .ok (.invokevirtual 153, 3) := by decide +kernel
theorem dX8_entry_52 : decode cX8_entry 52 = .ok (.lreturn, 1) := by decide +kernel
theorem dX8_quota_0 : decode cX8_quota 0 = .ok (.lconst 0, 1) := by decide +kernel
theorem dX8_quota_1 : decode cX8_quota 1 = .ok (.lstore_n 2, 1) := by decide +kernel
theorem dX8_quota_2 : decode cX8_quota 2 = .ok (.lconst 0, 1) := by decide +kernel
theorem dX8_quota_3 : decode cX8_quota 3 = .ok (.lstore 4, 2) := by decide +kernel
theorem dX8_quota_5 : decode cX8_quota 5 = .ok (.iconst 0, 1) := by decide +kernel
theorem dX8_quota_6 : decode cX8_quota 6 = .ok (.istore 6, 2) := by decide +kernel
theorem dX8_quota_8 : decode cX8_quota 8 = .ok (.iload 6, 2) := by decide +kernel
theorem dX8_quota_10 : decode cX8_quota 10 = .ok (.aload_n 0, 1) := by decide +kernel
theorem dX8_quota_11 : decode cX8_quota 11 = .ok (.invokevirtual 67, 3) := by decide +kernel
theorem dX8_quota_14 : decode cX8_quota 14 = .ok (.if_icmp .ge 106, 3) := by decide +kernel
theorem dX8_quota_17 : decode cX8_quota 17 = .ok (.aload_n 0, 1) := by decide +kernel
theorem dX8_quota_18 : decode cX8_quota 18 = .ok (.getfield 7, 3) := by decide +kernel
theorem dX8_quota_21 : decode cX8_quota 21 = .ok (.bipush 14, 2) := by decide +kernel
theorem dX8_quota_23 : decode cX8_quota 23 = .ok (.aload_n 0, 1) := by decide +kernel
theorem dX8_quota_24 : decode cX8_quota 24 = .ok (.getfield 7, 3) := by decide +kernel
theorem dX8_quota_27 : decode cX8_quota 27 = .ok (.aload_n 0, 1) := by decide +kernel
theorem dX8_quota_28 : decode cX8_quota 28 = .ok (.iload 6, 2) := by decide +kernel
theorem dX8_quota_30 : decode cX8_quota 30 = .ok (.iconst 0, 1) := by decide +kernel
theorem dX8_quota_31 : decode cX8_quota 31 = .ok (.invokevirtual 90, 3) := by decide +kernel
theorem dX8_quota_34 : decode cX8_quota 34 = .ok (.laload, 1) := by decide +kernel
theorem dX8_quota_35 : decode cX8_quota 35 = .ok (.l2i, 1) := by decide +kernel
theorem dX8_quota_36 : decode cX8_quota 36 = .ok (.iadd, 1) := by decide +kernel
theorem dX8_quota_37 : decode cX8_quota 37 = .ok (.laload, 1) := by decide +kernel
theorem dX8_quota_38 : decode cX8_quota 38 = .ok (.iload_n 1, 1) := by decide +kernel
theorem dX8_quota_39 : decode cX8_quota 39 = .ok (.i2l, 1) := by decide +kernel
theorem dX8_quota_40 : decode cX8_quota 40 = .ok (.lcmp, 1) := by decide +kernel
theorem dX8_quota_41 : decode cX8_quota 41 = .ok (.ifCond .ne 7, 3) := by decide +kernel
theorem dX8_quota_44 : decode cX8_quota 44 = .ok (.iconst 1, 1) := by decide +kernel
theorem dX8_quota_45 : decode cX8_quota 45 = .ok (.goto 4, 3) := by decide +kernel
theorem dX8_quota_48 : decode cX8_quota 48 = .ok (.iconst 0, 1) := by decide +kernel
theorem dX8_quota_49 : decode cX8_quota 49 = .ok (.istore 7, 2) := by decide +kernel
theorem dX8_quota_51 : decode cX8_quota 51 = .ok (.lload_n 2, 1) := by decide +kernel
theorem dX8_quota_52 : decode cX8_quota 52 = .ok (.iload 7, 2) := by decide +kernel
theorem dX8_quota_54 : decode cX8_quota 54 = .ok (.ifCond .eq 18, 3) := by decide +kernel
theorem dX8_quota_57 : decode cX8_quota 57 = .ok (.aload_n 0, 1) := by decide +kernel
theorem dX8_quota_58 : decode cX8_quota 58 = .ok (.getfield 7, 3) := by decide +kernel
theorem dX8_quota_61 : decode cX8_quota 61 = .ok (.aload_n 0, 1) := by decide +kernel
theorem dX8_quota_62 : decode cX8_quota 62 = .ok (.iload 6, 2) := by decide +kernel
theorem dX8_quota_64 : decode cX8_quota 64 = .ok (.iconst 3, 1) := by decide +kernel
theorem dX8_quota_65 : decode cX8_quota 65 = .ok (.invokevirtual 90, 3) := by decide +kernel
theorem dX8_quota_68 : decode cX8_quota 68 = .ok (.laload, 1) := by decide +kernel
theorem dX8_quota_69 : decode cX8_quota 69 = .ok (.goto 4, 3) := by decide +kernel
theorem dX8_quota_72 : decode cX8_quota 72 = .ok (.lconst 0, 1) := by decide +kernel
theorem dX8_quota_73 : decode cX8_quota 73 = .ok (.ladd, 1) := by decide +kernel
theorem dX8_quota_74 : decode cX8_quota 74 = .ok (.lstore_n 2, 1) := by decide +kernel
theorem dX8_quota_75 : decode cX8_quota 75 = .ok (.lload 4, 2) := by decide +kernel
theorem dX8_quota_77 : decode cX8_quota 77 = .ok (.iload 7, 2) := by decide +kernel
theorem dX8_quota_79 : decode cX8_quota 79 = .ok (.ifCond .eq 31, 3) := by decide +kernel
theorem dX8_quota_82 : decode cX8_quota 82 = .ok (.aload_n 0, 1) := by decide +kernel
theorem dX8_quota_83 : decode cX8_quota 83 = .ok (.getfield 7, 3) := by decide +kernel
theorem dX8_quota_86 : decode cX8_quota 86 = .ok (.aload_n 0, 1) := by decide +kernel
theorem dX8_quota_87 : decode cX8_quota 87 = .ok (.iload 6, 2) := by decide +kernel
theorem dX8_quota_89 : decode cX8_quota 89 = .ok (.iconst 2, 1) := by decide +kernel
theorem dX8_quota_90 : decode cX8_quota 90 = .ok (.invokevirtual 90, 3) := by decide +kernel
theorem dX8_quota_93 : decode cX8_quota 93 = .ok (.laload, 1) := by decide +kernel
theorem dX8_quota_94 : decode cX8_quota 94 = .ok (.aload_n 0, 1) := by decide +kernel
theorem dX8_quota_95 : decode cX8_quota 95 = .ok (.getfield 7, 3) := by decide +kernel
theorem dX8_quota_98 : decode cX8_quota 98 = .ok (.aload_n 0, 1) := by decide +kernel
theorem dX8_quota_99 : decode cX8_quota 99 = .ok (.iload 6, 2) := by decide +kernel
theorem dX8_quota_101 : decode cX8_quota 101 = .ok (.iconst 5, 1) := by decide +kernel
theorem dX8_quota_102 : decode cX8_quota 102 = .ok (.invokevirtual 90, 3) := by decide +kernel
theorem dX8_quota_105 : decode cX8_quota 105 = .ok (.laload, 1) := by decide +kernel
theorem dX8_quota_106 : decode cX8_quota 106 = .ok (.lsub, 1) := by decide +kernel
theorem dX8_quota_107 : decode cX8_quota 107 = .ok (.goto 4, 3) := by decide +kernel
theorem dX8_quota_110 : decode cX8_quota 110 = .ok (.lconst 0, 1) := by decide +kernel
theorem dX8_quota_111 : decode cX8_quota 111 = .ok (.ladd, 1) := by decide +kernel
theorem dX8_quota_112 : decode cX8_quota 112 = .ok (.lstore 4, 2) := by decide +kernel
theorem dX8_quota_114 : decode cX8_quota 114 = .ok (.iinc 6 1, 3) := by decide +kernel
theorem dX8_quota_117 : decode cX8_quota 117 = .ok (.goto (-109), 3) := by decide +kernel
theorem dX8_quota_120 : decode cX8_quota 120 = .ok (.aload_n 0, 1) := by decide +kernel
theorem dX8_quota_121 : decode cX8_quota 121 = .ok (.iload_n 1, 1) := by decide +kernel
theorem dX8_quota_122 : decode cX8_quota 122 = .ok (.iconst 0, 1) := by decide +kernel
theorem dX8_quota_123 : decode cX8_quota 123 = .ok (.iconst 1, 1) := by decide +kernel
theorem dX8_quota_124 : decode cX8_quota 124 = .ok (.invokestatic 63, 3) := by decide +kernel
theorem dX8_quota_127 : decode cX8_quota 127 = .ok (.ifCond .ne 7, 3) := by decide +kernel
theorem dX8_quota_130 : decode cX8_quota 130 = .ok (.iconst 1, 1) := by decide +kernel
theorem dX8_quota_131 : decode cX8_quota 131 = .ok (.goto 15, 3) := by decide +kernel
theorem dX8_quota_134 : decode cX8_quota 134 = .ok (.lload 4, 2) := by decide +kernel
theorem dX8_quota_136 : decode cX8_quota 136 = .ok (.lconst 0, 1) := by decide +kernel
theorem dX8_quota_137 : decode cX8_quota 137 = .ok (.lcmp, 1) := by decide +kernel
theorem dX8_quota_138 : decode cX8_quota 138 = .ok (.ifCond .ne 7, 3) := by decide +kernel
theorem dX8_quota_141 : decode cX8_quota 141 = .ok (.iconst 2, 1) := by decide +kernel
theorem dX8_quota_142 : decode cX8_quota 142 = .ok (.goto 4, 3) := by decide +kernel
theorem dX8_quota_145 : decode cX8_quota 145 = .ok (.iconst 0, 1) := by decide +kernel
theorem dX8_quota_146 : decode cX8_quota 146 = .ok (.putfield 42, 3) := by decide +kernel
theorem dX8_quota_149 : decode cX8_quota 149 = .ok (.aload_n 0, 1) := by decide +kernel
theorem dX8_quota_150 : decode cX8_quota 150 = .ok (.getfield 42, 3) := by decide +kernel
theorem dX8_quota_153 : decode cX8_quota 153 = .ok (.ifCond .le 7, 3) := by decide +kernel
theorem dX8_quota_156 : decode cX8_quota 156 = .ok (.dconst 0, 1) := by decide +kernel
theorem dX8_quota_157 : decode cX8_quota 157 = .ok (.goto 9, 3) := by decide +kernel
theorem dX8_quota_160 : decode cX8_quota 160 = .ok (.lload_n 2, 1) := by decide +kernel
theorem dX8_quota_161 : decode cX8_quota 161 = .ok (.l2d, 1) := by decide +kernel
theorem dX8_quota_162 : decode cX8_quota 162 = .ok (.lload 4, 2) := by decide +kernel
theorem dX8_quota_164 : decode cX8_quota 164 = .ok (.l2d, 1) := by decide +kernel
theorem dX8_quota_165 : decode cX8_quota 165 = .ok (.ddiv, 1) := by decide +kernel
theorem dX8_quota_166 : decode cX8_quota 166 = .ok (.dreturn, 1) := by decide +kernel
theorem dX8_append_0 : decode cX8_append 0 = .ok (.aload_n 0, 1) := by decide +kernel
theorem dX8_append_1 : decode cX8_append 1 = .ok (.iconst 0, 1) := by decide +kernel
theorem dX8_append_2 : decode cX8_append 2 = .ok (.putfield 42, 3) := by decide +kernel
theorem dX8_append_5 : decode cX8_append 5 = .ok (.iload_n 1, 1) := by decide +kernel
theorem dX8_append_6 : decode cX8_append 6 = .ok (.bipush 32, 2) := by decide +kernel
theorem dX8_append_8 : decode cX8_append 8 = .ok (.bipush 126, 2) := by decide +kernel
theorem dX8_append_10 : decode cX8_append 10 = .ok (.invokestatic 63, 3) := by decide +kernel
theorem dX8_append_13 : decode cX8_append 13 = .ok (.ifCond .ne 9, 3) := by decide +kernel
theorem dX8_append_16 : decode cX8_append 16 = .ok (.aload_n 0, 1) := by decide +kernel
theorem dX8_append_17 : decode cX8_append 17 = .ok (.iconst 1, 1) := by decide +kernel
theorem dX8_append_18 : decode cX8_append 18 = .ok (.invokevirtual 79, 3) := by decide +kernel
theorem dX8_append_21 : decode cX8_append 21 = .ok (.ireturn, 1) := by decide +kernel
theorem dX8_append_22 : decode cX8_append 22 = .ok (.aload_n 0, 1) := by decide +kernel
theorem dX8_append_23 : decode cX8_append 23 = .ok (.getfield 262, 3) := by decide +kernel
theorem dX8_append_26 : decode cX8_append 26 = .ok (.bipush 70, 2) := by decide +kernel
theorem dX8_append_28 : decode cX8_append 28 = .ok (.if_icmp .ne 9, 3) := by decide +kernel
theorem dX8_append_31 : decode cX8_append 31 = .ok (.aload_n 0, 1) := by decide +kernel
theorem dX8_append_32 : decode cX8_append 32 = .ok (.iconst 2, 1) := by decide +kernel
theorem dX8_append_33 : decode cX8_append 33 = .ok (.invokevirtual 79, 3) := by decide +kernel
theorem dX8_append_36 : decode cX8_append 36 = .ok (.ireturn, 1) := by decide +kernel
theorem dX8_append_37 : decode cX8_append 37 = .ok (.aload_n 0, 1) := by decide +kernel
theorem dX8_append_38 : decode cX8_append 38 = .ok (.getfield 22, 3) := by decide +kernel
theorem dX8_append_41 : decode cX8_append 41 = .ok (.aload_n 0, 1) := by decide +kernel
theorem dX8_append_42 : decode cX8_append 42 = .ok (.getfield 262, 3) := by decide +kernel
theorem dX8_append_45 : decode cX8_append 45 = .ok (.iload_n 1, 1) := by decide +kernel
theorem dX8_append_46 : decode cX8_append 46 = .ok (.iastore, 1) := by decide +kernel
theorem dX8_append_47 : decode cX8_append 47 = .ok (.aload_n 0, 1) := by decide +kernel
theorem dX8_append_48 : decode cX8_append 48 = .ok (.dup, 1) := by decide +kernel
theorem dX8_append_49 : decode cX8_append 49 = .ok (.getfield 262, 3) := by decide +kernel
theorem dX8_append_52 : decode cX8_append 52 = .ok (.iconst 1, 1) := by decide +kernel
theorem dX8_append_53 : decode cX8_append 53 = .ok (.iadd, 1) := by decide +kernel
theorem dX8_append_54 : decode cX8_append 54 = .ok (.putfield 262, 3) := by decide +kernel
theorem dX8_append_57 : decode cX8_append 57 = .ok (.aload_n 0, 1) := by decide +kernel
theorem dX8_append_58 : decode cX8_append 58 = .ok (.getfield 262, 3) := by decide +kernel
theorem dX8_append_61 : decode cX8_append 61 = .ok (.ireturn, 1) := by decide +kernel
theorem dX8_here_0 : decode cX8_here 0 = .ok (.aload_n 0, 1) := by decide +kernel
theorem dX8_here_1 : decode cX8_here 1 = .ok (.getfield 265, 3) := by decide +kernel
theorem dX8_here_4 : decode cX8_here 4 = .ok (.aload_n 0, 1) := by decide +kernel
theorem dX8_here_5 : decode cX8_here 5 = .ok (.getfield 268, 3) := by decide +kernel
theorem dX8_here_8 : decode cX8_here 8 = .ok (.if_icmp .ge 15, 3) := by decide +kernel
theorem dX8_here_11 : decode cX8_here 11 = .ok (.aload_n 0, 1) := by decide +kernel
theorem dX8_here_12 : decode cX8_here 12 = .ok (.getfield 22, 3) := by decide +kernel
theorem dX8_here_15 : decode cX8_here 15 = .ok (.aload_n 0, 1) := by decide +kernel
theorem dX8_here_16 : decode cX8_here 16 = .ok (.getfield 265, 3) := by decide +kernel
theorem dX8_here_19 : decode cX8_here 19 = .ok (.iaload, 1) := by decide +kernel
theorem dX8_here_20 : decode cX8_here 20 = .ok (.goto 4, 3) := by decide +kernel
theorem dX8_here_23 : decode cX8_here 23 = .ok (.iconst (-1), 1) := by decide +kernel
theorem dX8_here_24 : decode cX8_here 24 = .ok (.ireturn, 1) := by decide +kernel
theorem dX8_must_0 : decode cX8_must 0 = .ok (.aload_n 0, 1) := by decide +kernel
theorem dX8_must_1 : decode cX8_must 1 = .ok (.aload_n 0, 1) := by decide +kernel
theorem dX8_must_2 : decode cX8_must 2 = .ok (.getfield 271, 3) := by decide +kernel
theorem dX8_must_5 : decode cX8_must 5 = .ok (.ifCond .eq 15, 3) := by decide +kernel
theorem dX8_must_8 : decode cX8_must 8 = .ok (.aload_n 0, 1) := by decide +kernel
theorem dX8_must_9 : decode cX8_must 9 = .ok (.invokevirtual 275, 3) := by decide +kernel
theorem dX8_must_12 : decode cX8_must 12 = .ok (.iload_n 1, 1) := by decide +kernel
theorem dX8_must_13 : decode cX8_must 13 = .ok (.if_icmp .ne 7, 3) := by decide +kernel
theorem dX8_must_16 : decode cX8_must 16 = .ok (.iconst 1, 1) := by decide +kernel
theorem dX8_must_17 : decode cX8_must 17 = .ok (.goto 4, 3) := by decide +kernel
theorem dX8_must_20 : decode cX8_must 20 = .ok (.iconst 0, 1) := by decide +kernel
theorem dX8_must_21 : decode cX8_must 21 = .ok (.putfield 271, 3) := by decide +kernel
theorem dX8_must_24 : decode cX8_must 24 = .ok (.aload_n 0, 1) := by decide +kernel
theorem dX8_must_25 : decode cX8_must 25 = .ok (.dup, 1) := by decide +kernel
theorem dX8_must_26 : decode cX8_must 26 = .ok (.getfield 265, 3) := by decide +kernel
theorem dX8_must_29 : decode cX8_must 29 = .ok (.aload_n 0, 1) := by decide +kernel
theorem dX8_must_30 : decode cX8_must 30 = .ok (.getfield 271, 3) := by decide +kernel
theorem dX8_must_33 : decode cX8_must 33 = .ok (.ifCond .eq 7, 3) := by decide +kernel
theorem dX8_must_36 : decode cX8_must 36 = .ok (.iconst 1, 1) := by decide +kernel
theorem dX8_must_37 : decode cX8_must 37 = .ok (.goto 4, 3) := by decide +kernel
theorem dX8_must_40 : decode cX8_must 40 = .ok (.iconst 0, 1) := by decide +kernel
theorem dX8_must_41 : decode cX8_must 41 = .ok (.iadd, 1) := by decide +kernel
theorem dX8_must_42 : decode cX8_must 42 = .ok (.putfield 265, 3) := by decide +kernel
theorem dX8_must_45 : decode cX8_must 45 = .ok (.return_, 1) := by decide +kernel
theorem dX8_number_0 : decode cX8_number 0 = .ok (.iconst 0, 1) := by decide +kernel
theorem dX8_number_1 : decode cX8_number 1 = .ok (.istore_n 2, 1) := by decide +kernel
theorem dX8_number_2 : decode cX8_number 2 = .ok (.aload_n 0, 1) := by decide +kernel
theorem dX8_number_3 : decode cX8_number 3 = .ok (.aload_n 0, 1) := by decide +kernel
theorem dX8_number_4 : decode cX8_number 4 = .ok (.getfield 271, 3) := by decide +kernel
theorem dX8_number_7 : decode cX8_number 7 = .ok (.ifCond .eq 21, 3) := by decide +kernel
theorem dX8_number_10 : decode cX8_number 10 = .ok (.aload_n 0, 1) := by decide +kernel
theorem dX8_number_11 : decode cX8_number 11 = .ok (.invokevirtual 275, 3) := by decide +kernel
theorem dX8_number_14 : decode cX8_number 14 = .ok (.bipush 48, 2) := by decide +kernel
theorem dX8_number_16 : decode cX8_number 16 = .ok (.bipush 57, 2) := by decide +kernel
theorem dX8_number_18 : decode cX8_number 18 = .ok (.invokestatic 63, 3) := by decide +kernel
theorem dX8_number_21 : decode cX8_number 21 = .ok (.ifCond .eq 7, 3) := by decide +kernel
theorem dX8_number_24 : decode cX8_number 24 = .ok (.iconst 1, 1) := by decide +kernel
theorem dX8_number_25 : decode cX8_number 25 = .ok (.goto 4, 3) := by decide +kernel
theorem dX8_number_28 : decode cX8_number 28 = .ok (.iconst 0, 1) := by decide +kernel
theorem dX8_number_29 : decode cX8_number 29 = .ok (.putfield 271, 3) := by decide +kernel
theorem dX8_number_32 : decode cX8_number 32 = .ok (.iconst 0, 1) := by decide +kernel
theorem dX8_number_33 : decode cX8_number 33 = .ok (.istore_n 3, 1) := by decide +kernel
theorem dX8_number_34 : decode cX8_number 34 = .ok (.iload_n 3, 1) := by decide +kernel
theorem dX8_number_35 : decode cX8_number 35 = .ok (.iload_n 1, 1) := by decide +kernel
theorem dX8_number_36 : decode cX8_number 36 = .ok (.if_icmp .ge 53, 3) := by decide +kernel
theorem dX8_number_39 : decode cX8_number 39 = .ok (.aload_n 0, 1) := by decide +kernel
theorem dX8_number_40 : decode cX8_number 40 = .ok (.getfield 271, 3) := by decide +kernel
theorem dX8_number_43 : decode cX8_number 43 = .ok (.ifCond .eq 46, 3) := by decide +kernel
theorem dX8_number_46 : decode cX8_number 46 = .ok (.aload_n 0, 1) := by decide +kernel
theorem dX8_number_47 : decode cX8_number 47 = .ok (.invokevirtual 275, 3) := by decide +kernel
theorem dX8_number_50 : decode cX8_number 50 = .ok (.bipush 48, 2) := by decide +kernel
theorem dX8_number_52 : decode cX8_number 52 = .ok (.bipush 57, 2) := by decide +kernel
theorem dX8_number_54 : decode cX8_number 54 = .ok (.invokestatic 63, 3) := by decide +kernel
theorem dX8_number_57 : decode cX8_number 57 = .ok (.ifCond .eq 32, 3) := by decide +kernel
theorem dX8_number_60 : decode cX8_number 60 = .ok (.bipush 10, 2) := by decide +kernel
theorem dX8_number_62 : decode cX8_number 62 = .ok (.iload_n 2, 1) := by decide +kernel
theorem dX8_number_63 : decode cX8_number 63 = .ok (.imul, 1) := by decide +kernel
theorem dX8_number_64 : decode cX8_number 64 = .ok (.aload_n 0, 1) := by decide +kernel
theorem dX8_number_65 : decode cX8_number 65 = .ok (.invokevirtual 275, 3) := by decide +kernel
theorem dX8_number_68 : decode cX8_number 68 = .ok (.iadd, 1) := by decide +kernel
theorem dX8_number_69 : decode cX8_number 69 = .ok (.bipush 48, 2) := by decide +kernel
theorem dX8_number_71 : decode cX8_number 71 = .ok (.isub, 1) := by decide +kernel
theorem dX8_number_72 : decode cX8_number 72 = .ok (.istore_n 2, 1) := by decide +kernel
theorem dX8_number_73 : decode cX8_number 73 = .ok (.aload_n 0, 1) := by decide +kernel
theorem dX8_number_74 : decode cX8_number 74 = .ok (.dup, 1) := by decide +kernel
theorem dX8_number_75 : decode cX8_number 75 = .ok (.getfield 265, 3) := by decide +kernel
theorem dX8_number_78 : decode cX8_number 78 = .ok (.iconst 1, 1) := by decide +kernel
theorem dX8_number_79 : decode cX8_number 79 = .ok (.iadd, 1) := by decide +kernel
theorem dX8_number_80 : decode cX8_number 80 = .ok (.putfield 265, 3) := by decide +kernel
theorem dX8_number_83 : decode cX8_number 83 = .ok (.iinc 3 1, 3) := by decide +kernel
theorem dX8_number_86 : decode cX8_number 86 = .ok (.goto (-52), 3) := by decide +kernel
theorem dX8_number_89 : decode cX8_number 89 = .ok (.iload_n 2, 1) := by decide +kernel
theorem dX8_number_90 : decode cX8_number 90 = .ok (.ireturn, 1) := by decide +kernel
theorem dX8_readsEntry_0 : decode cX8_readsEntry 0 = .ok (.iconst 3, 1) := by decide +kernel
theorem dX8_readsEntry_1 : decode cX8_readsEntry 1 = .ok (.aload_n 0, 1) := by decide +kernel
theorem dX8_readsEntry_2 : decode cX8_readsEntry 2 = .ok (.getfield 278, 3) := by decide +kernel
theorem dX8_readsEntry_5 : decode cX8_readsEntry 5 = .ok (.imul, 1) := by decide +kernel
theorem dX8_readsEntry_6 : decode cX8_readsEntry 6 = .ok (.istore_n 1, 1) := by decide +kernel
theorem dX8_readsEntry_7 : decode cX8_readsEntry 7 = .ok (.aload_n 0, 1) := by decide +kernel
theorem dX8_readsEntry_8 : decode cX8_readsEntry 8 = .ok (.invokevirtual 275, 3) := by decide +kernel
theorem dX8_readsEntry_11 : decode cX8_readsEntry 11 = .ok (.istore_n 2, 1) := by decide +kernel
theorem dX8_readsEntry_12 : decode cX8_readsEntry 12 = .ok (.aload_n 0, 1) := by decide +kernel
theorem dX8_readsEntry_13 : decode cX8_readsEntry 13 = .ok (.getfield 33, 3) := by decide +kernel
theorem dX8_readsEntry_16 : decode cX8_readsEntry 16 = .ok (.aload_n 0, 1) := by decide +kernel
theorem dX8_readsEntry_17 : decode cX8_readsEntry 17 = .ok (.getfield 278, 3) := by decide +kernel
theorem dX8_readsEntry_20 : decode cX8_readsEntry 20 = .ok (.iload_n 2, 1) := by decide +kernel
theorem dX8_readsEntry_21 : decode cX8_readsEntry 21 = .ok (.iastore, 1) := by decide +kernel
theorem dX8_readsEntry_22 : decode cX8_readsEntry 22 = .ok (.aload_n 0, 1) := by decide +kernel
theorem dX8_readsEntry_23 : decode cX8_readsEntry 23 = .ok (.iload_n 2, 1) := by decide +kernel
theorem dX8_readsEntry_24 : decode cX8_readsEntry 24 = .ok (.bipush 99, 2) := by decide +kernel
theorem dX8_readsEntry_26 : decode cX8_readsEntry 26 = .ok (.if_icmp .eq 45, 3) := by decide +kernel
theorem dX8_readsEntry_29 : decode cX8_readsEntry 29 = .ok (.iload_n 2, 1) := by decide +kernel
theorem dX8_readsEntry_30 : decode cX8_readsEntry 30 = .ok (.bipush 97, 2) := by decide +kernel
theorem dX8_readsEntry_32 : decode cX8_readsEntry 32 = .ok (.if_icmp .eq 39, 3) := by decide +kernel
theorem dX8_readsEntry_35 : decode cX8_readsEntry 35 = .ok (.iload_n 2, 1) := by decide +kernel
theorem dX8_readsEntry_36 : decode cX8_readsEntry 36 = .ok (.bipush 100, 2) := by decide +kernel
theorem dX8_readsEntry_38 : decode cX8_readsEntry 38 = .ok (.if_icmp .eq 33, 3) := by decide +kernel
theorem dX8_readsEntry_41 : decode cX8_readsEntry 41 = .ok (.iload_n 2, 1) := by decide +kernel
theorem dX8_readsEntry_42 : decode cX8_readsEntry 42 = .ok (.bipush 119, 2) := by decide +kernel
theorem dX8_readsEntry_44 : decode cX8_readsEntry 44 = .ok (.if_icmp .eq 27, 3) := by decide +kernel
theorem dX8_readsEntry_47 : decode cX8_readsEntry 47 = .ok (.iload_n 2, 1) := by decide +kernel
theorem dX8_readsEntry_48 : decode cX8_readsEntry 48 = .ok (.bipush 112, 2) := by decide +kernel
theorem dX8_readsEntry_50 : decode cX8_readsEntry 50 = .ok (.if_icmp .eq 21, 3) := by decide +kernel
theorem dX8_readsEntry_53 : decode cX8_readsEntry 53 = .ok (.iload_n 2, 1) := by decide +kernel
theorem dX8_readsEntry_54 : decode cX8_readsEntry 54 = .ok (.bipush 115, 2) := by decide +kernel
theorem dX8_readsEntry_56 : decode cX8_readsEntry 56 = .ok (.if_icmp .eq 15, 3) := by decide +kernel
theorem dX8_readsEntry_59 : decode cX8_readsEntry 59 = .ok (.iload_n 2, 1) := by decide +kernel
theorem dX8_readsEntry_60 : decode cX8_readsEntry 60 = .ok (.bipush 110, 2) := by decide +kernel
theorem dX8_readsEntry_62 : decode cX8_readsEntry 62 = .ok (.if_icmp .eq 9, 3) := by decide +kernel
theorem dX8_readsEntry_65 : decode cX8_readsEntry 65 = .ok (.iload_n 2, 1) := by decide +kernel
theorem dX8_readsEntry_66 : decode cX8_readsEntry 66 = .ok (.bipush 103, 2) := by decide +kernel
theorem dX8_readsEntry_68 : decode cX8_readsEntry 68 = .ok (.if_icmp .ne 7, 3) := by decide +kernel
theorem dX8_readsEntry_71 : decode cX8_readsEntry 71 = .ok (.iconst 1, 1) := by decide +kernel
theorem dX8_readsEntry_72 : decode cX8_readsEntry 72 = .ok (.goto 4, 3) := by decide +kernel
theorem dX8_readsEntry_75 : decode cX8_readsEntry 75 = .ok (.iconst 0, 1) := by decide +kernel
theorem dX8_readsEntry_76 : decode cX8_readsEntry 76 = .ok (.putfield 271, 3) := by decide +kernel
theorem dX8_readsEntry_79 : decode cX8_readsEntry 79 = .ok (.aload_n 0, 1) := by decide +kernel
theorem dX8_readsEntry_80 : decode cX8_readsEntry 80 = .ok (.dup, 1) := by decide +kernel
theorem dX8_readsEntry_81 : decode cX8_readsEntry 81 = .ok (.getfield 265, 3) := by decide +kernel
theorem dX8_readsEntry_84 : decode cX8_readsEntry 84 = .ok (.aload_n 0, 1) := by decide +kernel
theorem dX8_readsEntry_85 : decode cX8_readsEntry 85 = .ok (.getfield 271, 3) := by decide +kernel
theorem dX8_readsEntry_88 : decode cX8_readsEntry 88 = .ok (.ifCond .eq 7, 3) := by decide +kernel
theorem dX8_readsEntry_91 : decode cX8_readsEntry 91 = .ok (.iconst 1, 1) := by decide +kernel
theorem dX8_readsEntry_92 : decode cX8_readsEntry 92 = .ok (.goto 4, 3) := by decide +kernel
theorem dX8_readsEntry_95 : decode cX8_readsEntry 95 = .ok (.iconst 0, 1) := by decide +kernel
theorem dX8_readsEntry_96 : decode cX8_readsEntry 96 = .ok (.iadd, 1) := by decide +kernel
theorem dX8_readsEntry_97 : decode cX8_readsEntry 97 = .ok (.putfield 265, 3) := by decide +kernel
theorem dX8_readsEntry_100 : decode cX8_readsEntry 100 = .ok (.aload_n 0, 1) := by decide +kernel
theorem dX8_readsEntry_101 : decode cX8_readsEntry 101 = .ok (.getfield 271, 3) := by decide +kernel
theorem dX8_readsEntry_104 : decode cX8_readsEntry 104 = .ok (.ifCond .ne 4, 3) := by decide +kernel
theorem dX8_readsEntry_107 : decode cX8_readsEntry 107 = .ok (.return_, 1) := by decide +kernel
theorem dX8_readsEntry_108 : decode cX8_readsEntry 108 = .ok (.iload_n 2, 1) := by decide +kernel
theorem dX8_readsEntry_109 : decode cX8_readsEntry 109 = .ok (.bipush 103, 2) := by decide +kernel
theorem dX8_readsEntry_111 : decode cX8_readsEntry 111 = .ok (.if_icmp .eq 36, 3) := by decide +kernel
theorem dX8_readsEntry_114 : decode cX8_readsEntry 114 = .ok (.aload_n 0, 1) := by decide +kernel
theorem dX8_readsEntry_115 : decode cX8_readsEntry 115 = .ok (.getfield 36, 3) := by decide +kernel
theorem dX8_readsEntry_118 : decode cX8_readsEntry 118 = .ok (.iload_n 1, 1) := by decide +kernel
theorem dX8_readsEntry_119 : decode cX8_readsEntry 119 = .ok (.aload_n 0, 1) := by decide +kernel
theorem dX8_readsEntry_120 : decode cX8_readsEntry 120 = .ok (.iload_n 2, 1) := by decide +kernel
theorem dX8_readsEntry_121 : decode cX8_readsEntry 121 = .ok (.bipush 99, 2) := by decide +kernel
theorem dX8_readsEntry_123 : decode cX8_readsEntry 123 = .ok (.if_icmp .eq 15, 3) := by decide +kernel
theorem dX8_readsEntry_126 : decode cX8_readsEntry 126 = .ok (.iload_n 2, 1) := by decide +kernel
theorem dX8_readsEntry_127 : decode cX8_readsEntry 127 = .ok (.bipush 112, 2) := by decide +kernel
theorem dX8_readsEntry_129 : decode cX8_readsEntry 129 = .ok (.if_icmp .eq 9, 3) := by decide +kernel
theorem dX8_readsEntry_132 : decode cX8_readsEntry 132 = .ok (.iload_n 2, 1) := by decide +kernel
theorem dX8_readsEntry_133 : decode cX8_readsEntry 133 = .ok (.bipush 115, 2) := by decide +kernel
theorem dX8_readsEntry_135 : decode cX8_readsEntry 135 = .ok (.if_icmp .ne 7, 3) := by decide +kernel
theorem dX8_readsEntry_138 : decode cX8_readsEntry 138 = .ok (.iconst 1, 1) := by decide +kernel
theorem dX8_readsEntry_139 : decode cX8_readsEntry 139 = .ok (.goto 4, 3) := by decide +kernel
theorem dX8_readsEntry_142 : decode cX8_readsEntry 142 = .ok (.iconst 3, 1) := by decide +kernel
theorem dX8_readsEntry_143 : decode cX8_readsEntry 143 = .ok (.invokevirtual 281, 3) := by decide +kernel
theorem dX8_readsEntry_146 : decode cX8_readsEntry 146 = .ok (.iastore, 1) := by decide +kernel
theorem dX8_readsEntry_147 : decode cX8_readsEntry 147 = .ok (.iload_n 2, 1) := by decide +kernel
theorem dX8_readsEntry_148 : decode cX8_readsEntry 148 = .ok (.bipush 99, 2) := by decide +kernel
theorem dX8_readsEntry_150 : decode cX8_readsEntry 150 = .ok (.if_icmp .eq 9, 3) := by decide +kernel
theorem dX8_readsEntry_153 : decode cX8_readsEntry 153 = .ok (.iload_n 2, 1) := by decide +kernel
theorem dX8_readsEntry_154 : decode cX8_readsEntry 154 = .ok (.bipush 115, 2) := by decide +kernel
theorem dX8_readsEntry_156 : decode cX8_readsEntry 156 = .ok (.if_icmp .ne 22, 3) := by decide +kernel
theorem dX8_readsEntry_159 : decode cX8_readsEntry 159 = .ok (.aload_n 0, 1) := by decide +kernel
theorem dX8_readsEntry_160 : decode cX8_readsEntry 160 = .ok (.bipush 62, 2) := by decide +kernel
theorem dX8_readsEntry_162 : decode cX8_readsEntry 162 = .ok (.invokevirtual 284, 3) := by decide +kernel
theorem dX8_readsEntry_165 : decode cX8_readsEntry 165 = .ok (.aload_n 0, 1) := by decide +kernel
theorem dX8_readsEntry_166 : decode cX8_readsEntry 166 = .ok (.getfield 36, 3) := by decide +kernel
theorem dX8_readsEntry_169 : decode cX8_readsEntry 169 = .ok (.iload_n 1, 1) := by decide +kernel
theorem dX8_readsEntry_170 : decode cX8_readsEntry 170 = .ok (.iconst 1, 1) := by decide +kernel
theorem dX8_readsEntry_171 : decode cX8_readsEntry 171 = .ok (.iadd, 1) := by decide +kernel
theorem dX8_readsEntry_172 : decode cX8_readsEntry 172 = .ok (.aload_n 0, 1) := by decide +kernel
theorem dX8_readsEntry_173 : decode cX8_readsEntry 173 = .ok (.iconst 1, 1) := by decide +kernel
theorem dX8_readsEntry_174 : decode cX8_readsEntry 174 = .ok (.invokevirtual 281, 3) := by decide +kernel
theorem dX8_readsEntry_177 : decode cX8_readsEntry 177 = .ok (.iastore, 1) := by decide +kernel
theorem dX8_readsEntry_178 : decode cX8_readsEntry 178 = .ok (.iload_n 2, 1) := by decide +kernel
theorem dX8_readsEntry_179 : decode cX8_readsEntry 179 = .ok (.bipush 103, 2) := by decide +kernel
theorem dX8_readsEntry_181 : decode cX8_readsEntry 181 = .ok (.if_icmp .eq 29, 3) := by decide +kernel
theorem dX8_readsEntry_184 : decode cX8_readsEntry 184 = .ok (.iload_n 2, 1) := by decide +kernel
theorem dX8_readsEntry_185 : decode cX8_readsEntry 185 = .ok (.bipush 110, 2) := by decide +kernel
theorem dX8_readsEntry_187 : decode cX8_readsEntry 187 = .ok (.if_icmp .eq 23, 3) := by decide +kernel
theorem dX8_readsEntry_190 : decode cX8_readsEntry 190 = .ok (.aload_n 0, 1) := by decide +kernel
theorem dX8_readsEntry_191 : decode cX8_readsEntry 191 = .ok (.bipush 58, 2) := by decide +kernel
theorem dX8_readsEntry_193 : decode cX8_readsEntry 193 = .ok (.invokevirtual 284, 3) := by decide +kernel
theorem dX8_readsEntry_196 : decode cX8_readsEntry 196 = .ok (.aload_n 0, 1) := by decide +kernel
theorem dX8_readsEntry_197 : decode cX8_readsEntry 197 = .ok (.getfield 36, 3) := by decide +kernel
theorem dX8_readsEntry_200 : decode cX8_readsEntry 200 = .ok (.iload_n 1, 1) := by decide +kernel
theorem dX8_readsEntry_201 : decode cX8_readsEntry 201 = .ok (.iconst 2, 1) := by decide +kernel
theorem dX8_readsEntry_202 : decode cX8_readsEntry 202 = .ok (.iadd, 1) := by decide +kernel
theorem dX8_readsEntry_203 : decode cX8_readsEntry 203 = .ok (.aload_n 0, 1) := by decide +kernel
theorem dX8_readsEntry_204 : decode cX8_readsEntry 204 = .ok (.bipush 9, 2) := by decide +kernel
theorem dX8_readsEntry_206 : decode cX8_readsEntry 206 = .ok (.invokevirtual 281, 3) := by decide +kernel
theorem dX8_readsEntry_209 : decode cX8_readsEntry 209 = .ok (.iastore, 1) := by decide +kernel
theorem dX8_readsEntry_210 : decode cX8_readsEntry 210 = .ok (.aload_n 0, 1) := by decide +kernel
theorem dX8_readsEntry_211 : decode cX8_readsEntry 211 = .ok (.bipush 59, 2) := by decide +kernel
theorem dX8_readsEntry_213 : decode cX8_readsEntry 213 = .ok (.invokevirtual 284, 3) := by decide +kernel
theorem dX8_readsEntry_216 : decode cX8_readsEntry 216 = .ok (.aload_n 0, 1) := by decide +kernel
theorem dX8_readsEntry_217 : decode cX8_readsEntry 217 = .ok (.dup, 1) := by decide +kernel
theorem dX8_readsEntry_218 : decode cX8_readsEntry 218 = .ok (.getfield 278, 3) := by decide +kernel
theorem dX8_readsEntry_221 : decode cX8_readsEntry 221 = .ok (.iconst 1, 1) := by decide +kernel
theorem dX8_readsEntry_222 : decode cX8_readsEntry 222 = .ok (.iadd, 1) := by decide +kernel
theorem dX8_readsEntry_223 : decode cX8_readsEntry 223 = .ok (.putfield 278, 3) := by decide +kernel
theorem dX8_readsEntry_226 : decode cX8_readsEntry 226 = .ok (.return_, 1) := by decide +kernel
theorem dX8_readsText_0 : decode cX8_readsText 0 = .ok (.aload_n 0, 1) := by decide +kernel
theorem dX8_readsText_1 : decode cX8_readsText 1 = .ok (.iconst 0, 1) := by decide +kernel
theorem dX8_readsText_2 : decode cX8_readsText 2 = .ok (.putfield 265, 3) := by decide +kernel
theorem dX8_readsText_5 : decode cX8_readsText 5 = .ok (.aload_n 0, 1) := by decide +kernel
theorem dX8_readsText_6 : decode cX8_readsText 6 = .ok (.aload_n 0, 1) := by decide +kernel
theorem dX8_readsText_7 : decode cX8_readsText 7 = .ok (.getfield 262, 3) := by decide +kernel
theorem dX8_readsText_10 : decode cX8_readsText 10 = .ok (.putfield 268, 3) := by decide +kernel
theorem dX8_readsText_13 : decode cX8_readsText 13 = .ok (.aload_n 0, 1) := by decide +kernel
theorem dX8_readsText_14 : decode cX8_readsText 14 = .ok (.iconst 0, 1) := by decide +kernel
theorem dX8_readsText_15 : decode cX8_readsText 15 = .ok (.putfield 262, 3) := by decide +kernel
theorem dX8_readsText_18 : decode cX8_readsText 18 = .ok (.aload_n 0, 1) := by decide +kernel
theorem dX8_readsText_19 : decode cX8_readsText 19 = .ok (.iconst 0, 1) := by decide +kernel
theorem dX8_readsText_20 : decode cX8_readsText 20 = .ok (.putfield 278, 3) := by decide +kernel
theorem dX8_readsText_23 : decode cX8_readsText 23 = .ok (.aload_n 0, 1) := by decide +kernel
theorem dX8_readsText_24 : decode cX8_readsText 24 = .ok (.invokevirtual 288, 3) := by decide +kernel
theorem dX8_readsText_27 : decode cX8_readsText 27 = .ok (.aload_n 0, 1) := by decide +kernel
theorem dX8_readsText_28 : decode cX8_readsText 28 = .ok (.getfield 271, 3) := by decide +kernel
theorem dX8_readsText_31 : decode cX8_readsText 31 = .ok (.ifCond .eq 21, 3) := by decide +kernel
theorem dX8_readsText_34 : decode cX8_readsText 34 = .ok (.aload_n 0, 1) := by decide +kernel
theorem dX8_readsText_35 : decode cX8_readsText 35 = .ok (.getfield 265, 3) := by decide +kernel
theorem dX8_readsText_38 : decode cX8_readsText 38 = .ok (.aload_n 0, 1) := by decide +kernel
theorem dX8_readsText_39 : decode cX8_readsText 39 = .ok (.getfield 268, 3) := by decide +kernel
theorem dX8_readsText_42 : decode cX8_readsText 42 = .ok (.if_icmp .ge 10, 3) := by decide +kernel
theorem dX8_readsText_45 : decode cX8_readsText 45 = .ok (.aload_n 0, 1) := by decide +kernel
theorem dX8_readsText_46 : decode cX8_readsText 46 = .ok (.invokevirtual 288, 3) := by decide +kernel
theorem dX8_readsText_49 : decode cX8_readsText 49 = .ok (.goto (-22), 3) := by decide +kernel
theorem dX8_readsText_52 : decode cX8_readsText 52 = .ok (.aload_n 0, 1) := by decide +kernel
theorem dX8_readsText_53 : decode cX8_readsText 53 = .ok (.getfield 271, 3) := by decide +kernel
theorem dX8_readsText_56 : decode cX8_readsText 56 = .ok (.ireturn, 1) := by decide +kernel
theorem dX8_does_0 : decode cX8_does 0 = .ok (.aload_n 0, 1) := by decide +kernel
theorem dX8_does_1 : decode cX8_does 1 = .ok (.getfield 36, 3) := by decide +kernel
theorem dX8_does_4 : decode cX8_does 4 = .ok (.iconst 3, 1) := by decide +kernel
theorem dX8_does_5 : decode cX8_does 5 = .ok (.iload_n 1, 1) := by decide +kernel
theorem dX8_does_6 : decode cX8_does 6 = .ok (.imul, 1) := by decide +kernel
theorem dX8_does_7 : decode cX8_does 7 = .ok (.iaload, 1) := by decide +kernel
theorem dX8_does_8 : decode cX8_does 8 = .ok (.istore_n 2, 1) := by decide +kernel
theorem dX8_does_9 : decode cX8_does 9 = .ok (.aload_n 0, 1) := by decide +kernel
theorem dX8_does_10 : decode cX8_does 10 = .ok (.getfield 36, 3) := by decide +kernel
theorem dX8_does_13 : decode cX8_does 13 = .ok (.iconst 3, 1) := by decide +kernel
theorem dX8_does_14 : decode cX8_does 14 = .ok (.iload_n 1, 1) := by decide +kernel
theorem dX8_does_15 : decode cX8_does 15 = .ok (.imul, 1) := by decide +kernel
theorem dX8_does_16 : decode cX8_does 16 = .ok (.iconst 1, 1) := by decide +kernel
theorem dX8_does_17 : decode cX8_does 17 = .ok (.iadd, 1) := by decide +kernel
theorem dX8_does_18 : decode cX8_does 18 = .ok (.iaload, 1) := by decide +kernel
theorem dX8_does_19 : decode cX8_does 19 = .ok (.istore_n 3, 1) := by decide +kernel
theorem dX8_does_20 : decode cX8_does 20 = .ok (.aload_n 0, 1) := by decide +kernel
theorem dX8_does_21 : decode cX8_does 21 = .ok (.getfield 36, 3) := by decide +kernel
theorem dX8_does_24 : decode cX8_does 24 = .ok (.iconst 3, 1) := by decide +kernel
theorem dX8_does_25 : decode cX8_does 25 = .ok (.iload_n 1, 1) := by decide +kernel
theorem dX8_does_26 : decode cX8_does 26 = .ok (.imul, 1) := by decide +kernel
theorem dX8_does_27 : decode cX8_does 27 = .ok (.iconst 2, 1) := by decide +kernel
theorem dX8_does_28 : decode cX8_does 28 = .ok (.iadd, 1) := by decide +kernel
theorem dX8_does_29 : decode cX8_does 29 = .ok (.iaload, 1) := by decide +kernel
theorem dX8_does_30 : decode cX8_does 30 = .ok (.istore 4, 2) := by decide +kernel
theorem dX8_does_32 : decode cX8_does 32 = .ok (.aload_n 0, 1) := by decide +kernel
theorem dX8_does_33 : decode cX8_does 33 = .ok (.getfield 33, 3) := by decide +kernel
theorem dX8_does_36 : decode cX8_does 36 = .ok (.iload_n 1, 1) := by decide +kernel
theorem dX8_does_37 : decode cX8_does 37 = .ok (.iaload, 1) := by decide +kernel
theorem dX8_does_38 : decode cX8_does 38 = .ok (.tableswitch 165 97 119 #[115, 165, 106, 124, 165, 165, 165, 165, 165, 165, 165, 165, 165, 159, 165, 142, 165, 165, 150, 165, 165, 165, 133], 106) := by decide +kernel
theorem dX8_does_144 : decode cX8_does 144 = .ok (.aload_n 0, 1) := by decide +kernel
theorem dX8_does_145 : decode cX8_does 145 = .ok (.iload_n 2, 1) := by decide +kernel
theorem dX8_does_146 : decode cX8_does 146 = .ok (.iload_n 3, 1) := by decide +kernel
theorem dX8_does_147 : decode cX8_does 147 = .ok (.iload 4, 2) := by decide +kernel
theorem dX8_does_149 : decode cX8_does 149 = .ok (.invokevirtual 210, 3) := by decide +kernel
theorem dX8_does_152 : decode cX8_does 152 = .ok (.ireturn, 1) := by decide +kernel
theorem dX8_does_153 : decode cX8_does 153 = .ok (.aload_n 0, 1) := by decide +kernel
theorem dX8_does_154 : decode cX8_does 154 = .ok (.iconst 1, 1) := by decide +kernel
theorem dX8_does_155 : decode cX8_does 155 = .ok (.iload_n 2, 1) := by decide +kernel
theorem dX8_does_156 : decode cX8_does 156 = .ok (.iload 4, 2) := by decide +kernel
theorem dX8_does_158 : decode cX8_does 158 = .ok (.invokevirtual 217, 3) := by decide +kernel
theorem dX8_does_161 : decode cX8_does 161 = .ok (.ireturn, 1) := by decide +kernel
theorem dX8_does_162 : decode cX8_does 162 = .ok (.aload_n 0, 1) := by decide +kernel
theorem dX8_does_163 : decode cX8_does 163 = .ok (.iconst 2, 1) := by decide +kernel
theorem dX8_does_164 : decode cX8_does 164 = .ok (.iload_n 2, 1) := by decide +kernel
theorem dX8_does_165 : decode cX8_does 165 = .ok (.iload 4, 2) := by decide +kernel
theorem dX8_does_167 : decode cX8_does 167 = .ok (.invokevirtual 217, 3) := by decide +kernel
theorem dX8_does_170 : decode cX8_does 170 = .ok (.ireturn, 1) := by decide +kernel
theorem dX8_does_171 : decode cX8_does 171 = .ok (.aload_n 0, 1) := by decide +kernel
theorem dX8_does_172 : decode cX8_does 172 = .ok (.iconst 3, 1) := by decide +kernel
theorem dX8_does_173 : decode cX8_does 173 = .ok (.iload_n 2, 1) := by decide +kernel
theorem dX8_does_174 : decode cX8_does 174 = .ok (.iload 4, 2) := by decide +kernel
theorem dX8_does_176 : decode cX8_does 176 = .ok (.invokevirtual 217, 3) := by decide +kernel
theorem dX8_does_179 : decode cX8_does 179 = .ok (.ireturn, 1) := by decide +kernel
theorem dX8_does_180 : decode cX8_does 180 = .ok (.aload_n 0, 1) := by decide +kernel
theorem dX8_does_181 : decode cX8_does 181 = .ok (.iload_n 2, 1) := by decide +kernel
theorem dX8_does_182 : decode cX8_does 182 = .ok (.iload 4, 2) := by decide +kernel
theorem dX8_does_184 : decode cX8_does 184 = .ok (.invokevirtual 224, 3) := by decide +kernel
theorem dX8_does_187 : decode cX8_does 187 = .ok (.ireturn, 1) := by decide +kernel
theorem dX8_does_188 : decode cX8_does 188 = .ok (.aload_n 0, 1) := by decide +kernel
theorem dX8_does_189 : decode cX8_does 189 = .ok (.iload_n 2, 1) := by decide +kernel
theorem dX8_does_190 : decode cX8_does 190 = .ok (.iload_n 3, 1) := by decide +kernel
theorem dX8_does_191 : decode cX8_does 191 = .ok (.iload 4, 2) := by decide +kernel
theorem dX8_does_193 : decode cX8_does 193 = .ok (.invokevirtual 230, 3) := by decide +kernel
theorem dX8_does_196 : decode cX8_does 196 = .ok (.ireturn, 1) := by decide +kernel
theorem dX8_does_197 : decode cX8_does 197 = .ok (.aload_n 0, 1) := by decide +kernel
theorem dX8_does_198 : decode cX8_does 198 = .ok (.iload_n 2, 1) := by decide +kernel
theorem dX8_does_199 : decode cX8_does 199 = .ok (.invokevirtual 247, 3) := by decide +kernel
theorem dX8_does_202 : decode cX8_does 202 = .ok (.ireturn, 1) := by decide +kernel
theorem dX8_does_203 : decode cX8_does 203 = .ok (.aload_n 0, 1) := by decide +kernel
theorem dX8_does_204 : decode cX8_does 204 = .ok (.invokevirtual 250, 3) := by decide +kernel
theorem dX8_does_207 : decode cX8_does 207 = .ok (.ireturn, 1) := by decide +kernel
theorem dX8_read_0 : decode cX8_read 0 = .ok (.aload_n 0, 1) := by decide +kernel
theorem dX8_read_1 : decode cX8_read 1 = .ok (.iconst 0, 1) := by decide +kernel
theorem dX8_read_2 : decode cX8_read 2 = .ok (.putfield 42, 3) := by decide +kernel
theorem dX8_read_5 : decode cX8_read 5 = .ok (.aload_n 0, 1) := by decide +kernel
theorem dX8_read_6 : decode cX8_read 6 = .ok (.invokevirtual 76, 3) := by decide +kernel
theorem dX8_read_9 : decode cX8_read 9 = .ok (.aload_n 0, 1) := by decide +kernel
theorem dX8_read_10 : decode cX8_read 10 = .ok (.invokevirtual 291, 3) := by decide +kernel
theorem dX8_read_13 : decode cX8_read 13 = .ok (.ifCond .ne 17, 3) := by decide +kernel
theorem dX8_read_16 : decode cX8_read 16 = .ok (.aload_n 0, 1) := by decide +kernel
theorem dX8_read_17 : decode cX8_read 17 = .ok (.aload_n 0, 1) := by decide +kernel
theorem dX8_read_18 : decode cX8_read 18 = .ok (.getfield 265, 3) := by decide +kernel
theorem dX8_read_21 : decode cX8_read 21 = .ok (.putfield 26, 3) := by decide +kernel
theorem dX8_read_24 : decode cX8_read 24 = .ok (.aload_n 0, 1) := by decide +kernel
theorem dX8_read_25 : decode cX8_read 25 = .ok (.iconst 1, 1) := by decide +kernel
theorem dX8_read_26 : decode cX8_read 26 = .ok (.invokevirtual 79, 3) := by decide +kernel
theorem dX8_read_29 : decode cX8_read 29 = .ok (.ireturn, 1) := by decide +kernel
theorem dX8_read_30 : decode cX8_read 30 = .ok (.iconst 0, 1) := by decide +kernel
theorem dX8_read_31 : decode cX8_read 31 = .ok (.istore_n 1, 1) := by decide +kernel
theorem dX8_read_32 : decode cX8_read 32 = .ok (.iload_n 1, 1) := by decide +kernel
theorem dX8_read_33 : decode cX8_read 33 = .ok (.aload_n 0, 1) := by decide +kernel
theorem dX8_read_34 : decode cX8_read 34 = .ok (.getfield 278, 3) := by decide +kernel
theorem dX8_read_37 : decode cX8_read 37 = .ok (.if_icmp .ge 50, 3) := by decide +kernel
theorem dX8_read_40 : decode cX8_read 40 = .ok (.aload_n 0, 1) := by decide +kernel
theorem dX8_read_41 : decode cX8_read 41 = .ok (.iload_n 1, 1) := by decide +kernel
theorem dX8_read_42 : decode cX8_read 42 = .ok (.invokevirtual 295, 3) := by decide +kernel
theorem dX8_read_45 : decode cX8_read 45 = .ok (.ifCond .le 36, 3) := by decide +kernel
theorem dX8_read_48 : decode cX8_read 48 = .ok (.iconst 0, 1) := by decide +kernel
theorem dX8_read_49 : decode cX8_read 49 = .ok (.istore_n 2, 1) := by decide +kernel
theorem dX8_read_50 : decode cX8_read 50 = .ok (.iload_n 2, 1) := by decide +kernel
theorem dX8_read_51 : decode cX8_read 51 = .ok (.sipush 304, 3) := by decide +kernel
theorem dX8_read_54 : decode cX8_read 54 = .ok (.if_icmp .ge 21, 3) := by decide +kernel
theorem dX8_read_57 : decode cX8_read 57 = .ok (.aload_n 0, 1) := by decide +kernel
theorem dX8_read_58 : decode cX8_read 58 = .ok (.getfield 7, 3) := by decide +kernel
theorem dX8_read_61 : decode cX8_read 61 = .ok (.iload_n 2, 1) := by decide +kernel
theorem dX8_read_62 : decode cX8_read 62 = .ok (.aload_n 0, 1) := by decide +kernel
theorem dX8_read_63 : decode cX8_read 63 = .ok (.getfield 16, 3) := by decide +kernel
theorem dX8_read_66 : decode cX8_read 66 = .ok (.iload_n 2, 1) := by decide +kernel
theorem dX8_read_67 : decode cX8_read 67 = .ok (.laload, 1) := by decide +kernel
theorem dX8_read_68 : decode cX8_read 68 = .ok (.lastore, 1) := by decide +kernel
theorem dX8_read_69 : decode cX8_read 69 = .ok (.iinc 2 1, 3) := by decide +kernel
theorem dX8_read_72 : decode cX8_read 72 = .ok (.goto (-22), 3) := by decide +kernel
theorem dX8_read_75 : decode cX8_read 75 = .ok (.aload_n 0, 1) := by decide +kernel
theorem dX8_read_76 : decode cX8_read 76 = .ok (.iconst 2, 1) := by decide +kernel
theorem dX8_read_77 : decode cX8_read 77 = .ok (.invokevirtual 79, 3) := by decide +kernel
theorem dX8_read_80 : decode cX8_read 80 = .ok (.ireturn, 1) := by decide +kernel
theorem dX8_read_81 : decode cX8_read 81 = .ok (.iinc 1 1, 3) := by decide +kernel
theorem dX8_read_84 : decode cX8_read 84 = .ok (.goto (-52), 3) := by decide +kernel
theorem dX8_read_87 : decode cX8_read 87 = .ok (.aload_n 0, 1) := by decide +kernel
theorem dX8_read_88 : decode cX8_read 88 = .ok (.invokevirtual 83, 3) := by decide +kernel
theorem dX8_read_91 : decode cX8_read 91 = .ok (.aload_n 0, 1) := by decide +kernel
theorem dX8_read_92 : decode cX8_read 92 = .ok (.getfield 278, 3) := by decide +kernel
theorem dX8_read_95 : decode cX8_read 95 = .ok (.ireturn, 1) := by decide +kernel
theorem dX8_errorPosition_0 : decode cX8_errorPosition 0 = .ok (.aload_n 0, 1) := by decide +kernel
theorem dX8_errorPosition_1 : decode cX8_errorPosition 1 = .ok (.iconst 0, 1) := by decide +kernel
theorem dX8_errorPosition_2 : decode cX8_errorPosition 2 = .ok (.putfield 42, 3) := by decide +kernel
theorem dX8_errorPosition_5 : decode cX8_errorPosition 5 = .ok (.aload_n 0, 1) := by decide +kernel
theorem dX8_errorPosition_6 : decode cX8_errorPosition 6 = .ok (.getfield 26, 3) := by decide +kernel
theorem dX8_errorPosition_9 : decode cX8_errorPosition 9 = .ok (.iconst (-1), 1) := by decide +kernel
theorem dX8_errorPosition_10 : decode cX8_errorPosition 10 = .ok (.if_icmp .ne 11, 3) := by decide +kernel
theorem dX8_errorPosition_13 : decode cX8_errorPosition 13 = .ok (.aload_n 0, 1) := by decide +kernel
theorem dX8_errorPosition_14 : decode cX8_errorPosition 14 = .ok (.iconst 1, 1) := by decide +kernel
theorem dX8_errorPosition_15 : decode cX8_errorPosition 15 = .ok (.invokevirtual 79, 3) := by decide +kernel
theorem dX8_errorPosition_18 : decode cX8_errorPosition 18 = .ok (.goto 7, 3) := by decide +kernel
theorem dX8_errorPosition_21 : decode cX8_errorPosition 21 = .ok (.aload_n 0, 1) := by decide +kernel
theorem dX8_errorPosition_22 : decode cX8_errorPosition 22 = .ok (.getfield 26, 3) := by decide +kernel
theorem dX8_errorPosition_25 : decode cX8_errorPosition 25 = .ok (.ireturn, 1) := by decide +kernel
theorem dX8_undo_0 : decode cX8_undo 0 = .ok (.aload_n 0, 1) := by decide +kernel
theorem dX8_undo_1 : decode cX8_undo 1 = .ok (.iconst 0, 1) := by decide +kernel
theorem dX8_undo_2 : decode cX8_undo 2 = .ok (.putfield 42, 3) := by decide +kernel
theorem dX8_undo_5 : decode cX8_undo 5 = .ok (.aload_n 0, 1) := by decide +kernel
theorem dX8_undo_6 : decode cX8_undo 6 = .ok (.getfield 73, 3) := by decide +kernel
theorem dX8_undo_9 : decode cX8_undo 9 = .ok (.ifCond .ne 9, 3) := by decide +kernel
theorem dX8_undo_12 : decode cX8_undo 12 = .ok (.aload_n 0, 1) := by decide +kernel
theorem dX8_undo_13 : decode cX8_undo 13 = .ok (.iconst 1, 1) := by decide +kernel
theorem dX8_undo_14 : decode cX8_undo 14 = .ok (.invokevirtual 79, 3) := by decide +kernel
theorem dX8_undo_17 : decode cX8_undo 17 = .ok (.ireturn, 1) := by decide +kernel
theorem dX8_undo_18 : decode cX8_undo 18 = .ok (.aload_n 0, 1) := by decide +kernel
theorem dX8_undo_19 : decode cX8_undo 19 = .ok (.dup, 1) := by decide +kernel
theorem dX8_undo_20 : decode cX8_undo 20 = .ok (.getfield 73, 3) := by decide +kernel
theorem dX8_undo_23 : decode cX8_undo 23 = .ok (.iconst 1, 1) := by decide +kernel
theorem dX8_undo_24 : decode cX8_undo 24 = .ok (.isub, 1) := by decide +kernel
theorem dX8_undo_25 : decode cX8_undo 25 = .ok (.putfield 73, 3) := by decide +kernel
theorem dX8_undo_28 : decode cX8_undo 28 = .ok (.iconst 0, 1) := by decide +kernel
theorem dX8_undo_29 : decode cX8_undo 29 = .ok (.istore_n 1, 1) := by decide +kernel
theorem dX8_undo_30 : decode cX8_undo 30 = .ok (.iload_n 1, 1) := by decide +kernel
theorem dX8_undo_31 : decode cX8_undo 31 = .ok (.sipush 304, 3) := by decide +kernel
theorem dX8_undo_34 : decode cX8_undo 34 = .ok (.if_icmp .ge 30, 3) := by decide +kernel
theorem dX8_undo_37 : decode cX8_undo 37 = .ok (.aload_n 0, 1) := by decide +kernel
theorem dX8_undo_38 : decode cX8_undo 38 = .ok (.getfield 7, 3) := by decide +kernel
theorem dX8_undo_41 : decode cX8_undo 41 = .ok (.iload_n 1, 1) := by decide +kernel
theorem dX8_undo_42 : decode cX8_undo 42 = .ok (.aload_n 0, 1) := by decide +kernel
theorem dX8_undo_43 : decode cX8_undo 43 = .ok (.getfield 19, 3) := by decide +kernel
theorem dX8_undo_46 : decode cX8_undo 46 = .ok (.sipush 304, 3) := by decide +kernel
theorem dX8_undo_49 : decode cX8_undo 49 = .ok (.aload_n 0, 1) := by decide +kernel
theorem dX8_undo_50 : decode cX8_undo 50 = .ok (.getfield 73, 3) := by decide +kernel
theorem dX8_undo_53 : decode cX8_undo 53 = .ok (.imul, 1) := by decide +kernel
theorem dX8_undo_54 : decode cX8_undo 54 = .ok (.iload_n 1, 1) := by decide +kernel
theorem dX8_undo_55 : decode cX8_undo 55 = .ok (.iadd, 1) := by decide +kernel
theorem dX8_undo_56 : decode cX8_undo 56 = .ok (.laload, 1) := by decide +kernel
theorem dX8_undo_57 : decode cX8_undo 57 = .ok (.lastore, 1) := by decide +kernel
theorem dX8_undo_58 : decode cX8_undo 58 = .ok (.iinc 1 1, 3) := by decide +kernel
theorem dX8_undo_61 : decode cX8_undo 61 = .ok (.goto (-31), 3) := by decide +kernel
theorem dX8_undo_64 : decode cX8_undo 64 = .ok (.aload_n 0, 1) := by decide +kernel
theorem dX8_undo_65 : decode cX8_undo 65 = .ok (.getfield 73, 3) := by decide +kernel
theorem dX8_undo_68 : decode cX8_undo 68 = .ok (.ireturn, 1) := by decide +kernel
theorem dX8_save_0 : decode cX8_save 0 = .ok (.aload_n 0, 1) := by decide +kernel
theorem dX8_save_1 : decode cX8_save 1 = .ok (.iconst 0, 1) := by decide +kernel
theorem dX8_save_2 : decode cX8_save 2 = .ok (.putfield 42, 3) := by decide +kernel
theorem dX8_save_5 : decode cX8_save 5 = .ok (.iconst 0, 1) := by decide +kernel
theorem dX8_save_6 : decode cX8_save 6 = .ok (.istore_n 1, 1) := by decide +kernel
theorem dX8_save_7 : decode cX8_save 7 = .ok (.iload_n 1, 1) := by decide +kernel
theorem dX8_save_8 : decode cX8_save 8 = .ok (.sipush 304, 3) := by decide +kernel
theorem dX8_save_11 : decode cX8_save 11 = .ok (.if_icmp .ge 21, 3) := by decide +kernel
theorem dX8_save_14 : decode cX8_save 14 = .ok (.aload_n 0, 1) := by decide +kernel
theorem dX8_save_15 : decode cX8_save 15 = .ok (.getfield 13, 3) := by decide +kernel
theorem dX8_save_18 : decode cX8_save 18 = .ok (.iload_n 1, 1) := by decide +kernel
theorem dX8_save_19 : decode cX8_save 19 = .ok (.aload_n 0, 1) := by decide +kernel
theorem dX8_save_20 : decode cX8_save 20 = .ok (.getfield 7, 3) := by decide +kernel
theorem dX8_save_23 : decode cX8_save 23 = .ok (.iload_n 1, 1) := by decide +kernel
theorem dX8_save_24 : decode cX8_save 24 = .ok (.laload, 1) := by decide +kernel
theorem dX8_save_25 : decode cX8_save 25 = .ok (.lastore, 1) := by decide +kernel
theorem dX8_save_26 : decode cX8_save 26 = .ok (.iinc 1 1, 3) := by decide +kernel
theorem dX8_save_29 : decode cX8_save 29 = .ok (.goto (-22), 3) := by decide +kernel
theorem dX8_save_32 : decode cX8_save 32 = .ok (.aload_n 0, 1) := by decide +kernel
theorem dX8_save_33 : decode cX8_save 33 = .ok (.iconst 1, 1) := by decide +kernel
theorem dX8_save_34 : decode cX8_save 34 = .ok (.putfield 298, 3) := by decide +kernel
theorem dX8_save_37 : decode cX8_save 37 = .ok (.aload_n 0, 1) := by decide +kernel
theorem dX8_save_38 : decode cX8_save 38 = .ok (.invokevirtual 67, 3) := by decide +kernel
theorem dX8_save_41 : decode cX8_save 41 = .ok (.ireturn, 1) := by decide +kernel
theorem dX8_restore_0 : decode cX8_restore 0 = .ok (.aload_n 0, 1) := by decide +kernel
theorem dX8_restore_1 : decode cX8_restore 1 = .ok (.iconst 0, 1) := by decide +kernel
theorem dX8_restore_2 : decode cX8_restore 2 = .ok (.putfield 42, 3) := by decide +kernel
theorem dX8_restore_5 : decode cX8_restore 5 = .ok (.aload_n 0, 1) := by decide +kernel
theorem dX8_restore_6 : decode cX8_restore 6 = .ok (.getfield 298, 3) := by decide +kernel
theorem dX8_restore_9 : decode cX8_restore 9 = .ok (.ifCond .ne 9, 3) := by decide +kernel
theorem dX8_restore_12 : decode cX8_restore 12 = .ok (.aload_n 0, 1) := by decide +kernel
theorem dX8_restore_13 : decode cX8_restore 13 = .ok (.iconst 1, 1) := by decide +kernel
theorem dX8_restore_14 : decode cX8_restore 14 = .ok (.invokevirtual 79, 3) := by decide +kernel
theorem dX8_restore_17 : decode cX8_restore 17 = .ok (.ireturn, 1) := by decide +kernel
theorem dX8_restore_18 : decode cX8_restore 18 = .ok (.iconst 0, 1) := by decide +kernel
theorem dX8_restore_19 : decode cX8_restore 19 = .ok (.istore_n 1, 1) := by decide +kernel
theorem dX8_restore_20 : decode cX8_restore 20 = .ok (.iload_n 1, 1) := by decide +kernel
theorem dX8_restore_21 : decode cX8_restore 21 = .ok (.sipush 304, 3) := by decide +kernel
theorem dX8_restore_24 : decode cX8_restore 24 = .ok (.if_icmp .ge 21, 3) := by decide +kernel
theorem dX8_restore_27 : decode cX8_restore 27 = .ok (.aload_n 0, 1) := by decide +kernel
theorem dX8_restore_28 : decode cX8_restore 28 = .ok (.getfield 7, 3) := by decide +kernel
theorem dX8_restore_31 : decode cX8_restore 31 = .ok (.iload_n 1, 1) := by decide +kernel
theorem dX8_restore_32 : decode cX8_restore 32 = .ok (.aload_n 0, 1) := by decide +kernel
theorem dX8_restore_33 : decode cX8_restore 33 = .ok (.getfield 13, 3) := by decide +kernel
theorem dX8_restore_36 : decode cX8_restore 36 = .ok (.iload_n 1, 1) := by decide +kernel
theorem dX8_restore_37 : decode cX8_restore 37 = .ok (.laload, 1) := by decide +kernel
theorem dX8_restore_38 : decode cX8_restore 38 = .ok (.lastore, 1) := by decide +kernel
theorem dX8_restore_39 : decode cX8_restore 39 = .ok (.iinc 1 1, 3) := by decide +kernel
theorem dX8_restore_42 : decode cX8_restore 42 = .ok (.goto (-22), 3) := by decide +kernel
theorem dX8_restore_45 : decode cX8_restore 45 = .ok (.aload_n 0, 1) := by decide +kernel
theorem dX8_restore_46 : decode cX8_restore 46 = .ok (.iconst 0, 1) := by decide +kernel
theorem dX8_restore_47 : decode cX8_restore 47 = .ok (.putfield 73, 3) := by decide +kernel
theorem dX8_restore_50 : decode cX8_restore 50 = .ok (.aload_n 0, 1) := by decide +kernel
theorem dX8_restore_51 : decode cX8_restore 51 = .ok (.invokevirtual 67, 3) := by decide +kernel
theorem dX8_restore_54 : decode cX8_restore 54 = .ok (.ireturn, 1) := by decide +kernel
