theorem dX0_init_0 : decode cX0_init 0 = .ok (.aload_n 0, 1) := by decide +kernel
theorem dX0_init_1 : decode cX0_init 1 = .ok (.invokespecial 3, 3) := by decide +kernel
theorem dX0_init_4 : decode cX0_init 4 = .ok (.aload_n 0, 1) := by decide +kernel
theorem dX0_init_5 : decode cX0_init 5 = .ok (.new 9, 3) := by decide +kernel
theorem dX0_init_8 : decode cX0_init 8 = .ok (.dup, 1) := by decide +kernel
theorem dX0_init_9 : decode cX0_init 9 = .ok (.invokespecial 11, 3) := by decide +kernel
theorem dX0_init_12 : decode cX0_init 12 = .ok (.putfield 12, 3) := by decide +kernel
theorem dX0_init_15 : decode cX0_init 15 = .ok (.aload_n 0, 1) := by decide +kernel
theorem dX0_init_16 : decode cX0_init 16 = .ok (.new 18, 3) := by decide +kernel
theorem dX0_init_19 : decode cX0_init 19 = .ok (.dup, 1) := by decide +kernel
theorem dX0_init_20 : decode cX0_init 20 = .ok (.invokespecial 20, 3) := by decide +kernel
theorem dX0_init_23 : decode cX0_init 23 = .ok (.putfield 21, 3) := by decide +kernel
theorem dX0_init_26 : decode cX0_init 26 = .ok (.aload_n 0, 1) := by decide +kernel
theorem dX0_init_27 : decode cX0_init 27 = .ok (.new 25, 3) := by decide +kernel
theorem dX0_init_30 : decode cX0_init 30 = .ok (.dup, 1) := by decide +kernel
theorem dX0_init_31 : decode cX0_init 31 = .ok (.invokespecial 27, 3) := by decide +kernel
theorem dX0_init_34 : decode cX0_init 34 = .ok (.putfield 28, 3) := by decide +kernel
theorem dX0_init_37 : decode cX0_init 37 = .ok (.aload_n 0, 1) := by decide +kernel
theorem dX0_init_38 : decode cX0_init 38 = .ok (.new 32, 3) := by decide +kernel
theorem dX0_init_41 : decode cX0_init 41 = .ok (.dup, 1) := by decide +kernel
theorem dX0_init_42 : decode cX0_init 42 = .ok (.invokespecial 34, 3) := by decide +kernel
theorem dX0_init_45 : decode cX0_init 45 = .ok (.putfield 35, 3) := by decide +kernel
theorem dX0_init_48 : decode cX0_init 48 = .ok (.aload_n 0, 1) := by decide +kernel
theorem dX0_init_49 : decode cX0_init 49 = .ok (.getstatic 39, 3) := by decide +kernel
theorem dX0_init_52 : decode cX0_init 52 = .ok (.invokevirtual 43, 3) := by decide +kernel
theorem dX0_init_55 : decode cX0_init 55 = .ok (.checkcast 44, 3) := by decide +kernel
theorem dX0_init_58 : decode cX0_init 58 = .ok (.putfield 48, 3) := by decide +kernel
theorem dX0_init_61 : decode cX0_init 61 = .ok (.aload_n 0, 1) := by decide +kernel
theorem dX0_init_62 : decode cX0_init 62 = .ok (.getstatic 51, 3) := by decide +kernel
theorem dX0_init_65 : decode cX0_init 65 = .ok (.invokevirtual 43, 3) := by decide +kernel
theorem dX0_init_68 : decode cX0_init 68 = .ok (.checkcast 44, 3) := by decide +kernel
theorem dX0_init_71 : decode cX0_init 71 = .ok (.putfield 54, 3) := by decide +kernel
theorem dX0_init_74 : decode cX0_init 74 = .ok (.aload_n 0, 1) := by decide +kernel
theorem dX0_init_75 : decode cX0_init 75 = .ok (.iconst 0, 1) := by decide +kernel
theorem dX0_init_76 : decode cX0_init 76 = .ok (.putfield 57, 3) := by decide +kernel
theorem dX0_init_79 : decode cX0_init 79 = .ok (.aload_n 0, 1) := by decide +kernel
theorem dX0_init_80 : decode cX0_init 80 = .ok (.iconst 0, 1) := by decide +kernel
theorem dX0_init_81 : decode cX0_init 81 = .ok (.putfield 61, 3) := by decide +kernel
theorem dX0_init_84 : decode cX0_init 84 = .ok (.return_, 1) := by decide +kernel
theorem dX0_reset_0 : decode cX0_reset 0 = .ok (.aload_n 0, 1) := by decide +kernel
theorem dX0_reset_1 : decode cX0_reset 1 = .ok (.getfield 12, 3) := by decide +kernel
theorem dX0_reset_4 : decode cX0_reset 4 = .ok (.iconst 0, 1) := by decide +kernel
theorem dX0_reset_5 : decode cX0_reset 5 = .ok (.putfield 64, 3) := by decide +kernel
theorem dX0_reset_8 : decode cX0_reset 8 = .ok (.aload_n 0, 1) := by decide +kernel
theorem dX0_reset_9 : decode cX0_reset 9 = .ok (.getfield 21, 3) := by decide +kernel
theorem dX0_reset_12 : decode cX0_reset 12 = .ok (.iconst 0, 1) := by decide +kernel
theorem dX0_reset_13 : decode cX0_reset 13 = .ok (.putfield 67, 3) := by decide +kernel
theorem dX0_reset_16 : decode cX0_reset 16 = .ok (.aload_n 0, 1) := by decide +kernel
theorem dX0_reset_17 : decode cX0_reset 17 = .ok (.getfield 28, 3) := by decide +kernel
theorem dX0_reset_20 : decode cX0_reset 20 = .ok (.iconst 0, 1) := by decide +kernel
theorem dX0_reset_21 : decode cX0_reset 21 = .ok (.putfield 68, 3) := by decide +kernel
theorem dX0_reset_24 : decode cX0_reset 24 = .ok (.aload_n 0, 1) := by decide +kernel
theorem dX0_reset_25 : decode cX0_reset 25 = .ok (.getfield 35, 3) := by decide +kernel
theorem dX0_reset_28 : decode cX0_reset 28 = .ok (.iconst 0, 1) := by decide +kernel
theorem dX0_reset_29 : decode cX0_reset 29 = .ok (.putfield 69, 3) := by decide +kernel
theorem dX0_reset_32 : decode cX0_reset 32 = .ok (.getstatic 39, 3) := by decide +kernel
theorem dX0_reset_35 : decode cX0_reset 35 = .ok (.iconst 0, 1) := by decide +kernel
theorem dX0_reset_36 : decode cX0_reset 36 = .ok (.aload_n 0, 1) := by decide +kernel
theorem dX0_reset_37 : decode cX0_reset 37 = .ok (.getfield 48, 3) := by decide +kernel
theorem dX0_reset_40 : decode cX0_reset 40 = .ok (.iconst 0, 1) := by decide +kernel
theorem dX0_reset_41 : decode cX0_reset 41 = .ok (.iconst 4, 1) := by decide +kernel
theorem dX0_reset_42 : decode cX0_reset 42 = .ok (.invokestatic 70, 3) := by decide +kernel
theorem dX0_reset_45 : decode cX0_reset 45 = .ok (.getstatic 51, 3) := by decide +kernel
theorem dX0_reset_48 : decode cX0_reset 48 = .ok (.iconst 0, 1) := by decide +kernel
theorem dX0_reset_49 : decode cX0_reset 49 = .ok (.aload_n 0, 1) := by decide +kernel
theorem dX0_reset_50 : decode cX0_reset 50 = .ok (.getfield 54, 3) := by decide +kernel
theorem dX0_reset_53 : decode cX0_reset 53 = .ok (.iconst 0, 1) := by decide +kernel
theorem dX0_reset_54 : decode cX0_reset 54 = .ok (.iconst 4, 1) := by decide +kernel
theorem dX0_reset_55 : decode cX0_reset 55 = .ok (.invokestatic 70, 3) := by decide +kernel
theorem dX0_reset_58 : decode cX0_reset 58 = .ok (.aload_n 0, 1) := by decide +kernel
theorem dX0_reset_59 : decode cX0_reset 59 = .ok (.iconst 0, 1) := by decide +kernel
theorem dX0_reset_60 : decode cX0_reset 60 = .ok (.putfield 57, 3) := by decide +kernel
theorem dX0_reset_63 : decode cX0_reset 63 = .ok (.aload_n 0, 1) := by decide +kernel
theorem dX0_reset_64 : decode cX0_reset 64 = .ok (.iconst 0, 1) := by decide +kernel
theorem dX0_reset_65 : decode cX0_reset 65 = .ok (.putfield 61, 3) := by decide +kernel
theorem dX0_reset_68 : decode cX0_reset 68 = .ok (.return_, 1) := by decide +kernel
theorem dX0_copyFrom_0 : decode cX0_copyFrom 0 = .ok (.aload_n 0, 1) := by decide +kernel
theorem dX0_copyFrom_1 : decode cX0_copyFrom 1 = .ok (.getfield 12, 3) := by decide +kernel
theorem dX0_copyFrom_4 : decode cX0_copyFrom 4 = .ok (.aload_n 1, 1) := by decide +kernel
theorem dX0_copyFrom_5 : decode cX0_copyFrom 5 = .ok (.getfield 12, 3) := by decide +kernel
theorem dX0_copyFrom_8 : decode cX0_copyFrom 8 = .ok (.invokevirtual 76, 3) := by decide +kernel
theorem dX0_copyFrom_11 : decode cX0_copyFrom 11 = .ok (.aload_n 0, 1) := by decide +kernel
theorem dX0_copyFrom_12 : decode cX0_copyFrom 12 = .ok (.getfield 21, 3) := by decide +kernel
theorem dX0_copyFrom_15 : decode cX0_copyFrom 15 = .ok (.aload_n 1, 1) := by decide +kernel
theorem dX0_copyFrom_16 : decode cX0_copyFrom 16 = .ok (.getfield 21, 3) := by decide +kernel
theorem dX0_copyFrom_19 : decode cX0_copyFrom 19 = .ok (.invokevirtual 80, 3) := by decide +kernel
theorem dX0_copyFrom_22 : decode cX0_copyFrom 22 = .ok (.aload_n 0, 1) := by decide +kernel
theorem dX0_copyFrom_23 : decode cX0_copyFrom 23 = .ok (.getfield 28, 3) := by decide +kernel
theorem dX0_copyFrom_26 : decode cX0_copyFrom 26 = .ok (.aload_n 1, 1) := by decide +kernel
theorem dX0_copyFrom_27 : decode cX0_copyFrom 27 = .ok (.getfield 28, 3) := by decide +kernel
theorem dX0_copyFrom_30 : decode cX0_copyFrom 30 = .ok (.invokevirtual 83, 3) := by decide +kernel
theorem dX0_copyFrom_33 : decode cX0_copyFrom 33 = .ok (.aload_n 0, 1) := by decide +kernel
theorem dX0_copyFrom_34 : decode cX0_copyFrom 34 = .ok (.getfield 35, 3) := by decide +kernel
theorem dX0_copyFrom_37 : decode cX0_copyFrom 37 = .ok (.aload_n 1, 1) := by decide +kernel
theorem dX0_copyFrom_38 : decode cX0_copyFrom 38 = .ok (.getfield 35, 3) := by decide +kernel
theorem dX0_copyFrom_41 : decode cX0_copyFrom 41 = .ok (.invokevirtual 86, 3) := by decide +kernel
theorem dX0_copyFrom_44 : decode cX0_copyFrom 44 = .ok (.aload_n 1, 1) := by decide +kernel
theorem dX0_copyFrom_45 : decode cX0_copyFrom 45 = .ok (.getfield 48, 3) := by decide +kernel
theorem dX0_copyFrom_48 : decode cX0_copyFrom 48 = .ok (.iconst 0, 1) := by decide +kernel
theorem dX0_copyFrom_49 : decode cX0_copyFrom 49 = .ok (.aload_n 0, 1) := by decide +kernel
theorem dX0_copyFrom_50 : decode cX0_copyFrom 50 = .ok (.getfield 48, 3) := by decide +kernel
theorem dX0_copyFrom_53 : decode cX0_copyFrom 53 = .ok (.iconst 0, 1) := by decide +kernel
theorem dX0_copyFrom_54 : decode cX0_copyFrom 54 = .ok (.iconst 4, 1) := by decide +kernel
theorem dX0_copyFrom_55 : decode cX0_copyFrom 55 = .ok (.invokestatic 70, 3) := by decide +kernel
theorem dX0_copyFrom_58 : decode cX0_copyFrom 58 = .ok (.aload_n 1, 1) := by decide +kernel
theorem dX0_copyFrom_59 : decode cX0_copyFrom 59 = .ok (.getfield 54, 3) := by decide +kernel
theorem dX0_copyFrom_62 : decode cX0_copyFrom 62 = .ok (.iconst 0, 1) := by decide +kernel
theorem dX0_copyFrom_63 : decode cX0_copyFrom 63 = .ok (.aload_n 0, 1) := by decide +kernel
theorem dX0_copyFrom_64 : decode cX0_copyFrom 64 = .ok (.getfield 54, 3) := by decide +kernel
theorem dX0_copyFrom_67 : decode cX0_copyFrom 67 = .ok (.iconst 0, 1) := by decide +kernel
theorem dX0_copyFrom_68 : decode cX0_copyFrom 68 = .ok (.iconst 4, 1) := by decide +kernel
theorem dX0_copyFrom_69 : decode cX0_copyFrom 69 = .ok (.invokestatic 70, 3) := by decide +kernel
theorem dX0_copyFrom_72 : decode cX0_copyFrom 72 = .ok (.aload_n 0, 1) := by decide +kernel
theorem dX0_copyFrom_73 : decode cX0_copyFrom 73 = .ok (.aload_n 1, 1) := by decide +kernel
theorem dX0_copyFrom_74 : decode cX0_copyFrom 74 = .ok (.getfield 57, 3) := by decide +kernel
theorem dX0_copyFrom_77 : decode cX0_copyFrom 77 = .ok (.putfield 57, 3) := by decide +kernel
theorem dX0_copyFrom_80 : decode cX0_copyFrom 80 = .ok (.aload_n 0, 1) := by decide +kernel
theorem dX0_copyFrom_81 : decode cX0_copyFrom 81 = .ok (.aload_n 1, 1) := by decide +kernel
theorem dX0_copyFrom_82 : decode cX0_copyFrom 82 = .ok (.getfield 61, 3) := by decide +kernel
theorem dX0_copyFrom_85 : decode cX0_copyFrom 85 = .ok (.putfield 61, 3) := by decide +kernel
theorem dX0_copyFrom_88 : decode cX0_copyFrom 88 = .ok (.return_, 1) := by decide +kernel
theorem dX0_faultOfClaim_0 : decode cX0_faultOfClaim 0 = .ok (.aload_n 0, 1) := by decide +kernel
theorem dX0_faultOfClaim_1 : decode cX0_faultOfClaim 1 = .ok (.getfield 12, 3) := by decide +kernel
theorem dX0_faultOfClaim_4 : decode cX0_faultOfClaim 4 = .ok (.iload_n 1, 1) := by decide +kernel
theorem dX0_faultOfClaim_5 : decode cX0_faultOfClaim 5 = .ok (.iload_n 2, 1) := by decide +kernel
theorem dX0_faultOfClaim_6 : decode cX0_faultOfClaim 6 = .ok (.invokevirtual 89, 3) := by decide +kernel
theorem dX0_faultOfClaim_9 : decode cX0_faultOfClaim 9 = .ok (.ifCond .ne 6, 3) := by decide +kernel
theorem dX0_faultOfClaim_12 : decode cX0_faultOfClaim 12 = .ok (.bipush 7, 2) := by decide +kernel
theorem dX0_faultOfClaim_14 : decode cX0_faultOfClaim 14 = .ok (.ireturn, 1) := by decide +kernel
theorem dX0_faultOfClaim_15 : decode cX0_faultOfClaim 15 = .ok (.aload_n 0, 1) := by decide +kernel
theorem dX0_faultOfClaim_16 : decode cX0_faultOfClaim 16 = .ok (.getfield 12, 3) := by decide +kernel
theorem dX0_faultOfClaim_19 : decode cX0_faultOfClaim 19 = .ok (.getfield 93, 3) := by decide +kernel
theorem dX0_faultOfClaim_22 : decode cX0_faultOfClaim 22 = .ok (.iload_n 1, 1) := by decide +kernel
theorem dX0_faultOfClaim_23 : decode cX0_faultOfClaim 23 = .ok (.iaload, 1) := by decide +kernel
theorem dX0_faultOfClaim_24 : decode cX0_faultOfClaim 24 = .ok (.aload_n 0, 1) := by decide +kernel
theorem dX0_faultOfClaim_25 : decode cX0_faultOfClaim 25 = .ok (.getfield 12, 3) := by decide +kernel
theorem dX0_faultOfClaim_28 : decode cX0_faultOfClaim 28 = .ok (.getfield 93, 3) := by decide +kernel
theorem dX0_faultOfClaim_31 : decode cX0_faultOfClaim 31 = .ok (.iload_n 2, 1) := by decide +kernel
theorem dX0_faultOfClaim_32 : decode cX0_faultOfClaim 32 = .ok (.iaload, 1) := by decide +kernel
theorem dX0_faultOfClaim_33 : decode cX0_faultOfClaim 33 = .ok (.if_icmp .eq 10, 3) := by decide +kernel
theorem dX0_faultOfClaim_36 : decode cX0_faultOfClaim 36 = .ok (.iload_n 3, 1) := by decide +kernel
theorem dX0_faultOfClaim_37 : decode cX0_faultOfClaim 37 = .ok (.invokestatic 96, 3) := by decide +kernel
theorem dX0_faultOfClaim_40 : decode cX0_faultOfClaim 40 = .ok (.ifCond .ne 6, 3) := by decide +kernel
theorem dX0_faultOfClaim_43 : decode cX0_faultOfClaim 43 = .ok (.bipush 8, 2) := by decide +kernel
theorem dX0_faultOfClaim_45 : decode cX0_faultOfClaim 45 = .ok (.ireturn, 1) := by decide +kernel
theorem dX0_faultOfClaim_46 : decode cX0_faultOfClaim 46 = .ok (.aload_n 0, 1) := by decide +kernel
theorem dX0_faultOfClaim_47 : decode cX0_faultOfClaim 47 = .ok (.getfield 21, 3) := by decide +kernel
theorem dX0_faultOfClaim_50 : decode cX0_faultOfClaim 50 = .ok (.getfield 67, 3) := by decide +kernel
theorem dX0_faultOfClaim_53 : decode cX0_faultOfClaim 53 = .ok (.bipush 12, 2) := by decide +kernel
theorem dX0_faultOfClaim_55 : decode cX0_faultOfClaim 55 = .ok (.if_icmp .ge 11, 3) := by decide +kernel
theorem dX0_faultOfClaim_58 : decode cX0_faultOfClaim 58 = .ok (.aload_n 0, 1) := by decide +kernel
theorem dX0_faultOfClaim_59 : decode cX0_faultOfClaim 59 = .ok (.getfield 61, 3) := by decide +kernel
theorem dX0_faultOfClaim_62 : decode cX0_faultOfClaim 62 = .ok (.iconst 3, 1) := by decide +kernel
theorem dX0_faultOfClaim_63 : decode cX0_faultOfClaim 63 = .ok (.if_icmp .lt 8, 3) := by decide +kernel
theorem dX0_faultOfClaim_66 : decode cX0_faultOfClaim 66 = .ok (.bipush 9, 2) := by decide +kernel
theorem dX0_faultOfClaim_68 : decode cX0_faultOfClaim 68 = .ok (.goto 4, 3) := by decide +kernel
theorem dX0_faultOfClaim_71 : decode cX0_faultOfClaim 71 = .ok (.iconst 0, 1) := by decide +kernel
theorem dX0_faultOfClaim_72 : decode cX0_faultOfClaim 72 = .ok (.ireturn, 1) := by decide +kernel
theorem dX0_faultOfRuling_0 : decode cX0_faultOfRuling 0 = .ok (.aload_n 0, 1) := by decide +kernel
theorem dX0_faultOfRuling_1 : decode cX0_faultOfRuling 1 = .ok (.iload_n 1, 1) := by decide +kernel
theorem dX0_faultOfRuling_2 : decode cX0_faultOfRuling 2 = .ok (.iload_n 2, 1) := by decide +kernel
theorem dX0_faultOfRuling_3 : decode cX0_faultOfRuling 3 = .ok (.aload_n 0, 1) := by decide +kernel
theorem dX0_faultOfRuling_4 : decode cX0_faultOfRuling 4 = .ok (.getfield 61, 3) := by decide +kernel
theorem dX0_faultOfRuling_7 : decode cX0_faultOfRuling 7 = .ok (.ifCond .ne 7, 3) := by decide +kernel
theorem dX0_faultOfRuling_10 : decode cX0_faultOfRuling 10 = .ok (.iconst 1, 1) := by decide +kernel
theorem dX0_faultOfRuling_11 : decode cX0_faultOfRuling 11 = .ok (.goto 4, 3) := by decide +kernel
theorem dX0_faultOfRuling_14 : decode cX0_faultOfRuling 14 = .ok (.iconst 0, 1) := by decide +kernel
theorem dX0_faultOfRuling_15 : decode cX0_faultOfRuling 15 = .ok (.invokevirtual 100, 3) := by decide +kernel
theorem dX0_faultOfRuling_18 : decode cX0_faultOfRuling 18 = .ok (.ireturn, 1) := by decide +kernel
theorem dX0_faultOfWithdrawal_0 : decode cX0_faultOfWithdrawal 0 = .ok (.aload_n 0, 1) := by decide +kernel
theorem dX0_faultOfWithdrawal_1 : decode cX0_faultOfWithdrawal 1 = .ok (.iload_n 1, 1) := by decide +kernel
theorem dX0_faultOfWithdrawal_2 : decode cX0_faultOfWithdrawal 2 = .ok (.iload_n 2, 1) := by decide +kernel
theorem dX0_faultOfWithdrawal_3 : decode cX0_faultOfWithdrawal 3 = .ok (.aload_n 0, 1) := by decide +kernel
theorem dX0_faultOfWithdrawal_4 : decode cX0_faultOfWithdrawal 4 = .ok (.getfield 61, 3) := by decide +kernel
theorem dX0_faultOfWithdrawal_7 : decode cX0_faultOfWithdrawal 7 = .ok (.iconst 1, 1) := by decide +kernel
theorem dX0_faultOfWithdrawal_8 : decode cX0_faultOfWithdrawal 8 = .ok (.if_icmp .le 7, 3) := by decide +kernel
theorem dX0_faultOfWithdrawal_11 : decode cX0_faultOfWithdrawal 11 = .ok (.iconst 2, 1) := by decide +kernel
theorem dX0_faultOfWithdrawal_12 : decode cX0_faultOfWithdrawal 12 = .ok (.goto 4, 3) := by decide +kernel
theorem dX0_faultOfWithdrawal_15 : decode cX0_faultOfWithdrawal 15 = .ok (.iconst 0, 1) := by decide +kernel
theorem dX0_faultOfWithdrawal_16 : decode cX0_faultOfWithdrawal 16 = .ok (.invokevirtual 100, 3) := by decide +kernel
theorem dX0_faultOfWithdrawal_19 : decode cX0_faultOfWithdrawal 19 = .ok (.ireturn, 1) := by decide +kernel
theorem dX0_faultOfPart_0 : decode cX0_faultOfPart 0 = .ok (.aload_n 0, 1) := by decide +kernel
theorem dX0_faultOfPart_1 : decode cX0_faultOfPart 1 = .ok (.getfield 21, 3) := by decide +kernel
theorem dX0_faultOfPart_4 : decode cX0_faultOfPart 4 = .ok (.iload_n 1, 1) := by decide +kernel
theorem dX0_faultOfPart_5 : decode cX0_faultOfPart 5 = .ok (.invokevirtual 104, 3) := by decide +kernel
theorem dX0_faultOfPart_8 : decode cX0_faultOfPart 8 = .ok (.ifCond .ne 6, 3) := by decide +kernel
theorem dX0_faultOfPart_11 : decode cX0_faultOfPart 11 = .ok (.bipush 7, 2) := by decide +kernel
theorem dX0_faultOfPart_13 : decode cX0_faultOfPart 13 = .ok (.ireturn, 1) := by decide +kernel
theorem dX0_faultOfPart_14 : decode cX0_faultOfPart 14 = .ok (.iload_n 2, 1) := by decide +kernel
theorem dX0_faultOfPart_15 : decode cX0_faultOfPart 15 = .ok (.iconst 1, 1) := by decide +kernel
theorem dX0_faultOfPart_16 : decode cX0_faultOfPart 16 = .ok (.if_icmp .ge 6, 3) := by decide +kernel
theorem dX0_faultOfPart_19 : decode cX0_faultOfPart 19 = .ok (.bipush 8, 2) := by decide +kernel
theorem dX0_faultOfPart_21 : decode cX0_faultOfPart 21 = .ok (.ireturn, 1) := by decide +kernel
theorem dX0_faultOfPart_22 : decode cX0_faultOfPart 22 = .ok (.iload_n 3, 1) := by decide +kernel
theorem dX0_faultOfPart_23 : decode cX0_faultOfPart 23 = .ok (.ifCond .eq 5, 3) := by decide +kernel
theorem dX0_faultOfPart_26 : decode cX0_faultOfPart 26 = .ok (.iload_n 3, 1) := by decide +kernel
theorem dX0_faultOfPart_27 : decode cX0_faultOfPart 27 = .ok (.ireturn, 1) := by decide +kernel
theorem dX0_faultOfPart_28 : decode cX0_faultOfPart 28 = .ok (.iload_n 2, 1) := by decide +kernel
theorem dX0_faultOfPart_29 : decode cX0_faultOfPart 29 = .ok (.aload_n 0, 1) := by decide +kernel
theorem dX0_faultOfPart_30 : decode cX0_faultOfPart 30 = .ok (.getfield 21, 3) := by decide +kernel
theorem dX0_faultOfPart_33 : decode cX0_faultOfPart 33 = .ok (.iload_n 1, 1) := by decide +kernel
theorem dX0_faultOfPart_34 : decode cX0_faultOfPart 34 = .ok (.invokevirtual 107, 3) := by decide +kernel
theorem dX0_faultOfPart_37 : decode cX0_faultOfPart 37 = .ok (.if_icmp .le 7, 3) := by decide +kernel
theorem dX0_faultOfPart_40 : decode cX0_faultOfPart 40 = .ok (.iconst 3, 1) := by decide +kernel
theorem dX0_faultOfPart_41 : decode cX0_faultOfPart 41 = .ok (.goto 4, 3) := by decide +kernel
theorem dX0_faultOfPart_44 : decode cX0_faultOfPart 44 = .ok (.iconst 0, 1) := by decide +kernel
theorem dX0_faultOfPart_45 : decode cX0_faultOfPart 45 = .ok (.ireturn, 1) := by decide +kernel
theorem dX0_faultOfPayment_0 : decode cX0_faultOfPayment 0 = .ok (.aload_n 0, 1) := by decide +kernel
theorem dX0_faultOfPayment_1 : decode cX0_faultOfPayment 1 = .ok (.getfield 12, 3) := by decide +kernel
theorem dX0_faultOfPayment_4 : decode cX0_faultOfPayment 4 = .ok (.iload_n 1, 1) := by decide +kernel
theorem dX0_faultOfPayment_5 : decode cX0_faultOfPayment 5 = .ok (.invokevirtual 111, 3) := by decide +kernel
theorem dX0_faultOfPayment_8 : decode cX0_faultOfPayment 8 = .ok (.ifCond .ne 6, 3) := by decide +kernel
theorem dX0_faultOfPayment_11 : decode cX0_faultOfPayment 11 = .ok (.bipush 7, 2) := by decide +kernel
theorem dX0_faultOfPayment_13 : decode cX0_faultOfPayment 13 = .ok (.ireturn, 1) := by decide +kernel
theorem dX0_faultOfPayment_14 : decode cX0_faultOfPayment 14 = .ok (.iload_n 2, 1) := by decide +kernel
theorem dX0_faultOfPayment_15 : decode cX0_faultOfPayment 15 = .ok (.invokestatic 96, 3) := by decide +kernel
theorem dX0_faultOfPayment_18 : decode cX0_faultOfPayment 18 = .ok (.ifCond .eq 7, 3) := by decide +kernel
theorem dX0_faultOfPayment_21 : decode cX0_faultOfPayment 21 = .ok (.iconst 0, 1) := by decide +kernel
theorem dX0_faultOfPayment_22 : decode cX0_faultOfPayment 22 = .ok (.goto 5, 3) := by decide +kernel
theorem dX0_faultOfPayment_25 : decode cX0_faultOfPayment 25 = .ok (.bipush 8, 2) := by decide +kernel
theorem dX0_faultOfPayment_27 : decode cX0_faultOfPayment 27 = .ok (.ireturn, 1) := by decide +kernel
theorem dX0_faultOfPaymentFor_0 : decode cX0_faultOfPaymentFor 0 = .ok (.aload_n 0, 1) := by decide +kernel
theorem dX0_faultOfPaymentFor_1 : decode cX0_faultOfPaymentFor 1 = .ok (.getfield 12, 3) := by decide +kernel
theorem dX0_faultOfPaymentFor_4 : decode cX0_faultOfPaymentFor 4 = .ok (.iload_n 1, 1) := by decide +kernel
theorem dX0_faultOfPaymentFor_5 : decode cX0_faultOfPaymentFor 5 = .ok (.iload_n 2, 1) := by decide +kernel
theorem dX0_faultOfPaymentFor_6 : decode cX0_faultOfPaymentFor 6 = .ok (.invokevirtual 89, 3) := by decide +kernel
theorem dX0_faultOfPaymentFor_9 : decode cX0_faultOfPaymentFor 9 = .ok (.ifCond .ne 6, 3) := by decide +kernel
theorem dX0_faultOfPaymentFor_12 : decode cX0_faultOfPaymentFor 12 = .ok (.bipush 7, 2) := by decide +kernel
theorem dX0_faultOfPaymentFor_14 : decode cX0_faultOfPaymentFor 14 = .ok (.ireturn, 1) := by decide +kernel
theorem dX0_faultOfPaymentFor_15 : decode cX0_faultOfPaymentFor 15 = .ok (.iload_n 1, 1) := by decide +kernel
theorem dX0_faultOfPaymentFor_16 : decode cX0_faultOfPaymentFor 16 = .ok (.iload_n 2, 1) := by decide +kernel
theorem dX0_faultOfPaymentFor_17 : decode cX0_faultOfPaymentFor 17 = .ok (.if_icmp .ne 6, 3) := by decide +kernel
theorem dX0_faultOfPaymentFor_20 : decode cX0_faultOfPaymentFor 20 = .ok (.bipush 8, 2) := by decide +kernel
theorem dX0_faultOfPaymentFor_22 : decode cX0_faultOfPaymentFor 22 = .ok (.ireturn, 1) := by decide +kernel
theorem dX0_faultOfPaymentFor_23 : decode cX0_faultOfPaymentFor 23 = .ok (.aload_n 0, 1) := by decide +kernel
theorem dX0_faultOfPaymentFor_24 : decode cX0_faultOfPaymentFor 24 = .ok (.getfield 12, 3) := by decide +kernel
theorem dX0_faultOfPaymentFor_27 : decode cX0_faultOfPaymentFor 27 = .ok (.iload_n 2, 1) := by decide +kernel
theorem dX0_faultOfPaymentFor_28 : decode cX0_faultOfPaymentFor 28 = .ok (.invokevirtual 112, 3) := by decide +kernel
theorem dX0_faultOfPaymentFor_31 : decode cX0_faultOfPaymentFor 31 = .ok (.lconst 0, 1) := by decide +kernel
theorem dX0_faultOfPaymentFor_32 : decode cX0_faultOfPaymentFor 32 = .ok (.lcmp, 1) := by decide +kernel
theorem dX0_faultOfPaymentFor_33 : decode cX0_faultOfPaymentFor 33 = .ok (.ifCond .le 7, 3) := by decide +kernel
theorem dX0_faultOfPaymentFor_36 : decode cX0_faultOfPaymentFor 36 = .ok (.iconst 0, 1) := by decide +kernel
theorem dX0_faultOfPaymentFor_37 : decode cX0_faultOfPaymentFor 37 = .ok (.goto 5, 3) := by decide +kernel
theorem dX0_faultOfPaymentFor_40 : decode cX0_faultOfPaymentFor 40 = .ok (.bipush 9, 2) := by decide +kernel
theorem dX0_faultOfPaymentFor_42 : decode cX0_faultOfPaymentFor 42 = .ok (.ireturn, 1) := by decide +kernel
theorem dX0_faultOfSettlement_0 : decode cX0_faultOfSettlement 0 = .ok (.aload_n 0, 1) := by decide +kernel
theorem dX0_faultOfSettlement_1 : decode cX0_faultOfSettlement 1 = .ok (.getfield 12, 3) := by decide +kernel
theorem dX0_faultOfSettlement_4 : decode cX0_faultOfSettlement 4 = .ok (.iload_n 1, 1) := by decide +kernel
theorem dX0_faultOfSettlement_5 : decode cX0_faultOfSettlement 5 = .ok (.iload_n 2, 1) := by decide +kernel
theorem dX0_faultOfSettlement_6 : decode cX0_faultOfSettlement 6 = .ok (.invokevirtual 89, 3) := by decide +kernel
theorem dX0_faultOfSettlement_9 : decode cX0_faultOfSettlement 9 = .ok (.ifCond .ne 6, 3) := by decide +kernel
theorem dX0_faultOfSettlement_12 : decode cX0_faultOfSettlement 12 = .ok (.bipush 7, 2) := by decide +kernel
theorem dX0_faultOfSettlement_14 : decode cX0_faultOfSettlement 14 = .ok (.ireturn, 1) := by decide +kernel
theorem dX0_faultOfSettlement_15 : decode cX0_faultOfSettlement 15 = .ok (.iload_n 3, 1) := by decide +kernel
theorem dX0_faultOfSettlement_16 : decode cX0_faultOfSettlement 16 = .ok (.iconst 1, 1) := by decide +kernel
theorem dX0_faultOfSettlement_17 : decode cX0_faultOfSettlement 17 = .ok (.if_icmp .ge 6, 3) := by decide +kernel
theorem dX0_faultOfSettlement_20 : decode cX0_faultOfSettlement 20 = .ok (.bipush 8, 2) := by decide +kernel
theorem dX0_faultOfSettlement_22 : decode cX0_faultOfSettlement 22 = .ok (.ireturn, 1) := by decide +kernel
theorem dX0_faultOfSettlement_23 : decode cX0_faultOfSettlement 23 = .ok (.iload_n 3, 1) := by decide +kernel
theorem dX0_faultOfSettlement_24 : decode cX0_faultOfSettlement 24 = .ok (.i2l, 1) := by decide +kernel
theorem dX0_faultOfSettlement_25 : decode cX0_faultOfSettlement 25 = .ok (.aload_n 0, 1) := by decide +kernel
theorem dX0_faultOfSettlement_26 : decode cX0_faultOfSettlement 26 = .ok (.getfield 28, 3) := by decide +kernel
theorem dX0_faultOfSettlement_29 : decode cX0_faultOfSettlement 29 = .ok (.iload_n 1, 1) := by decide +kernel
theorem dX0_faultOfSettlement_30 : decode cX0_faultOfSettlement 30 = .ok (.iload_n 2, 1) := by decide +kernel
theorem dX0_faultOfSettlement_31 : decode cX0_faultOfSettlement 31 = .ok (.invokevirtual 116, 3) := by decide +kernel
theorem dX0_faultOfSettlement_34 : decode cX0_faultOfSettlement 34 = .ok (.lcmp, 1) := by decide +kernel
theorem dX0_faultOfSettlement_35 : decode cX0_faultOfSettlement 35 = .ok (.ifCond .le 7, 3) := by decide +kernel
theorem dX0_faultOfSettlement_38 : decode cX0_faultOfSettlement 38 = .ok (.iconst 4, 1) := by decide +kernel
theorem dX0_faultOfSettlement_39 : decode cX0_faultOfSettlement 39 = .ok (.goto 4, 3) := by decide +kernel
theorem dX0_faultOfSettlement_42 : decode cX0_faultOfSettlement 42 = .ok (.iconst 0, 1) := by decide +kernel
theorem dX0_faultOfSettlement_43 : decode cX0_faultOfSettlement 43 = .ok (.ireturn, 1) := by decide +kernel
theorem dX0_faultOfOffset_0 : decode cX0_faultOfOffset 0 = .ok (.aload_n 0, 1) := by decide +kernel
theorem dX0_faultOfOffset_1 : decode cX0_faultOfOffset 1 = .ok (.getfield 12, 3) := by decide +kernel
theorem dX0_faultOfOffset_4 : decode cX0_faultOfOffset 4 = .ok (.iload_n 1, 1) := by decide +kernel
theorem dX0_faultOfOffset_5 : decode cX0_faultOfOffset 5 = .ok (.iload_n 2, 1) := by decide +kernel
theorem dX0_faultOfOffset_6 : decode cX0_faultOfOffset 6 = .ok (.invokevirtual 89, 3) := by decide +kernel
theorem dX0_faultOfOffset_9 : decode cX0_faultOfOffset 9 = .ok (.ifCond .ne 6, 3) := by decide +kernel
theorem dX0_faultOfOffset_12 : decode cX0_faultOfOffset 12 = .ok (.bipush 7, 2) := by decide +kernel
theorem dX0_faultOfOffset_14 : decode cX0_faultOfOffset 14 = .ok (.ireturn, 1) := by decide +kernel
theorem dX0_faultOfOffset_15 : decode cX0_faultOfOffset 15 = .ok (.iload_n 1, 1) := by decide +kernel
theorem dX0_faultOfOffset_16 : decode cX0_faultOfOffset 16 = .ok (.iload_n 2, 1) := by decide +kernel
theorem dX0_faultOfOffset_17 : decode cX0_faultOfOffset 17 = .ok (.if_icmp .ne 6, 3) := by decide +kernel
theorem dX0_faultOfOffset_20 : decode cX0_faultOfOffset 20 = .ok (.bipush 8, 2) := by decide +kernel
theorem dX0_faultOfOffset_22 : decode cX0_faultOfOffset 22 = .ok (.ireturn, 1) := by decide +kernel
theorem dX0_faultOfOffset_23 : decode cX0_faultOfOffset 23 = .ok (.aload_n 0, 1) := by decide +kernel
theorem dX0_faultOfOffset_24 : decode cX0_faultOfOffset 24 = .ok (.getfield 28, 3) := by decide +kernel
theorem dX0_faultOfOffset_27 : decode cX0_faultOfOffset 27 = .ok (.iload_n 1, 1) := by decide +kernel
theorem dX0_faultOfOffset_28 : decode cX0_faultOfOffset 28 = .ok (.iload_n 2, 1) := by decide +kernel
theorem dX0_faultOfOffset_29 : decode cX0_faultOfOffset 29 = .ok (.invokevirtual 116, 3) := by decide +kernel
theorem dX0_faultOfOffset_32 : decode cX0_faultOfOffset 32 = .ok (.lconst 0, 1) := by decide +kernel
theorem dX0_faultOfOffset_33 : decode cX0_faultOfOffset 33 = .ok (.lcmp, 1) := by decide +kernel
theorem dX0_faultOfOffset_34 : decode cX0_faultOfOffset 34 = .ok (.ifCond .le 21, 3) := by decide +kernel
theorem dX0_faultOfOffset_37 : decode cX0_faultOfOffset 37 = .ok (.aload_n 0, 1) := by decide +kernel
theorem dX0_faultOfOffset_38 : decode cX0_faultOfOffset 38 = .ok (.getfield 28, 3) := by decide +kernel
theorem dX0_faultOfOffset_41 : decode cX0_faultOfOffset 41 = .ok (.iload_n 2, 1) := by decide +kernel
theorem dX0_faultOfOffset_42 : decode cX0_faultOfOffset 42 = .ok (.iload_n 1, 1) := by decide +kernel
theorem dX0_faultOfOffset_43 : decode cX0_faultOfOffset 43 = .ok (.invokevirtual 116, 3) := by decide +kernel
theorem dX0_faultOfOffset_46 : decode cX0_faultOfOffset 46 = .ok (.lconst 0, 1) := by decide +kernel
theorem dX0_faultOfOffset_47 : decode cX0_faultOfOffset 47 = .ok (.lcmp, 1) := by decide +kernel
theorem dX0_faultOfOffset_48 : decode cX0_faultOfOffset 48 = .ok (.ifCond .le 7, 3) := by decide +kernel
theorem dX0_faultOfOffset_51 : decode cX0_faultOfOffset 51 = .ok (.iconst 1, 1) := by decide +kernel
theorem dX0_faultOfOffset_52 : decode cX0_faultOfOffset 52 = .ok (.goto 4, 3) := by decide +kernel
theorem dX0_faultOfOffset_55 : decode cX0_faultOfOffset 55 = .ok (.iconst 0, 1) := by decide +kernel
theorem dX0_faultOfOffset_56 : decode cX0_faultOfOffset 56 = .ok (.istore_n 3, 1) := by decide +kernel
theorem dX0_faultOfOffset_57 : decode cX0_faultOfOffset 57 = .ok (.iload_n 3, 1) := by decide +kernel
theorem dX0_faultOfOffset_58 : decode cX0_faultOfOffset 58 = .ok (.ifCond .eq 7, 3) := by decide +kernel
theorem dX0_faultOfOffset_61 : decode cX0_faultOfOffset 61 = .ok (.iconst 0, 1) := by decide +kernel
theorem dX0_faultOfOffset_62 : decode cX0_faultOfOffset 62 = .ok (.goto 4, 3) := by decide +kernel
theorem dX0_faultOfOffset_65 : decode cX0_faultOfOffset 65 = .ok (.iconst 5, 1) := by decide +kernel
theorem dX0_faultOfOffset_66 : decode cX0_faultOfOffset 66 = .ok (.ireturn, 1) := by decide +kernel
theorem dX0_faultOfDays_0 : decode cX0_faultOfDays 0 = .ok (.iload_n 1, 1) := by decide +kernel
theorem dX0_faultOfDays_1 : decode cX0_faultOfDays 1 = .ok (.iconst 0, 1) := by decide +kernel
theorem dX0_faultOfDays_2 : decode cX0_faultOfDays 2 = .ok (.sipush 999, 3) := by decide +kernel
theorem dX0_faultOfDays_5 : decode cX0_faultOfDays 5 = .ok (.invokestatic 120, 3) := by decide +kernel
theorem dX0_faultOfDays_8 : decode cX0_faultOfDays 8 = .ok (.ifCond .ne 6, 3) := by decide +kernel
theorem dX0_faultOfDays_11 : decode cX0_faultOfDays 11 = .ok (.bipush 8, 2) := by decide +kernel
theorem dX0_faultOfDays_13 : decode cX0_faultOfDays 13 = .ok (.ireturn, 1) := by decide +kernel
theorem dX0_faultOfDays_14 : decode cX0_faultOfDays 14 = .ok (.aload_n 0, 1) := by decide +kernel
theorem dX0_faultOfDays_15 : decode cX0_faultOfDays 15 = .ok (.getfield 57, 3) := by decide +kernel
theorem dX0_faultOfDays_18 : decode cX0_faultOfDays 18 = .ok (.iload_n 1, 1) := by decide +kernel
theorem dX0_faultOfDays_19 : decode cX0_faultOfDays 19 = .ok (.iadd, 1) := by decide +kernel
theorem dX0_faultOfDays_20 : decode cX0_faultOfDays 20 = .ok (.sipush 3650, 3) := by decide +kernel
theorem dX0_faultOfDays_23 : decode cX0_faultOfDays 23 = .ok (.if_icmp .le 8, 3) := by decide +kernel
theorem dX0_faultOfDays_26 : decode cX0_faultOfDays 26 = .ok (.bipush 9, 2) := by decide +kernel
theorem dX0_faultOfDays_28 : decode cX0_faultOfDays 28 = .ok (.goto 4, 3) := by decide +kernel
theorem dX0_faultOfDays_31 : decode cX0_faultOfDays 31 = .ok (.iconst 0, 1) := by decide +kernel
theorem dX0_faultOfDays_32 : decode cX0_faultOfDays 32 = .ok (.ireturn, 1) := by decide +kernel
theorem dX0_faultOfNextStage_0 : decode cX0_faultOfNextStage 0 = .ok (.aload_n 0, 1) := by decide +kernel
theorem dX0_faultOfNextStage_1 : decode cX0_faultOfNextStage 1 = .ok (.getfield 61, 3) := by decide +kernel
theorem dX0_faultOfNextStage_4 : decode cX0_faultOfNextStage 4 = .ok (.iconst 3, 1) := by decide +kernel
theorem dX0_faultOfNextStage_5 : decode cX0_faultOfNextStage 5 = .ok (.if_icmp .lt 8, 3) := by decide +kernel
theorem dX0_faultOfNextStage_8 : decode cX0_faultOfNextStage 8 = .ok (.bipush 9, 2) := by decide +kernel
theorem dX0_faultOfNextStage_10 : decode cX0_faultOfNextStage 10 = .ok (.goto 4, 3) := by decide +kernel
theorem dX0_faultOfNextStage_13 : decode cX0_faultOfNextStage 13 = .ok (.iconst 0, 1) := by decide +kernel
theorem dX0_faultOfNextStage_14 : decode cX0_faultOfNextStage 14 = .ok (.ireturn, 1) := by decide +kernel
theorem dX0_makeAward_0 : decode cX0_makeAward 0 = .ok (.aload_n 0, 1) := by decide +kernel
theorem dX0_makeAward_1 : decode cX0_makeAward 1 = .ok (.getfield 21, 3) := by decide +kernel
theorem dX0_makeAward_4 : decode cX0_makeAward 4 = .ok (.getfield 124, 3) := by decide +kernel
theorem dX0_makeAward_7 : decode cX0_makeAward 7 = .ok (.iload_n 1, 1) := by decide +kernel
theorem dX0_makeAward_8 : decode cX0_makeAward 8 = .ok (.dup2, 1) := by decide +kernel
theorem dX0_makeAward_9 : decode cX0_makeAward 9 = .ok (.iaload, 1) := by decide +kernel
theorem dX0_makeAward_10 : decode cX0_makeAward 10 = .ok (.iload_n 2, 1) := by decide +kernel
theorem dX0_makeAward_11 : decode cX0_makeAward 11 = .ok (.iadd, 1) := by decide +kernel
theorem dX0_makeAward_12 : decode cX0_makeAward 12 = .ok (.iastore, 1) := by decide +kernel
theorem dX0_makeAward_13 : decode cX0_makeAward 13 = .ok (.aload_n 0, 1) := by decide +kernel
theorem dX0_makeAward_14 : decode cX0_makeAward 14 = .ok (.getfield 28, 3) := by decide +kernel
theorem dX0_makeAward_17 : decode cX0_makeAward 17 = .ok (.aload_n 0, 1) := by decide +kernel
theorem dX0_makeAward_18 : decode cX0_makeAward 18 = .ok (.getfield 21, 3) := by decide +kernel
theorem dX0_makeAward_21 : decode cX0_makeAward 21 = .ok (.getfield 127, 3) := by decide +kernel
theorem dX0_makeAward_24 : decode cX0_makeAward 24 = .ok (.iload_n 1, 1) := by decide +kernel
theorem dX0_makeAward_25 : decode cX0_makeAward 25 = .ok (.iaload, 1) := by decide +kernel
theorem dX0_makeAward_26 : decode cX0_makeAward 26 = .ok (.aload_n 0, 1) := by decide +kernel
theorem dX0_makeAward_27 : decode cX0_makeAward 27 = .ok (.getfield 21, 3) := by decide +kernel
theorem dX0_makeAward_30 : decode cX0_makeAward 30 = .ok (.getfield 130, 3) := by decide +kernel
theorem dX0_makeAward_33 : decode cX0_makeAward 33 = .ok (.iload_n 1, 1) := by decide +kernel
theorem dX0_makeAward_34 : decode cX0_makeAward 34 = .ok (.iaload, 1) := by decide +kernel
theorem dX0_makeAward_35 : decode cX0_makeAward 35 = .ok (.iload_n 2, 1) := by decide +kernel
theorem dX0_makeAward_36 : decode cX0_makeAward 36 = .ok (.i2l, 1) := by decide +kernel
theorem dX0_makeAward_37 : decode cX0_makeAward 37 = .ok (.invokevirtual 133, 3) := by decide +kernel
theorem dX0_makeAward_40 : decode cX0_makeAward 40 = .ok (.aload_n 0, 1) := by decide +kernel
theorem dX0_makeAward_41 : decode cX0_makeAward 41 = .ok (.getfield 35, 3) := by decide +kernel
theorem dX0_makeAward_44 : decode cX0_makeAward 44 = .ok (.iconst 1, 1) := by decide +kernel
theorem dX0_makeAward_45 : decode cX0_makeAward 45 = .ok (.iload_n 2, 1) := by decide +kernel
theorem dX0_makeAward_46 : decode cX0_makeAward 46 = .ok (.i2l, 1) := by decide +kernel
theorem dX0_makeAward_47 : decode cX0_makeAward 47 = .ok (.invokevirtual 137, 3) := by decide +kernel
theorem dX0_makeAward_50 : decode cX0_makeAward 50 = .ok (.return_, 1) := by decide +kernel
theorem dX0_makeDismissal_0 : decode cX0_makeDismissal 0 = .ok (.aload_n 0, 1) := by decide +kernel
theorem dX0_makeDismissal_1 : decode cX0_makeDismissal 1 = .ok (.getfield 21, 3) := by decide +kernel
theorem dX0_makeDismissal_4 : decode cX0_makeDismissal 4 = .ok (.getfield 141, 3) := by decide +kernel
theorem dX0_makeDismissal_7 : decode cX0_makeDismissal 7 = .ok (.iload_n 1, 1) := by decide +kernel
theorem dX0_makeDismissal_8 : decode cX0_makeDismissal 8 = .ok (.dup2, 1) := by decide +kernel
theorem dX0_makeDismissal_9 : decode cX0_makeDismissal 9 = .ok (.iaload, 1) := by decide +kernel
theorem dX0_makeDismissal_10 : decode cX0_makeDismissal 10 = .ok (.iload_n 2, 1) := by decide +kernel
theorem dX0_makeDismissal_11 : decode cX0_makeDismissal 11 = .ok (.iadd, 1) := by decide +kernel
theorem dX0_makeDismissal_12 : decode cX0_makeDismissal 12 = .ok (.iastore, 1) := by decide +kernel
theorem dX0_makeDismissal_13 : decode cX0_makeDismissal 13 = .ok (.aload_n 0, 1) := by decide +kernel
theorem dX0_makeDismissal_14 : decode cX0_makeDismissal 14 = .ok (.getfield 35, 3) := by decide +kernel
theorem dX0_makeDismissal_17 : decode cX0_makeDismissal 17 = .ok (.iconst 2, 1) := by decide +kernel
theorem dX0_makeDismissal_18 : decode cX0_makeDismissal 18 = .ok (.iload_n 2, 1) := by decide +kernel
theorem dX0_makeDismissal_19 : decode cX0_makeDismissal 19 = .ok (.i2l, 1) := by decide +kernel
theorem dX0_makeDismissal_20 : decode cX0_makeDismissal 20 = .ok (.invokevirtual 137, 3) := by decide +kernel
theorem dX0_makeDismissal_23 : decode cX0_makeDismissal 23 = .ok (.return_, 1) := by decide +kernel
theorem dX0_makeWithdrawal_0 : decode cX0_makeWithdrawal 0 = .ok (.aload_n 0, 1) := by decide +kernel
theorem dX0_makeWithdrawal_1 : decode cX0_makeWithdrawal 1 = .ok (.getfield 21, 3) := by decide +kernel
theorem dX0_makeWithdrawal_4 : decode cX0_makeWithdrawal 4 = .ok (.getfield 144, 3) := by decide +kernel
theorem dX0_makeWithdrawal_7 : decode cX0_makeWithdrawal 7 = .ok (.iload_n 1, 1) := by decide +kernel
theorem dX0_makeWithdrawal_8 : decode cX0_makeWithdrawal 8 = .ok (.dup2, 1) := by decide +kernel
theorem dX0_makeWithdrawal_9 : decode cX0_makeWithdrawal 9 = .ok (.iaload, 1) := by decide +kernel
theorem dX0_makeWithdrawal_10 : decode cX0_makeWithdrawal 10 = .ok (.iload_n 2, 1) := by decide +kernel
theorem dX0_makeWithdrawal_11 : decode cX0_makeWithdrawal 11 = .ok (.iadd, 1) := by decide +kernel
theorem dX0_makeWithdrawal_12 : decode cX0_makeWithdrawal 12 = .ok (.iastore, 1) := by decide +kernel
theorem dX0_makeWithdrawal_13 : decode cX0_makeWithdrawal 13 = .ok (.aload_n 0, 1) := by decide +kernel
theorem dX0_makeWithdrawal_14 : decode cX0_makeWithdrawal 14 = .ok (.getfield 35, 3) := by decide +kernel
theorem dX0_makeWithdrawal_17 : decode cX0_makeWithdrawal 17 = .ok (.iconst 3, 1) := by decide +kernel
theorem dX0_makeWithdrawal_18 : decode cX0_makeWithdrawal 18 = .ok (.iload_n 2, 1) := by decide +kernel
theorem dX0_makeWithdrawal_19 : decode cX0_makeWithdrawal 19 = .ok (.i2l, 1) := by decide +kernel
theorem dX0_makeWithdrawal_20 : decode cX0_makeWithdrawal 20 = .ok (.invokevirtual 137, 3) := by decide +kernel
theorem dX0_makeWithdrawal_23 : decode cX0_makeWithdrawal 23 = .ok (.return_, 1) := by decide +kernel
theorem dX0_makeCall_0 : decode cX0_makeCall 0 = .ok (.iload_n 1, 1) := by decide +kernel
theorem dX0_makeCall_1 : decode cX0_makeCall 1 = .ok (.iconst 2, 1) := by decide +kernel
theorem dX0_makeCall_2 : decode cX0_makeCall 2 = .ok (.idiv, 1) := by decide +kernel
theorem dX0_makeCall_3 : decode cX0_makeCall 3 = .ok (.istore_n 2, 1) := by decide +kernel
theorem dX0_makeCall_4 : decode cX0_makeCall 4 = .ok (.lconst 0, 1) := by decide +kernel
theorem dX0_makeCall_5 : decode cX0_makeCall 5 = .ok (.lstore_n 3, 1) := by decide +kernel
theorem dX0_makeCall_6 : decode cX0_makeCall 6 = .ok (.iconst 0, 1) := by decide +kernel
theorem dX0_makeCall_7 : decode cX0_makeCall 7 = .ok (.istore 5, 2) := by decide +kernel
theorem dX0_makeCall_9 : decode cX0_makeCall 9 = .ok (.iload 5, 2) := by decide +kernel
theorem dX0_makeCall_11 : decode cX0_makeCall 11 = .ok (.aload_n 0, 1) := by decide +kernel
theorem dX0_makeCall_12 : decode cX0_makeCall 12 = .ok (.getfield 12, 3) := by decide +kernel
theorem dX0_makeCall_15 : decode cX0_makeCall 15 = .ok (.getfield 64, 3) := by decide +kernel
theorem dX0_makeCall_18 : decode cX0_makeCall 18 = .ok (.if_icmp .ge 62, 3) := by decide +kernel
theorem dX0_makeCall_21 : decode cX0_makeCall 21 = .ok (.aload_n 0, 1) := by decide +kernel
theorem dX0_makeCall_22 : decode cX0_makeCall 22 = .ok (.getfield 12, 3) := by decide +kernel
theorem dX0_makeCall_25 : decode cX0_makeCall 25 = .ok (.aload_n 0, 1) := by decide +kernel
theorem dX0_makeCall_26 : decode cX0_makeCall 26 = .ok (.getfield 12, 3) := by decide +kernel
theorem dX0_makeCall_29 : decode cX0_makeCall 29 = .ok (.getfield 93, 3) := by decide +kernel
theorem dX0_makeCall_32 : decode cX0_makeCall 32 = .ok (.iload 5, 2) := by decide +kernel
theorem dX0_makeCall_34 : decode cX0_makeCall 34 = .ok (.iaload, 1) := by decide +kernel
theorem dX0_makeCall_35 : decode cX0_makeCall 35 = .ok (.ifCond .ne 10, 3) := by decide +kernel
theorem dX0_makeCall_38 : decode cX0_makeCall 38 = .ok (.iload_n 1, 1) := by decide +kernel
theorem dX0_makeCall_39 : decode cX0_makeCall 39 = .ok (.iload_n 2, 1) := by decide +kernel
theorem dX0_makeCall_40 : decode cX0_makeCall 40 = .ok (.isub, 1) := by decide +kernel
theorem dX0_makeCall_41 : decode cX0_makeCall 41 = .ok (.i2l, 1) := by decide +kernel
theorem dX0_makeCall_42 : decode cX0_makeCall 42 = .ok (.goto 5, 3) := by decide +kernel
theorem dX0_makeCall_45 : decode cX0_makeCall 45 = .ok (.iload_n 2, 1) := by decide +kernel
theorem dX0_makeCall_46 : decode cX0_makeCall 46 = .ok (.i2l, 1) := by decide +kernel
theorem dX0_makeCall_47 : decode cX0_makeCall 47 = .ok (.iload 5, 2) := by decide +kernel
theorem dX0_makeCall_49 : decode cX0_makeCall 49 = .ok (.invokevirtual 147, 3) := by decide +kernel
theorem dX0_makeCall_52 : decode cX0_makeCall 52 = .ok (.lstore 6, 2) := by decide +kernel
theorem dX0_makeCall_54 : decode cX0_makeCall 54 = .ok (.aload_n 0, 1) := by decide +kernel
theorem dX0_makeCall_55 : decode cX0_makeCall 55 = .ok (.getfield 12, 3) := by decide +kernel
theorem dX0_makeCall_58 : decode cX0_makeCall 58 = .ok (.getfield 151, 3) := by decide +kernel
theorem dX0_makeCall_61 : decode cX0_makeCall 61 = .ok (.iload 5, 2) := by decide +kernel
theorem dX0_makeCall_63 : decode cX0_makeCall 63 = .ok (.dup2, 1) := by decide +kernel
theorem dX0_makeCall_64 : decode cX0_makeCall 64 = .ok (.laload, 1) := by decide +kernel
theorem dX0_makeCall_65 : decode cX0_makeCall 65 = .ok (.lload 6, 2) := by decide +kernel
theorem dX0_makeCall_67 : decode cX0_makeCall 67 = .ok (.ladd, 1) := by decide +kernel
theorem dX0_makeCall_68 : decode cX0_makeCall 68 = .ok (.lastore, 1) := by decide +kernel
theorem dX0_makeCall_69 : decode cX0_makeCall 69 = .ok (.lload_n 3, 1) := by decide +kernel
theorem dX0_makeCall_70 : decode cX0_makeCall 70 = .ok (.lload 6, 2) := by decide +kernel
theorem dX0_makeCall_72 : decode cX0_makeCall 72 = .ok (.ladd, 1) := by decide +kernel
theorem dX0_makeCall_73 : decode cX0_makeCall 73 = .ok (.lstore_n 3, 1) := by decide +kernel
theorem dX0_makeCall_74 : decode cX0_makeCall 74 = .ok (.iinc 5 1, 3) := by decide +kernel
theorem dX0_makeCall_77 : decode cX0_makeCall 77 = .ok (.goto (-68), 3) := by decide +kernel
theorem dX0_makeCall_80 : decode cX0_makeCall 80 = .ok (.aload_n 0, 1) := by decide +kernel
theorem dX0_makeCall_81 : decode cX0_makeCall 81 = .ok (.getfield 35, 3) := by decide +kernel
theorem dX0_makeCall_84 : decode cX0_makeCall 84 = .ok (.iconst 4, 1) := by decide +kernel
theorem dX0_makeCall_85 : decode cX0_makeCall 85 = .ok (.lload_n 3, 1) := by decide +kernel
theorem dX0_makeCall_86 : decode cX0_makeCall 86 = .ok (.invokevirtual 137, 3) := by decide +kernel
theorem dX0_makeCall_89 : decode cX0_makeCall 89 = .ok (.lload_n 3, 1) := by decide +kernel
theorem dX0_makeCall_90 : decode cX0_makeCall 90 = .ok (.lreturn, 1) := by decide +kernel
theorem dX0_makePayment_0 : decode cX0_makePayment 0 = .ok (.aload_n 0, 1) := by decide +kernel
theorem dX0_makePayment_1 : decode cX0_makePayment 1 = .ok (.getfield 12, 3) := by decide +kernel
theorem dX0_makePayment_4 : decode cX0_makePayment 4 = .ok (.getfield 155, 3) := by decide +kernel
theorem dX0_makePayment_7 : decode cX0_makePayment 7 = .ok (.iload_n 1, 1) := by decide +kernel
theorem dX0_makePayment_8 : decode cX0_makePayment 8 = .ok (.dup2, 1) := by decide +kernel
theorem dX0_makePayment_9 : decode cX0_makePayment 9 = .ok (.laload, 1) := by decide +kernel
theorem dX0_makePayment_10 : decode cX0_makePayment 10 = .ok (.lload_n 2, 1) := by decide +kernel
theorem dX0_makePayment_11 : decode cX0_makePayment 11 = .ok (.ladd, 1) := by decide +kernel
theorem dX0_makePayment_12 : decode cX0_makePayment 12 = .ok (.lastore, 1) := by decide +kernel
theorem dX0_makePayment_13 : decode cX0_makePayment 13 = .ok (.aload_n 0, 1) := by decide +kernel
theorem dX0_makePayment_14 : decode cX0_makePayment 14 = .ok (.getfield 35, 3) := by decide +kernel
theorem dX0_makePayment_17 : decode cX0_makePayment 17 = .ok (.iconst 5, 1) := by decide +kernel
theorem dX0_makePayment_18 : decode cX0_makePayment 18 = .ok (.lload_n 2, 1) := by decide +kernel
theorem dX0_makePayment_19 : decode cX0_makePayment 19 = .ok (.invokevirtual 137, 3) := by decide +kernel
theorem dX0_makePayment_22 : decode cX0_makePayment 22 = .ok (.return_, 1) := by decide +kernel
theorem dX0_makePaymentFor_0 : decode cX0_makePaymentFor 0 = .ok (.aload_n 0, 1) := by decide +kernel
theorem dX0_makePaymentFor_1 : decode cX0_makePaymentFor 1 = .ok (.getfield 12, 3) := by decide +kernel
theorem dX0_makePaymentFor_4 : decode cX0_makePaymentFor 4 = .ok (.iload_n 2, 1) := by decide +kernel
theorem dX0_makePaymentFor_5 : decode cX0_makePaymentFor 5 = .ok (.invokevirtual 112, 3) := by decide +kernel
theorem dX0_makePaymentFor_8 : decode cX0_makePaymentFor 8 = .ok (.lstore_n 3, 1) := by decide +kernel
theorem dX0_makePaymentFor_9 : decode cX0_makePaymentFor 9 = .ok (.aload_n 0, 1) := by decide +kernel
theorem dX0_makePaymentFor_10 : decode cX0_makePaymentFor 10 = .ok (.iload_n 2, 1) := by decide +kernel
theorem dX0_makePaymentFor_11 : decode cX0_makePaymentFor 11 = .ok (.lload_n 3, 1) := by decide +kernel
theorem dX0_makePaymentFor_12 : decode cX0_makePaymentFor 12 = .ok (.invokevirtual 158, 3) := by decide +kernel
theorem dX0_makePaymentFor_15 : decode cX0_makePaymentFor 15 = .ok (.aload_n 0, 1) := by decide +kernel
theorem dX0_makePaymentFor_16 : decode cX0_makePaymentFor 16 = .ok (.getfield 28, 3) := by decide +kernel
theorem dX0_makePaymentFor_19 : decode cX0_makePaymentFor 19 = .ok (.iload_n 2, 1) := by decide +kernel
theorem dX0_makePaymentFor_20 : decode cX0_makePaymentFor 20 = .ok (.iload_n 1, 1) := by decide +kernel
theorem dX0_makePaymentFor_21 : decode cX0_makePaymentFor 21 = .ok (.lload_n 3, 1) := by decide +kernel
theorem dX0_makePaymentFor_22 : decode cX0_makePaymentFor 22 = .ok (.invokevirtual 133, 3) := by decide +kernel
theorem dX0_makePaymentFor_25 : decode cX0_makePaymentFor 25 = .ok (.lload_n 3, 1) := by decide +kernel
theorem dX0_makePaymentFor_26 : decode cX0_makePaymentFor 26 = .ok (.lreturn, 1) := by decide +kernel
theorem dX0_takeAllFees_0 : decode cX0_takeAllFees 0 = .ok (.lconst 0, 1) := by decide +kernel
theorem dX0_takeAllFees_1 : decode cX0_takeAllFees 1 = .ok (.lstore_n 1, 1) := by decide +kernel
theorem dX0_takeAllFees_2 : decode cX0_takeAllFees 2 = .ok (.iconst 0, 1) := by decide +kernel
theorem dX0_takeAllFees_3 : decode cX0_takeAllFees 3 = .ok (.istore_n 3, 1) := by decide +kernel
theorem dX0_takeAllFees_4 : decode cX0_takeAllFees 4 = .ok (.iload_n 3, 1) := by decide +kernel
theorem dX0_takeAllFees_5 : decode cX0_takeAllFees 5 = .ok (.aload_n 0, 1) := by decide +kernel
theorem dX0_takeAllFees_6 : decode cX0_takeAllFees 6 = .ok (.getfield 12, 3) := by decide +kernel
theorem dX0_takeAllFees_9 : decode cX0_takeAllFees 9 = .ok (.getfield 64, 3) := by decide +kernel
theorem dX0_takeAllFees_12 : decode cX0_takeAllFees 12 = .ok (.if_icmp .ge 60, 3) := by decide +kernel
theorem dX0_takeAllFees_15 : decode cX0_takeAllFees 15 = .ok (.aload_n 0, 1) := by decide +kernel
theorem dX0_takeAllFees_16 : decode cX0_takeAllFees 16 = .ok (.iload_n 3, 1) := by decide +kernel
theorem dX0_takeAllFees_17 : decode cX0_takeAllFees 17 = .ok (.invokevirtual 161, 3) := by decide +kernel
theorem dX0_takeAllFees_20 : decode cX0_takeAllFees 20 = .ok (.aload_n 0, 1) := by decide +kernel
theorem dX0_takeAllFees_21 : decode cX0_takeAllFees 21 = .ok (.getfield 12, 3) := by decide +kernel
theorem dX0_takeAllFees_24 : decode cX0_takeAllFees 24 = .ok (.getfield 164, 3) := by decide +kernel
theorem dX0_takeAllFees_27 : decode cX0_takeAllFees 27 = .ok (.iload_n 3, 1) := by decide +kernel
theorem dX0_takeAllFees_28 : decode cX0_takeAllFees 28 = .ok (.laload, 1) := by decide +kernel
theorem dX0_takeAllFees_29 : decode cX0_takeAllFees 29 = .ok (.lsub, 1) := by decide +kernel
theorem dX0_takeAllFees_30 : decode cX0_takeAllFees 30 = .ok (.lstore 4, 2) := by decide +kernel
theorem dX0_takeAllFees_32 : decode cX0_takeAllFees 32 = .ok (.lload 4, 2) := by decide +kernel
theorem dX0_takeAllFees_34 : decode cX0_takeAllFees 34 = .ok (.aload_n 0, 1) := by decide +kernel
theorem dX0_takeAllFees_35 : decode cX0_takeAllFees 35 = .ok (.getfield 12, 3) := by decide +kernel
theorem dX0_takeAllFees_38 : decode cX0_takeAllFees 38 = .ok (.iload_n 3, 1) := by decide +kernel
theorem dX0_takeAllFees_39 : decode cX0_takeAllFees 39 = .ok (.invokevirtual 167, 3) := by decide +kernel
theorem dX0_takeAllFees_42 : decode cX0_takeAllFees 42 = .ok (.invokestatic 170, 3) := by decide +kernel
theorem dX0_takeAllFees_45 : decode cX0_takeAllFees 45 = .ok (.lstore 6, 2) := by decide +kernel
theorem dX0_takeAllFees_47 : decode cX0_takeAllFees 47 = .ok (.aload_n 0, 1) := by decide +kernel
theorem dX0_takeAllFees_48 : decode cX0_takeAllFees 48 = .ok (.getfield 12, 3) := by decide +kernel
theorem dX0_takeAllFees_51 : decode cX0_takeAllFees 51 = .ok (.getfield 164, 3) := by decide +kernel
theorem dX0_takeAllFees_54 : decode cX0_takeAllFees 54 = .ok (.iload_n 3, 1) := by decide +kernel
theorem dX0_takeAllFees_55 : decode cX0_takeAllFees 55 = .ok (.dup2, 1) := by decide +kernel
theorem dX0_takeAllFees_56 : decode cX0_takeAllFees 56 = .ok (.laload, 1) := by decide +kernel
theorem dX0_takeAllFees_57 : decode cX0_takeAllFees 57 = .ok (.lload 6, 2) := by decide +kernel
theorem dX0_takeAllFees_59 : decode cX0_takeAllFees 59 = .ok (.ladd, 1) := by decide +kernel
theorem dX0_takeAllFees_60 : decode cX0_takeAllFees 60 = .ok (.lastore, 1) := by decide +kernel
theorem dX0_takeAllFees_61 : decode cX0_takeAllFees 61 = .ok (.lload_n 1, 1) := by decide +kernel
theorem dX0_takeAllFees_62 : decode cX0_takeAllFees 62 = .ok (.lload 6, 2) := by decide +kernel
theorem dX0_takeAllFees_64 : decode cX0_takeAllFees 64 = .ok (.ladd, 1) := by decide +kernel
theorem dX0_takeAllFees_65 : decode cX0_takeAllFees 65 = .ok (.lstore_n 1, 1) := by decide +kernel
theorem dX0_takeAllFees_66 : decode cX0_takeAllFees 66 = .ok (.iinc 3 1, 3) := by decide +kernel
theorem dX0_takeAllFees_69 : decode cX0_takeAllFees 69 = .ok (.goto (-65), 3) := by decide +kernel
theorem dX0_takeAllFees_72 : decode cX0_takeAllFees 72 = .ok (.aload_n 0, 1) := by decide +kernel
theorem dX0_takeAllFees_73 : decode cX0_takeAllFees 73 = .ok (.getfield 35, 3) := by decide +kernel
theorem dX0_takeAllFees_76 : decode cX0_takeAllFees 76 = .ok (.bipush 6, 2) := by decide +kernel
theorem dX0_takeAllFees_78 : decode cX0_takeAllFees 78 = .ok (.lload_n 1, 1) := by decide +kernel
theorem dX0_takeAllFees_79 : decode cX0_takeAllFees 79 = .ok (.invokevirtual 137, 3) := by decide +kernel
theorem dX0_takeAllFees_82 : decode cX0_takeAllFees 82 = .ok (.lload_n 1, 1) := by decide +kernel
theorem dX0_takeAllFees_83 : decode cX0_takeAllFees 83 = .ok (.lreturn, 1) := by decide +kernel
theorem dX0_returnAll_0 : decode cX0_returnAll 0 = .ok (.lconst 0, 1) := by decide +kernel
theorem dX0_returnAll_1 : decode cX0_returnAll 1 = .ok (.lstore_n 1, 1) := by decide +kernel
theorem dX0_returnAll_2 : decode cX0_returnAll 2 = .ok (.iconst 0, 1) := by decide +kernel
theorem dX0_returnAll_3 : decode cX0_returnAll 3 = .ok (.istore_n 3, 1) := by decide +kernel
theorem dX0_returnAll_4 : decode cX0_returnAll 4 = .ok (.iload_n 3, 1) := by decide +kernel
theorem dX0_returnAll_5 : decode cX0_returnAll 5 = .ok (.aload_n 0, 1) := by decide +kernel
theorem dX0_returnAll_6 : decode cX0_returnAll 6 = .ok (.getfield 12, 3) := by decide +kernel
theorem dX0_returnAll_9 : decode cX0_returnAll 9 = .ok (.getfield 64, 3) := by decide +kernel
theorem dX0_returnAll_12 : decode cX0_returnAll 12 = .ok (.if_icmp .ge 66, 3) := by decide +kernel
theorem dX0_returnAll_15 : decode cX0_returnAll 15 = .ok (.lconst 0, 1) := by decide +kernel
theorem dX0_returnAll_16 : decode cX0_returnAll 16 = .ok (.aload_n 0, 1) := by decide +kernel
theorem dX0_returnAll_17 : decode cX0_returnAll 17 = .ok (.iload_n 3, 1) := by decide +kernel
theorem dX0_returnAll_18 : decode cX0_returnAll 18 = .ok (.invokevirtual 161, 3) := by decide +kernel
theorem dX0_returnAll_21 : decode cX0_returnAll 21 = .ok (.aload_n 0, 1) := by decide +kernel
theorem dX0_returnAll_22 : decode cX0_returnAll 22 = .ok (.getfield 12, 3) := by decide +kernel
theorem dX0_returnAll_25 : decode cX0_returnAll 25 = .ok (.getfield 164, 3) := by decide +kernel
theorem dX0_returnAll_28 : decode cX0_returnAll 28 = .ok (.iload_n 3, 1) := by decide +kernel
theorem dX0_returnAll_29 : decode cX0_returnAll 29 = .ok (.laload, 1) := by decide +kernel
theorem dX0_returnAll_30 : decode cX0_returnAll 30 = .ok (.lsub, 1) := by decide +kernel
theorem dX0_returnAll_31 : decode cX0_returnAll 31 = .ok (.invokestatic 176, 3) := by decide +kernel
theorem dX0_returnAll_34 : decode cX0_returnAll 34 = .ok (.lstore 4, 2) := by decide +kernel
theorem dX0_returnAll_36 : decode cX0_returnAll 36 = .ok (.lconst 0, 1) := by decide +kernel
theorem dX0_returnAll_37 : decode cX0_returnAll 37 = .ok (.aload_n 0, 1) := by decide +kernel
theorem dX0_returnAll_38 : decode cX0_returnAll 38 = .ok (.getfield 12, 3) := by decide +kernel
theorem dX0_returnAll_41 : decode cX0_returnAll 41 = .ok (.iload_n 3, 1) := by decide +kernel
theorem dX0_returnAll_42 : decode cX0_returnAll 42 = .ok (.invokevirtual 167, 3) := by decide +kernel
theorem dX0_returnAll_45 : decode cX0_returnAll 45 = .ok (.lload 4, 2) := by decide +kernel
theorem dX0_returnAll_47 : decode cX0_returnAll 47 = .ok (.lsub, 1) := by decide +kernel
theorem dX0_returnAll_48 : decode cX0_returnAll 48 = .ok (.invokestatic 176, 3) := by decide +kernel
theorem dX0_returnAll_51 : decode cX0_returnAll 51 = .ok (.lstore 6, 2) := by decide +kernel
theorem dX0_returnAll_53 : decode cX0_returnAll 53 = .ok (.aload_n 0, 1) := by decide +kernel
theorem dX0_returnAll_54 : decode cX0_returnAll 54 = .ok (.getfield 12, 3) := by decide +kernel
theorem dX0_returnAll_57 : decode cX0_returnAll 57 = .ok (.getfield 179, 3) := by decide +kernel
theorem dX0_returnAll_60 : decode cX0_returnAll 60 = .ok (.iload_n 3, 1) := by decide +kernel
theorem dX0_returnAll_61 : decode cX0_returnAll 61 = .ok (.dup2, 1) := by decide +kernel
theorem dX0_returnAll_62 : decode cX0_returnAll 62 = .ok (.laload, 1) := by decide +kernel
theorem dX0_returnAll_63 : decode cX0_returnAll 63 = .ok (.lload 6, 2) := by decide +kernel
theorem dX0_returnAll_65 : decode cX0_returnAll 65 = .ok (.ladd, 1) := by decide +kernel
theorem dX0_returnAll_66 : decode cX0_returnAll 66 = .ok (.lastore, 1) := by decide +kernel
theorem dX0_returnAll_67 : decode cX0_returnAll 67 = .ok (.lload_n 1, 1) := by decide +kernel
theorem dX0_returnAll_68 : decode cX0_returnAll 68 = .ok (.lload 6, 2) := by decide +kernel
theorem dX0_returnAll_70 : decode cX0_returnAll 70 = .ok (.ladd, 1) := by decide +kernel
theorem dX0_returnAll_71 : decode cX0_returnAll 71 = .ok (.lstore_n 1, 1) := by decide +kernel
theorem dX0_returnAll_72 : decode cX0_returnAll 72 = .ok (.iinc 3 1, 3) := by decide +kernel
theorem dX0_returnAll_75 : decode cX0_returnAll 75 = .ok (.goto (-71), 3) := by decide +kernel
theorem dX0_returnAll_78 : decode cX0_returnAll 78 = .ok (.aload_n 0, 1) := by decide +kernel
theorem dX0_returnAll_79 : decode cX0_returnAll 79 = .ok (.getfield 35, 3) := by decide +kernel
theorem dX0_returnAll_82 : decode cX0_returnAll 82 = .ok (.bipush 7, 2) := by decide +kernel
theorem dX0_returnAll_84 : decode cX0_returnAll 84 = .ok (.lload_n 1, 1) := by decide +kernel
theorem dX0_returnAll_85 : decode cX0_returnAll 85 = .ok (.invokevirtual 137, 3) := by decide +kernel
theorem dX0_returnAll_88 : decode cX0_returnAll 88 = .ok (.lload_n 1, 1) := by decide +kernel
theorem dX0_returnAll_89 : decode cX0_returnAll 89 = .ok (.lreturn, 1) := by decide +kernel
theorem dX0_makeSettlement_0 : decode cX0_makeSettlement 0 = .ok (.aload_n 0, 1) := by decide +kernel
theorem dX0_makeSettlement_1 : decode cX0_makeSettlement 1 = .ok (.getfield 28, 3) := by decide +kernel
theorem dX0_makeSettlement_4 : decode cX0_makeSettlement 4 = .ok (.iload_n 1, 1) := by decide +kernel
theorem dX0_makeSettlement_5 : decode cX0_makeSettlement 5 = .ok (.iload_n 2, 1) := by decide +kernel
theorem dX0_makeSettlement_6 : decode cX0_makeSettlement 6 = .ok (.iload_n 3, 1) := by decide +kernel
theorem dX0_makeSettlement_7 : decode cX0_makeSettlement 7 = .ok (.i2l, 1) := by decide +kernel
theorem dX0_makeSettlement_8 : decode cX0_makeSettlement 8 = .ok (.invokevirtual 182, 3) := by decide +kernel
theorem dX0_makeSettlement_11 : decode cX0_makeSettlement 11 = .ok (.aload_n 0, 1) := by decide +kernel
theorem dX0_makeSettlement_12 : decode cX0_makeSettlement 12 = .ok (.getfield 35, 3) := by decide +kernel
theorem dX0_makeSettlement_15 : decode cX0_makeSettlement 15 = .ok (.bipush 8, 2) := by decide +kernel
theorem dX0_makeSettlement_17 : decode cX0_makeSettlement 17 = .ok (.iload_n 3, 1) := by decide +kernel
theorem dX0_makeSettlement_18 : decode cX0_makeSettlement 18 = .ok (.i2l, 1) := by decide +kernel
theorem dX0_makeSettlement_19 : decode cX0_makeSettlement 19 = .ok (.invokevirtual 137, 3) := by decide +kernel
theorem dX0_makeSettlement_22 : decode cX0_makeSettlement 22 = .ok (.return_, 1) := by decide +kernel
theorem dX0_makeOffset_0 : decode cX0_makeOffset 0 = .ok (.aload_n 0, 1) := by decide +kernel
theorem dX0_makeOffset_1 : decode cX0_makeOffset 1 = .ok (.getfield 28, 3) := by decide +kernel
theorem dX0_makeOffset_4 : decode cX0_makeOffset 4 = .ok (.iload_n 1, 1) := by decide +kernel
theorem dX0_makeOffset_5 : decode cX0_makeOffset 5 = .ok (.iload_n 2, 1) := by decide +kernel
theorem dX0_makeOffset_6 : decode cX0_makeOffset 6 = .ok (.invokevirtual 116, 3) := by decide +kernel
theorem dX0_makeOffset_9 : decode cX0_makeOffset 9 = .ok (.aload_n 0, 1) := by decide +kernel
theorem dX0_makeOffset_10 : decode cX0_makeOffset 10 = .ok (.getfield 28, 3) := by decide +kernel
theorem dX0_makeOffset_13 : decode cX0_makeOffset 13 = .ok (.iload_n 2, 1) := by decide +kernel
theorem dX0_makeOffset_14 : decode cX0_makeOffset 14 = .ok (.iload_n 1, 1) := by decide +kernel
theorem dX0_makeOffset_15 : decode cX0_makeOffset 15 = .ok (.invokevirtual 116, 3) := by decide +kernel
theorem dX0_makeOffset_18 : decode cX0_makeOffset 18 = .ok (.invokestatic 170, 3) := by decide +kernel
theorem dX0_makeOffset_21 : decode cX0_makeOffset 21 = .ok (.lstore_n 3, 1) := by decide +kernel
theorem dX0_makeOffset_22 : decode cX0_makeOffset 22 = .ok (.aload_n 0, 1) := by decide +kernel
theorem dX0_makeOffset_23 : decode cX0_makeOffset 23 = .ok (.getfield 28, 3) := by decide +kernel
theorem dX0_makeOffset_26 : decode cX0_makeOffset 26 = .ok (.iload_n 1, 1) := by decide +kernel
theorem dX0_makeOffset_27 : decode cX0_makeOffset 27 = .ok (.iload_n 2, 1) := by decide +kernel
theorem dX0_makeOffset_28 : decode cX0_makeOffset 28 = .ok (.lload_n 3, 1) := by decide +kernel
theorem dX0_makeOffset_29 : decode cX0_makeOffset 29 = .ok (.invokevirtual 182, 3) := by decide +kernel
theorem dX0_makeOffset_32 : decode cX0_makeOffset 32 = .ok (.aload_n 0, 1) := by decide +kernel
theorem dX0_makeOffset_33 : decode cX0_makeOffset 33 = .ok (.getfield 28, 3) := by decide +kernel
theorem dX0_makeOffset_36 : decode cX0_makeOffset 36 = .ok (.iload_n 2, 1) := by decide +kernel
theorem dX0_makeOffset_37 : decode cX0_makeOffset 37 = .ok (.iload_n 1, 1) := by decide +kernel
theorem dX0_makeOffset_38 : decode cX0_makeOffset 38 = .ok (.lload_n 3, 1) := by decide +kernel
theorem dX0_makeOffset_39 : decode cX0_makeOffset 39 = .ok (.invokevirtual 182, 3) := by decide +kernel
theorem dX0_makeOffset_42 : decode cX0_makeOffset 42 = .ok (.aload_n 0, 1) := by decide +kernel
theorem dX0_makeOffset_43 : decode cX0_makeOffset 43 = .ok (.getfield 35, 3) := by decide +kernel
theorem dX0_makeOffset_46 : decode cX0_makeOffset 46 = .ok (.bipush 9, 2) := by decide +kernel
theorem dX0_makeOffset_48 : decode cX0_makeOffset 48 = .ok (.lload_n 3, 1) := by decide +kernel
theorem dX0_makeOffset_49 : decode cX0_makeOffset 49 = .ok (.invokevirtual 137, 3) := by decide +kernel
theorem dX0_makeOffset_52 : decode cX0_makeOffset 52 = .ok (.lload_n 3, 1) := by decide +kernel
theorem dX0_makeOffset_53 : decode cX0_makeOffset 53 = .ok (.lreturn, 1) := by decide +kernel
theorem dX0_clearAllRings_0 : decode cX0_clearAllRings 0 = .ok (.lconst 0, 1) := by decide +kernel
theorem dX0_clearAllRings_1 : decode cX0_clearAllRings 1 = .ok (.lstore_n 2, 1) := by decide +kernel
theorem dX0_clearAllRings_2 : decode cX0_clearAllRings 2 = .ok (.aload_n 1, 1) := by decide +kernel
theorem dX0_clearAllRings_3 : decode cX0_clearAllRings 3 = .ok (.aload_n 0, 1) := by decide +kernel
theorem dX0_clearAllRings_4 : decode cX0_clearAllRings 4 = .ok (.getfield 28, 3) := by decide +kernel
theorem dX0_clearAllRings_7 : decode cX0_clearAllRings 7 = .ok (.invokevirtual 185, 3) := by decide +kernel
theorem dX0_clearAllRings_10 : decode cX0_clearAllRings 10 = .ok (.iconst 0, 1) := by decide +kernel
theorem dX0_clearAllRings_11 : decode cX0_clearAllRings 11 = .ok (.istore 4, 2) := by decide +kernel
theorem dX0_clearAllRings_13 : decode cX0_clearAllRings 13 = .ok (.iload 4, 2) := by decide +kernel
theorem dX0_clearAllRings_15 : decode cX0_clearAllRings 15 = .ok (.bipush 30, 2) := by decide +kernel
theorem dX0_clearAllRings_17 : decode cX0_clearAllRings 17 = .ok (.if_icmp .ge 32, 3) := by decide +kernel
theorem dX0_clearAllRings_20 : decode cX0_clearAllRings 20 = .ok (.aload_n 1, 1) := by decide +kernel
theorem dX0_clearAllRings_21 : decode cX0_clearAllRings 21 = .ok (.getfield 190, 3) := by decide +kernel
theorem dX0_clearAllRings_24 : decode cX0_clearAllRings 24 = .ok (.ifCond .le 25, 3) := by decide +kernel
theorem dX0_clearAllRings_27 : decode cX0_clearAllRings 27 = .ok (.lload_n 2, 1) := by decide +kernel
theorem dX0_clearAllRings_28 : decode cX0_clearAllRings 28 = .ok (.aload_n 0, 1) := by decide +kernel
theorem dX0_clearAllRings_29 : decode cX0_clearAllRings 29 = .ok (.aload_n 1, 1) := by decide +kernel
theorem dX0_clearAllRings_30 : decode cX0_clearAllRings 30 = .ok (.invokevirtual 193, 3) := by decide +kernel
theorem dX0_clearAllRings_33 : decode cX0_clearAllRings 33 = .ok (.ladd, 1) := by decide +kernel
theorem dX0_clearAllRings_34 : decode cX0_clearAllRings 34 = .ok (.lstore_n 2, 1) := by decide +kernel
theorem dX0_clearAllRings_35 : decode cX0_clearAllRings 35 = .ok (.aload_n 1, 1) := by decide +kernel
theorem dX0_clearAllRings_36 : decode cX0_clearAllRings 36 = .ok (.aload_n 0, 1) := by decide +kernel
theorem dX0_clearAllRings_37 : decode cX0_clearAllRings 37 = .ok (.getfield 28, 3) := by decide +kernel
theorem dX0_clearAllRings_40 : decode cX0_clearAllRings 40 = .ok (.invokevirtual 185, 3) := by decide +kernel
theorem dX0_clearAllRings_43 : decode cX0_clearAllRings 43 = .ok (.iinc 4 1, 3) := by decide +kernel
theorem dX0_clearAllRings_46 : decode cX0_clearAllRings 46 = .ok (.goto (-33), 3) := by decide +kernel
theorem dX0_clearAllRings_49 : decode cX0_clearAllRings 49 = .ok (.aload_n 0, 1) := by decide +kernel
theorem dX0_clearAllRings_50 : decode cX0_clearAllRings 50 = .ok (.getfield 35, 3) := by decide +kernel
theorem dX0_clearAllRings_53 : decode cX0_clearAllRings 53 = .ok (.bipush 10, 2) := by decide +kernel
theorem dX0_clearAllRings_55 : decode cX0_clearAllRings 55 = .ok (.lload_n 2, 1) := by decide +kernel
theorem dX0_clearAllRings_56 : decode cX0_clearAllRings 56 = .ok (.invokevirtual 137, 3) := by decide +kernel
theorem dX0_clearAllRings_59 : decode cX0_clearAllRings 59 = .ok (.lload_n 2, 1) := by decide +kernel
theorem dX0_clearAllRings_60 : decode cX0_clearAllRings 60 = .ok (.lreturn, 1) := by decide +kernel
theorem dX0_clearRing_0 : decode cX0_clearRing 0 = .ok (.aload_n 0, 1) := by decide +kernel
theorem dX0_clearRing_1 : decode cX0_clearRing 1 = .ok (.getfield 28, 3) := by decide +kernel
theorem dX0_clearRing_4 : decode cX0_clearRing 4 = .ok (.aload_n 1, 1) := by decide +kernel
theorem dX0_clearRing_5 : decode cX0_clearRing 5 = .ok (.getfield 197, 3) := by decide +kernel
theorem dX0_clearRing_8 : decode cX0_clearRing 8 = .ok (.iconst 0, 1) := by decide +kernel
theorem dX0_clearRing_9 : decode cX0_clearRing 9 = .ok (.iaload, 1) := by decide +kernel
theorem dX0_clearRing_10 : decode cX0_clearRing 10 = .ok (.aload_n 1, 1) := by decide +kernel
theorem dX0_clearRing_11 : decode cX0_clearRing 11 = .ok (.iconst 0, 1) := by decide +kernel
theorem dX0_clearRing_12 : decode cX0_clearRing 12 = .ok (.invokevirtual 200, 3) := by decide +kernel
theorem dX0_clearRing_15 : decode cX0_clearRing 15 = .ok (.invokevirtual 116, 3) := by decide +kernel
theorem dX0_clearRing_18 : decode cX0_clearRing 18 = .ok (.lstore_n 2, 1) := by decide +kernel
theorem dX0_clearRing_19 : decode cX0_clearRing 19 = .ok (.iconst 1, 1) := by decide +kernel
theorem dX0_clearRing_20 : decode cX0_clearRing 20 = .ok (.istore 4, 2) := by decide +kernel
theorem dX0_clearRing_22 : decode cX0_clearRing 22 = .ok (.iload 4, 2) := by decide +kernel
theorem dX0_clearRing_24 : decode cX0_clearRing 24 = .ok (.aload_n 1, 1) := by decide +kernel
theorem dX0_clearRing_25 : decode cX0_clearRing 25 = .ok (.getfield 190, 3) := by decide +kernel
theorem dX0_clearRing_28 : decode cX0_clearRing 28 = .ok (.if_icmp .ge 34, 3) := by decide +kernel
theorem dX0_clearRing_31 : decode cX0_clearRing 31 = .ok (.lload_n 2, 1) := by decide +kernel
theorem dX0_clearRing_32 : decode cX0_clearRing 32 = .ok (.aload_n 0, 1) := by decide +kernel
theorem dX0_clearRing_33 : decode cX0_clearRing 33 = .ok (.getfield 28, 3) := by decide +kernel
theorem dX0_clearRing_36 : decode cX0_clearRing 36 = .ok (.aload_n 1, 1) := by decide +kernel
theorem dX0_clearRing_37 : decode cX0_clearRing 37 = .ok (.getfield 197, 3) := by decide +kernel
theorem dX0_clearRing_40 : decode cX0_clearRing 40 = .ok (.iload 4, 2) := by decide +kernel
theorem dX0_clearRing_42 : decode cX0_clearRing 42 = .ok (.iaload, 1) := by decide +kernel
theorem dX0_clearRing_43 : decode cX0_clearRing 43 = .ok (.aload_n 1, 1) := by decide +kernel
theorem dX0_clearRing_44 : decode cX0_clearRing 44 = .ok (.iload 4, 2) := by decide +kernel
theorem dX0_clearRing_46 : decode cX0_clearRing 46 = .ok (.invokevirtual 200, 3) := by decide +kernel
theorem dX0_clearRing_49 : decode cX0_clearRing 49 = .ok (.invokevirtual 116, 3) := by decide +kernel
theorem dX0_clearRing_52 : decode cX0_clearRing 52 = .ok (.invokestatic 170, 3) := by decide +kernel
theorem dX0_clearRing_55 : decode cX0_clearRing 55 = .ok (.lstore_n 2, 1) := by decide +kernel
theorem dX0_clearRing_56 : decode cX0_clearRing 56 = .ok (.iinc 4 1, 3) := by decide +kernel
theorem dX0_clearRing_59 : decode cX0_clearRing 59 = .ok (.goto (-37), 3) := by decide +kernel
theorem dX0_clearRing_62 : decode cX0_clearRing 62 = .ok (.iconst 0, 1) := by decide +kernel
theorem dX0_clearRing_63 : decode cX0_clearRing 63 = .ok (.istore 4, 2) := by decide +kernel
theorem dX0_clearRing_65 : decode cX0_clearRing 65 = .ok (.iload 4, 2) := by decide +kernel
theorem dX0_clearRing_67 : decode cX0_clearRing 67 = .ok (.aload_n 1, 1) := by decide +kernel
theorem dX0_clearRing_68 : decode cX0_clearRing 68 = .ok (.getfield 190, 3) := by decide +kernel
theorem dX0_clearRing_71 : decode cX0_clearRing 71 = .ok (.if_icmp .ge 30, 3) := by decide +kernel
theorem dX0_clearRing_74 : decode cX0_clearRing 74 = .ok (.aload_n 0, 1) := by decide +kernel
theorem dX0_clearRing_75 : decode cX0_clearRing 75 = .ok (.getfield 28, 3) := by decide +kernel
theorem dX0_clearRing_78 : decode cX0_clearRing 78 = .ok (.aload_n 1, 1) := by decide +kernel
theorem dX0_clearRing_79 : decode cX0_clearRing 79 = .ok (.getfield 197, 3) := by decide +kernel
theorem dX0_clearRing_82 : decode cX0_clearRing 82 = .ok (.iload 4, 2) := by decide +kernel
theorem dX0_clearRing_84 : decode cX0_clearRing 84 = .ok (.iaload, 1) := by decide +kernel
theorem dX0_clearRing_85 : decode cX0_clearRing 85 = .ok (.aload_n 1, 1) := by decide +kernel
theorem dX0_clearRing_86 : decode cX0_clearRing 86 = .ok (.iload 4, 2) := by decide +kernel
theorem dX0_clearRing_88 : decode cX0_clearRing 88 = .ok (.invokevirtual 200, 3) := by decide +kernel
theorem dX0_clearRing_91 : decode cX0_clearRing 91 = .ok (.lload_n 2, 1) := by decide +kernel
theorem dX0_clearRing_92 : decode cX0_clearRing 92 = .ok (.invokevirtual 182, 3) := by decide +kernel
theorem dX0_clearRing_95 : decode cX0_clearRing 95 = .ok (.iinc 4 1, 3) := by decide +kernel
theorem dX0_clearRing_98 : decode cX0_clearRing 98 = .ok (.goto (-33), 3) := by decide +kernel
theorem dX0_clearRing_101 : decode cX0_clearRing 101 = .ok (.lload_n 2, 1) := by decide +kernel
theorem dX0_clearRing_102 : decode cX0_clearRing 102 = .ok (.aload_n 1, 1) := by decide +kernel
theorem dX0_clearRing_103 : decode cX0_clearRing 103 = .ok (.getfield 190, 3) := by decide +kernel
theorem dX0_clearRing_106 : decode cX0_clearRing 106 = .ok (.i2l, 1) := by decide +kernel
theorem dX0_clearRing_107 : decode cX0_clearRing 107 = .ok (.lmul, 1) := by decide +kernel
theorem dX0_clearRing_108 : decode cX0_clearRing 108 = .ok (.lreturn, 1) := by decide +kernel
theorem dX0_letDaysPass_0 : decode cX0_letDaysPass 0 = .ok (.aload_n 0, 1) := by decide +kernel
theorem dX0_letDaysPass_1 : decode cX0_letDaysPass 1 = .ok (.dup, 1) := by decide +kernel
theorem dX0_letDaysPass_2 : decode cX0_letDaysPass 2 = .ok (.getfield 57, 3) := by decide +kernel
theorem dX0_letDaysPass_5 : decode cX0_letDaysPass 5 = .ok (.iload_n 1, 1) := by decide +kernel
theorem dX0_letDaysPass_6 : decode cX0_letDaysPass 6 = .ok (.iadd, 1) := by decide +kernel
theorem dX0_letDaysPass_7 : decode cX0_letDaysPass 7 = .ok (.putfield 57, 3) := by decide +kernel
theorem dX0_letDaysPass_10 : decode cX0_letDaysPass 10 = .ok (.aload_n 0, 1) := by decide +kernel
theorem dX0_letDaysPass_11 : decode cX0_letDaysPass 11 = .ok (.getfield 28, 3) := by decide +kernel
theorem dX0_letDaysPass_14 : decode cX0_letDaysPass 14 = .ok (.iload_n 1, 1) := by decide +kernel
theorem dX0_letDaysPass_15 : decode cX0_letDaysPass 15 = .ok (.aload_n 0, 1) := by decide +kernel
theorem dX0_letDaysPass_16 : decode cX0_letDaysPass 16 = .ok (.getfield 48, 3) := by decide +kernel
theorem dX0_letDaysPass_19 : decode cX0_letDaysPass 19 = .ok (.aload_n 0, 1) := by decide +kernel
theorem dX0_letDaysPass_20 : decode cX0_letDaysPass 20 = .ok (.getfield 61, 3) := by decide +kernel
theorem dX0_letDaysPass_23 : decode cX0_letDaysPass 23 = .ok (.iaload, 1) := by decide +kernel
theorem dX0_letDaysPass_24 : decode cX0_letDaysPass 24 = .ok (.invokevirtual 203, 3) := by decide +kernel
theorem dX0_letDaysPass_27 : decode cX0_letDaysPass 27 = .ok (.lreturn, 1) := by decide +kernel
theorem dX0_enterNextStage_0 : decode cX0_enterNextStage 0 = .ok (.aload_n 0, 1) := by decide +kernel
theorem dX0_enterNextStage_1 : decode cX0_enterNextStage 1 = .ok (.dup, 1) := by decide +kernel
theorem dX0_enterNextStage_2 : decode cX0_enterNextStage 2 = .ok (.getfield 61, 3) := by decide +kernel
theorem dX0_enterNextStage_5 : decode cX0_enterNextStage 5 = .ok (.iconst 1, 1) := by decide +kernel
theorem dX0_enterNextStage_6 : decode cX0_enterNextStage 6 = .ok (.iadd, 1) := by decide +kernel
theorem dX0_enterNextStage_7 : decode cX0_enterNextStage 7 = .ok (.putfield 61, 3) := by decide +kernel
theorem dX0_enterNextStage_10 : decode cX0_enterNextStage 10 = .ok (.return_, 1) := by decide +kernel
theorem dX0_feeOfTier_0 : decode cX0_feeOfTier 0 = .ok (.getstatic 206, 3) := by decide +kernel
theorem dX0_feeOfTier_3 : decode cX0_feeOfTier 3 = .ok (.iload_n 3, 1) := by decide +kernel
theorem dX0_feeOfTier_4 : decode cX0_feeOfTier 4 = .ok (.iaload, 1) := by decide +kernel
theorem dX0_feeOfTier_5 : decode cX0_feeOfTier 5 = .ok (.i2l, 1) := by decide +kernel
theorem dX0_feeOfTier_6 : decode cX0_feeOfTier 6 = .ok (.lstore 4, 2) := by decide +kernel
theorem dX0_feeOfTier_8 : decode cX0_feeOfTier 8 = .ok (.iload_n 3, 1) := by decide +kernel
theorem dX0_feeOfTier_9 : decode cX0_feeOfTier 9 = .ok (.iconst 3, 1) := by decide +kernel
theorem dX0_feeOfTier_10 : decode cX0_feeOfTier 10 = .ok (.if_icmp .ge 27, 3) := by decide +kernel
theorem dX0_feeOfTier_13 : decode cX0_feeOfTier 13 = .ok (.lload_n 1, 1) := by decide +kernel
theorem dX0_feeOfTier_14 : decode cX0_feeOfTier 14 = .ok (.getstatic 206, 3) := by decide +kernel
theorem dX0_feeOfTier_17 : decode cX0_feeOfTier 17 = .ok (.iload_n 3, 1) := by decide +kernel
theorem dX0_feeOfTier_18 : decode cX0_feeOfTier 18 = .ok (.iconst 1, 1) := by decide +kernel
theorem dX0_feeOfTier_19 : decode cX0_feeOfTier 19 = .ok (.iadd, 1) := by decide +kernel
theorem dX0_feeOfTier_20 : decode cX0_feeOfTier 20 = .ok (.iaload, 1) := by decide +kernel
theorem dX0_feeOfTier_21 : decode cX0_feeOfTier 21 = .ok (.i2l, 1) := by decide +kernel
theorem dX0_feeOfTier_22 : decode cX0_feeOfTier 22 = .ok (.lcmp, 1) := by decide +kernel
theorem dX0_feeOfTier_23 : decode cX0_feeOfTier 23 = .ok (.ifCond .le 14, 3) := by decide +kernel
theorem dX0_feeOfTier_26 : decode cX0_feeOfTier 26 = .ok (.getstatic 206, 3) := by decide +kernel
theorem dX0_feeOfTier_29 : decode cX0_feeOfTier 29 = .ok (.iload_n 3, 1) := by decide +kernel
theorem dX0_feeOfTier_30 : decode cX0_feeOfTier 30 = .ok (.iconst 1, 1) := by decide +kernel
theorem dX0_feeOfTier_31 : decode cX0_feeOfTier 31 = .ok (.iadd, 1) := by decide +kernel
theorem dX0_feeOfTier_32 : decode cX0_feeOfTier 32 = .ok (.iaload, 1) := by decide +kernel
theorem dX0_feeOfTier_33 : decode cX0_feeOfTier 33 = .ok (.i2l, 1) := by decide +kernel
theorem dX0_feeOfTier_34 : decode cX0_feeOfTier 34 = .ok (.goto 4, 3) := by decide +kernel
theorem dX0_feeOfTier_37 : decode cX0_feeOfTier 37 = .ok (.lload_n 1, 1) := by decide +kernel
theorem dX0_feeOfTier_38 : decode cX0_feeOfTier 38 = .ok (.lstore 6, 2) := by decide +kernel
theorem dX0_feeOfTier_40 : decode cX0_feeOfTier 40 = .ok (.lload 6, 2) := by decide +kernel
theorem dX0_feeOfTier_42 : decode cX0_feeOfTier 42 = .ok (.lload 4, 2) := by decide +kernel
theorem dX0_feeOfTier_44 : decode cX0_feeOfTier 44 = .ok (.lcmp, 1) := by decide +kernel
theorem dX0_feeOfTier_45 : decode cX0_feeOfTier 45 = .ok (.ifCond .le 23, 3) := by decide +kernel
theorem dX0_feeOfTier_48 : decode cX0_feeOfTier 48 = .ok (.lload 6, 2) := by decide +kernel
theorem dX0_feeOfTier_50 : decode cX0_feeOfTier 50 = .ok (.lload 4, 2) := by decide +kernel
theorem dX0_feeOfTier_52 : decode cX0_feeOfTier 52 = .ok (.lsub, 1) := by decide +kernel
theorem dX0_feeOfTier_53 : decode cX0_feeOfTier 53 = .ok (.aload_n 0, 1) := by decide +kernel
theorem dX0_feeOfTier_54 : decode cX0_feeOfTier 54 = .ok (.getfield 54, 3) := by decide +kernel
theorem dX0_feeOfTier_57 : decode cX0_feeOfTier 57 = .ok (.iload_n 3, 1) := by decide +kernel
theorem dX0_feeOfTier_58 : decode cX0_feeOfTier 58 = .ok (.iaload, 1) := by decide +kernel
theorem dX0_feeOfTier_59 : decode cX0_feeOfTier 59 = .ok (.i2l, 1) := by decide +kernel
theorem dX0_feeOfTier_60 : decode cX0_feeOfTier 60 = .ok (.lmul, 1) := by decide +kernel
theorem dX0_feeOfTier_61 : decode cX0_feeOfTier 61 = .ok (.ldc2_w 209, 3) := by decide +kernel
theorem dX0_feeOfTier_64 : decode cX0_feeOfTier 64 = .ok (.ldiv, 1) := by decide +kernel
theorem dX0_feeOfTier_65 : decode cX0_feeOfTier 65 = .ok (.goto 4, 3) := by decide +kernel
theorem dX0_feeOfTier_68 : decode cX0_feeOfTier 68 = .ok (.lconst 0, 1) := by decide +kernel
theorem dX0_feeOfTier_69 : decode cX0_feeOfTier 69 = .ok (.lreturn, 1) := by decide +kernel
theorem dX0_feesOfSum_0 : decode cX0_feesOfSum 0 = .ok (.ldc2_w 211, 3) := by decide +kernel
theorem dX0_feesOfSum_3 : decode cX0_feesOfSum 3 = .ok (.lstore_n 3, 1) := by decide +kernel
theorem dX0_feesOfSum_4 : decode cX0_feesOfSum 4 = .ok (.iconst 0, 1) := by decide +kernel
theorem dX0_feesOfSum_5 : decode cX0_feesOfSum 5 = .ok (.istore 5, 2) := by decide +kernel
theorem dX0_feesOfSum_7 : decode cX0_feesOfSum 7 = .ok (.iload 5, 2) := by decide +kernel
theorem dX0_feesOfSum_9 : decode cX0_feesOfSum 9 = .ok (.iconst 4, 1) := by decide +kernel
theorem dX0_feesOfSum_10 : decode cX0_feesOfSum 10 = .ok (.if_icmp .ge 19, 3) := by decide +kernel
theorem dX0_feesOfSum_13 : decode cX0_feesOfSum 13 = .ok (.lload_n 3, 1) := by decide +kernel
theorem dX0_feesOfSum_14 : decode cX0_feesOfSum 14 = .ok (.aload_n 0, 1) := by decide +kernel
theorem dX0_feesOfSum_15 : decode cX0_feesOfSum 15 = .ok (.lload_n 1, 1) := by decide +kernel
theorem dX0_feesOfSum_16 : decode cX0_feesOfSum 16 = .ok (.iload 5, 2) := by decide +kernel
theorem dX0_feesOfSum_18 : decode cX0_feesOfSum 18 = .ok (.invokevirtual 213, 3) := by decide +kernel
theorem dX0_feesOfSum_21 : decode cX0_feesOfSum 21 = .ok (.ladd, 1) := by decide +kernel
theorem dX0_feesOfSum_22 : decode cX0_feesOfSum 22 = .ok (.lstore_n 3, 1) := by decide +kernel
theorem dX0_feesOfSum_23 : decode cX0_feesOfSum 23 = .ok (.iinc 5 1, 3) := by decide +kernel
theorem dX0_feesOfSum_26 : decode cX0_feesOfSum 26 = .ok (.goto (-19), 3) := by decide +kernel
theorem dX0_feesOfSum_29 : decode cX0_feesOfSum 29 = .ok (.lload_n 3, 1) := by decide +kernel
theorem dX0_feesOfSum_30 : decode cX0_feesOfSum 30 = .ok (.lreturn, 1) := by decide +kernel
theorem dX0_feesOfAll_0 : decode cX0_feesOfAll 0 = .ok (.aload_n 0, 1) := by decide +kernel
theorem dX0_feesOfAll_1 : decode cX0_feesOfAll 1 = .ok (.getfield 21, 3) := by decide +kernel
theorem dX0_feesOfAll_4 : decode cX0_feesOfAll 4 = .ok (.getfield 67, 3) := by decide +kernel
theorem dX0_feesOfAll_7 : decode cX0_feesOfAll 7 = .ok (.ifCond .le 17, 3) := by decide +kernel
theorem dX0_feesOfAll_10 : decode cX0_feesOfAll 10 = .ok (.aload_n 0, 1) := by decide +kernel
theorem dX0_feesOfAll_11 : decode cX0_feesOfAll 11 = .ok (.aload_n 0, 1) := by decide +kernel
theorem dX0_feesOfAll_12 : decode cX0_feesOfAll 12 = .ok (.getfield 21, 3) := by decide +kernel
theorem dX0_feesOfAll_15 : decode cX0_feesOfAll 15 = .ok (.invokevirtual 216, 3) := by decide +kernel
theorem dX0_feesOfAll_18 : decode cX0_feesOfAll 18 = .ok (.invokevirtual 220, 3) := by decide +kernel
theorem dX0_feesOfAll_21 : decode cX0_feesOfAll 21 = .ok (.goto 4, 3) := by decide +kernel
theorem dX0_feesOfAll_24 : decode cX0_feesOfAll 24 = .ok (.lconst 0, 1) := by decide +kernel
theorem dX0_feesOfAll_25 : decode cX0_feesOfAll 25 = .ok (.lreturn, 1) := by decide +kernel
theorem dX0_lostBy_0 : decode cX0_lostBy 0 = .ok (.lconst 0, 1) := by decide +kernel
theorem dX0_lostBy_1 : decode cX0_lostBy 1 = .ok (.lstore_n 2, 1) := by decide +kernel
theorem dX0_lostBy_2 : decode cX0_lostBy 2 = .ok (.iconst 0, 1) := by decide +kernel
theorem dX0_lostBy_3 : decode cX0_lostBy 3 = .ok (.istore 4, 2) := by decide +kernel
theorem dX0_lostBy_5 : decode cX0_lostBy 5 = .ok (.iload 4, 2) := by decide +kernel
theorem dX0_lostBy_7 : decode cX0_lostBy 7 = .ok (.aload_n 0, 1) := by decide +kernel
theorem dX0_lostBy_8 : decode cX0_lostBy 8 = .ok (.getfield 21, 3) := by decide +kernel
theorem dX0_lostBy_11 : decode cX0_lostBy 11 = .ok (.getfield 67, 3) := by decide +kernel
theorem dX0_lostBy_14 : decode cX0_lostBy 14 = .ok (.if_icmp .ge 47, 3) := by decide +kernel
theorem dX0_lostBy_17 : decode cX0_lostBy 17 = .ok (.lload_n 2, 1) := by decide +kernel
theorem dX0_lostBy_18 : decode cX0_lostBy 18 = .ok (.aload_n 0, 1) := by decide +kernel
theorem dX0_lostBy_19 : decode cX0_lostBy 19 = .ok (.iload 4, 2) := by decide +kernel
theorem dX0_lostBy_21 : decode cX0_lostBy 21 = .ok (.iload_n 1, 1) := by decide +kernel
theorem dX0_lostBy_22 : decode cX0_lostBy 22 = .ok (.invokevirtual 224, 3) := by decide +kernel
theorem dX0_lostBy_25 : decode cX0_lostBy 25 = .ok (.ifCond .eq 17, 3) := by decide +kernel
theorem dX0_lostBy_28 : decode cX0_lostBy 28 = .ok (.aload_n 0, 1) := by decide +kernel
theorem dX0_lostBy_29 : decode cX0_lostBy 29 = .ok (.getfield 21, 3) := by decide +kernel
theorem dX0_lostBy_32 : decode cX0_lostBy 32 = .ok (.getfield 141, 3) := by decide +kernel
theorem dX0_lostBy_35 : decode cX0_lostBy 35 = .ok (.iload 4, 2) := by decide +kernel
theorem dX0_lostBy_37 : decode cX0_lostBy 37 = .ok (.iaload, 1) := by decide +kernel
theorem dX0_lostBy_38 : decode cX0_lostBy 38 = .ok (.i2l, 1) := by decide +kernel
theorem dX0_lostBy_39 : decode cX0_lostBy 39 = .ok (.goto 14, 3) := by decide +kernel
theorem dX0_lostBy_42 : decode cX0_lostBy 42 = .ok (.aload_n 0, 1) := by decide +kernel
theorem dX0_lostBy_43 : decode cX0_lostBy 43 = .ok (.getfield 21, 3) := by decide +kernel
theorem dX0_lostBy_46 : decode cX0_lostBy 46 = .ok (.getfield 124, 3) := by decide +kernel
theorem dX0_lostBy_49 : decode cX0_lostBy 49 = .ok (.iload 4, 2) := by decide +kernel
theorem dX0_lostBy_51 : decode cX0_lostBy 51 = .ok (.iaload, 1) := by decide +kernel
theorem dX0_lostBy_52 : decode cX0_lostBy 52 = .ok (.i2l, 1) := by decide +kernel
theorem dX0_lostBy_53 : decode cX0_lostBy 53 = .ok (.ladd, 1) := by decide +kernel
theorem dX0_lostBy_54 : decode cX0_lostBy 54 = .ok (.lstore_n 2, 1) := by decide +kernel
theorem dX0_lostBy_55 : decode cX0_lostBy 55 = .ok (.iinc 4 1, 3) := by decide +kernel
theorem dX0_lostBy_58 : decode cX0_lostBy 58 = .ok (.goto (-53), 3) := by decide +kernel
theorem dX0_lostBy_61 : decode cX0_lostBy 61 = .ok (.lload_n 2, 1) := by decide +kernel
theorem dX0_lostBy_62 : decode cX0_lostBy 62 = .ok (.lreturn, 1) := by decide +kernel
theorem dX0_awardedTo_0 : decode cX0_awardedTo 0 = .ok (.lconst 0, 1) := by decide +kernel
theorem dX0_awardedTo_1 : decode cX0_awardedTo 1 = .ok (.lstore_n 2, 1) := by decide +kernel
theorem dX0_awardedTo_2 : decode cX0_awardedTo 2 = .ok (.iconst 0, 1) := by decide +kernel
theorem dX0_awardedTo_3 : decode cX0_awardedTo 3 = .ok (.istore 4, 2) := by decide +kernel
theorem dX0_awardedTo_5 : decode cX0_awardedTo 5 = .ok (.iload 4, 2) := by decide +kernel
theorem dX0_awardedTo_7 : decode cX0_awardedTo 7 = .ok (.aload_n 0, 1) := by decide +kernel
theorem dX0_awardedTo_8 : decode cX0_awardedTo 8 = .ok (.getfield 21, 3) := by decide +kernel
theorem dX0_awardedTo_11 : decode cX0_awardedTo 11 = .ok (.getfield 67, 3) := by decide +kernel
theorem dX0_awardedTo_14 : decode cX0_awardedTo 14 = .ok (.if_icmp .ge 37, 3) := by decide +kernel
theorem dX0_awardedTo_17 : decode cX0_awardedTo 17 = .ok (.lload_n 2, 1) := by decide +kernel
theorem dX0_awardedTo_18 : decode cX0_awardedTo 18 = .ok (.aload_n 0, 1) := by decide +kernel
theorem dX0_awardedTo_19 : decode cX0_awardedTo 19 = .ok (.iload 4, 2) := by decide +kernel
theorem dX0_awardedTo_21 : decode cX0_awardedTo 21 = .ok (.iload_n 1, 1) := by decide +kernel
theorem dX0_awardedTo_22 : decode cX0_awardedTo 22 = .ok (.invokevirtual 224, 3) := by decide +kernel
theorem dX0_awardedTo_25 : decode cX0_awardedTo 25 = .ok (.ifCond .eq 17, 3) := by decide +kernel
theorem dX0_awardedTo_28 : decode cX0_awardedTo 28 = .ok (.aload_n 0, 1) := by decide +kernel
theorem dX0_awardedTo_29 : decode cX0_awardedTo 29 = .ok (.getfield 21, 3) := by decide +kernel
theorem dX0_awardedTo_32 : decode cX0_awardedTo 32 = .ok (.getfield 124, 3) := by decide +kernel
theorem dX0_awardedTo_35 : decode cX0_awardedTo 35 = .ok (.iload 4, 2) := by decide +kernel
theorem dX0_awardedTo_37 : decode cX0_awardedTo 37 = .ok (.iaload, 1) := by decide +kernel
theorem dX0_awardedTo_38 : decode cX0_awardedTo 38 = .ok (.i2l, 1) := by decide +kernel
theorem dX0_awardedTo_39 : decode cX0_awardedTo 39 = .ok (.goto 4, 3) := by decide +kernel
theorem dX0_awardedTo_42 : decode cX0_awardedTo 42 = .ok (.lconst 0, 1) := by decide +kernel
theorem dX0_awardedTo_43 : decode cX0_awardedTo 43 = .ok (.ladd, 1) := by decide +kernel
theorem dX0_awardedTo_44 : decode cX0_awardedTo 44 = .ok (.lstore_n 2, 1) := by decide +kernel
theorem dX0_awardedTo_45 : decode cX0_awardedTo 45 = .ok (.iinc 4 1, 3) := by decide +kernel
theorem dX0_awardedTo_48 : decode cX0_awardedTo 48 = .ok (.goto (-43), 3) := by decide +kernel
theorem dX0_awardedTo_51 : decode cX0_awardedTo 51 = .ok (.lload_n 2, 1) := by decide +kernel
theorem dX0_awardedTo_52 : decode cX0_awardedTo 52 = .ok (.lreturn, 1) := by decide +kernel
theorem dX0_soughtBy_0 : decode cX0_soughtBy 0 = .ok (.lconst 0, 1) := by decide +kernel
theorem dX0_soughtBy_1 : decode cX0_soughtBy 1 = .ok (.lstore_n 2, 1) := by decide +kernel
theorem dX0_soughtBy_2 : decode cX0_soughtBy 2 = .ok (.iconst 0, 1) := by decide +kernel
theorem dX0_soughtBy_3 : decode cX0_soughtBy 3 = .ok (.istore 4, 2) := by decide +kernel
theorem dX0_soughtBy_5 : decode cX0_soughtBy 5 = .ok (.iload 4, 2) := by decide +kernel
theorem dX0_soughtBy_7 : decode cX0_soughtBy 7 = .ok (.aload_n 0, 1) := by decide +kernel
theorem dX0_soughtBy_8 : decode cX0_soughtBy 8 = .ok (.getfield 21, 3) := by decide +kernel
theorem dX0_soughtBy_11 : decode cX0_soughtBy 11 = .ok (.getfield 67, 3) := by decide +kernel
theorem dX0_soughtBy_14 : decode cX0_soughtBy 14 = .ok (.if_icmp .ge 48, 3) := by decide +kernel
theorem dX0_soughtBy_17 : decode cX0_soughtBy 17 = .ok (.lload_n 2, 1) := by decide +kernel
theorem dX0_soughtBy_18 : decode cX0_soughtBy 18 = .ok (.aload_n 0, 1) := by decide +kernel
theorem dX0_soughtBy_19 : decode cX0_soughtBy 19 = .ok (.iload 4, 2) := by decide +kernel
theorem dX0_soughtBy_21 : decode cX0_soughtBy 21 = .ok (.iload_n 1, 1) := by decide +kernel
theorem dX0_soughtBy_22 : decode cX0_soughtBy 22 = .ok (.invokevirtual 224, 3) := by decide +kernel
theorem dX0_soughtBy_25 : decode cX0_soughtBy 25 = .ok (.ifCond .eq 28, 3) := by decide +kernel
theorem dX0_soughtBy_28 : decode cX0_soughtBy 28 = .ok (.aload_n 0, 1) := by decide +kernel
theorem dX0_soughtBy_29 : decode cX0_soughtBy 29 = .ok (.getfield 21, 3) := by decide +kernel
theorem dX0_soughtBy_32 : decode cX0_soughtBy 32 = .ok (.getfield 227, 3) := by decide +kernel
theorem dX0_soughtBy_35 : decode cX0_soughtBy 35 = .ok (.iload 4, 2) := by decide +kernel
theorem dX0_soughtBy_37 : decode cX0_soughtBy 37 = .ok (.iaload, 1) := by decide +kernel
theorem dX0_soughtBy_38 : decode cX0_soughtBy 38 = .ok (.aload_n 0, 1) := by decide +kernel
theorem dX0_soughtBy_39 : decode cX0_soughtBy 39 = .ok (.getfield 21, 3) := by decide +kernel
theorem dX0_soughtBy_42 : decode cX0_soughtBy 42 = .ok (.getfield 144, 3) := by decide +kernel
theorem dX0_soughtBy_45 : decode cX0_soughtBy 45 = .ok (.iload 4, 2) := by decide +kernel
theorem dX0_soughtBy_47 : decode cX0_soughtBy 47 = .ok (.iaload, 1) := by decide +kernel
theorem dX0_soughtBy_48 : decode cX0_soughtBy 48 = .ok (.isub, 1) := by decide +kernel
theorem dX0_soughtBy_49 : decode cX0_soughtBy 49 = .ok (.i2l, 1) := by decide +kernel
theorem dX0_soughtBy_50 : decode cX0_soughtBy 50 = .ok (.goto 4, 3) := by decide +kernel
theorem dX0_soughtBy_53 : decode cX0_soughtBy 53 = .ok (.lconst 0, 1) := by decide +kernel
theorem dX0_soughtBy_54 : decode cX0_soughtBy 54 = .ok (.ladd, 1) := by decide +kernel
theorem dX0_soughtBy_55 : decode cX0_soughtBy 55 = .ok (.lstore_n 2, 1) := by decide +kernel
theorem dX0_soughtBy_56 : decode cX0_soughtBy 56 = .ok (.iinc 4 1, 3) := by decide +kernel
theorem dX0_soughtBy_59 : decode cX0_soughtBy 59 = .ok (.goto (-54), 3) := by decide +kernel
theorem dX0_soughtBy_62 : decode cX0_soughtBy 62 = .ok (.lload_n 2, 1) := by decide +kernel
theorem dX0_soughtBy_63 : decode cX0_soughtBy 63 = .ok (.lreturn, 1) := by decide +kernel
theorem dX0_isClaimOf_0 : decode cX0_isClaimOf 0 = .ok (.aload_n 0, 1) := by decide +kernel
theorem dX0_isClaimOf_1 : decode cX0_isClaimOf 1 = .ok (.getfield 12, 3) := by decide +kernel
theorem dX0_isClaimOf_4 : decode cX0_isClaimOf 4 = .ok (.getfield 93, 3) := by decide +kernel
theorem dX0_isClaimOf_7 : decode cX0_isClaimOf 7 = .ok (.aload_n 0, 1) := by decide +kernel
theorem dX0_isClaimOf_8 : decode cX0_isClaimOf 8 = .ok (.getfield 21, 3) := by decide +kernel
theorem dX0_isClaimOf_11 : decode cX0_isClaimOf 11 = .ok (.getfield 130, 3) := by decide +kernel
theorem dX0_isClaimOf_14 : decode cX0_isClaimOf 14 = .ok (.iload_n 1, 1) := by decide +kernel
theorem dX0_isClaimOf_15 : decode cX0_isClaimOf 15 = .ok (.iaload, 1) := by decide +kernel
theorem dX0_isClaimOf_16 : decode cX0_isClaimOf 16 = .ok (.iaload, 1) := by decide +kernel
theorem dX0_isClaimOf_17 : decode cX0_isClaimOf 17 = .ok (.iload_n 2, 1) := by decide +kernel
theorem dX0_isClaimOf_18 : decode cX0_isClaimOf 18 = .ok (.if_icmp .ne 7, 3) := by decide +kernel
theorem dX0_isClaimOf_21 : decode cX0_isClaimOf 21 = .ok (.iconst 1, 1) := by decide +kernel
theorem dX0_isClaimOf_22 : decode cX0_isClaimOf 22 = .ok (.goto 4, 3) := by decide +kernel
theorem dX0_isClaimOf_25 : decode cX0_isClaimOf 25 = .ok (.iconst 0, 1) := by decide +kernel
theorem dX0_isClaimOf_26 : decode cX0_isClaimOf 26 = .ok (.ireturn, 1) := by decide +kernel
theorem dX0_shareOfSide_0 : decode cX0_shareOfSide 0 = .ok (.aload_n 0, 1) := by decide +kernel
theorem dX0_shareOfSide_1 : decode cX0_shareOfSide 1 = .ok (.invokevirtual 230, 3) := by decide +kernel
theorem dX0_shareOfSide_4 : decode cX0_shareOfSide 4 = .ok (.lstore_n 2, 1) := by decide +kernel
theorem dX0_shareOfSide_5 : decode cX0_shareOfSide 5 = .ok (.aload_n 0, 1) := by decide +kernel
theorem dX0_shareOfSide_6 : decode cX0_shareOfSide 6 = .ok (.iconst 1, 1) := by decide +kernel
theorem dX0_shareOfSide_7 : decode cX0_shareOfSide 7 = .ok (.invokevirtual 233, 3) := by decide +kernel
theorem dX0_shareOfSide_10 : decode cX0_shareOfSide 10 = .ok (.lstore 4, 2) := by decide +kernel
theorem dX0_shareOfSide_12 : decode cX0_shareOfSide 12 = .ok (.aload_n 0, 1) := by decide +kernel
theorem dX0_shareOfSide_13 : decode cX0_shareOfSide 13 = .ok (.iconst 0, 1) := by decide +kernel
theorem dX0_shareOfSide_14 : decode cX0_shareOfSide 14 = .ok (.invokevirtual 233, 3) := by decide +kernel
theorem dX0_shareOfSide_17 : decode cX0_shareOfSide 17 = .ok (.lload 4, 2) := by decide +kernel
theorem dX0_shareOfSide_19 : decode cX0_shareOfSide 19 = .ok (.ladd, 1) := by decide +kernel
theorem dX0_shareOfSide_20 : decode cX0_shareOfSide 20 = .ok (.lstore 6, 2) := by decide +kernel
theorem dX0_shareOfSide_22 : decode cX0_shareOfSide 22 = .ok (.lload 6, 2) := by decide +kernel
theorem dX0_shareOfSide_24 : decode cX0_shareOfSide 24 = .ok (.lconst 0, 1) := by decide +kernel
theorem dX0_shareOfSide_25 : decode cX0_shareOfSide 25 = .ok (.lcmp, 1) := by decide +kernel
theorem dX0_shareOfSide_26 : decode cX0_shareOfSide 26 = .ok (.ifCond .le 13, 3) := by decide +kernel
theorem dX0_shareOfSide_29 : decode cX0_shareOfSide 29 = .ok (.lload_n 2, 1) := by decide +kernel
theorem dX0_shareOfSide_30 : decode cX0_shareOfSide 30 = .ok (.lload 4, 2) := by decide +kernel
theorem dX0_shareOfSide_32 : decode cX0_shareOfSide 32 = .ok (.lmul, 1) := by decide +kernel
theorem dX0_shareOfSide_33 : decode cX0_shareOfSide 33 = .ok (.lload 6, 2) := by decide +kernel
theorem dX0_shareOfSide_35 : decode cX0_shareOfSide 35 = .ok (.ldiv, 1) := by decide +kernel
theorem dX0_shareOfSide_36 : decode cX0_shareOfSide 36 = .ok (.goto 8, 3) := by decide +kernel
theorem dX0_shareOfSide_39 : decode cX0_shareOfSide 39 = .ok (.lload_n 2, 1) := by decide +kernel
theorem dX0_shareOfSide_40 : decode cX0_shareOfSide 40 = .ok (.ldc2_w 236, 3) := by decide +kernel
theorem dX0_shareOfSide_43 : decode cX0_shareOfSide 43 = .ok (.ldiv, 1) := by decide +kernel
theorem dX0_shareOfSide_44 : decode cX0_shareOfSide 44 = .ok (.lstore 8, 2) := by decide +kernel
theorem dX0_shareOfSide_46 : decode cX0_shareOfSide 46 = .ok (.iload_n 1, 1) := by decide +kernel
theorem dX0_shareOfSide_47 : decode cX0_shareOfSide 47 = .ok (.iconst 1, 1) := by decide +kernel
theorem dX0_shareOfSide_48 : decode cX0_shareOfSide 48 = .ok (.if_icmp .ne 8, 3) := by decide +kernel
theorem dX0_shareOfSide_51 : decode cX0_shareOfSide 51 = .ok (.lload 8, 2) := by decide +kernel
theorem dX0_shareOfSide_53 : decode cX0_shareOfSide 53 = .ok (.goto 7, 3) := by decide +kernel
theorem dX0_shareOfSide_56 : decode cX0_shareOfSide 56 = .ok (.lload_n 2, 1) := by decide +kernel
theorem dX0_shareOfSide_57 : decode cX0_shareOfSide 57 = .ok (.lload 8, 2) := by decide +kernel
theorem dX0_shareOfSide_59 : decode cX0_shareOfSide 59 = .ok (.lsub, 1) := by decide +kernel
theorem dX0_shareOfSide_60 : decode cX0_shareOfSide 60 = .ok (.lreturn, 1) := by decide +kernel
theorem dX0_shareOfParty_0 : decode cX0_shareOfParty 0 = .ok (.aload_n 0, 1) := by decide +kernel
theorem dX0_shareOfParty_1 : decode cX0_shareOfParty 1 = .ok (.getfield 12, 3) := by decide +kernel
theorem dX0_shareOfParty_4 : decode cX0_shareOfParty 4 = .ok (.aload_n 0, 1) := by decide +kernel
theorem dX0_shareOfParty_5 : decode cX0_shareOfParty 5 = .ok (.aload_n 0, 1) := by decide +kernel
theorem dX0_shareOfParty_6 : decode cX0_shareOfParty 6 = .ok (.getfield 12, 3) := by decide +kernel
theorem dX0_shareOfParty_9 : decode cX0_shareOfParty 9 = .ok (.getfield 93, 3) := by decide +kernel
theorem dX0_shareOfParty_12 : decode cX0_shareOfParty 12 = .ok (.iload_n 1, 1) := by decide +kernel
theorem dX0_shareOfParty_13 : decode cX0_shareOfParty 13 = .ok (.iaload, 1) := by decide +kernel
theorem dX0_shareOfParty_14 : decode cX0_shareOfParty 14 = .ok (.invokevirtual 238, 3) := by decide +kernel
theorem dX0_shareOfParty_17 : decode cX0_shareOfParty 17 = .ok (.iload_n 1, 1) := by decide +kernel
theorem dX0_shareOfParty_18 : decode cX0_shareOfParty 18 = .ok (.invokevirtual 147, 3) := by decide +kernel
theorem dX0_shareOfParty_21 : decode cX0_shareOfParty 21 = .ok (.lreturn, 1) := by decide +kernel
theorem dX0_numberOfParty_0 : decode cX0_numberOfParty 0 = .ok (.iload_n 2, 1) := by decide +kernel
theorem dX0_numberOfParty_1 : decode cX0_numberOfParty 1 = .ok (.tableswitch 55 7 10 #[31, 55, 37, 46], 31) := by decide +kernel
theorem dX0_numberOfParty_32 : decode cX0_numberOfParty 32 = .ok (.aload_n 0, 1) := by decide +kernel
theorem dX0_numberOfParty_33 : decode cX0_numberOfParty 33 = .ok (.iload_n 1, 1) := by decide +kernel
theorem dX0_numberOfParty_34 : decode cX0_numberOfParty 34 = .ok (.invokevirtual 161, 3) := by decide +kernel
theorem dX0_numberOfParty_37 : decode cX0_numberOfParty 37 = .ok (.lreturn, 1) := by decide +kernel
theorem dX0_numberOfParty_38 : decode cX0_numberOfParty 38 = .ok (.aload_n 0, 1) := by decide +kernel
theorem dX0_numberOfParty_39 : decode cX0_numberOfParty 39 = .ok (.getfield 28, 3) := by decide +kernel
theorem dX0_numberOfParty_42 : decode cX0_numberOfParty 42 = .ok (.iload_n 1, 1) := by decide +kernel
theorem dX0_numberOfParty_43 : decode cX0_numberOfParty 43 = .ok (.invokevirtual 241, 3) := by decide +kernel
theorem dX0_numberOfParty_46 : decode cX0_numberOfParty 46 = .ok (.lreturn, 1) := by decide +kernel
theorem dX0_numberOfParty_47 : decode cX0_numberOfParty 47 = .ok (.aload_n 0, 1) := by decide +kernel
theorem dX0_numberOfParty_48 : decode cX0_numberOfParty 48 = .ok (.getfield 28, 3) := by decide +kernel
theorem dX0_numberOfParty_51 : decode cX0_numberOfParty 51 = .ok (.iload_n 1, 1) := by decide +kernel
theorem dX0_numberOfParty_52 : decode cX0_numberOfParty 52 = .ok (.invokevirtual 244, 3) := by decide +kernel
theorem dX0_numberOfParty_55 : decode cX0_numberOfParty 55 = .ok (.lreturn, 1) := by decide +kernel
theorem dX0_numberOfParty_56 : decode cX0_numberOfParty 56 = .ok (.aload_n 0, 1) := by decide +kernel
theorem dX0_numberOfParty_57 : decode cX0_numberOfParty 57 = .ok (.getfield 12, 3) := by decide +kernel
theorem dX0_numberOfParty_60 : decode cX0_numberOfParty 60 = .ok (.iload_n 1, 1) := by decide +kernel
theorem dX0_numberOfParty_61 : decode cX0_numberOfParty 61 = .ok (.iload_n 2, 1) := by decide +kernel
theorem dX0_numberOfParty_62 : decode cX0_numberOfParty 62 = .ok (.invokevirtual 247, 3) := by decide +kernel
theorem dX0_numberOfParty_65 : decode cX0_numberOfParty 65 = .ok (.lreturn, 1) := by decide +kernel
theorem dX0_numberOfSide_0 : decode cX0_numberOfSide 0 = .ok (.iload_n 2, 1) := by decide +kernel
theorem dX0_numberOfSide_1 : decode cX0_numberOfSide 1 = .ok (.tableswitch 49 0 2 #[27, 33, 39], 27) := by decide +kernel
theorem dX0_numberOfSide_28 : decode cX0_numberOfSide 28 = .ok (.aload_n 0, 1) := by decide +kernel
theorem dX0_numberOfSide_29 : decode cX0_numberOfSide 29 = .ok (.iload_n 1, 1) := by decide +kernel
theorem dX0_numberOfSide_30 : decode cX0_numberOfSide 30 = .ok (.invokevirtual 233, 3) := by decide +kernel
theorem dX0_numberOfSide_33 : decode cX0_numberOfSide 33 = .ok (.lreturn, 1) := by decide +kernel
theorem dX0_numberOfSide_34 : decode cX0_numberOfSide 34 = .ok (.aload_n 0, 1) := by decide +kernel
theorem dX0_numberOfSide_35 : decode cX0_numberOfSide 35 = .ok (.iload_n 1, 1) := by decide +kernel
theorem dX0_numberOfSide_36 : decode cX0_numberOfSide 36 = .ok (.invokevirtual 238, 3) := by decide +kernel
theorem dX0_numberOfSide_39 : decode cX0_numberOfSide 39 = .ok (.lreturn, 1) := by decide +kernel
theorem dX0_numberOfSide_40 : decode cX0_numberOfSide 40 = .ok (.aload_n 0, 1) := by decide +kernel
theorem dX0_numberOfSide_41 : decode cX0_numberOfSide 41 = .ok (.getfield 12, 3) := by decide +kernel
theorem dX0_numberOfSide_44 : decode cX0_numberOfSide 44 = .ok (.iload_n 1, 1) := by decide +kernel
theorem dX0_numberOfSide_45 : decode cX0_numberOfSide 45 = .ok (.invokevirtual 250, 3) := by decide +kernel
theorem dX0_numberOfSide_48 : decode cX0_numberOfSide 48 = .ok (.i2l, 1) := by decide +kernel
theorem dX0_numberOfSide_49 : decode cX0_numberOfSide 49 = .ok (.lreturn, 1) := by decide +kernel
theorem dX0_numberOfSide_50 : decode cX0_numberOfSide 50 = .ok (.aload_n 0, 1) := by decide +kernel
theorem dX0_numberOfSide_51 : decode cX0_numberOfSide 51 = .ok (.getfield 12, 3) := by decide +kernel
theorem dX0_numberOfSide_54 : decode cX0_numberOfSide 54 = .ok (.iload_n 1, 1) := by decide +kernel
theorem dX0_numberOfSide_55 : decode cX0_numberOfSide 55 = .ok (.invokevirtual 253, 3) := by decide +kernel
theorem dX0_numberOfSide_58 : decode cX0_numberOfSide 58 = .ok (.i2l, 1) := by decide +kernel
theorem dX0_numberOfSide_59 : decode cX0_numberOfSide 59 = .ok (.lreturn, 1) := by decide +kernel
theorem dX0_numberOfAccount_0 : decode cX0_numberOfAccount 0 = .ok (.iload_n 1, 1) := by decide +kernel
theorem dX0_numberOfAccount_1 : decode cX0_numberOfAccount 1 = .ok (.tableswitch 151 0 10 #[59, 68, 77, 86, 94, 103, 112, 121, 131, 137, 143], 59) := by decide +kernel
theorem dX0_numberOfAccount_60 : decode cX0_numberOfAccount 60 = .ok (.aload_n 0, 1) := by decide +kernel
theorem dX0_numberOfAccount_61 : decode cX0_numberOfAccount 61 = .ok (.getfield 12, 3) := by decide +kernel
theorem dX0_numberOfAccount_64 : decode cX0_numberOfAccount 64 = .ok (.getfield 64, 3) := by decide +kernel
theorem dX0_numberOfAccount_67 : decode cX0_numberOfAccount 67 = .ok (.i2l, 1) := by decide +kernel
theorem dX0_numberOfAccount_68 : decode cX0_numberOfAccount 68 = .ok (.lreturn, 1) := by decide +kernel
theorem dX0_numberOfAccount_69 : decode cX0_numberOfAccount 69 = .ok (.aload_n 0, 1) := by decide +kernel
theorem dX0_numberOfAccount_70 : decode cX0_numberOfAccount 70 = .ok (.getfield 21, 3) := by decide +kernel
theorem dX0_numberOfAccount_73 : decode cX0_numberOfAccount 73 = .ok (.getfield 67, 3) := by decide +kernel
theorem dX0_numberOfAccount_76 : decode cX0_numberOfAccount 76 = .ok (.i2l, 1) := by decide +kernel
theorem dX0_numberOfAccount_77 : decode cX0_numberOfAccount 77 = .ok (.lreturn, 1) := by decide +kernel
theorem dX0_numberOfAccount_78 : decode cX0_numberOfAccount 78 = .ok (.aload_n 0, 1) := by decide +kernel
theorem dX0_numberOfAccount_79 : decode cX0_numberOfAccount 79 = .ok (.getfield 28, 3) := by decide +kernel
theorem dX0_numberOfAccount_82 : decode cX0_numberOfAccount 82 = .ok (.getfield 68, 3) := by decide +kernel
theorem dX0_numberOfAccount_85 : decode cX0_numberOfAccount 85 = .ok (.i2l, 1) := by decide +kernel
theorem dX0_numberOfAccount_86 : decode cX0_numberOfAccount 86 = .ok (.lreturn, 1) := by decide +kernel
theorem dX0_numberOfAccount_87 : decode cX0_numberOfAccount 87 = .ok (.aload_n 0, 1) := by decide +kernel
theorem dX0_numberOfAccount_88 : decode cX0_numberOfAccount 88 = .ok (.getfield 28, 3) := by decide +kernel
theorem dX0_numberOfAccount_91 : decode cX0_numberOfAccount 91 = .ok (.invokevirtual 256, 3) := by decide +kernel
theorem dX0_numberOfAccount_94 : decode cX0_numberOfAccount 94 = .ok (.lreturn, 1) := by decide +kernel
theorem dX0_numberOfAccount_95 : decode cX0_numberOfAccount 95 = .ok (.aload_n 0, 1) := by decide +kernel
theorem dX0_numberOfAccount_96 : decode cX0_numberOfAccount 96 = .ok (.getfield 12, 3) := by decide +kernel
theorem dX0_numberOfAccount_99 : decode cX0_numberOfAccount 99 = .ok (.iconst 3, 1) := by decide +kernel
theorem dX0_numberOfAccount_100 : decode cX0_numberOfAccount 100 = .ok (.invokevirtual 259, 3) := by decide +kernel
theorem dX0_numberOfAccount_103 : decode cX0_numberOfAccount 103 = .ok (.lreturn, 1) := by decide +kernel
theorem dX0_numberOfAccount_104 : decode cX0_numberOfAccount 104 = .ok (.aload_n 0, 1) := by decide +kernel
theorem dX0_numberOfAccount_105 : decode cX0_numberOfAccount 105 = .ok (.getfield 12, 3) := by decide +kernel
theorem dX0_numberOfAccount_108 : decode cX0_numberOfAccount 108 = .ok (.iconst 4, 1) := by decide +kernel
theorem dX0_numberOfAccount_109 : decode cX0_numberOfAccount 109 = .ok (.invokevirtual 259, 3) := by decide +kernel
theorem dX0_numberOfAccount_112 : decode cX0_numberOfAccount 112 = .ok (.lreturn, 1) := by decide +kernel
theorem dX0_numberOfAccount_113 : decode cX0_numberOfAccount 113 = .ok (.aload_n 0, 1) := by decide +kernel
theorem dX0_numberOfAccount_114 : decode cX0_numberOfAccount 114 = .ok (.getfield 12, 3) := by decide +kernel
theorem dX0_numberOfAccount_117 : decode cX0_numberOfAccount 117 = .ok (.iconst 5, 1) := by decide +kernel
theorem dX0_numberOfAccount_118 : decode cX0_numberOfAccount 118 = .ok (.invokevirtual 259, 3) := by decide +kernel
theorem dX0_numberOfAccount_121 : decode cX0_numberOfAccount 121 = .ok (.lreturn, 1) := by decide +kernel
theorem dX0_numberOfAccount_122 : decode cX0_numberOfAccount 122 = .ok (.aload_n 0, 1) := by decide +kernel
theorem dX0_numberOfAccount_123 : decode cX0_numberOfAccount 123 = .ok (.getfield 12, 3) := by decide +kernel
theorem dX0_numberOfAccount_126 : decode cX0_numberOfAccount 126 = .ok (.bipush 6, 2) := by decide +kernel
theorem dX0_numberOfAccount_128 : decode cX0_numberOfAccount 128 = .ok (.invokevirtual 259, 3) := by decide +kernel
theorem dX0_numberOfAccount_131 : decode cX0_numberOfAccount 131 = .ok (.lreturn, 1) := by decide +kernel
theorem dX0_numberOfAccount_132 : decode cX0_numberOfAccount 132 = .ok (.aload_n 0, 1) := by decide +kernel
theorem dX0_numberOfAccount_133 : decode cX0_numberOfAccount 133 = .ok (.getfield 57, 3) := by decide +kernel
theorem dX0_numberOfAccount_136 : decode cX0_numberOfAccount 136 = .ok (.i2l, 1) := by decide +kernel
theorem dX0_numberOfAccount_137 : decode cX0_numberOfAccount 137 = .ok (.lreturn, 1) := by decide +kernel
theorem dX0_numberOfAccount_138 : decode cX0_numberOfAccount 138 = .ok (.aload_n 0, 1) := by decide +kernel
theorem dX0_numberOfAccount_139 : decode cX0_numberOfAccount 139 = .ok (.getfield 61, 3) := by decide +kernel
theorem dX0_numberOfAccount_142 : decode cX0_numberOfAccount 142 = .ok (.i2l, 1) := by decide +kernel
theorem dX0_numberOfAccount_143 : decode cX0_numberOfAccount 143 = .ok (.lreturn, 1) := by decide +kernel
theorem dX0_numberOfAccount_144 : decode cX0_numberOfAccount 144 = .ok (.aload_n 0, 1) := by decide +kernel
theorem dX0_numberOfAccount_145 : decode cX0_numberOfAccount 145 = .ok (.getfield 21, 3) := by decide +kernel
theorem dX0_numberOfAccount_148 : decode cX0_numberOfAccount 148 = .ok (.invokevirtual 262, 3) := by decide +kernel
theorem dX0_numberOfAccount_151 : decode cX0_numberOfAccount 151 = .ok (.lreturn, 1) := by decide +kernel
theorem dX0_numberOfAccount_152 : decode cX0_numberOfAccount 152 = .ok (.aload_n 0, 1) := by decide +kernel
theorem dX0_numberOfAccount_153 : decode cX0_numberOfAccount 153 = .ok (.getfield 12, 3) := by decide +kernel
theorem dX0_numberOfAccount_156 : decode cX0_numberOfAccount 156 = .ok (.bipush 8, 2) := by decide +kernel
theorem dX0_numberOfAccount_158 : decode cX0_numberOfAccount 158 = .ok (.invokevirtual 259, 3) := by decide +kernel
theorem dX0_numberOfAccount_161 : decode cX0_numberOfAccount 161 = .ok (.lreturn, 1) := by decide +kernel
theorem dX7_init_0 : decode cX7_init 0 = .ok (.aload_n 0, 1) := by decide +kernel
theorem dX7_init_1 : decode cX7_init 1 = .ok (.invokespecial 1, 3) := by decide +kernel
theorem dX7_init_4 : decode cX7_init 4 = .ok (.aload_n 0, 1) := by decide +kernel
theorem dX7_init_5 : decode cX7_init 5 = .ok (.new 7, 3) := by decide +kernel
theorem dX7_init_8 : decode cX7_init 8 = .ok (.dup, 1) := by decide +kernel
theorem dX7_init_9 : decode cX7_init 9 = .ok (.invokespecial 9, 3) := by decide +kernel
theorem dX7_init_12 : decode cX7_init 12 = .ok (.putfield 10, 3) := by decide +kernel
theorem dX7_init_15 : decode cX7_init 15 = .ok (.aload_n 0, 1) := by decide +kernel
theorem dX7_init_16 : decode cX7_init 16 = .ok (.new 7, 3) := by decide +kernel
theorem dX7_init_19 : decode cX7_init 19 = .ok (.dup, 1) := by decide +kernel
theorem dX7_init_20 : decode cX7_init 20 = .ok (.invokespecial 9, 3) := by decide +kernel
theorem dX7_init_23 : decode cX7_init 23 = .ok (.putfield 16, 3) := by decide +kernel
theorem dX7_init_26 : decode cX7_init 26 = .ok (.aload_n 0, 1) := by decide +kernel
theorem dX7_init_27 : decode cX7_init 27 = .ok (.bipush 7, 2) := by decide +kernel
theorem dX7_init_29 : decode cX7_init 29 = .ok (.anewarray 7, 3) := by decide +kernel
theorem dX7_init_32 : decode cX7_init 32 = .ok (.putfield 19, 3) := by decide +kernel
theorem dX7_init_35 : decode cX7_init 35 = .ok (.aload_n 0, 1) := by decide +kernel
theorem dX7_init_36 : decode cX7_init 36 = .ok (.new 23, 3) := by decide +kernel
theorem dX7_init_39 : decode cX7_init 39 = .ok (.dup, 1) := by decide +kernel
theorem dX7_init_40 : decode cX7_init 40 = .ok (.invokespecial 25, 3) := by decide +kernel
theorem dX7_init_43 : decode cX7_init 43 = .ok (.putfield 26, 3) := by decide +kernel
theorem dX7_init_46 : decode cX7_init 46 = .ok (.aload_n 0, 1) := by decide +kernel
theorem dX7_init_47 : decode cX7_init 47 = .ok (.new 30, 3) := by decide +kernel
theorem dX7_init_50 : decode cX7_init 50 = .ok (.dup, 1) := by decide +kernel
theorem dX7_init_51 : decode cX7_init 51 = .ok (.invokespecial 32, 3) := by decide +kernel
theorem dX7_init_54 : decode cX7_init 54 = .ok (.putfield 33, 3) := by decide +kernel
theorem dX7_init_57 : decode cX7_init 57 = .ok (.aload_n 0, 1) := by decide +kernel
theorem dX7_init_58 : decode cX7_init 58 = .ok (.iconst 0, 1) := by decide +kernel
theorem dX7_init_59 : decode cX7_init 59 = .ok (.putfield 37, 3) := by decide +kernel
theorem dX7_init_62 : decode cX7_init 62 = .ok (.aload_n 0, 1) := by decide +kernel
theorem dX7_init_63 : decode cX7_init 63 = .ok (.iconst 0, 1) := by decide +kernel
theorem dX7_init_64 : decode cX7_init 64 = .ok (.putfield 41, 3) := by decide +kernel
theorem dX7_init_67 : decode cX7_init 67 = .ok (.aload_n 0, 1) := by decide +kernel
theorem dX7_init_68 : decode cX7_init 68 = .ok (.iconst 0, 1) := by decide +kernel
theorem dX7_init_69 : decode cX7_init 69 = .ok (.putfield 45, 3) := by decide +kernel
theorem dX7_init_72 : decode cX7_init 72 = .ok (.aload_n 0, 1) := by decide +kernel
theorem dX7_init_73 : decode cX7_init 73 = .ok (.iconst (-1), 1) := by decide +kernel
theorem dX7_init_74 : decode cX7_init 74 = .ok (.putfield 48, 3) := by decide +kernel
theorem dX7_init_77 : decode cX7_init 77 = .ok (.aload_n 0, 1) := by decide +kernel
theorem dX7_init_78 : decode cX7_init 78 = .ok (.iconst (-1), 1) := by decide +kernel
theorem dX7_init_79 : decode cX7_init 79 = .ok (.putfield 51, 3) := by decide +kernel
theorem dX7_init_82 : decode cX7_init 82 = .ok (.iconst 0, 1) := by decide +kernel
theorem dX7_init_83 : decode cX7_init 83 = .ok (.istore_n 1, 1) := by decide +kernel
theorem dX7_init_84 : decode cX7_init 84 = .ok (.iload_n 1, 1) := by decide +kernel
theorem dX7_init_85 : decode cX7_init 85 = .ok (.bipush 7, 2) := by decide +kernel
theorem dX7_init_87 : decode cX7_init 87 = .ok (.if_icmp .ge 22, 3) := by decide +kernel
theorem dX7_init_90 : decode cX7_init 90 = .ok (.aload_n 0, 1) := by decide +kernel
theorem dX7_init_91 : decode cX7_init 91 = .ok (.getfield 19, 3) := by decide +kernel
theorem dX7_init_94 : decode cX7_init 94 = .ok (.iload_n 1, 1) := by decide +kernel
theorem dX7_init_95 : decode cX7_init 95 = .ok (.new 7, 3) := by decide +kernel
theorem dX7_init_98 : decode cX7_init 98 = .ok (.dup, 1) := by decide +kernel
theorem dX7_init_99 : decode cX7_init 99 = .ok (.invokespecial 9, 3) := by decide +kernel
theorem dX7_init_102 : decode cX7_init 102 = .ok (.aastore, 1) := by decide +kernel
theorem dX7_init_103 : decode cX7_init 103 = .ok (.iinc 1 1, 3) := by decide +kernel
theorem dX7_init_106 : decode cX7_init 106 = .ok (.goto (-22), 3) := by decide +kernel
theorem dX7_init_109 : decode cX7_init 109 = .ok (.return_, 1) := by decide +kernel
theorem dX7_clear_0 : decode cX7_clear 0 = .ok (.aload_n 0, 1) := by decide +kernel
theorem dX7_clear_1 : decode cX7_clear 1 = .ok (.getfield 10, 3) := by decide +kernel
theorem dX7_clear_4 : decode cX7_clear 4 = .ok (.getfield 54, 3) := by decide +kernel
theorem dX7_clear_7 : decode cX7_clear 7 = .ok (.getfield 58, 3) := by decide +kernel
theorem dX7_clear_10 : decode cX7_clear 10 = .ok (.istore_n 1, 1) := by decide +kernel
theorem dX7_clear_11 : decode cX7_clear 11 = .ok (.aload_n 0, 1) := by decide +kernel
theorem dX7_clear_12 : decode cX7_clear 12 = .ok (.getfield 10, 3) := by decide +kernel
theorem dX7_clear_15 : decode cX7_clear 15 = .ok (.invokevirtual 63, 3) := by decide +kernel
theorem dX7_clear_18 : decode cX7_clear 18 = .ok (.aload_n 0, 1) := by decide +kernel
theorem dX7_clear_19 : decode cX7_clear 19 = .ok (.iconst 0, 1) := by decide +kernel
theorem dX7_clear_20 : decode cX7_clear 20 = .ok (.putfield 45, 3) := by decide +kernel
theorem dX7_clear_23 : decode cX7_clear 23 = .ok (.iload_n 1, 1) := by decide +kernel
theorem dX7_clear_24 : decode cX7_clear 24 = .ok (.ireturn, 1) := by decide +kernel
theorem dX7_addParty_0 : decode cX7_addParty 0 = .ok (.iload_n 1, 1) := by decide +kernel
theorem dX7_addParty_1 : decode cX7_addParty 1 = .ok (.invokestatic 66, 3) := by decide +kernel
theorem dX7_addParty_4 : decode cX7_addParty 4 = .ok (.ifCond .eq 13, 3) := by decide +kernel
theorem dX7_addParty_7 : decode cX7_addParty 7 = .ok (.iload_n 2, 1) := by decide +kernel
theorem dX7_addParty_8 : decode cX7_addParty 8 = .ok (.iconst 1, 1) := by decide +kernel
theorem dX7_addParty_9 : decode cX7_addParty 9 = .ok (.bipush 9, 2) := by decide +kernel
theorem dX7_addParty_11 : decode cX7_addParty 11 = .ok (.invokestatic 70, 3) := by decide +kernel
theorem dX7_addParty_14 : decode cX7_addParty 14 = .ok (.ifCond .ne 11, 3) := by decide +kernel
theorem dX7_addParty_17 : decode cX7_addParty 17 = .ok (.new 74, 3) := by decide +kernel
theorem dX7_addParty_20 : decode cX7_addParty 20 = .ok (.dup, 1) := by decide +kernel
theorem dX7_addParty_21 : decode cX7_addParty 21 = .ok (.invokespecial 76, 3) := by decide +kernel
theorem dX7_addParty_24 : decode cX7_addParty 24 = .ok (.athrow, 1) := by decide +kernel
theorem dX7_addParty_25 : decode cX7_addParty 25 = .ok (.aload_n 0, 1) := by decide +kernel
theorem dX7_addParty_26 : decode cX7_addParty 26 = .ok (.getfield 10, 3) := by decide +kernel
theorem dX7_addParty_29 : decode cX7_addParty 29 = .ok (.getfield 54, 3) := by decide +kernel
theorem dX7_addParty_32 : decode cX7_addParty 32 = .ok (.getfield 58, 3) := by decide +kernel
theorem dX7_addParty_35 : decode cX7_addParty 35 = .ok (.bipush 6, 2) := by decide +kernel
theorem dX7_addParty_37 : decode cX7_addParty 37 = .ok (.if_icmp .lt 11, 3) := by decide +kernel
theorem dX7_addParty_40 : decode cX7_addParty 40 = .ok (.new 77, 3) := by decide +kernel
theorem dX7_addParty_43 : decode cX7_addParty 43 = .ok (.dup, 1) := by decide +kernel
theorem dX7_addParty_44 : decode cX7_addParty 44 = .ok (.invokespecial 79, 3) := by decide +kernel
theorem dX7_addParty_47 : decode cX7_addParty 47 = .ok (.athrow, 1) := by decide +kernel
theorem dX7_addParty_48 : decode cX7_addParty 48 = .ok (.aload_n 0, 1) := by decide +kernel
theorem dX7_addParty_49 : decode cX7_addParty 49 = .ok (.invokevirtual 80, 3) := by decide +kernel
theorem dX7_addParty_52 : decode cX7_addParty 52 = .ok (.aload_n 0, 1) := by decide +kernel
theorem dX7_addParty_53 : decode cX7_addParty 53 = .ok (.getfield 10, 3) := by decide +kernel
theorem dX7_addParty_56 : decode cX7_addParty 56 = .ok (.getfield 54, 3) := by decide +kernel
theorem dX7_addParty_59 : decode cX7_addParty 59 = .ok (.iload_n 1, 1) := by decide +kernel
theorem dX7_addParty_60 : decode cX7_addParty 60 = .ok (.iload_n 2, 1) := by decide +kernel
theorem dX7_addParty_61 : decode cX7_addParty 61 = .ok (.invokevirtual 83, 3) := by decide +kernel
theorem dX7_addParty_64 : decode cX7_addParty 64 = .ok (.ireturn, 1) := by decide +kernel
theorem dX7_setRate_0 : decode cX7_setRate 0 = .ok (.aload_n 0, 1) := by decide +kernel
theorem dX7_setRate_1 : decode cX7_setRate 1 = .ok (.iload_n 1, 1) := by decide +kernel
theorem dX7_setRate_2 : decode cX7_setRate 2 = .ok (.iconst 4, 1) := by decide +kernel
theorem dX7_setRate_3 : decode cX7_setRate 3 = .ok (.iload_n 2, 1) := by decide +kernel
theorem dX7_setRate_4 : decode cX7_setRate 4 = .ok (.invokestatic 87, 3) := by decide +kernel
theorem dX7_setRate_7 : decode cX7_setRate 7 = .ok (.invokevirtual 91, 3) := by decide +kernel
theorem dX7_setRate_10 : decode cX7_setRate 10 = .ok (.aload_n 0, 1) := by decide +kernel
theorem dX7_setRate_11 : decode cX7_setRate 11 = .ok (.invokevirtual 80, 3) := by decide +kernel
theorem dX7_setRate_14 : decode cX7_setRate 14 = .ok (.aload_n 0, 1) := by decide +kernel
theorem dX7_setRate_15 : decode cX7_setRate 15 = .ok (.getfield 10, 3) := by decide +kernel
theorem dX7_setRate_18 : decode cX7_setRate 18 = .ok (.getfield 95, 3) := by decide +kernel
theorem dX7_setRate_21 : decode cX7_setRate 21 = .ok (.iload_n 1, 1) := by decide +kernel
theorem dX7_setRate_22 : decode cX7_setRate 22 = .ok (.iaload, 1) := by decide +kernel
theorem dX7_setRate_23 : decode cX7_setRate 23 = .ok (.istore_n 3, 1) := by decide +kernel
theorem dX7_setRate_24 : decode cX7_setRate 24 = .ok (.aload_n 0, 1) := by decide +kernel
theorem dX7_setRate_25 : decode cX7_setRate 25 = .ok (.getfield 10, 3) := by decide +kernel
theorem dX7_setRate_28 : decode cX7_setRate 28 = .ok (.getfield 95, 3) := by decide +kernel
theorem dX7_setRate_31 : decode cX7_setRate 31 = .ok (.iload_n 1, 1) := by decide +kernel
theorem dX7_setRate_32 : decode cX7_setRate 32 = .ok (.iload_n 2, 1) := by decide +kernel
theorem dX7_setRate_33 : decode cX7_setRate 33 = .ok (.iastore, 1) := by decide +kernel
theorem dX7_setRate_34 : decode cX7_setRate 34 = .ok (.iload_n 3, 1) := by decide +kernel
theorem dX7_setRate_35 : decode cX7_setRate 35 = .ok (.ireturn, 1) := by decide +kernel
theorem dX7_setTier_0 : decode cX7_setTier 0 = .ok (.aload_n 0, 1) := by decide +kernel
theorem dX7_setTier_1 : decode cX7_setTier 1 = .ok (.iload_n 1, 1) := by decide +kernel
theorem dX7_setTier_2 : decode cX7_setTier 2 = .ok (.iconst 4, 1) := by decide +kernel
theorem dX7_setTier_3 : decode cX7_setTier 3 = .ok (.iload_n 2, 1) := by decide +kernel
theorem dX7_setTier_4 : decode cX7_setTier 4 = .ok (.invokestatic 87, 3) := by decide +kernel
theorem dX7_setTier_7 : decode cX7_setTier 7 = .ok (.invokevirtual 91, 3) := by decide +kernel
theorem dX7_setTier_10 : decode cX7_setTier 10 = .ok (.aload_n 0, 1) := by decide +kernel
theorem dX7_setTier_11 : decode cX7_setTier 11 = .ok (.invokevirtual 80, 3) := by decide +kernel
theorem dX7_setTier_14 : decode cX7_setTier 14 = .ok (.aload_n 0, 1) := by decide +kernel
theorem dX7_setTier_15 : decode cX7_setTier 15 = .ok (.getfield 10, 3) := by decide +kernel
theorem dX7_setTier_18 : decode cX7_setTier 18 = .ok (.getfield 99, 3) := by decide +kernel
theorem dX7_setTier_21 : decode cX7_setTier 21 = .ok (.iload_n 1, 1) := by decide +kernel
theorem dX7_setTier_22 : decode cX7_setTier 22 = .ok (.iaload, 1) := by decide +kernel
theorem dX7_setTier_23 : decode cX7_setTier 23 = .ok (.istore_n 3, 1) := by decide +kernel
theorem dX7_setTier_24 : decode cX7_setTier 24 = .ok (.aload_n 0, 1) := by decide +kernel
theorem dX7_setTier_25 : decode cX7_setTier 25 = .ok (.getfield 10, 3) := by decide +kernel
theorem dX7_setTier_28 : decode cX7_setTier 28 = .ok (.getfield 99, 3) := by decide +kernel
theorem dX7_setTier_31 : decode cX7_setTier 31 = .ok (.iload_n 1, 1) := by decide +kernel
theorem dX7_setTier_32 : decode cX7_setTier 32 = .ok (.iload_n 2, 1) := by decide +kernel
theorem dX7_setTier_33 : decode cX7_setTier 33 = .ok (.iastore, 1) := by decide +kernel
theorem dX7_setTier_34 : decode cX7_setTier 34 = .ok (.iload_n 3, 1) := by decide +kernel
theorem dX7_setTier_35 : decode cX7_setTier 35 = .ok (.ireturn, 1) := by decide +kernel
theorem dX7_party_0 : decode cX7_party 0 = .ok (.aload_n 0, 1) := by decide +kernel
theorem dX7_party_1 : decode cX7_party 1 = .ok (.aload_n 0, 1) := by decide +kernel
theorem dX7_party_2 : decode cX7_party 2 = .ok (.getfield 10, 3) := by decide +kernel
theorem dX7_party_5 : decode cX7_party 5 = .ok (.getfield 54, 3) := by decide +kernel
theorem dX7_party_8 : decode cX7_party 8 = .ok (.iload_n 1, 1) := by decide +kernel
theorem dX7_party_9 : decode cX7_party 9 = .ok (.invokevirtual 102, 3) := by decide +kernel
theorem dX7_party_12 : decode cX7_party 12 = .ok (.iload_n 2, 1) := by decide +kernel
theorem dX7_party_13 : decode cX7_party 13 = .ok (.bipush 10, 2) := by decide +kernel
theorem dX7_party_15 : decode cX7_party 15 = .ok (.invokestatic 105, 3) := by decide +kernel
theorem dX7_party_18 : decode cX7_party 18 = .ok (.invokevirtual 91, 3) := by decide +kernel
theorem dX7_party_21 : decode cX7_party 21 = .ok (.aload_n 0, 1) := by decide +kernel
theorem dX7_party_22 : decode cX7_party 22 = .ok (.getfield 10, 3) := by decide +kernel
theorem dX7_party_25 : decode cX7_party 25 = .ok (.iload_n 1, 1) := by decide +kernel
theorem dX7_party_26 : decode cX7_party 26 = .ok (.iload_n 2, 1) := by decide +kernel
theorem dX7_party_27 : decode cX7_party 27 = .ok (.invokevirtual 109, 3) := by decide +kernel
theorem dX7_party_30 : decode cX7_party 30 = .ok (.lreturn, 1) := by decide +kernel
theorem dX7_claim_0 : decode cX7_claim 0 = .ok (.aload_n 0, 1) := by decide +kernel
theorem dX7_claim_1 : decode cX7_claim 1 = .ok (.aload_n 0, 1) := by decide +kernel
theorem dX7_claim_2 : decode cX7_claim 2 = .ok (.getfield 10, 3) := by decide +kernel
theorem dX7_claim_5 : decode cX7_claim 5 = .ok (.iload_n 1, 1) := by decide +kernel
theorem dX7_claim_6 : decode cX7_claim 6 = .ok (.iload_n 2, 1) := by decide +kernel
theorem dX7_claim_7 : decode cX7_claim 7 = .ok (.iload_n 3, 1) := by decide +kernel
theorem dX7_claim_8 : decode cX7_claim 8 = .ok (.invokevirtual 113, 3) := by decide +kernel
theorem dX7_claim_11 : decode cX7_claim 11 = .ok (.invokevirtual 91, 3) := by decide +kernel
theorem dX7_claim_14 : decode cX7_claim 14 = .ok (.aload_n 0, 1) := by decide +kernel
theorem dX7_claim_15 : decode cX7_claim 15 = .ok (.invokevirtual 80, 3) := by decide +kernel
theorem dX7_claim_18 : decode cX7_claim 18 = .ok (.aload_n 0, 1) := by decide +kernel
theorem dX7_claim_19 : decode cX7_claim 19 = .ok (.getfield 10, 3) := by decide +kernel
theorem dX7_claim_22 : decode cX7_claim 22 = .ok (.getfield 116, 3) := by decide +kernel
theorem dX7_claim_25 : decode cX7_claim 25 = .ok (.iload_n 1, 1) := by decide +kernel
theorem dX7_claim_26 : decode cX7_claim 26 = .ok (.iload_n 2, 1) := by decide +kernel
theorem dX7_claim_27 : decode cX7_claim 27 = .ok (.iload_n 3, 1) := by decide +kernel
theorem dX7_claim_28 : decode cX7_claim 28 = .ok (.invokevirtual 120, 3) := by decide +kernel
theorem dX7_claim_31 : decode cX7_claim 31 = .ok (.ireturn, 1) := by decide +kernel
theorem dX7_award_0 : decode cX7_award 0 = .ok (.aload_n 0, 1) := by decide +kernel
theorem dX7_award_1 : decode cX7_award 1 = .ok (.aload_n 0, 1) := by decide +kernel
theorem dX7_award_2 : decode cX7_award 2 = .ok (.getfield 10, 3) := by decide +kernel
theorem dX7_award_5 : decode cX7_award 5 = .ok (.iload_n 1, 1) := by decide +kernel
theorem dX7_award_6 : decode cX7_award 6 = .ok (.iload_n 2, 1) := by decide +kernel
theorem dX7_award_7 : decode cX7_award 7 = .ok (.invokevirtual 124, 3) := by decide +kernel
theorem dX7_award_10 : decode cX7_award 10 = .ok (.invokevirtual 91, 3) := by decide +kernel
theorem dX7_award_13 : decode cX7_award 13 = .ok (.aload_n 0, 1) := by decide +kernel
theorem dX7_award_14 : decode cX7_award 14 = .ok (.invokevirtual 80, 3) := by decide +kernel
theorem dX7_award_17 : decode cX7_award 17 = .ok (.aload_n 0, 1) := by decide +kernel
theorem dX7_award_18 : decode cX7_award 18 = .ok (.getfield 10, 3) := by decide +kernel
theorem dX7_award_21 : decode cX7_award 21 = .ok (.iload_n 1, 1) := by decide +kernel
theorem dX7_award_22 : decode cX7_award 22 = .ok (.iload_n 2, 1) := by decide +kernel
theorem dX7_award_23 : decode cX7_award 23 = .ok (.invokevirtual 127, 3) := by decide +kernel
theorem dX7_award_26 : decode cX7_award 26 = .ok (.aload_n 0, 1) := by decide +kernel
theorem dX7_award_27 : decode cX7_award 27 = .ok (.getfield 10, 3) := by decide +kernel
theorem dX7_award_30 : decode cX7_award 30 = .ok (.getfield 116, 3) := by decide +kernel
theorem dX7_award_33 : decode cX7_award 33 = .ok (.iload_n 1, 1) := by decide +kernel
theorem dX7_award_34 : decode cX7_award 34 = .ok (.invokevirtual 131, 3) := by decide +kernel
theorem dX7_award_37 : decode cX7_award 37 = .ok (.ireturn, 1) := by decide +kernel
theorem dX7_dismiss_0 : decode cX7_dismiss 0 = .ok (.aload_n 0, 1) := by decide +kernel
theorem dX7_dismiss_1 : decode cX7_dismiss 1 = .ok (.aload_n 0, 1) := by decide +kernel
theorem dX7_dismiss_2 : decode cX7_dismiss 2 = .ok (.getfield 10, 3) := by decide +kernel
theorem dX7_dismiss_5 : decode cX7_dismiss 5 = .ok (.iload_n 1, 1) := by decide +kernel
theorem dX7_dismiss_6 : decode cX7_dismiss 6 = .ok (.iload_n 2, 1) := by decide +kernel
theorem dX7_dismiss_7 : decode cX7_dismiss 7 = .ok (.invokevirtual 124, 3) := by decide +kernel
theorem dX7_dismiss_10 : decode cX7_dismiss 10 = .ok (.invokevirtual 91, 3) := by decide +kernel
theorem dX7_dismiss_13 : decode cX7_dismiss 13 = .ok (.aload_n 0, 1) := by decide +kernel
theorem dX7_dismiss_14 : decode cX7_dismiss 14 = .ok (.invokevirtual 80, 3) := by decide +kernel
theorem dX7_dismiss_17 : decode cX7_dismiss 17 = .ok (.aload_n 0, 1) := by decide +kernel
theorem dX7_dismiss_18 : decode cX7_dismiss 18 = .ok (.getfield 10, 3) := by decide +kernel
theorem dX7_dismiss_21 : decode cX7_dismiss 21 = .ok (.iload_n 1, 1) := by decide +kernel
theorem dX7_dismiss_22 : decode cX7_dismiss 22 = .ok (.iload_n 2, 1) := by decide +kernel
theorem dX7_dismiss_23 : decode cX7_dismiss 23 = .ok (.invokevirtual 135, 3) := by decide +kernel
theorem dX7_dismiss_26 : decode cX7_dismiss 26 = .ok (.aload_n 0, 1) := by decide +kernel
theorem dX7_dismiss_27 : decode cX7_dismiss 27 = .ok (.getfield 10, 3) := by decide +kernel
theorem dX7_dismiss_30 : decode cX7_dismiss 30 = .ok (.getfield 116, 3) := by decide +kernel
theorem dX7_dismiss_33 : decode cX7_dismiss 33 = .ok (.iload_n 1, 1) := by decide +kernel
theorem dX7_dismiss_34 : decode cX7_dismiss 34 = .ok (.invokevirtual 131, 3) := by decide +kernel
theorem dX7_dismiss_37 : decode cX7_dismiss 37 = .ok (.ireturn, 1) := by decide +kernel
theorem dX7_withdraw_0 : decode cX7_withdraw 0 = .ok (.aload_n 0, 1) := by decide +kernel
theorem dX7_withdraw_1 : decode cX7_withdraw 1 = .ok (.aload_n 0, 1) := by decide +kernel
theorem dX7_withdraw_2 : decode cX7_withdraw 2 = .ok (.getfield 10, 3) := by decide +kernel
theorem dX7_withdraw_5 : decode cX7_withdraw 5 = .ok (.iload_n 1, 1) := by decide +kernel
theorem dX7_withdraw_6 : decode cX7_withdraw 6 = .ok (.iload_n 2, 1) := by decide +kernel
theorem dX7_withdraw_7 : decode cX7_withdraw 7 = .ok (.invokevirtual 138, 3) := by decide +kernel
theorem dX7_withdraw_10 : decode cX7_withdraw 10 = .ok (.invokevirtual 91, 3) := by decide +kernel
theorem dX7_withdraw_13 : decode cX7_withdraw 13 = .ok (.aload_n 0, 1) := by decide +kernel
theorem dX7_withdraw_14 : decode cX7_withdraw 14 = .ok (.invokevirtual 80, 3) := by decide +kernel
theorem dX7_withdraw_17 : decode cX7_withdraw 17 = .ok (.aload_n 0, 1) := by decide +kernel
theorem dX7_withdraw_18 : decode cX7_withdraw 18 = .ok (.getfield 10, 3) := by decide +kernel
theorem dX7_withdraw_21 : decode cX7_withdraw 21 = .ok (.iload_n 1, 1) := by decide +kernel
theorem dX7_withdraw_22 : decode cX7_withdraw 22 = .ok (.iload_n 2, 1) := by decide +kernel
theorem dX7_withdraw_23 : decode cX7_withdraw 23 = .ok (.invokevirtual 141, 3) := by decide +kernel
theorem dX7_withdraw_26 : decode cX7_withdraw 26 = .ok (.aload_n 0, 1) := by decide +kernel
theorem dX7_withdraw_27 : decode cX7_withdraw 27 = .ok (.getfield 10, 3) := by decide +kernel
theorem dX7_withdraw_30 : decode cX7_withdraw 30 = .ok (.getfield 116, 3) := by decide +kernel
theorem dX7_withdraw_33 : decode cX7_withdraw 33 = .ok (.iload_n 1, 1) := by decide +kernel
theorem dX7_withdraw_34 : decode cX7_withdraw 34 = .ok (.invokevirtual 131, 3) := by decide +kernel
theorem dX7_withdraw_37 : decode cX7_withdraw 37 = .ok (.ireturn, 1) := by decide +kernel
theorem dX7_claimed_0 : decode cX7_claimed 0 = .ok (.aload_n 0, 1) := by decide +kernel
theorem dX7_claimed_1 : decode cX7_claimed 1 = .ok (.aload_n 0, 1) := by decide +kernel
theorem dX7_claimed_2 : decode cX7_claimed 2 = .ok (.getfield 10, 3) := by decide +kernel
theorem dX7_claimed_5 : decode cX7_claimed 5 = .ok (.getfield 116, 3) := by decide +kernel
theorem dX7_claimed_8 : decode cX7_claimed 8 = .ok (.iload_n 1, 1) := by decide +kernel
theorem dX7_claimed_9 : decode cX7_claimed 9 = .ok (.invokevirtual 144, 3) := by decide +kernel
theorem dX7_claimed_12 : decode cX7_claimed 12 = .ok (.iload_n 2, 1) := by decide +kernel
theorem dX7_claimed_13 : decode cX7_claimed 13 = .ok (.bipush 6, 2) := by decide +kernel
theorem dX7_claimed_15 : decode cX7_claimed 15 = .ok (.invokestatic 105, 3) := by decide +kernel
theorem dX7_claimed_18 : decode cX7_claimed 18 = .ok (.invokevirtual 91, 3) := by decide +kernel
theorem dX7_claimed_21 : decode cX7_claimed 21 = .ok (.aload_n 0, 1) := by decide +kernel
theorem dX7_claimed_22 : decode cX7_claimed 22 = .ok (.getfield 10, 3) := by decide +kernel
theorem dX7_claimed_25 : decode cX7_claimed 25 = .ok (.getfield 116, 3) := by decide +kernel
theorem dX7_claimed_28 : decode cX7_claimed 28 = .ok (.iload_n 1, 1) := by decide +kernel
theorem dX7_claimed_29 : decode cX7_claimed 29 = .ok (.iload_n 2, 1) := by decide +kernel
theorem dX7_claimed_30 : decode cX7_claimed 30 = .ok (.invokevirtual 145, 3) := by decide +kernel
theorem dX7_claimed_33 : decode cX7_claimed 33 = .ok (.ireturn, 1) := by decide +kernel
theorem dX7_reason_0 : decode cX7_reason 0 = .ok (.aload_n 0, 1) := by decide +kernel
theorem dX7_reason_1 : decode cX7_reason 1 = .ok (.getfield 48, 3) := by decide +kernel
theorem dX7_reason_4 : decode cX7_reason 4 = .ok (.iconst (-1), 1) := by decide +kernel
theorem dX7_reason_5 : decode cX7_reason 5 = .ok (.if_icmp .ne 11, 3) := by decide +kernel
theorem dX7_reason_8 : decode cX7_reason 8 = .ok (.new 148, 3) := by decide +kernel
theorem dX7_reason_11 : decode cX7_reason 11 = .ok (.dup, 1) := by decide +kernel
theorem dX7_reason_12 : decode cX7_reason 12 = .ok (.invokespecial 150, 3) := by decide +kernel
theorem dX7_reason_15 : decode cX7_reason 15 = .ok (.athrow, 1) := by decide +kernel
theorem dX7_reason_16 : decode cX7_reason 16 = .ok (.aload_n 0, 1) := by decide +kernel
theorem dX7_reason_17 : decode cX7_reason 17 = .ok (.getfield 48, 3) := by decide +kernel
theorem dX7_reason_20 : decode cX7_reason 20 = .ok (.ireturn, 1) := by decide +kernel
theorem dX7_inDispute_0 : decode cX7_inDispute 0 = .ok (.aload_n 0, 1) := by decide +kernel
theorem dX7_inDispute_1 : decode cX7_inDispute 1 = .ok (.getfield 10, 3) := by decide +kernel
theorem dX7_inDispute_4 : decode cX7_inDispute 4 = .ok (.getfield 116, 3) := by decide +kernel
theorem dX7_inDispute_7 : decode cX7_inDispute 7 = .ok (.invokevirtual 151, 3) := by decide +kernel
theorem dX7_inDispute_10 : decode cX7_inDispute 10 = .ok (.lreturn, 1) := by decide +kernel
theorem dX7_fees_0 : decode cX7_fees 0 = .ok (.iload_n 1, 1) := by decide +kernel
theorem dX7_fees_1 : decode cX7_fees 1 = .ok (.iconst (-1), 1) := by decide +kernel
theorem dX7_fees_2 : decode cX7_fees 2 = .ok (.if_icmp .ne 11, 3) := by decide +kernel
theorem dX7_fees_5 : decode cX7_fees 5 = .ok (.aload_n 0, 1) := by decide +kernel
theorem dX7_fees_6 : decode cX7_fees 6 = .ok (.getfield 10, 3) := by decide +kernel
theorem dX7_fees_9 : decode cX7_fees 9 = .ok (.invokevirtual 155, 3) := by decide +kernel
theorem dX7_fees_12 : decode cX7_fees 12 = .ok (.lreturn, 1) := by decide +kernel
theorem dX7_fees_13 : decode cX7_fees 13 = .ok (.iload_n 1, 1) := by decide +kernel
theorem dX7_fees_14 : decode cX7_fees 14 = .ok (.iconst 0, 1) := by decide +kernel
theorem dX7_fees_15 : decode cX7_fees 15 = .ok (.iconst 3, 1) := by decide +kernel
theorem dX7_fees_16 : decode cX7_fees 16 = .ok (.invokestatic 70, 3) := by decide +kernel
theorem dX7_fees_19 : decode cX7_fees 19 = .ok (.ifCond .ne 11, 3) := by decide +kernel
theorem dX7_fees_22 : decode cX7_fees 22 = .ok (.new 158, 3) := by decide +kernel
theorem dX7_fees_25 : decode cX7_fees 25 = .ok (.dup, 1) := by decide +kernel
theorem dX7_fees_26 : decode cX7_fees 26 = .ok (.invokespecial 160, 3) := by decide +kernel
theorem dX7_fees_29 : decode cX7_fees 29 = .ok (.athrow, 1) := by decide +kernel
theorem dX7_fees_30 : decode cX7_fees 30 = .ok (.aload_n 0, 1) := by decide +kernel
theorem dX7_fees_31 : decode cX7_fees 31 = .ok (.getfield 10, 3) := by decide +kernel
theorem dX7_fees_34 : decode cX7_fees 34 = .ok (.aload_n 0, 1) := by decide +kernel
theorem dX7_fees_35 : decode cX7_fees 35 = .ok (.getfield 10, 3) := by decide +kernel
theorem dX7_fees_38 : decode cX7_fees 38 = .ok (.getfield 116, 3) := by decide +kernel
theorem dX7_fees_41 : decode cX7_fees 41 = .ok (.invokevirtual 151, 3) := by decide +kernel
theorem dX7_fees_44 : decode cX7_fees 44 = .ok (.iload_n 1, 1) := by decide +kernel
theorem dX7_fees_45 : decode cX7_fees 45 = .ok (.invokevirtual 161, 3) := by decide +kernel
theorem dX7_fees_48 : decode cX7_fees 48 = .ok (.lreturn, 1) := by decide +kernel
theorem dX7_wouldBe_0 : decode cX7_wouldBe 0 = .ok (.iload_n 1, 1) := by decide +kernel
theorem dX7_wouldBe_1 : decode cX7_wouldBe 1 = .ok (.iconst 1, 1) := by decide +kernel
theorem dX7_wouldBe_2 : decode cX7_wouldBe 2 = .ok (.ldc 165, 2) := by decide +kernel
theorem dX7_wouldBe_4 : decode cX7_wouldBe 4 = .ok (.invokestatic 70, 3) := by decide +kernel
theorem dX7_wouldBe_7 : decode cX7_wouldBe 7 = .ok (.ifCond .ne 11, 3) := by decide +kernel
theorem dX7_wouldBe_10 : decode cX7_wouldBe 10 = .ok (.new 74, 3) := by decide +kernel
theorem dX7_wouldBe_13 : decode cX7_wouldBe 13 = .ok (.dup, 1) := by decide +kernel
theorem dX7_wouldBe_14 : decode cX7_wouldBe 14 = .ok (.invokespecial 76, 3) := by decide +kernel
theorem dX7_wouldBe_17 : decode cX7_wouldBe 17 = .ok (.athrow, 1) := by decide +kernel
theorem dX7_wouldBe_18 : decode cX7_wouldBe 18 = .ok (.aload_n 0, 1) := by decide +kernel
theorem dX7_wouldBe_19 : decode cX7_wouldBe 19 = .ok (.getfield 10, 3) := by decide +kernel
theorem dX7_wouldBe_22 : decode cX7_wouldBe 22 = .ok (.iload_n 1, 1) := by decide +kernel
theorem dX7_wouldBe_23 : decode cX7_wouldBe 23 = .ok (.i2l, 1) := by decide +kernel
theorem dX7_wouldBe_24 : decode cX7_wouldBe 24 = .ok (.invokevirtual 166, 3) := by decide +kernel
theorem dX7_wouldBe_27 : decode cX7_wouldBe 27 = .ok (.lreturn, 1) := by decide +kernel
theorem dX7_side_0 : decode cX7_side 0 = .ok (.aload_n 0, 1) := by decide +kernel
theorem dX7_side_1 : decode cX7_side 1 = .ok (.iload_n 1, 1) := by decide +kernel
theorem dX7_side_2 : decode cX7_side 2 = .ok (.invokestatic 66, 3) := by decide +kernel
theorem dX7_side_5 : decode cX7_side 5 = .ok (.iload_n 2, 1) := by decide +kernel
theorem dX7_side_6 : decode cX7_side 6 = .ok (.iconst 3, 1) := by decide +kernel
theorem dX7_side_7 : decode cX7_side 7 = .ok (.invokestatic 105, 3) := by decide +kernel
theorem dX7_side_10 : decode cX7_side 10 = .ok (.invokevirtual 91, 3) := by decide +kernel
theorem dX7_side_13 : decode cX7_side 13 = .ok (.aload_n 0, 1) := by decide +kernel
theorem dX7_side_14 : decode cX7_side 14 = .ok (.getfield 10, 3) := by decide +kernel
theorem dX7_side_17 : decode cX7_side 17 = .ok (.iload_n 1, 1) := by decide +kernel
theorem dX7_side_18 : decode cX7_side 18 = .ok (.iload_n 2, 1) := by decide +kernel
theorem dX7_side_19 : decode cX7_side 19 = .ok (.invokevirtual 170, 3) := by decide +kernel
theorem dX7_side_22 : decode cX7_side 22 = .ok (.lreturn, 1) := by decide +kernel
theorem dX7_call_0 : decode cX7_call 0 = .ok (.iload_n 1, 1) := by decide +kernel
theorem dX7_call_1 : decode cX7_call 1 = .ok (.invokestatic 173, 3) := by decide +kernel
theorem dX7_call_4 : decode cX7_call 4 = .ok (.ifCond .ne 11, 3) := by decide +kernel
theorem dX7_call_7 : decode cX7_call 7 = .ok (.new 74, 3) := by decide +kernel
theorem dX7_call_10 : decode cX7_call 10 = .ok (.dup, 1) := by decide +kernel
theorem dX7_call_11 : decode cX7_call 11 = .ok (.invokespecial 76, 3) := by decide +kernel
theorem dX7_call_14 : decode cX7_call 14 = .ok (.athrow, 1) := by decide +kernel
theorem dX7_call_15 : decode cX7_call 15 = .ok (.aload_n 0, 1) := by decide +kernel
theorem dX7_call_16 : decode cX7_call 16 = .ok (.invokevirtual 80, 3) := by decide +kernel
theorem dX7_call_19 : decode cX7_call 19 = .ok (.aload_n 0, 1) := by decide +kernel
theorem dX7_call_20 : decode cX7_call 20 = .ok (.getfield 10, 3) := by decide +kernel
theorem dX7_call_23 : decode cX7_call 23 = .ok (.iload_n 1, 1) := by decide +kernel
theorem dX7_call_24 : decode cX7_call 24 = .ok (.invokevirtual 176, 3) := by decide +kernel
theorem dX7_call_27 : decode cX7_call 27 = .ok (.lreturn, 1) := by decide +kernel
theorem dX7_pay_0 : decode cX7_pay 0 = .ok (.aload_n 0, 1) := by decide +kernel
theorem dX7_pay_1 : decode cX7_pay 1 = .ok (.aload_n 0, 1) := by decide +kernel
theorem dX7_pay_2 : decode cX7_pay 2 = .ok (.getfield 10, 3) := by decide +kernel
theorem dX7_pay_5 : decode cX7_pay 5 = .ok (.iload_n 1, 1) := by decide +kernel
theorem dX7_pay_6 : decode cX7_pay 6 = .ok (.iload_n 2, 1) := by decide +kernel
theorem dX7_pay_7 : decode cX7_pay 7 = .ok (.invokevirtual 180, 3) := by decide +kernel
theorem dX7_pay_10 : decode cX7_pay 10 = .ok (.invokevirtual 91, 3) := by decide +kernel
theorem dX7_pay_13 : decode cX7_pay 13 = .ok (.aload_n 0, 1) := by decide +kernel
theorem dX7_pay_14 : decode cX7_pay 14 = .ok (.invokevirtual 80, 3) := by decide +kernel
theorem dX7_pay_17 : decode cX7_pay 17 = .ok (.aload_n 0, 1) := by decide +kernel
theorem dX7_pay_18 : decode cX7_pay 18 = .ok (.getfield 10, 3) := by decide +kernel
theorem dX7_pay_21 : decode cX7_pay 21 = .ok (.iload_n 1, 1) := by decide +kernel
theorem dX7_pay_22 : decode cX7_pay 22 = .ok (.iload_n 2, 1) := by decide +kernel
theorem dX7_pay_23 : decode cX7_pay 23 = .ok (.i2l, 1) := by decide +kernel
theorem dX7_pay_24 : decode cX7_pay 24 = .ok (.invokevirtual 183, 3) := by decide +kernel
theorem dX7_pay_27 : decode cX7_pay 27 = .ok (.aload_n 0, 1) := by decide +kernel
theorem dX7_pay_28 : decode cX7_pay 28 = .ok (.getfield 10, 3) := by decide +kernel
theorem dX7_pay_31 : decode cX7_pay 31 = .ok (.getfield 54, 3) := by decide +kernel
theorem dX7_pay_34 : decode cX7_pay 34 = .ok (.iload_n 1, 1) := by decide +kernel
theorem dX7_pay_35 : decode cX7_pay 35 = .ok (.invokevirtual 187, 3) := by decide +kernel
theorem dX7_pay_38 : decode cX7_pay 38 = .ok (.lreturn, 1) := by decide +kernel
theorem dX7_payFor_0 : decode cX7_payFor 0 = .ok (.aload_n 0, 1) := by decide +kernel
theorem dX7_payFor_1 : decode cX7_payFor 1 = .ok (.aload_n 0, 1) := by decide +kernel
theorem dX7_payFor_2 : decode cX7_payFor 2 = .ok (.getfield 10, 3) := by decide +kernel
theorem dX7_payFor_5 : decode cX7_payFor 5 = .ok (.iload_n 1, 1) := by decide +kernel
theorem dX7_payFor_6 : decode cX7_payFor 6 = .ok (.iload_n 2, 1) := by decide +kernel
theorem dX7_payFor_7 : decode cX7_payFor 7 = .ok (.invokevirtual 190, 3) := by decide +kernel
theorem dX7_payFor_10 : decode cX7_payFor 10 = .ok (.invokevirtual 91, 3) := by decide +kernel
theorem dX7_payFor_13 : decode cX7_payFor 13 = .ok (.aload_n 0, 1) := by decide +kernel
theorem dX7_payFor_14 : decode cX7_payFor 14 = .ok (.invokevirtual 80, 3) := by decide +kernel
theorem dX7_payFor_17 : decode cX7_payFor 17 = .ok (.aload_n 0, 1) := by decide +kernel
theorem dX7_payFor_18 : decode cX7_payFor 18 = .ok (.getfield 10, 3) := by decide +kernel
theorem dX7_payFor_21 : decode cX7_payFor 21 = .ok (.iload_n 1, 1) := by decide +kernel
theorem dX7_payFor_22 : decode cX7_payFor 22 = .ok (.iload_n 2, 1) := by decide +kernel
theorem dX7_payFor_23 : decode cX7_payFor 23 = .ok (.invokevirtual 193, 3) := by decide +kernel
theorem dX7_payFor_26 : decode cX7_payFor 26 = .ok (.lreturn, 1) := by decide +kernel
theorem dX7_takeFees_0 : decode cX7_takeFees 0 = .ok (.aload_n 0, 1) := by decide +kernel
theorem dX7_takeFees_1 : decode cX7_takeFees 1 = .ok (.invokevirtual 80, 3) := by decide +kernel
theorem dX7_takeFees_4 : decode cX7_takeFees 4 = .ok (.aload_n 0, 1) := by decide +kernel
theorem dX7_takeFees_5 : decode cX7_takeFees 5 = .ok (.getfield 10, 3) := by decide +kernel
theorem dX7_takeFees_8 : decode cX7_takeFees 8 = .ok (.invokevirtual 196, 3) := by decide +kernel
theorem dX7_takeFees_11 : decode cX7_takeFees 11 = .ok (.lreturn, 1) := by decide +kernel
theorem dX7_giveBack_0 : decode cX7_giveBack 0 = .ok (.aload_n 0, 1) := by decide +kernel
theorem dX7_giveBack_1 : decode cX7_giveBack 1 = .ok (.aload_n 0, 1) := by decide +kernel
theorem dX7_giveBack_2 : decode cX7_giveBack 2 = .ok (.getfield 10, 3) := by decide +kernel
theorem dX7_giveBack_5 : decode cX7_giveBack 5 = .ok (.getfield 199, 3) := by decide +kernel
theorem dX7_giveBack_8 : decode cX7_giveBack 8 = .ok (.iconst 3, 1) := by decide +kernel
theorem dX7_giveBack_9 : decode cX7_giveBack 9 = .ok (.if_icmp .ge 8, 3) := by decide +kernel
theorem dX7_giveBack_12 : decode cX7_giveBack 12 = .ok (.bipush 6, 2) := by decide +kernel
theorem dX7_giveBack_14 : decode cX7_giveBack 14 = .ok (.goto 4, 3) := by decide +kernel
theorem dX7_giveBack_17 : decode cX7_giveBack 17 = .ok (.iconst 0, 1) := by decide +kernel
theorem dX7_giveBack_18 : decode cX7_giveBack 18 = .ok (.invokevirtual 91, 3) := by decide +kernel
theorem dX7_giveBack_21 : decode cX7_giveBack 21 = .ok (.aload_n 0, 1) := by decide +kernel
theorem dX7_giveBack_22 : decode cX7_giveBack 22 = .ok (.invokevirtual 80, 3) := by decide +kernel
theorem dX7_giveBack_25 : decode cX7_giveBack 25 = .ok (.aload_n 0, 1) := by decide +kernel
theorem dX7_giveBack_26 : decode cX7_giveBack 26 = .ok (.getfield 10, 3) := by decide +kernel
theorem dX7_giveBack_29 : decode cX7_giveBack 29 = .ok (.invokevirtual 202, 3) := by decide +kernel
theorem dX7_giveBack_32 : decode cX7_giveBack 32 = .ok (.lreturn, 1) := by decide +kernel
theorem dX7_owed_0 : decode cX7_owed 0 = .ok (.aload_n 0, 1) := by decide +kernel
theorem dX7_owed_1 : decode cX7_owed 1 = .ok (.getfield 10, 3) := by decide +kernel
theorem dX7_owed_4 : decode cX7_owed 4 = .ok (.getfield 54, 3) := by decide +kernel
theorem dX7_owed_7 : decode cX7_owed 7 = .ok (.iload_n 1, 1) := by decide +kernel
theorem dX7_owed_8 : decode cX7_owed 8 = .ok (.iload_n 2, 1) := by decide +kernel
theorem dX7_owed_9 : decode cX7_owed 9 = .ok (.invokevirtual 205, 3) := by decide +kernel
theorem dX7_owed_12 : decode cX7_owed 12 = .ok (.ifCond .ne 11, 3) := by decide +kernel
theorem dX7_owed_15 : decode cX7_owed 15 = .ok (.new 158, 3) := by decide +kernel
theorem dX7_owed_18 : decode cX7_owed 18 = .ok (.dup, 1) := by decide +kernel
theorem dX7_owed_19 : decode cX7_owed 19 = .ok (.invokespecial 160, 3) := by decide +kernel
theorem dX7_owed_22 : decode cX7_owed 22 = .ok (.athrow, 1) := by decide +kernel
theorem dX7_owed_23 : decode cX7_owed 23 = .ok (.aload_n 0, 1) := by decide +kernel
theorem dX7_owed_24 : decode cX7_owed 24 = .ok (.getfield 10, 3) := by decide +kernel
theorem dX7_owed_27 : decode cX7_owed 27 = .ok (.getfield 209, 3) := by decide +kernel
theorem dX7_owed_30 : decode cX7_owed 30 = .ok (.iload_n 1, 1) := by decide +kernel
theorem dX7_owed_31 : decode cX7_owed 31 = .ok (.iload_n 2, 1) := by decide +kernel
theorem dX7_owed_32 : decode cX7_owed 32 = .ok (.invokevirtual 213, 3) := by decide +kernel
theorem dX7_owed_35 : decode cX7_owed 35 = .ok (.lreturn, 1) := by decide +kernel
theorem dX7_debt_0 : decode cX7_debt 0 = .ok (.aload_n 0, 1) := by decide +kernel
theorem dX7_debt_1 : decode cX7_debt 1 = .ok (.aload_n 0, 1) := by decide +kernel
theorem dX7_debt_2 : decode cX7_debt 2 = .ok (.getfield 10, 3) := by decide +kernel
theorem dX7_debt_5 : decode cX7_debt 5 = .ok (.getfield 209, 3) := by decide +kernel
theorem dX7_debt_8 : decode cX7_debt 8 = .ok (.iload_n 1, 1) := by decide +kernel
theorem dX7_debt_9 : decode cX7_debt 9 = .ok (.invokevirtual 218, 3) := by decide +kernel
theorem dX7_debt_12 : decode cX7_debt 12 = .ok (.iload_n 2, 1) := by decide +kernel
theorem dX7_debt_13 : decode cX7_debt 13 = .ok (.iconst 4, 1) := by decide +kernel
theorem dX7_debt_14 : decode cX7_debt 14 = .ok (.invokestatic 105, 3) := by decide +kernel
theorem dX7_debt_17 : decode cX7_debt 17 = .ok (.invokevirtual 91, 3) := by decide +kernel
theorem dX7_debt_20 : decode cX7_debt 20 = .ok (.aload_n 0, 1) := by decide +kernel
theorem dX7_debt_21 : decode cX7_debt 21 = .ok (.getfield 10, 3) := by decide +kernel
theorem dX7_debt_24 : decode cX7_debt 24 = .ok (.getfield 209, 3) := by decide +kernel
theorem dX7_debt_27 : decode cX7_debt 27 = .ok (.iload_n 1, 1) := by decide +kernel
theorem dX7_debt_28 : decode cX7_debt 28 = .ok (.iload_n 2, 1) := by decide +kernel
theorem dX7_debt_29 : decode cX7_debt 29 = .ok (.invokevirtual 219, 3) := by decide +kernel
theorem dX7_debt_32 : decode cX7_debt 32 = .ok (.lreturn, 1) := by decide +kernel
theorem dX7_settle_0 : decode cX7_settle 0 = .ok (.aload_n 0, 1) := by decide +kernel
theorem dX7_settle_1 : decode cX7_settle 1 = .ok (.aload_n 0, 1) := by decide +kernel
theorem dX7_settle_2 : decode cX7_settle 2 = .ok (.getfield 10, 3) := by decide +kernel
theorem dX7_settle_5 : decode cX7_settle 5 = .ok (.iload_n 1, 1) := by decide +kernel
theorem dX7_settle_6 : decode cX7_settle 6 = .ok (.iload_n 2, 1) := by decide +kernel
theorem dX7_settle_7 : decode cX7_settle 7 = .ok (.iload_n 3, 1) := by decide +kernel
theorem dX7_settle_8 : decode cX7_settle 8 = .ok (.invokevirtual 221, 3) := by decide +kernel
theorem dX7_settle_11 : decode cX7_settle 11 = .ok (.invokevirtual 91, 3) := by decide +kernel
theorem dX7_settle_14 : decode cX7_settle 14 = .ok (.aload_n 0, 1) := by decide +kernel
theorem dX7_settle_15 : decode cX7_settle 15 = .ok (.invokevirtual 80, 3) := by decide +kernel
theorem dX7_settle_18 : decode cX7_settle 18 = .ok (.aload_n 0, 1) := by decide +kernel
theorem dX7_settle_19 : decode cX7_settle 19 = .ok (.getfield 10, 3) := by decide +kernel
theorem dX7_settle_22 : decode cX7_settle 22 = .ok (.iload_n 1, 1) := by decide +kernel
theorem dX7_settle_23 : decode cX7_settle 23 = .ok (.iload_n 2, 1) := by decide +kernel
theorem dX7_settle_24 : decode cX7_settle 24 = .ok (.iload_n 3, 1) := by decide +kernel
theorem dX7_settle_25 : decode cX7_settle 25 = .ok (.invokevirtual 224, 3) := by decide +kernel
theorem dX7_settle_28 : decode cX7_settle 28 = .ok (.aload_n 0, 1) := by decide +kernel
theorem dX7_settle_29 : decode cX7_settle 29 = .ok (.getfield 10, 3) := by decide +kernel
theorem dX7_settle_32 : decode cX7_settle 32 = .ok (.getfield 209, 3) := by decide +kernel
theorem dX7_settle_35 : decode cX7_settle 35 = .ok (.iload_n 1, 1) := by decide +kernel
theorem dX7_settle_36 : decode cX7_settle 36 = .ok (.iload_n 2, 1) := by decide +kernel
theorem dX7_settle_37 : decode cX7_settle 37 = .ok (.invokevirtual 213, 3) := by decide +kernel
theorem dX7_settle_40 : decode cX7_settle 40 = .ok (.lreturn, 1) := by decide +kernel
theorem dX7_offset_0 : decode cX7_offset 0 = .ok (.aload_n 0, 1) := by decide +kernel
theorem dX7_offset_1 : decode cX7_offset 1 = .ok (.aload_n 0, 1) := by decide +kernel
theorem dX7_offset_2 : decode cX7_offset 2 = .ok (.getfield 10, 3) := by decide +kernel
theorem dX7_offset_5 : decode cX7_offset 5 = .ok (.iload_n 1, 1) := by decide +kernel
theorem dX7_offset_6 : decode cX7_offset 6 = .ok (.iload_n 2, 1) := by decide +kernel
theorem dX7_offset_7 : decode cX7_offset 7 = .ok (.invokevirtual 228, 3) := by decide +kernel
theorem dX7_offset_10 : decode cX7_offset 10 = .ok (.invokevirtual 91, 3) := by decide +kernel
theorem dX7_offset_13 : decode cX7_offset 13 = .ok (.aload_n 0, 1) := by decide +kernel
theorem dX7_offset_14 : decode cX7_offset 14 = .ok (.invokevirtual 80, 3) := by decide +kernel
theorem dX7_offset_17 : decode cX7_offset 17 = .ok (.aload_n 0, 1) := by decide +kernel
theorem dX7_offset_18 : decode cX7_offset 18 = .ok (.getfield 10, 3) := by decide +kernel
theorem dX7_offset_21 : decode cX7_offset 21 = .ok (.iload_n 1, 1) := by decide +kernel
theorem dX7_offset_22 : decode cX7_offset 22 = .ok (.iload_n 2, 1) := by decide +kernel
theorem dX7_offset_23 : decode cX7_offset 23 = .ok (.invokevirtual 231, 3) := by decide +kernel
theorem dX7_offset_26 : decode cX7_offset 26 = .ok (.lreturn, 1) := by decide +kernel
theorem dX7_ring_0 : decode cX7_ring 0 = .ok (.aload_n 0, 1) := by decide +kernel
theorem dX7_ring_1 : decode cX7_ring 1 = .ok (.getfield 33, 3) := by decide +kernel
theorem dX7_ring_4 : decode cX7_ring 4 = .ok (.aload_n 0, 1) := by decide +kernel
theorem dX7_ring_5 : decode cX7_ring 5 = .ok (.getfield 10, 3) := by decide +kernel
theorem dX7_ring_8 : decode cX7_ring 8 = .ok (.getfield 209, 3) := by decide +kernel
theorem dX7_ring_11 : decode cX7_ring 11 = .ok (.invokevirtual 234, 3) := by decide +kernel
theorem dX7_ring_14 : decode cX7_ring 14 = .ok (.iload_n 1, 1) := by decide +kernel
theorem dX7_ring_15 : decode cX7_ring 15 = .ok (.ifCond .lt 14, 3) := by decide +kernel
theorem dX7_ring_18 : decode cX7_ring 18 = .ok (.iload_n 1, 1) := by decide +kernel
theorem dX7_ring_19 : decode cX7_ring 19 = .ok (.aload_n 0, 1) := by decide +kernel
theorem dX7_ring_20 : decode cX7_ring 20 = .ok (.getfield 33, 3) := by decide +kernel
theorem dX7_ring_23 : decode cX7_ring 23 = .ok (.getfield 238, 3) := by decide +kernel
theorem dX7_ring_26 : decode cX7_ring 26 = .ok (.if_icmp .lt 11, 3) := by decide +kernel
theorem dX7_ring_29 : decode cX7_ring 29 = .ok (.new 148, 3) := by decide +kernel
theorem dX7_ring_32 : decode cX7_ring 32 = .ok (.dup, 1) := by decide +kernel
theorem dX7_ring_33 : decode cX7_ring 33 = .ok (.invokespecial 150, 3) := by decide +kernel
theorem dX7_ring_36 : decode cX7_ring 36 = .ok (.athrow, 1) := by decide +kernel
theorem dX7_ring_37 : decode cX7_ring 37 = .ok (.aload_n 0, 1) := by decide +kernel
theorem dX7_ring_38 : decode cX7_ring 38 = .ok (.getfield 33, 3) := by decide +kernel
theorem dX7_ring_41 : decode cX7_ring 41 = .ok (.getfield 241, 3) := by decide +kernel
theorem dX7_ring_44 : decode cX7_ring 44 = .ok (.iload_n 1, 1) := by decide +kernel
theorem dX7_ring_45 : decode cX7_ring 45 = .ok (.iaload, 1) := by decide +kernel
theorem dX7_ring_46 : decode cX7_ring 46 = .ok (.ireturn, 1) := by decide +kernel
theorem dX7_clearRings_0 : decode cX7_clearRings 0 = .ok (.aload_n 0, 1) := by decide +kernel
theorem dX7_clearRings_1 : decode cX7_clearRings 1 = .ok (.invokevirtual 80, 3) := by decide +kernel
theorem dX7_clearRings_4 : decode cX7_clearRings 4 = .ok (.aload_n 0, 1) := by decide +kernel
theorem dX7_clearRings_5 : decode cX7_clearRings 5 = .ok (.getfield 10, 3) := by decide +kernel
theorem dX7_clearRings_8 : decode cX7_clearRings 8 = .ok (.aload_n 0, 1) := by decide +kernel
theorem dX7_clearRings_9 : decode cX7_clearRings 9 = .ok (.getfield 33, 3) := by decide +kernel
theorem dX7_clearRings_12 : decode cX7_clearRings 12 = .ok (.invokevirtual 244, 3) := by decide +kernel
theorem dX7_clearRings_15 : decode cX7_clearRings 15 = .ok (.lreturn, 1) := by decide +kernel
theorem dX7_net_0 : decode cX7_net 0 = .ok (.aload_n 0, 1) := by decide +kernel
theorem dX7_net_1 : decode cX7_net 1 = .ok (.getfield 10, 3) := by decide +kernel
theorem dX7_net_4 : decode cX7_net 4 = .ok (.getfield 54, 3) := by decide +kernel
theorem dX7_net_7 : decode cX7_net 7 = .ok (.iload_n 1, 1) := by decide +kernel
theorem dX7_net_8 : decode cX7_net 8 = .ok (.invokevirtual 102, 3) := by decide +kernel
theorem dX7_net_11 : decode cX7_net 11 = .ok (.ifCond .ne 11, 3) := by decide +kernel
theorem dX7_net_14 : decode cX7_net 14 = .ok (.new 158, 3) := by decide +kernel
theorem dX7_net_17 : decode cX7_net 17 = .ok (.dup, 1) := by decide +kernel
theorem dX7_net_18 : decode cX7_net 18 = .ok (.invokespecial 160, 3) := by decide +kernel
theorem dX7_net_21 : decode cX7_net 21 = .ok (.athrow, 1) := by decide +kernel
theorem dX7_net_22 : decode cX7_net 22 = .ok (.aload_n 0, 1) := by decide +kernel
theorem dX7_net_23 : decode cX7_net 23 = .ok (.getfield 10, 3) := by decide +kernel
theorem dX7_net_26 : decode cX7_net 26 = .ok (.getfield 209, 3) := by decide +kernel
theorem dX7_net_29 : decode cX7_net 29 = .ok (.iload_n 1, 1) := by decide +kernel
theorem dX7_net_30 : decode cX7_net 30 = .ok (.invokevirtual 248, 3) := by decide +kernel
theorem dX7_net_33 : decode cX7_net 33 = .ok (.aload_n 0, 1) := by decide +kernel
theorem dX7_net_34 : decode cX7_net 34 = .ok (.getfield 10, 3) := by decide +kernel
theorem dX7_net_37 : decode cX7_net 37 = .ok (.getfield 209, 3) := by decide +kernel
theorem dX7_net_40 : decode cX7_net 40 = .ok (.iload_n 1, 1) := by decide +kernel
theorem dX7_net_41 : decode cX7_net 41 = .ok (.invokevirtual 251, 3) := by decide +kernel
theorem dX7_net_44 : decode cX7_net 44 = .ok (.lsub, 1) := by decide +kernel
theorem dX7_net_45 : decode cX7_net 45 = .ok (.lreturn, 1) := by decide +kernel
theorem dX7_growsTo_0 : decode cX7_growsTo 0 = .ok (.aload_n 0, 1) := by decide +kernel
theorem dX7_growsTo_1 : decode cX7_growsTo 1 = .ok (.getfield 10, 3) := by decide +kernel
theorem dX7_growsTo_4 : decode cX7_growsTo 4 = .ok (.getfield 209, 3) := by decide +kernel
theorem dX7_growsTo_7 : decode cX7_growsTo 7 = .ok (.iload_n 1, 1) := by decide +kernel
theorem dX7_growsTo_8 : decode cX7_growsTo 8 = .ok (.invokevirtual 218, 3) := by decide +kernel
theorem dX7_growsTo_11 : decode cX7_growsTo 11 = .ok (.ifCond .ne 11, 3) := by decide +kernel
theorem dX7_growsTo_14 : decode cX7_growsTo 14 = .ok (.new 158, 3) := by decide +kernel
theorem dX7_growsTo_17 : decode cX7_growsTo 17 = .ok (.dup, 1) := by decide +kernel
theorem dX7_growsTo_18 : decode cX7_growsTo 18 = .ok (.invokespecial 160, 3) := by decide +kernel
theorem dX7_growsTo_21 : decode cX7_growsTo 21 = .ok (.athrow, 1) := by decide +kernel
theorem dX7_growsTo_22 : decode cX7_growsTo 22 = .ok (.iload_n 2, 1) := by decide +kernel
theorem dX7_growsTo_23 : decode cX7_growsTo 23 = .ok (.iconst 1, 1) := by decide +kernel
theorem dX7_growsTo_24 : decode cX7_growsTo 24 = .ok (.ldc 254, 2) := by decide +kernel
theorem dX7_growsTo_26 : decode cX7_growsTo 26 = .ok (.invokestatic 70, 3) := by decide +kernel
theorem dX7_growsTo_29 : decode cX7_growsTo 29 = .ok (.ifCond .ne 11, 3) := by decide +kernel
theorem dX7_growsTo_32 : decode cX7_growsTo 32 = .ok (.new 74, 3) := by decide +kernel
theorem dX7_growsTo_35 : decode cX7_growsTo 35 = .ok (.dup, 1) := by decide +kernel
theorem dX7_growsTo_36 : decode cX7_growsTo 36 = .ok (.invokespecial 76, 3) := by decide +kernel
theorem dX7_growsTo_39 : decode cX7_growsTo 39 = .ok (.athrow, 1) := by decide +kernel
theorem dX7_growsTo_40 : decode cX7_growsTo 40 = .ok (.aload_n 0, 1) := by decide +kernel
theorem dX7_growsTo_41 : decode cX7_growsTo 41 = .ok (.getfield 10, 3) := by decide +kernel
theorem dX7_growsTo_44 : decode cX7_growsTo 44 = .ok (.getfield 209, 3) := by decide +kernel
theorem dX7_growsTo_47 : decode cX7_growsTo 47 = .ok (.iload_n 1, 1) := by decide +kernel
theorem dX7_growsTo_48 : decode cX7_growsTo 48 = .ok (.iload_n 2, 1) := by decide +kernel
theorem dX7_growsTo_49 : decode cX7_growsTo 49 = .ok (.i2l, 1) := by decide +kernel
theorem dX7_growsTo_50 : decode cX7_growsTo 50 = .ok (.aload_n 0, 1) := by decide +kernel
theorem dX7_growsTo_51 : decode cX7_growsTo 51 = .ok (.getfield 10, 3) := by decide +kernel
theorem dX7_growsTo_54 : decode cX7_growsTo 54 = .ok (.getfield 95, 3) := by decide +kernel
theorem dX7_growsTo_57 : decode cX7_growsTo 57 = .ok (.aload_n 0, 1) := by decide +kernel
theorem dX7_growsTo_58 : decode cX7_growsTo 58 = .ok (.getfield 10, 3) := by decide +kernel
theorem dX7_growsTo_61 : decode cX7_growsTo 61 = .ok (.getfield 199, 3) := by decide +kernel
theorem dX7_growsTo_64 : decode cX7_growsTo 64 = .ok (.iaload, 1) := by decide +kernel
theorem dX7_growsTo_65 : decode cX7_growsTo 65 = .ok (.invokevirtual 255, 3) := by decide +kernel
theorem dX7_growsTo_68 : decode cX7_growsTo 68 = .ok (.lstore_n 3, 1) := by decide +kernel
theorem dX7_growsTo_69 : decode cX7_growsTo 69 = .ok (.lload_n 3, 1) := by decide +kernel
theorem dX7_growsTo_70 : decode cX7_growsTo 70 = .ok (.ldc2_w 259, 3) := by decide +kernel
theorem dX7_growsTo_73 : decode cX7_growsTo 73 = .ok (.lcmp, 1) := by decide +kernel
theorem dX7_growsTo_74 : decode cX7_growsTo 74 = .ok (.ifCond .le 11, 3) := by decide +kernel
theorem dX7_growsTo_77 : decode cX7_growsTo 77 = .ok (.new 148, 3) := by decide +kernel
theorem dX7_growsTo_80 : decode cX7_growsTo 80 = .ok (.dup, 1) := by decide +kernel
theorem dX7_growsTo_81 : decode cX7_growsTo 81 = .ok (.invokespecial 150, 3) := by decide +kernel
theorem dX7_growsTo_84 : decode cX7_growsTo 84 = .ok (.athrow, 1) := by decide +kernel
theorem dX7_growsTo_85 : decode cX7_growsTo 85 = .ok (.lload_n 3, 1) := by decide +kernel
theorem dX7_growsTo_86 : decode cX7_growsTo 86 = .ok (.l2i, 1) := by decide +kernel
theorem dX7_growsTo_87 : decode cX7_growsTo 87 = .ok (.ireturn, 1) := by decide +kernel
theorem dX7_pass_0 : decode cX7_pass 0 = .ok (.aload_n 0, 1) := by decide +kernel
theorem dX7_pass_1 : decode cX7_pass 1 = .ok (.aload_n 0, 1) := by decide +kernel
theorem dX7_pass_2 : decode cX7_pass 2 = .ok (.getfield 10, 3) := by decide +kernel
theorem dX7_pass_5 : decode cX7_pass 5 = .ok (.iload_n 1, 1) := by decide +kernel
theorem dX7_pass_6 : decode cX7_pass 6 = .ok (.invokevirtual 261, 3) := by decide +kernel
theorem dX7_pass_9 : decode cX7_pass 9 = .ok (.invokevirtual 91, 3) := by decide +kernel
theorem dX7_pass_12 : decode cX7_pass 12 = .ok (.aload_n 0, 1) := by decide +kernel
theorem dX7_pass_13 : decode cX7_pass 13 = .ok (.invokevirtual 80, 3) := by decide +kernel
theorem dX7_pass_16 : decode cX7_pass 16 = .ok (.aload_n 0, 1) := by decide +kernel
theorem dX7_pass_17 : decode cX7_pass 17 = .ok (.getfield 10, 3) := by decide +kernel
theorem dX7_pass_20 : decode cX7_pass 20 = .ok (.iload_n 1, 1) := by decide +kernel
theorem dX7_pass_21 : decode cX7_pass 21 = .ok (.invokevirtual 264, 3) := by decide +kernel
theorem dX7_pass_24 : decode cX7_pass 24 = .ok (.lreturn, 1) := by decide +kernel
theorem dX7_goOn_0 : decode cX7_goOn 0 = .ok (.aload_n 0, 1) := by decide +kernel
theorem dX7_goOn_1 : decode cX7_goOn 1 = .ok (.aload_n 0, 1) := by decide +kernel
theorem dX7_goOn_2 : decode cX7_goOn 2 = .ok (.getfield 10, 3) := by decide +kernel
theorem dX7_goOn_5 : decode cX7_goOn 5 = .ok (.invokevirtual 267, 3) := by decide +kernel
theorem dX7_goOn_8 : decode cX7_goOn 8 = .ok (.invokevirtual 91, 3) := by decide +kernel
theorem dX7_goOn_11 : decode cX7_goOn 11 = .ok (.aload_n 0, 1) := by decide +kernel
theorem dX7_goOn_12 : decode cX7_goOn 12 = .ok (.invokevirtual 80, 3) := by decide +kernel
theorem dX7_goOn_15 : decode cX7_goOn 15 = .ok (.aload_n 0, 1) := by decide +kernel
theorem dX7_goOn_16 : decode cX7_goOn 16 = .ok (.getfield 10, 3) := by decide +kernel
theorem dX7_goOn_19 : decode cX7_goOn 19 = .ok (.invokevirtual 271, 3) := by decide +kernel
theorem dX7_goOn_22 : decode cX7_goOn 22 = .ok (.aload_n 0, 1) := by decide +kernel
theorem dX7_goOn_23 : decode cX7_goOn 23 = .ok (.getfield 10, 3) := by decide +kernel
theorem dX7_goOn_26 : decode cX7_goOn 26 = .ok (.getfield 199, 3) := by decide +kernel
theorem dX7_goOn_29 : decode cX7_goOn 29 = .ok (.ireturn, 1) := by decide +kernel
theorem dX7_account_0 : decode cX7_account 0 = .ok (.iload_n 1, 1) := by decide +kernel
theorem dX7_account_1 : decode cX7_account 1 = .ok (.iconst 0, 1) := by decide +kernel
theorem dX7_account_2 : decode cX7_account 2 = .ok (.bipush 11, 2) := by decide +kernel
theorem dX7_account_4 : decode cX7_account 4 = .ok (.invokestatic 70, 3) := by decide +kernel
theorem dX7_account_7 : decode cX7_account 7 = .ok (.ifCond .ne 11, 3) := by decide +kernel
theorem dX7_account_10 : decode cX7_account 10 = .ok (.new 74, 3) := by decide +kernel
theorem dX7_account_13 : decode cX7_account 13 = .ok (.dup, 1) := by decide +kernel
theorem dX7_account_14 : decode cX7_account 14 = .ok (.invokespecial 76, 3) := by decide +kernel
theorem dX7_account_17 : decode cX7_account 17 = .ok (.athrow, 1) := by decide +kernel
theorem dX7_account_18 : decode cX7_account 18 = .ok (.aload_n 0, 1) := by decide +kernel
theorem dX7_account_19 : decode cX7_account 19 = .ok (.getfield 10, 3) := by decide +kernel
theorem dX7_account_22 : decode cX7_account 22 = .ok (.iload_n 1, 1) := by decide +kernel
theorem dX7_account_23 : decode cX7_account 23 = .ok (.invokevirtual 274, 3) := by decide +kernel
theorem dX7_account_26 : decode cX7_account 26 = .ok (.lreturn, 1) := by decide +kernel
theorem dX7_entry_0 : decode cX7_entry 0 = .ok (.aload_n 0, 1) := by decide +kernel
theorem dX7_entry_1 : decode cX7_entry 1 = .ok (.getfield 10, 3) := by decide +kernel
theorem dX7_entry_4 : decode cX7_entry 4 = .ok (.getfield 277, 3) := by decide +kernel
theorem dX7_entry_7 : decode cX7_entry 7 = .ok (.iload_n 1, 1) := by decide +kernel
theorem dX7_entry_8 : decode cX7_entry 8 = .ok (.invokevirtual 281, 3) := by decide +kernel
theorem dX7_entry_11 : decode cX7_entry 11 = .ok (.ifCond .ne 11, 3) := by decide +kernel
theorem dX7_entry_14 : decode cX7_entry 14 = .ok (.new 148, 3) := by decide +kernel
theorem dX7_entry_17 : decode cX7_entry 17 = .ok (.dup, 1) := by decide +kernel
theorem dX7_entry_18 : decode cX7_entry 18 = .ok (.invokespecial 150, 3) := by decide +kernel
theorem dX7_entry_21 : decode cX7_entry 21 = .ok (.athrow, 1) := by decide +kernel
theorem dX7_entry_22 : decode cX7_entry 22 = .ok (.iload_n 2, 1) := by decide +kernel
theorem dX7_entry_23 : decode cX7_entry 23 = .ok (.ifCond .eq 18, 3) := by decide +kernel
theorem dX7_entry_26 : decode cX7_entry 26 = .ok (.aload_n 0, 1) := by decide +kernel
theorem dX7_entry_27 : decode cX7_entry 27 = .ok (.getfield 10, 3) := by decide +kernel
theorem dX7_entry_30 : decode cX7_entry 30 = .ok (.getfield 277, 3) := by decide +kernel
theorem dX7_entry_33 : decode cX7_entry 33 = .ok (.getfield 284, 3) := by decide +kernel
theorem dX7_entry_36 : decode cX7_entry 36 = .ok (.iload_n 1, 1) := by decide +kernel
theorem dX7_entry_37 : decode cX7_entry 37 = .ok (.laload, 1) := by decide +kernel
theorem dX7_entry_38 : decode cX7_entry 38 = .ok (.goto 16, 3) := by decide +kernel
theorem dX7_entry_41 : decode cX7_entry 41 = .ok (.aload_n 0, 1) := by decide +kernel
theorem dX7_entry_42 : decode cX7_entry 42 = .ok (.getfield 10, 3) := by decide +kernel
theorem dX7_entry_45 : decode cX7_entry 45 = .ok (.getfield 277, 3) := by decide +kernel
theorem dX7_entry_48 : decode cX7_entry 48 = .ok (.getfield 288, 3) := by decide +kernel
theorem dX7_entry_51 : decode cX7_entry 51 = .ok (.iload_n 1, 1) := by decide +kernel
theorem dX7_entry_52 : decode cX7_entry 52 = .ok (.iaload, 1) := by decide +kernel
theorem dX7_entry_53 : decode cX7_entry 53 = .ok (.i2l, 1) := by decide +kernel
theorem dX7_entry_54 : decode cX7_entry 54 = .ok (.lreturn, 1) := by decide +kernel
theorem dX7_quota_0 : decode cX7_quota 0 = .ok (.iload_n 1, 1) := by decide +kernel
theorem dX7_quota_1 : decode cX7_quota 1 = .ok (.invokestatic 66, 3) := by decide +kernel
theorem dX7_quota_4 : decode cX7_quota 4 = .ok (.ifCond .ne 11, 3) := by decide +kernel
theorem dX7_quota_7 : decode cX7_quota 7 = .ok (.new 158, 3) := by decide +kernel
theorem dX7_quota_10 : decode cX7_quota 10 = .ok (.dup, 1) := by decide +kernel
theorem dX7_quota_11 : decode cX7_quota 11 = .ok (.invokespecial 160, 3) := by decide +kernel
theorem dX7_quota_14 : decode cX7_quota 14 = .ok (.athrow, 1) := by decide +kernel
theorem dX7_quota_15 : decode cX7_quota 15 = .ok (.aload_n 0, 1) := by decide +kernel
theorem dX7_quota_16 : decode cX7_quota 16 = .ok (.getfield 10, 3) := by decide +kernel
theorem dX7_quota_19 : decode cX7_quota 19 = .ok (.iload_n 1, 1) := by decide +kernel
theorem dX7_quota_20 : decode cX7_quota 20 = .ok (.invokevirtual 291, 3) := by decide +kernel
theorem dX7_quota_23 : decode cX7_quota 23 = .ok (.lstore_n 2, 1) := by decide +kernel
theorem dX7_quota_24 : decode cX7_quota 24 = .ok (.lload_n 2, 1) := by decide +kernel
theorem dX7_quota_25 : decode cX7_quota 25 = .ok (.lconst 0, 1) := by decide +kernel
theorem dX7_quota_26 : decode cX7_quota 26 = .ok (.lcmp, 1) := by decide +kernel
theorem dX7_quota_27 : decode cX7_quota 27 = .ok (.ifCond .ne 11, 3) := by decide +kernel
theorem dX7_quota_30 : decode cX7_quota 30 = .ok (.new 294, 3) := by decide +kernel
theorem dX7_quota_33 : decode cX7_quota 33 = .ok (.dup, 1) := by decide +kernel
theorem dX7_quota_34 : decode cX7_quota 34 = .ok (.invokespecial 296, 3) := by decide +kernel
theorem dX7_quota_37 : decode cX7_quota 37 = .ok (.athrow, 1) := by decide +kernel
theorem dX7_quota_38 : decode cX7_quota 38 = .ok (.aload_n 0, 1) := by decide +kernel
theorem dX7_quota_39 : decode cX7_quota 39 = .ok (.getfield 10, 3) := by decide +kernel
theorem dX7_quota_42 : decode cX7_quota 42 = .ok (.iload_n 1, 1) := by decide +kernel
theorem dX7_quota_43 : decode cX7_quota 43 = .ok (.invokevirtual 297, 3) := by decide +kernel
theorem dX7_quota_46 : decode cX7_quota 46 = .ok (.l2d, 1) := by decide +kernel
theorem dX7_quota_47 : decode cX7_quota 47 = .ok (.lload_n 2, 1) := by decide +kernel
theorem dX7_quota_48 : decode cX7_quota 48 = .ok (.l2d, 1) := by decide +kernel
theorem dX7_quota_49 : decode cX7_quota 49 = .ok (.ddiv, 1) := by decide +kernel
theorem dX7_quota_50 : decode cX7_quota 50 = .ok (.dreturn, 1) := by decide +kernel
theorem dX7_append_0 : decode cX7_append 0 = .ok (.iload_n 1, 1) := by decide +kernel
theorem dX7_append_1 : decode cX7_append 1 = .ok (.bipush 32, 2) := by decide +kernel
theorem dX7_append_3 : decode cX7_append 3 = .ok (.bipush 126, 2) := by decide +kernel
theorem dX7_append_5 : decode cX7_append 5 = .ok (.invokestatic 70, 3) := by decide +kernel
theorem dX7_append_8 : decode cX7_append 8 = .ok (.ifCond .ne 11, 3) := by decide +kernel
theorem dX7_append_11 : decode cX7_append 11 = .ok (.new 74, 3) := by decide +kernel
theorem dX7_append_14 : decode cX7_append 14 = .ok (.dup, 1) := by decide +kernel
theorem dX7_append_15 : decode cX7_append 15 = .ok (.invokespecial 76, 3) := by decide +kernel
theorem dX7_append_18 : decode cX7_append 18 = .ok (.athrow, 1) := by decide +kernel
theorem dX7_append_19 : decode cX7_append 19 = .ok (.aload_n 0, 1) := by decide +kernel
theorem dX7_append_20 : decode cX7_append 20 = .ok (.getfield 26, 3) := by decide +kernel
theorem dX7_append_23 : decode cX7_append 23 = .ok (.getfield 300, 3) := by decide +kernel
theorem dX7_append_26 : decode cX7_append 26 = .ok (.bipush 70, 2) := by decide +kernel
theorem dX7_append_28 : decode cX7_append 28 = .ok (.if_icmp .lt 11, 3) := by decide +kernel
theorem dX7_append_31 : decode cX7_append 31 = .ok (.new 77, 3) := by decide +kernel
theorem dX7_append_34 : decode cX7_append 34 = .ok (.dup, 1) := by decide +kernel
theorem dX7_append_35 : decode cX7_append 35 = .ok (.invokespecial 79, 3) := by decide +kernel
theorem dX7_append_38 : decode cX7_append 38 = .ok (.athrow, 1) := by decide +kernel
theorem dX7_append_39 : decode cX7_append 39 = .ok (.aload_n 0, 1) := by decide +kernel
theorem dX7_append_40 : decode cX7_append 40 = .ok (.getfield 26, 3) := by decide +kernel
theorem dX7_append_43 : decode cX7_append 43 = .ok (.iload_n 1, 1) := by decide +kernel
theorem dX7_append_44 : decode cX7_append 44 = .ok (.invokevirtual 301, 3) := by decide +kernel
theorem dX7_append_47 : decode cX7_append 47 = .ok (.ireturn, 1) := by decide +kernel
theorem dX7_read_0 : decode cX7_read 0 = .ok (.aload_n 0, 1) := by decide +kernel
theorem dX7_read_1 : decode cX7_read 1 = .ok (.getfield 26, 3) := by decide +kernel
theorem dX7_read_4 : decode cX7_read 4 = .ok (.invokevirtual 304, 3) := by decide +kernel
theorem dX7_read_7 : decode cX7_read 7 = .ok (.istore_n 1, 1) := by decide +kernel
theorem dX7_read_8 : decode cX7_read 8 = .ok (.aload_n 0, 1) := by decide +kernel
theorem dX7_read_9 : decode cX7_read 9 = .ok (.getfield 26, 3) := by decide +kernel
theorem dX7_read_12 : decode cX7_read 12 = .ok (.invokevirtual 308, 3) := by decide +kernel
theorem dX7_read_15 : decode cX7_read 15 = .ok (.iload_n 1, 1) := by decide +kernel
theorem dX7_read_16 : decode cX7_read 16 = .ok (.ifCond .ne 22, 3) := by decide +kernel
theorem dX7_read_19 : decode cX7_read 19 = .ok (.aload_n 0, 1) := by decide +kernel
theorem dX7_read_20 : decode cX7_read 20 = .ok (.aload_n 0, 1) := by decide +kernel
theorem dX7_read_21 : decode cX7_read 21 = .ok (.getfield 26, 3) := by decide +kernel
theorem dX7_read_24 : decode cX7_read 24 = .ok (.getfield 311, 3) := by decide +kernel
theorem dX7_read_27 : decode cX7_read 27 = .ok (.putfield 51, 3) := by decide +kernel
theorem dX7_read_30 : decode cX7_read 30 = .ok (.new 74, 3) := by decide +kernel
theorem dX7_read_33 : decode cX7_read 33 = .ok (.dup, 1) := by decide +kernel
theorem dX7_read_34 : decode cX7_read 34 = .ok (.invokespecial 76, 3) := by decide +kernel
theorem dX7_read_37 : decode cX7_read 37 = .ok (.athrow, 1) := by decide +kernel
theorem dX7_read_38 : decode cX7_read 38 = .ok (.aload_n 0, 1) := by decide +kernel
theorem dX7_read_39 : decode cX7_read 39 = .ok (.getfield 19, 3) := by decide +kernel
theorem dX7_read_42 : decode cX7_read 42 = .ok (.aload_n 0, 1) := by decide +kernel
theorem dX7_read_43 : decode cX7_read 43 = .ok (.getfield 41, 3) := by decide +kernel
theorem dX7_read_46 : decode cX7_read 46 = .ok (.aaload, 1) := by decide +kernel
theorem dX7_read_47 : decode cX7_read 47 = .ok (.aload_n 0, 1) := by decide +kernel
theorem dX7_read_48 : decode cX7_read 48 = .ok (.getfield 10, 3) := by decide +kernel
theorem dX7_read_51 : decode cX7_read 51 = .ok (.invokevirtual 314, 3) := by decide +kernel
theorem dX7_read_54 : decode cX7_read 54 = .ok (.aload_n 0, 1) := by decide +kernel
theorem dX7_read_55 : decode cX7_read 55 = .ok (.getfield 10, 3) := by decide +kernel
theorem dX7_read_58 : decode cX7_read 58 = .ok (.aload_n 0, 1) := by decide +kernel
theorem dX7_read_59 : decode cX7_read 59 = .ok (.getfield 26, 3) := by decide +kernel
theorem dX7_read_62 : decode cX7_read 62 = .ok (.invokestatic 318, 3) := by decide +kernel
theorem dX7_read_65 : decode cX7_read 65 = .ok (.istore_n 2, 1) := by decide +kernel
theorem dX7_read_66 : decode cX7_read 66 = .ok (.iload_n 2, 1) := by decide +kernel
theorem dX7_read_67 : decode cX7_read 67 = .ok (.ifCond .eq 32, 3) := by decide +kernel
theorem dX7_read_70 : decode cX7_read 70 = .ok (.aload_n 0, 1) := by decide +kernel
theorem dX7_read_71 : decode cX7_read 71 = .ok (.getfield 10, 3) := by decide +kernel
theorem dX7_read_74 : decode cX7_read 74 = .ok (.aload_n 0, 1) := by decide +kernel
theorem dX7_read_75 : decode cX7_read 75 = .ok (.getfield 19, 3) := by decide +kernel
theorem dX7_read_78 : decode cX7_read 78 = .ok (.aload_n 0, 1) := by decide +kernel
theorem dX7_read_79 : decode cX7_read 79 = .ok (.getfield 41, 3) := by decide +kernel
theorem dX7_read_82 : decode cX7_read 82 = .ok (.aaload, 1) := by decide +kernel
theorem dX7_read_83 : decode cX7_read 83 = .ok (.invokevirtual 314, 3) := by decide +kernel
theorem dX7_read_86 : decode cX7_read 86 = .ok (.aload_n 0, 1) := by decide +kernel
theorem dX7_read_87 : decode cX7_read 87 = .ok (.iload_n 2, 1) := by decide +kernel
theorem dX7_read_88 : decode cX7_read 88 = .ok (.invokevirtual 322, 3) := by decide +kernel
theorem dX7_read_91 : decode cX7_read 91 = .ok (.new 77, 3) := by decide +kernel
theorem dX7_read_94 : decode cX7_read 94 = .ok (.dup, 1) := by decide +kernel
theorem dX7_read_95 : decode cX7_read 95 = .ok (.invokespecial 79, 3) := by decide +kernel
theorem dX7_read_98 : decode cX7_read 98 = .ok (.athrow, 1) := by decide +kernel
theorem dX7_read_99 : decode cX7_read 99 = .ok (.aload_n 0, 1) := by decide +kernel
theorem dX7_read_100 : decode cX7_read 100 = .ok (.invokevirtual 325, 3) := by decide +kernel
theorem dX7_read_103 : decode cX7_read 103 = .ok (.aload_n 0, 1) := by decide +kernel
theorem dX7_read_104 : decode cX7_read 104 = .ok (.getfield 26, 3) := by decide +kernel
theorem dX7_read_107 : decode cX7_read 107 = .ok (.getfield 328, 3) := by decide +kernel
theorem dX7_read_110 : decode cX7_read 110 = .ok (.ireturn, 1) := by decide +kernel
theorem dX7_errorPosition_0 : decode cX7_errorPosition 0 = .ok (.aload_n 0, 1) := by decide +kernel
theorem dX7_errorPosition_1 : decode cX7_errorPosition 1 = .ok (.getfield 51, 3) := by decide +kernel
theorem dX7_errorPosition_4 : decode cX7_errorPosition 4 = .ok (.iconst (-1), 1) := by decide +kernel
theorem dX7_errorPosition_5 : decode cX7_errorPosition 5 = .ok (.if_icmp .ne 11, 3) := by decide +kernel
theorem dX7_errorPosition_8 : decode cX7_errorPosition 8 = .ok (.new 148, 3) := by decide +kernel
theorem dX7_errorPosition_11 : decode cX7_errorPosition 11 = .ok (.dup, 1) := by decide +kernel
theorem dX7_errorPosition_12 : decode cX7_errorPosition 12 = .ok (.invokespecial 150, 3) := by decide +kernel
theorem dX7_errorPosition_15 : decode cX7_errorPosition 15 = .ok (.athrow, 1) := by decide +kernel
theorem dX7_errorPosition_16 : decode cX7_errorPosition 16 = .ok (.aload_n 0, 1) := by decide +kernel
theorem dX7_errorPosition_17 : decode cX7_errorPosition 17 = .ok (.getfield 51, 3) := by decide +kernel
theorem dX7_errorPosition_20 : decode cX7_errorPosition 20 = .ok (.ireturn, 1) := by decide +kernel
theorem dX7_undo_0 : decode cX7_undo 0 = .ok (.aload_n 0, 1) := by decide +kernel
theorem dX7_undo_1 : decode cX7_undo 1 = .ok (.getfield 45, 3) := by decide +kernel
theorem dX7_undo_4 : decode cX7_undo 4 = .ok (.ifCond .gt 11, 3) := by decide +kernel
theorem dX7_undo_7 : decode cX7_undo 7 = .ok (.new 148, 3) := by decide +kernel
theorem dX7_undo_10 : decode cX7_undo 10 = .ok (.dup, 1) := by decide +kernel
theorem dX7_undo_11 : decode cX7_undo 11 = .ok (.invokespecial 150, 3) := by decide +kernel
theorem dX7_undo_14 : decode cX7_undo 14 = .ok (.athrow, 1) := by decide +kernel
theorem dX7_undo_15 : decode cX7_undo 15 = .ok (.aload_n 0, 1) := by decide +kernel
theorem dX7_undo_16 : decode cX7_undo 16 = .ok (.aload_n 0, 1) := by decide +kernel
theorem dX7_undo_17 : decode cX7_undo 17 = .ok (.getfield 41, 3) := by decide +kernel
theorem dX7_undo_20 : decode cX7_undo 20 = .ok (.ifCond .le 12, 3) := by decide +kernel
theorem dX7_undo_23 : decode cX7_undo 23 = .ok (.aload_n 0, 1) := by decide +kernel
theorem dX7_undo_24 : decode cX7_undo 24 = .ok (.getfield 41, 3) := by decide +kernel
theorem dX7_undo_27 : decode cX7_undo 27 = .ok (.iconst 1, 1) := by decide +kernel
theorem dX7_undo_28 : decode cX7_undo 28 = .ok (.isub, 1) := by decide +kernel
theorem dX7_undo_29 : decode cX7_undo 29 = .ok (.goto 5, 3) := by decide +kernel
theorem dX7_undo_32 : decode cX7_undo 32 = .ok (.bipush 6, 2) := by decide +kernel
theorem dX7_undo_34 : decode cX7_undo 34 = .ok (.putfield 41, 3) := by decide +kernel
theorem dX7_undo_37 : decode cX7_undo 37 = .ok (.aload_n 0, 1) := by decide +kernel
theorem dX7_undo_38 : decode cX7_undo 38 = .ok (.dup, 1) := by decide +kernel
theorem dX7_undo_39 : decode cX7_undo 39 = .ok (.getfield 45, 3) := by decide +kernel
theorem dX7_undo_42 : decode cX7_undo 42 = .ok (.iconst 1, 1) := by decide +kernel
theorem dX7_undo_43 : decode cX7_undo 43 = .ok (.isub, 1) := by decide +kernel
theorem dX7_undo_44 : decode cX7_undo 44 = .ok (.putfield 45, 3) := by decide +kernel
theorem dX7_undo_47 : decode cX7_undo 47 = .ok (.aload_n 0, 1) := by decide +kernel
theorem dX7_undo_48 : decode cX7_undo 48 = .ok (.getfield 10, 3) := by decide +kernel
theorem dX7_undo_51 : decode cX7_undo 51 = .ok (.aload_n 0, 1) := by decide +kernel
theorem dX7_undo_52 : decode cX7_undo 52 = .ok (.getfield 19, 3) := by decide +kernel
theorem dX7_undo_55 : decode cX7_undo 55 = .ok (.aload_n 0, 1) := by decide +kernel
theorem dX7_undo_56 : decode cX7_undo 56 = .ok (.getfield 41, 3) := by decide +kernel
theorem dX7_undo_59 : decode cX7_undo 59 = .ok (.aaload, 1) := by decide +kernel
theorem dX7_undo_60 : decode cX7_undo 60 = .ok (.invokevirtual 314, 3) := by decide +kernel
theorem dX7_undo_63 : decode cX7_undo 63 = .ok (.aload_n 0, 1) := by decide +kernel
theorem dX7_undo_64 : decode cX7_undo 64 = .ok (.getfield 45, 3) := by decide +kernel
theorem dX7_undo_67 : decode cX7_undo 67 = .ok (.ireturn, 1) := by decide +kernel
theorem dX7_save_0 : decode cX7_save 0 = .ok (.aload_n 0, 1) := by decide +kernel
theorem dX7_save_1 : decode cX7_save 1 = .ok (.getfield 16, 3) := by decide +kernel
theorem dX7_save_4 : decode cX7_save 4 = .ok (.aload_n 0, 1) := by decide +kernel
theorem dX7_save_5 : decode cX7_save 5 = .ok (.getfield 10, 3) := by decide +kernel
theorem dX7_save_8 : decode cX7_save 8 = .ok (.invokevirtual 314, 3) := by decide +kernel
theorem dX7_save_11 : decode cX7_save 11 = .ok (.aload_n 0, 1) := by decide +kernel
theorem dX7_save_12 : decode cX7_save 12 = .ok (.iconst 1, 1) := by decide +kernel
theorem dX7_save_13 : decode cX7_save 13 = .ok (.putfield 37, 3) := by decide +kernel
theorem dX7_save_16 : decode cX7_save 16 = .ok (.aload_n 0, 1) := by decide +kernel
theorem dX7_save_17 : decode cX7_save 17 = .ok (.getfield 10, 3) := by decide +kernel
theorem dX7_save_20 : decode cX7_save 20 = .ok (.getfield 116, 3) := by decide +kernel
theorem dX7_save_23 : decode cX7_save 23 = .ok (.getfield 329, 3) := by decide +kernel
theorem dX7_save_26 : decode cX7_save 26 = .ok (.ireturn, 1) := by decide +kernel
theorem dX7_restore_0 : decode cX7_restore 0 = .ok (.aload_n 0, 1) := by decide +kernel
theorem dX7_restore_1 : decode cX7_restore 1 = .ok (.getfield 37, 3) := by decide +kernel
theorem dX7_restore_4 : decode cX7_restore 4 = .ok (.ifCond .ne 11, 3) := by decide +kernel
theorem dX7_restore_7 : decode cX7_restore 7 = .ok (.new 77, 3) := by decide +kernel
theorem dX7_restore_10 : decode cX7_restore 10 = .ok (.dup, 1) := by decide +kernel
theorem dX7_restore_11 : decode cX7_restore 11 = .ok (.invokespecial 79, 3) := by decide +kernel
theorem dX7_restore_14 : decode cX7_restore 14 = .ok (.athrow, 1) := by decide +kernel
theorem dX7_restore_15 : decode cX7_restore 15 = .ok (.aload_n 0, 1) := by decide +kernel
theorem dX7_restore_16 : decode cX7_restore 16 = .ok (.getfield 10, 3) := by decide +kernel
theorem dX7_restore_19 : decode cX7_restore 19 = .ok (.aload_n 0, 1) := by decide +kernel
theorem dX7_restore_20 : decode cX7_restore 20 = .ok (.getfield 16, 3) := by decide +kernel
theorem dX7_restore_23 : decode cX7_restore 23 = .ok (.invokevirtual 314, 3) := by decide +kernel
theorem dX7_restore_26 : decode cX7_restore 26 = .ok (.aload_n 0, 1) := by decide +kernel
theorem dX7_restore_27 : decode cX7_restore 27 = .ok (.iconst 0, 1) := by decide +kernel
theorem dX7_restore_28 : decode cX7_restore 28 = .ok (.putfield 45, 3) := by decide +kernel
theorem dX7_restore_31 : decode cX7_restore 31 = .ok (.aload_n 0, 1) := by decide +kernel
theorem dX7_restore_32 : decode cX7_restore 32 = .ok (.getfield 10, 3) := by decide +kernel
theorem dX7_restore_35 : decode cX7_restore 35 = .ok (.getfield 116, 3) := by decide +kernel
theorem dX7_restore_38 : decode cX7_restore 38 = .ok (.getfield 329, 3) := by decide +kernel
theorem dX7_restore_41 : decode cX7_restore 41 = .ok (.ireturn, 1) := by decide +kernel
theorem dX7_remember_0 : decode cX7_remember 0 = .ok (.aload_n 0, 1) := by decide +kernel
theorem dX7_remember_1 : decode cX7_remember 1 = .ok (.getfield 19, 3) := by decide +kernel
theorem dX7_remember_4 : decode cX7_remember 4 = .ok (.aload_n 0, 1) := by decide +kernel
theorem dX7_remember_5 : decode cX7_remember 5 = .ok (.getfield 41, 3) := by decide +kernel
theorem dX7_remember_8 : decode cX7_remember 8 = .ok (.aaload, 1) := by decide +kernel
theorem dX7_remember_9 : decode cX7_remember 9 = .ok (.aload_n 0, 1) := by decide +kernel
theorem dX7_remember_10 : decode cX7_remember 10 = .ok (.getfield 10, 3) := by decide +kernel
theorem dX7_remember_13 : decode cX7_remember 13 = .ok (.invokevirtual 314, 3) := by decide +kernel
theorem dX7_remember_16 : decode cX7_remember 16 = .ok (.aload_n 0, 1) := by decide +kernel
theorem dX7_remember_17 : decode cX7_remember 17 = .ok (.invokevirtual 325, 3) := by decide +kernel
theorem dX7_remember_20 : decode cX7_remember 20 = .ok (.return_, 1) := by decide +kernel
theorem dX7_keepRow_0 : decode cX7_keepRow 0 = .ok (.aload_n 0, 1) := by decide +kernel
theorem dX7_keepRow_1 : decode cX7_keepRow 1 = .ok (.aload_n 0, 1) := by decide +kernel
theorem dX7_keepRow_2 : decode cX7_keepRow 2 = .ok (.getfield 41, 3) := by decide +kernel
theorem dX7_keepRow_5 : decode cX7_keepRow 5 = .ok (.bipush 6, 2) := by decide +kernel
theorem dX7_keepRow_7 : decode cX7_keepRow 7 = .ok (.if_icmp .ge 12, 3) := by decide +kernel
theorem dX7_keepRow_10 : decode cX7_keepRow 10 = .ok (.aload_n 0, 1) := by decide +kernel
theorem dX7_keepRow_11 : decode cX7_keepRow 11 = .ok (.getfield 41, 3) := by decide +kernel
theorem dX7_keepRow_14 : decode cX7_keepRow 14 = .ok (.iconst 1, 1) := by decide +kernel
theorem dX7_keepRow_15 : decode cX7_keepRow 15 = .ok (.iadd, 1) := by decide +kernel
theorem dX7_keepRow_16 : decode cX7_keepRow 16 = .ok (.goto 4, 3) := by decide +kernel
theorem dX7_keepRow_19 : decode cX7_keepRow 19 = .ok (.iconst 0, 1) := by decide +kernel
theorem dX7_keepRow_20 : decode cX7_keepRow 20 = .ok (.putfield 41, 3) := by decide +kernel
theorem dX7_keepRow_23 : decode cX7_keepRow 23 = .ok (.aload_n 0, 1) := by decide +kernel
theorem dX7_keepRow_24 : decode cX7_keepRow 24 = .ok (.aload_n 0, 1) := by decide +kernel
theorem dX7_keepRow_25 : decode cX7_keepRow 25 = .ok (.getfield 45, 3) := by decide +kernel
theorem dX7_keepRow_28 : decode cX7_keepRow 28 = .ok (.iconst 1, 1) := by decide +kernel
theorem dX7_keepRow_29 : decode cX7_keepRow 29 = .ok (.iadd, 1) := by decide +kernel
theorem dX7_keepRow_30 : decode cX7_keepRow 30 = .ok (.bipush 6, 2) := by decide +kernel
theorem dX7_keepRow_32 : decode cX7_keepRow 32 = .ok (.invokestatic 330, 3) := by decide +kernel
theorem dX7_keepRow_35 : decode cX7_keepRow 35 = .ok (.putfield 45, 3) := by decide +kernel
theorem dX7_keepRow_38 : decode cX7_keepRow 38 = .ok (.return_, 1) := by decide +kernel
theorem dX7_keepReason_0 : decode cX7_keepReason 0 = .ok (.iload_n 1, 1) := by decide +kernel
theorem dX7_keepReason_1 : decode cX7_keepReason 1 = .ok (.bipush 6, 2) := by decide +kernel
theorem dX7_keepReason_3 : decode cX7_keepReason 3 = .ok (.if_icmp .gt 8, 3) := by decide +kernel
theorem dX7_keepReason_6 : decode cX7_keepReason 6 = .ok (.aload_n 0, 1) := by decide +kernel
theorem dX7_keepReason_7 : decode cX7_keepReason 7 = .ok (.iload_n 1, 1) := by decide +kernel
theorem dX7_keepReason_8 : decode cX7_keepReason 8 = .ok (.putfield 48, 3) := by decide +kernel
theorem dX7_keepReason_11 : decode cX7_keepReason 11 = .ok (.return_, 1) := by decide +kernel
theorem dX7_refuse_0 : decode cX7_refuse 0 = .ok (.iload_n 1, 1) := by decide +kernel
theorem dX7_refuse_1 : decode cX7_refuse 1 = .ok (.tableswitch 80 0 9 #[55, 80, 80, 80, 80, 80, 80, 56, 64, 72], 55) := by decide +kernel
theorem dX7_refuse_56 : decode cX7_refuse 56 = .ok (.return_, 1) := by decide +kernel
theorem dX7_refuse_57 : decode cX7_refuse 57 = .ok (.new 158, 3) := by decide +kernel
theorem dX7_refuse_60 : decode cX7_refuse 60 = .ok (.dup, 1) := by decide +kernel
theorem dX7_refuse_61 : decode cX7_refuse 61 = .ok (.invokespecial 160, 3) := by decide +kernel
theorem dX7_refuse_64 : decode cX7_refuse 64 = .ok (.athrow, 1) := by decide +kernel
theorem dX7_refuse_65 : decode cX7_refuse 65 = .ok (.new 74, 3) := by decide +kernel
theorem dX7_refuse_68 : decode cX7_refuse 68 = .ok (.dup, 1) := by decide +kernel
theorem dX7_refuse_69 : decode cX7_refuse 69 = .ok (.invokespecial 76, 3) := by decide +kernel
theorem dX7_refuse_72 : decode cX7_refuse 72 = .ok (.athrow, 1) := by decide +kernel
theorem dX7_refuse_73 : decode cX7_refuse 73 = .ok (.new 77, 3) := by decide +kernel
theorem dX7_refuse_76 : decode cX7_refuse 76 = .ok (.dup, 1) := by decide +kernel
theorem dX7_refuse_77 : decode cX7_refuse 77 = .ok (.invokespecial 79, 3) := by decide +kernel
theorem dX7_refuse_80 : decode cX7_refuse 80 = .ok (.athrow, 1) := by decide +kernel
theorem dX7_refuse_81 : decode cX7_refuse 81 = .ok (.aload_n 0, 1) := by decide +kernel
theorem dX7_refuse_82 : decode cX7_refuse 82 = .ok (.iload_n 1, 1) := by decide +kernel
theorem dX7_refuse_83 : decode cX7_refuse 83 = .ok (.invokevirtual 322, 3) := by decide +kernel
theorem dX7_refuse_86 : decode cX7_refuse 86 = .ok (.new 335, 3) := by decide +kernel
theorem dX7_refuse_89 : decode cX7_refuse 89 = .ok (.dup, 1) := by decide +kernel
theorem dX7_refuse_90 : decode cX7_refuse 90 = .ok (.invokespecial 337, 3) := by decide +kernel
theorem dX7_refuse_93 : decode cX7_refuse 93 = .ok (.athrow, 1) := by decide +kernel
theorem dX7_isWithin_0 : decode cX7_isWithin 0 = .ok (.iload_n 0, 1) := by decide +kernel
theorem dX7_isWithin_1 : decode cX7_isWithin 1 = .ok (.iload_n 1, 1) := by decide +kernel
theorem dX7_isWithin_2 : decode cX7_isWithin 2 = .ok (.if_icmp .lt 12, 3) := by decide +kernel
theorem dX7_isWithin_5 : decode cX7_isWithin 5 = .ok (.iload_n 0, 1) := by decide +kernel
theorem dX7_isWithin_6 : decode cX7_isWithin 6 = .ok (.iload_n 2, 1) := by decide +kernel
theorem dX7_isWithin_7 : decode cX7_isWithin 7 = .ok (.if_icmp .gt 7, 3) := by decide +kernel
theorem dX7_isWithin_10 : decode cX7_isWithin 10 = .ok (.iconst 1, 1) := by decide +kernel
theorem dX7_isWithin_11 : decode cX7_isWithin 11 = .ok (.goto 4, 3) := by decide +kernel
theorem dX7_isWithin_14 : decode cX7_isWithin 14 = .ok (.iconst 0, 1) := by decide +kernel
theorem dX7_isWithin_15 : decode cX7_isWithin 15 = .ok (.ireturn, 1) := by decide +kernel
theorem dX7_isSide_0 : decode cX7_isSide 0 = .ok (.iload_n 0, 1) := by decide +kernel
theorem dX7_isSide_1 : decode cX7_isSide 1 = .ok (.iconst 0, 1) := by decide +kernel
theorem dX7_isSide_2 : decode cX7_isSide 2 = .ok (.iconst 1, 1) := by decide +kernel
theorem dX7_isSide_3 : decode cX7_isSide 3 = .ok (.invokestatic 70, 3) := by decide +kernel
theorem dX7_isSide_6 : decode cX7_isSide 6 = .ok (.ireturn, 1) := by decide +kernel
theorem dX7_isAmount_0 : decode cX7_isAmount 0 = .ok (.iload_n 0, 1) := by decide +kernel
theorem dX7_isAmount_1 : decode cX7_isAmount 1 = .ok (.iconst 1, 1) := by decide +kernel
theorem dX7_isAmount_2 : decode cX7_isAmount 2 = .ok (.ldc_w 338, 3) := by decide +kernel
theorem dX7_isAmount_5 : decode cX7_isAmount 5 = .ok (.invokestatic 70, 3) := by decide +kernel
theorem dX7_isAmount_8 : decode cX7_isAmount 8 = .ok (.ireturn, 1) := by decide +kernel
theorem dX7_faultOfRate_0 : decode cX7_faultOfRate 0 = .ok (.iload_n 0, 1) := by decide +kernel
theorem dX7_faultOfRate_1 : decode cX7_faultOfRate 1 = .ok (.iconst 0, 1) := by decide +kernel
theorem dX7_faultOfRate_2 : decode cX7_faultOfRate 2 = .ok (.iload_n 1, 1) := by decide +kernel
theorem dX7_faultOfRate_3 : decode cX7_faultOfRate 3 = .ok (.iconst 1, 1) := by decide +kernel
theorem dX7_faultOfRate_4 : decode cX7_faultOfRate 4 = .ok (.isub, 1) := by decide +kernel
theorem dX7_faultOfRate_5 : decode cX7_faultOfRate 5 = .ok (.invokestatic 70, 3) := by decide +kernel
theorem dX7_faultOfRate_8 : decode cX7_faultOfRate 8 = .ok (.ifCond .ne 6, 3) := by decide +kernel
theorem dX7_faultOfRate_11 : decode cX7_faultOfRate 11 = .ok (.bipush 7, 2) := by decide +kernel
theorem dX7_faultOfRate_13 : decode cX7_faultOfRate 13 = .ok (.ireturn, 1) := by decide +kernel
theorem dX7_faultOfRate_14 : decode cX7_faultOfRate 14 = .ok (.iload_n 2, 1) := by decide +kernel
theorem dX7_faultOfRate_15 : decode cX7_faultOfRate 15 = .ok (.iconst 0, 1) := by decide +kernel
theorem dX7_faultOfRate_16 : decode cX7_faultOfRate 16 = .ok (.sipush 2000, 3) := by decide +kernel
theorem dX7_faultOfRate_19 : decode cX7_faultOfRate 19 = .ok (.invokestatic 70, 3) := by decide +kernel
theorem dX7_faultOfRate_22 : decode cX7_faultOfRate 22 = .ok (.ifCond .eq 7, 3) := by decide +kernel
theorem dX7_faultOfRate_25 : decode cX7_faultOfRate 25 = .ok (.iconst 0, 1) := by decide +kernel
theorem dX7_faultOfRate_26 : decode cX7_faultOfRate 26 = .ok (.goto 5, 3) := by decide +kernel
theorem dX7_faultOfRate_29 : decode cX7_faultOfRate 29 = .ok (.bipush 8, 2) := by decide +kernel
theorem dX7_faultOfRate_31 : decode cX7_faultOfRate 31 = .ok (.ireturn, 1) := by decide +kernel
theorem dX7_faultOfQuestion_0 : decode cX7_faultOfQuestion 0 = .ok (.iload_n 0, 1) := by decide +kernel
theorem dX7_faultOfQuestion_1 : decode cX7_faultOfQuestion 1 = .ok (.ifCond .ne 6, 3) := by decide +kernel
theorem dX7_faultOfQuestion_4 : decode cX7_faultOfQuestion 4 = .ok (.bipush 7, 2) := by decide +kernel
theorem dX7_faultOfQuestion_6 : decode cX7_faultOfQuestion 6 = .ok (.ireturn, 1) := by decide +kernel
theorem dX7_faultOfQuestion_7 : decode cX7_faultOfQuestion 7 = .ok (.iload_n 1, 1) := by decide +kernel
theorem dX7_faultOfQuestion_8 : decode cX7_faultOfQuestion 8 = .ok (.iconst 0, 1) := by decide +kernel
theorem dX7_faultOfQuestion_9 : decode cX7_faultOfQuestion 9 = .ok (.iload_n 2, 1) := by decide +kernel
theorem dX7_faultOfQuestion_10 : decode cX7_faultOfQuestion 10 = .ok (.invokestatic 70, 3) := by decide +kernel
theorem dX7_faultOfQuestion_13 : decode cX7_faultOfQuestion 13 = .ok (.ifCond .eq 7, 3) := by decide +kernel
theorem dX7_faultOfQuestion_16 : decode cX7_faultOfQuestion 16 = .ok (.iconst 0, 1) := by decide +kernel
theorem dX7_faultOfQuestion_17 : decode cX7_faultOfQuestion 17 = .ok (.goto 5, 3) := by decide +kernel
theorem dX7_faultOfQuestion_20 : decode cX7_faultOfQuestion 20 = .ok (.bipush 8, 2) := by decide +kernel
theorem dX7_faultOfQuestion_22 : decode cX7_faultOfQuestion 22 = .ok (.ireturn, 1) := by decide +kernel
theorem dX7_performAll_0 : decode cX7_performAll 0 = .ok (.iconst 0, 1) := by decide +kernel
theorem dX7_performAll_1 : decode cX7_performAll 1 = .ok (.istore_n 2, 1) := by decide +kernel
theorem dX7_performAll_2 : decode cX7_performAll 2 = .ok (.iload_n 2, 1) := by decide +kernel
theorem dX7_performAll_3 : decode cX7_performAll 3 = .ok (.aload_n 1, 1) := by decide +kernel
theorem dX7_performAll_4 : decode cX7_performAll 4 = .ok (.getfield 328, 3) := by decide +kernel
theorem dX7_performAll_7 : decode cX7_performAll 7 = .ok (.if_icmp .ge 28, 3) := by decide +kernel
theorem dX7_performAll_10 : decode cX7_performAll 10 = .ok (.aload_n 0, 1) := by decide +kernel
theorem dX7_performAll_11 : decode cX7_performAll 11 = .ok (.aload_n 1, 1) := by decide +kernel
theorem dX7_performAll_12 : decode cX7_performAll 12 = .ok (.iload_n 2, 1) := by decide +kernel
theorem dX7_performAll_13 : decode cX7_performAll 13 = .ok (.invokestatic 339, 3) := by decide +kernel
theorem dX7_performAll_16 : decode cX7_performAll 16 = .ok (.istore_n 3, 1) := by decide +kernel
theorem dX7_performAll_17 : decode cX7_performAll 17 = .ok (.iload_n 3, 1) := by decide +kernel
theorem dX7_performAll_18 : decode cX7_performAll 18 = .ok (.ifCond .eq 5, 3) := by decide +kernel
theorem dX7_performAll_21 : decode cX7_performAll 21 = .ok (.iload_n 3, 1) := by decide +kernel
theorem dX7_performAll_22 : decode cX7_performAll 22 = .ok (.ireturn, 1) := by decide +kernel
theorem dX7_performAll_23 : decode cX7_performAll 23 = .ok (.aload_n 0, 1) := by decide +kernel
theorem dX7_performAll_24 : decode cX7_performAll 24 = .ok (.aload_n 1, 1) := by decide +kernel
theorem dX7_performAll_25 : decode cX7_performAll 25 = .ok (.iload_n 2, 1) := by decide +kernel
theorem dX7_performAll_26 : decode cX7_performAll 26 = .ok (.invokestatic 343, 3) := by decide +kernel
theorem dX7_performAll_29 : decode cX7_performAll 29 = .ok (.iinc 2 1, 3) := by decide +kernel
theorem dX7_performAll_32 : decode cX7_performAll 32 = .ok (.goto (-30), 3) := by decide +kernel
theorem dX7_performAll_35 : decode cX7_performAll 35 = .ok (.iconst 0, 1) := by decide +kernel
theorem dX7_performAll_36 : decode cX7_performAll 36 = .ok (.ireturn, 1) := by decide +kernel
theorem dX7_faultOfCommand_0 : decode cX7_faultOfCommand 0 = .ok (.aload_n 1, 1) := by decide +kernel
theorem dX7_faultOfCommand_1 : decode cX7_faultOfCommand 1 = .ok (.getfield 347, 3) := by decide +kernel
theorem dX7_faultOfCommand_4 : decode cX7_faultOfCommand 4 = .ok (.iload_n 2, 1) := by decide +kernel
theorem dX7_faultOfCommand_5 : decode cX7_faultOfCommand 5 = .ok (.iaload, 1) := by decide +kernel
theorem dX7_faultOfCommand_6 : decode cX7_faultOfCommand 6 = .ok (.istore_n 3, 1) := by decide +kernel
theorem dX7_faultOfCommand_7 : decode cX7_faultOfCommand 7 = .ok (.aload_n 1, 1) := by decide +kernel
theorem dX7_faultOfCommand_8 : decode cX7_faultOfCommand 8 = .ok (.getfield 350, 3) := by decide +kernel
theorem dX7_faultOfCommand_11 : decode cX7_faultOfCommand 11 = .ok (.iload_n 2, 1) := by decide +kernel
theorem dX7_faultOfCommand_12 : decode cX7_faultOfCommand 12 = .ok (.iaload, 1) := by decide +kernel
theorem dX7_faultOfCommand_13 : decode cX7_faultOfCommand 13 = .ok (.istore 4, 2) := by decide +kernel
theorem dX7_faultOfCommand_15 : decode cX7_faultOfCommand 15 = .ok (.aload_n 1, 1) := by decide +kernel
theorem dX7_faultOfCommand_16 : decode cX7_faultOfCommand 16 = .ok (.getfield 353, 3) := by decide +kernel
theorem dX7_faultOfCommand_19 : decode cX7_faultOfCommand 19 = .ok (.iload_n 2, 1) := by decide +kernel
theorem dX7_faultOfCommand_20 : decode cX7_faultOfCommand 20 = .ok (.iaload, 1) := by decide +kernel
theorem dX7_faultOfCommand_21 : decode cX7_faultOfCommand 21 = .ok (.istore 5, 2) := by decide +kernel
theorem dX7_faultOfCommand_23 : decode cX7_faultOfCommand 23 = .ok (.aload_n 1, 1) := by decide +kernel
theorem dX7_faultOfCommand_24 : decode cX7_faultOfCommand 24 = .ok (.getfield 355, 3) := by decide +kernel
theorem dX7_faultOfCommand_27 : decode cX7_faultOfCommand 27 = .ok (.iload_n 2, 1) := by decide +kernel
theorem dX7_faultOfCommand_28 : decode cX7_faultOfCommand 28 = .ok (.iaload, 1) := by decide +kernel
theorem dX7_faultOfCommand_29 : decode cX7_faultOfCommand 29 = .ok (.tableswitch 157 97 119 #[117, 157, 107, 117, 157, 157, 157, 157, 157, 157, 157, 157, 157, 151, 157, 133, 157, 157, 141, 157, 157, 157, 125], 107) := by decide +kernel
theorem dX7_faultOfCommand_136 : decode cX7_faultOfCommand 136 = .ok (.aload_n 0, 1) := by decide +kernel
theorem dX7_faultOfCommand_137 : decode cX7_faultOfCommand 137 = .ok (.iload_n 3, 1) := by decide +kernel
theorem dX7_faultOfCommand_138 : decode cX7_faultOfCommand 138 = .ok (.iload 4, 2) := by decide +kernel
theorem dX7_faultOfCommand_140 : decode cX7_faultOfCommand 140 = .ok (.iload 5, 2) := by decide +kernel
theorem dX7_faultOfCommand_142 : decode cX7_faultOfCommand 142 = .ok (.invokevirtual 113, 3) := by decide +kernel
theorem dX7_faultOfCommand_145 : decode cX7_faultOfCommand 145 = .ok (.ireturn, 1) := by decide +kernel
theorem dX7_faultOfCommand_146 : decode cX7_faultOfCommand 146 = .ok (.aload_n 0, 1) := by decide +kernel
theorem dX7_faultOfCommand_147 : decode cX7_faultOfCommand 147 = .ok (.iload_n 3, 1) := by decide +kernel
theorem dX7_faultOfCommand_148 : decode cX7_faultOfCommand 148 = .ok (.iload 5, 2) := by decide +kernel
theorem dX7_faultOfCommand_150 : decode cX7_faultOfCommand 150 = .ok (.invokevirtual 124, 3) := by decide +kernel
theorem dX7_faultOfCommand_153 : decode cX7_faultOfCommand 153 = .ok (.ireturn, 1) := by decide +kernel
theorem dX7_faultOfCommand_154 : decode cX7_faultOfCommand 154 = .ok (.aload_n 0, 1) := by decide +kernel
theorem dX7_faultOfCommand_155 : decode cX7_faultOfCommand 155 = .ok (.iload_n 3, 1) := by decide +kernel
theorem dX7_faultOfCommand_156 : decode cX7_faultOfCommand 156 = .ok (.iload 5, 2) := by decide +kernel
theorem dX7_faultOfCommand_158 : decode cX7_faultOfCommand 158 = .ok (.invokevirtual 138, 3) := by decide +kernel
theorem dX7_faultOfCommand_161 : decode cX7_faultOfCommand 161 = .ok (.ireturn, 1) := by decide +kernel
theorem dX7_faultOfCommand_162 : decode cX7_faultOfCommand 162 = .ok (.aload_n 0, 1) := by decide +kernel
theorem dX7_faultOfCommand_163 : decode cX7_faultOfCommand 163 = .ok (.iload_n 3, 1) := by decide +kernel
theorem dX7_faultOfCommand_164 : decode cX7_faultOfCommand 164 = .ok (.iload 5, 2) := by decide +kernel
theorem dX7_faultOfCommand_166 : decode cX7_faultOfCommand 166 = .ok (.invokevirtual 180, 3) := by decide +kernel
theorem dX7_faultOfCommand_169 : decode cX7_faultOfCommand 169 = .ok (.ireturn, 1) := by decide +kernel
theorem dX7_faultOfCommand_170 : decode cX7_faultOfCommand 170 = .ok (.aload_n 0, 1) := by decide +kernel
theorem dX7_faultOfCommand_171 : decode cX7_faultOfCommand 171 = .ok (.iload_n 3, 1) := by decide +kernel
theorem dX7_faultOfCommand_172 : decode cX7_faultOfCommand 172 = .ok (.iload 4, 2) := by decide +kernel
theorem dX7_faultOfCommand_174 : decode cX7_faultOfCommand 174 = .ok (.iload 5, 2) := by decide +kernel
theorem dX7_faultOfCommand_176 : decode cX7_faultOfCommand 176 = .ok (.invokevirtual 221, 3) := by decide +kernel
theorem dX7_faultOfCommand_179 : decode cX7_faultOfCommand 179 = .ok (.ireturn, 1) := by decide +kernel
theorem dX7_faultOfCommand_180 : decode cX7_faultOfCommand 180 = .ok (.aload_n 0, 1) := by decide +kernel
theorem dX7_faultOfCommand_181 : decode cX7_faultOfCommand 181 = .ok (.iload_n 3, 1) := by decide +kernel
theorem dX7_faultOfCommand_182 : decode cX7_faultOfCommand 182 = .ok (.invokevirtual 261, 3) := by decide +kernel
theorem dX7_faultOfCommand_185 : decode cX7_faultOfCommand 185 = .ok (.ireturn, 1) := by decide +kernel
theorem dX7_faultOfCommand_186 : decode cX7_faultOfCommand 186 = .ok (.aload_n 0, 1) := by decide +kernel
theorem dX7_faultOfCommand_187 : decode cX7_faultOfCommand 187 = .ok (.invokevirtual 267, 3) := by decide +kernel
theorem dX7_faultOfCommand_190 : decode cX7_faultOfCommand 190 = .ok (.ireturn, 1) := by decide +kernel
theorem dX7_perform_0 : decode cX7_perform 0 = .ok (.aload_n 1, 1) := by decide +kernel
theorem dX7_perform_1 : decode cX7_perform 1 = .ok (.getfield 347, 3) := by decide +kernel
theorem dX7_perform_4 : decode cX7_perform 4 = .ok (.iload_n 2, 1) := by decide +kernel
theorem dX7_perform_5 : decode cX7_perform 5 = .ok (.iaload, 1) := by decide +kernel
theorem dX7_perform_6 : decode cX7_perform 6 = .ok (.istore_n 3, 1) := by decide +kernel
theorem dX7_perform_7 : decode cX7_perform 7 = .ok (.aload_n 1, 1) := by decide +kernel
theorem dX7_perform_8 : decode cX7_perform 8 = .ok (.getfield 350, 3) := by decide +kernel
theorem dX7_perform_11 : decode cX7_perform 11 = .ok (.iload_n 2, 1) := by decide +kernel
theorem dX7_perform_12 : decode cX7_perform 12 = .ok (.iaload, 1) := by decide +kernel
theorem dX7_perform_13 : decode cX7_perform 13 = .ok (.istore 4, 2) := by decide +kernel
theorem dX7_perform_15 : decode cX7_perform 15 = .ok (.aload_n 1, 1) := by decide +kernel
theorem dX7_perform_16 : decode cX7_perform 16 = .ok (.getfield 353, 3) := by decide +kernel
theorem dX7_perform_19 : decode cX7_perform 19 = .ok (.iload_n 2, 1) := by decide +kernel
theorem dX7_perform_20 : decode cX7_perform 20 = .ok (.iaload, 1) := by decide +kernel
theorem dX7_perform_21 : decode cX7_perform 21 = .ok (.istore 5, 2) := by decide +kernel
theorem dX7_perform_23 : decode cX7_perform 23 = .ok (.aload_n 1, 1) := by decide +kernel
theorem dX7_perform_24 : decode cX7_perform 24 = .ok (.getfield 355, 3) := by decide +kernel
theorem dX7_perform_27 : decode cX7_perform 27 = .ok (.iload_n 2, 1) := by decide +kernel
theorem dX7_perform_28 : decode cX7_perform 28 = .ok (.iaload, 1) := by decide +kernel
theorem dX7_perform_29 : decode cX7_perform 29 = .ok (.tableswitch 185 97 119 #[123, 185, 107, 133, 185, 185, 185, 185, 185, 185, 185, 185, 185, 176, 185, 153, 185, 185, 164, 185, 185, 185, 143], 107) := by decide +kernel
theorem dX7_perform_136 : decode cX7_perform 136 = .ok (.aload_n 0, 1) := by decide +kernel
theorem dX7_perform_137 : decode cX7_perform 137 = .ok (.getfield 116, 3) := by decide +kernel
theorem dX7_perform_140 : decode cX7_perform 140 = .ok (.iload_n 3, 1) := by decide +kernel
theorem dX7_perform_141 : decode cX7_perform 141 = .ok (.iload 4, 2) := by decide +kernel
theorem dX7_perform_143 : decode cX7_perform 143 = .ok (.iload 5, 2) := by decide +kernel
theorem dX7_perform_145 : decode cX7_perform 145 = .ok (.invokevirtual 120, 3) := by decide +kernel
theorem dX7_perform_148 : decode cX7_perform 148 = .ok (.pop, 1) := by decide +kernel
theorem dX7_perform_149 : decode cX7_perform 149 = .ok (.goto 69, 3) := by decide +kernel
theorem dX7_perform_152 : decode cX7_perform 152 = .ok (.aload_n 0, 1) := by decide +kernel
theorem dX7_perform_153 : decode cX7_perform 153 = .ok (.iload_n 3, 1) := by decide +kernel
theorem dX7_perform_154 : decode cX7_perform 154 = .ok (.iload 5, 2) := by decide +kernel
theorem dX7_perform_156 : decode cX7_perform 156 = .ok (.invokevirtual 127, 3) := by decide +kernel
theorem dX7_perform_159 : decode cX7_perform 159 = .ok (.goto 59, 3) := by decide +kernel
theorem dX7_perform_162 : decode cX7_perform 162 = .ok (.aload_n 0, 1) := by decide +kernel
theorem dX7_perform_163 : decode cX7_perform 163 = .ok (.iload_n 3, 1) := by decide +kernel
theorem dX7_perform_164 : decode cX7_perform 164 = .ok (.iload 5, 2) := by decide +kernel
theorem dX7_perform_166 : decode cX7_perform 166 = .ok (.invokevirtual 135, 3) := by decide +kernel
theorem dX7_perform_169 : decode cX7_perform 169 = .ok (.goto 49, 3) := by decide +kernel
theorem dX7_perform_172 : decode cX7_perform 172 = .ok (.aload_n 0, 1) := by decide +kernel
theorem dX7_perform_173 : decode cX7_perform 173 = .ok (.iload_n 3, 1) := by decide +kernel
theorem dX7_perform_174 : decode cX7_perform 174 = .ok (.iload 5, 2) := by decide +kernel
theorem dX7_perform_176 : decode cX7_perform 176 = .ok (.invokevirtual 141, 3) := by decide +kernel
theorem dX7_perform_179 : decode cX7_perform 179 = .ok (.goto 39, 3) := by decide +kernel
theorem dX7_perform_182 : decode cX7_perform 182 = .ok (.aload_n 0, 1) := by decide +kernel
theorem dX7_perform_183 : decode cX7_perform 183 = .ok (.iload_n 3, 1) := by decide +kernel
theorem dX7_perform_184 : decode cX7_perform 184 = .ok (.iload 5, 2) := by decide +kernel
theorem dX7_perform_186 : decode cX7_perform 186 = .ok (.i2l, 1) := by decide +kernel
theorem dX7_perform_187 : decode cX7_perform 187 = .ok (.invokevirtual 183, 3) := by decide +kernel
theorem dX7_perform_190 : decode cX7_perform 190 = .ok (.goto 28, 3) := by decide +kernel
theorem dX7_perform_193 : decode cX7_perform 193 = .ok (.aload_n 0, 1) := by decide +kernel
theorem dX7_perform_194 : decode cX7_perform 194 = .ok (.iload_n 3, 1) := by decide +kernel
theorem dX7_perform_195 : decode cX7_perform 195 = .ok (.iload 4, 2) := by decide +kernel
theorem dX7_perform_197 : decode cX7_perform 197 = .ok (.iload 5, 2) := by decide +kernel
theorem dX7_perform_199 : decode cX7_perform 199 = .ok (.invokevirtual 224, 3) := by decide +kernel
theorem dX7_perform_202 : decode cX7_perform 202 = .ok (.goto 16, 3) := by decide +kernel
theorem dX7_perform_205 : decode cX7_perform 205 = .ok (.aload_n 0, 1) := by decide +kernel
theorem dX7_perform_206 : decode cX7_perform 206 = .ok (.iload_n 3, 1) := by decide +kernel
theorem dX7_perform_207 : decode cX7_perform 207 = .ok (.invokevirtual 264, 3) := by decide +kernel
theorem dX7_perform_210 : decode cX7_perform 210 = .ok (.pop2, 1) := by decide +kernel
theorem dX7_perform_211 : decode cX7_perform 211 = .ok (.goto 7, 3) := by decide +kernel
theorem dX7_perform_214 : decode cX7_perform 214 = .ok (.aload_n 0, 1) := by decide +kernel
theorem dX7_perform_215 : decode cX7_perform 215 = .ok (.invokevirtual 271, 3) := by decide +kernel
theorem dX7_perform_218 : decode cX7_perform 218 = .ok (.return_, 1) := by decide +kernel
