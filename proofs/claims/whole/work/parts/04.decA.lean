theorem dX1_init_0 : decode cX1_init 0 = .ok (.aload_n 0, 1) := by decide +kernel
theorem dX1_init_1 : decode cX1_init 1 = .ok (.invokespecial 3, 3) := by decide +kernel
theorem dX1_init_4 : decode cX1_init 4 = .ok (.aload_n 0, 1) := by decide +kernel
theorem dX1_init_5 : decode cX1_init 5 = .ok (.iconst 0, 1) := by decide +kernel
theorem dX1_init_6 : decode cX1_init 6 = .ok (.putfield 9, 3) := by decide +kernel
theorem dX1_init_9 : decode cX1_init 9 = .ok (.aload_n 0, 1) := by decide +kernel
theorem dX1_init_10 : decode cX1_init 10 = .ok (.bipush 12, 2) := by decide +kernel
theorem dX1_init_12 : decode cX1_init 12 = .ok (.newarray .int, 2) := by decide +kernel
theorem dX1_init_14 : decode cX1_init 14 = .ok (.putfield 15, 3) := by decide +kernel
theorem dX1_init_17 : decode cX1_init 17 = .ok (.aload_n 0, 1) := by decide +kernel
theorem dX1_init_18 : decode cX1_init 18 = .ok (.bipush 12, 2) := by decide +kernel
theorem dX1_init_20 : decode cX1_init 20 = .ok (.newarray .int, 2) := by decide +kernel
theorem dX1_init_22 : decode cX1_init 22 = .ok (.putfield 19, 3) := by decide +kernel
theorem dX1_init_25 : decode cX1_init 25 = .ok (.aload_n 0, 1) := by decide +kernel
theorem dX1_init_26 : decode cX1_init 26 = .ok (.bipush 12, 2) := by decide +kernel
theorem dX1_init_28 : decode cX1_init 28 = .ok (.newarray .int, 2) := by decide +kernel
theorem dX1_init_30 : decode cX1_init 30 = .ok (.putfield 22, 3) := by decide +kernel
theorem dX1_init_33 : decode cX1_init 33 = .ok (.aload_n 0, 1) := by decide +kernel
theorem dX1_init_34 : decode cX1_init 34 = .ok (.bipush 12, 2) := by decide +kernel
theorem dX1_init_36 : decode cX1_init 36 = .ok (.newarray .int, 2) := by decide +kernel
theorem dX1_init_38 : decode cX1_init 38 = .ok (.putfield 25, 3) := by decide +kernel
theorem dX1_init_41 : decode cX1_init 41 = .ok (.aload_n 0, 1) := by decide +kernel
theorem dX1_init_42 : decode cX1_init 42 = .ok (.bipush 12, 2) := by decide +kernel
theorem dX1_init_44 : decode cX1_init 44 = .ok (.newarray .int, 2) := by decide +kernel
theorem dX1_init_46 : decode cX1_init 46 = .ok (.putfield 28, 3) := by decide +kernel
theorem dX1_init_49 : decode cX1_init 49 = .ok (.aload_n 0, 1) := by decide +kernel
theorem dX1_init_50 : decode cX1_init 50 = .ok (.bipush 12, 2) := by decide +kernel
theorem dX1_init_52 : decode cX1_init 52 = .ok (.newarray .int, 2) := by decide +kernel
theorem dX1_init_54 : decode cX1_init 54 = .ok (.putfield 31, 3) := by decide +kernel
theorem dX1_init_57 : decode cX1_init 57 = .ok (.return_, 1) := by decide +kernel
theorem dX1_copyFrom_0 : decode cX1_copyFrom 0 = .ok (.aload_n 0, 1) := by decide +kernel
theorem dX1_copyFrom_1 : decode cX1_copyFrom 1 = .ok (.aload_n 1, 1) := by decide +kernel
theorem dX1_copyFrom_2 : decode cX1_copyFrom 2 = .ok (.getfield 9, 3) := by decide +kernel
theorem dX1_copyFrom_5 : decode cX1_copyFrom 5 = .ok (.putfield 9, 3) := by decide +kernel
theorem dX1_copyFrom_8 : decode cX1_copyFrom 8 = .ok (.aload_n 1, 1) := by decide +kernel
theorem dX1_copyFrom_9 : decode cX1_copyFrom 9 = .ok (.getfield 15, 3) := by decide +kernel
theorem dX1_copyFrom_12 : decode cX1_copyFrom 12 = .ok (.iconst 0, 1) := by decide +kernel
theorem dX1_copyFrom_13 : decode cX1_copyFrom 13 = .ok (.aload_n 0, 1) := by decide +kernel
theorem dX1_copyFrom_14 : decode cX1_copyFrom 14 = .ok (.getfield 15, 3) := by decide +kernel
theorem dX1_copyFrom_17 : decode cX1_copyFrom 17 = .ok (.iconst 0, 1) := by decide +kernel
theorem dX1_copyFrom_18 : decode cX1_copyFrom 18 = .ok (.bipush 12, 2) := by decide +kernel
theorem dX1_copyFrom_20 : decode cX1_copyFrom 20 = .ok (.invokestatic 34, 3) := by decide +kernel
theorem dX1_copyFrom_23 : decode cX1_copyFrom 23 = .ok (.aload_n 1, 1) := by decide +kernel
theorem dX1_copyFrom_24 : decode cX1_copyFrom 24 = .ok (.getfield 19, 3) := by decide +kernel
theorem dX1_copyFrom_27 : decode cX1_copyFrom 27 = .ok (.iconst 0, 1) := by decide +kernel
theorem dX1_copyFrom_28 : decode cX1_copyFrom 28 = .ok (.aload_n 0, 1) := by decide +kernel
theorem dX1_copyFrom_29 : decode cX1_copyFrom 29 = .ok (.getfield 19, 3) := by decide +kernel
theorem dX1_copyFrom_32 : decode cX1_copyFrom 32 = .ok (.iconst 0, 1) := by decide +kernel
theorem dX1_copyFrom_33 : decode cX1_copyFrom 33 = .ok (.bipush 12, 2) := by decide +kernel
theorem dX1_copyFrom_35 : decode cX1_copyFrom 35 = .ok (.invokestatic 34, 3) := by decide +kernel
theorem dX1_copyFrom_38 : decode cX1_copyFrom 38 = .ok (.aload_n 1, 1) := by decide +kernel
theorem dX1_copyFrom_39 : decode cX1_copyFrom 39 = .ok (.getfield 22, 3) := by decide +kernel
theorem dX1_copyFrom_42 : decode cX1_copyFrom 42 = .ok (.iconst 0, 1) := by decide +kernel
theorem dX1_copyFrom_43 : decode cX1_copyFrom 43 = .ok (.aload_n 0, 1) := by decide +kernel
theorem dX1_copyFrom_44 : decode cX1_copyFrom 44 = .ok (.getfield 22, 3) := by decide +kernel
theorem dX1_copyFrom_47 : decode cX1_copyFrom 47 = .ok (.iconst 0, 1) := by decide +kernel
theorem dX1_copyFrom_48 : decode cX1_copyFrom 48 = .ok (.bipush 12, 2) := by decide +kernel
theorem dX1_copyFrom_50 : decode cX1_copyFrom 50 = .ok (.invokestatic 34, 3) := by decide +kernel
theorem dX1_copyFrom_53 : decode cX1_copyFrom 53 = .ok (.aload_n 1, 1) := by decide +kernel
theorem dX1_copyFrom_54 : decode cX1_copyFrom 54 = .ok (.getfield 25, 3) := by decide +kernel
theorem dX1_copyFrom_57 : decode cX1_copyFrom 57 = .ok (.iconst 0, 1) := by decide +kernel
theorem dX1_copyFrom_58 : decode cX1_copyFrom 58 = .ok (.aload_n 0, 1) := by decide +kernel
theorem dX1_copyFrom_59 : decode cX1_copyFrom 59 = .ok (.getfield 25, 3) := by decide +kernel
theorem dX1_copyFrom_62 : decode cX1_copyFrom 62 = .ok (.iconst 0, 1) := by decide +kernel
theorem dX1_copyFrom_63 : decode cX1_copyFrom 63 = .ok (.bipush 12, 2) := by decide +kernel
theorem dX1_copyFrom_65 : decode cX1_copyFrom 65 = .ok (.invokestatic 34, 3) := by decide +kernel
theorem dX1_copyFrom_68 : decode cX1_copyFrom 68 = .ok (.aload_n 1, 1) := by decide +kernel
theorem dX1_copyFrom_69 : decode cX1_copyFrom 69 = .ok (.getfield 28, 3) := by decide +kernel
theorem dX1_copyFrom_72 : decode cX1_copyFrom 72 = .ok (.iconst 0, 1) := by decide +kernel
theorem dX1_copyFrom_73 : decode cX1_copyFrom 73 = .ok (.aload_n 0, 1) := by decide +kernel
theorem dX1_copyFrom_74 : decode cX1_copyFrom 74 = .ok (.getfield 28, 3) := by decide +kernel
theorem dX1_copyFrom_77 : decode cX1_copyFrom 77 = .ok (.iconst 0, 1) := by decide +kernel
theorem dX1_copyFrom_78 : decode cX1_copyFrom 78 = .ok (.bipush 12, 2) := by decide +kernel
theorem dX1_copyFrom_80 : decode cX1_copyFrom 80 = .ok (.invokestatic 34, 3) := by decide +kernel
theorem dX1_copyFrom_83 : decode cX1_copyFrom 83 = .ok (.aload_n 1, 1) := by decide +kernel
theorem dX1_copyFrom_84 : decode cX1_copyFrom 84 = .ok (.getfield 31, 3) := by decide +kernel
theorem dX1_copyFrom_87 : decode cX1_copyFrom 87 = .ok (.iconst 0, 1) := by decide +kernel
theorem dX1_copyFrom_88 : decode cX1_copyFrom 88 = .ok (.aload_n 0, 1) := by decide +kernel
theorem dX1_copyFrom_89 : decode cX1_copyFrom 89 = .ok (.getfield 31, 3) := by decide +kernel
theorem dX1_copyFrom_92 : decode cX1_copyFrom 92 = .ok (.iconst 0, 1) := by decide +kernel
theorem dX1_copyFrom_93 : decode cX1_copyFrom 93 = .ok (.bipush 12, 2) := by decide +kernel
theorem dX1_copyFrom_95 : decode cX1_copyFrom 95 = .ok (.invokestatic 34, 3) := by decide +kernel
theorem dX1_copyFrom_98 : decode cX1_copyFrom 98 = .ok (.return_, 1) := by decide +kernel
theorem dX1_has_0 : decode cX1_has 0 = .ok (.iload_n 1, 1) := by decide +kernel
theorem dX1_has_1 : decode cX1_has 1 = .ok (.ifCond .lt 15, 3) := by decide +kernel
theorem dX1_has_4 : decode cX1_has 4 = .ok (.iload_n 1, 1) := by decide +kernel
theorem dX1_has_5 : decode cX1_has 5 = .ok (.aload_n 0, 1) := by decide +kernel
theorem dX1_has_6 : decode cX1_has 6 = .ok (.getfield 9, 3) := by decide +kernel
theorem dX1_has_9 : decode cX1_has 9 = .ok (.if_icmp .ge 7, 3) := by decide +kernel
theorem dX1_has_12 : decode cX1_has 12 = .ok (.iconst 1, 1) := by decide +kernel
theorem dX1_has_13 : decode cX1_has 13 = .ok (.goto 4, 3) := by decide +kernel
theorem dX1_has_16 : decode cX1_has 16 = .ok (.iconst 0, 1) := by decide +kernel
theorem dX1_has_17 : decode cX1_has 17 = .ok (.ireturn, 1) := by decide +kernel
theorem dX1_addOne_0 : decode cX1_addOne 0 = .ok (.aload_n 0, 1) := by decide +kernel
theorem dX1_addOne_1 : decode cX1_addOne 1 = .ok (.getfield 9, 3) := by decide +kernel
theorem dX1_addOne_4 : decode cX1_addOne 4 = .ok (.istore 4, 2) := by decide +kernel
theorem dX1_addOne_6 : decode cX1_addOne 6 = .ok (.iload 4, 2) := by decide +kernel
theorem dX1_addOne_8 : decode cX1_addOne 8 = .ok (.bipush 12, 2) := by decide +kernel
theorem dX1_addOne_10 : decode cX1_addOne 10 = .ok (.if_icmp .lt 5, 3) := by decide +kernel
theorem dX1_addOne_13 : decode cX1_addOne 13 = .ok (.iconst (-1), 1) := by decide +kernel
theorem dX1_addOne_14 : decode cX1_addOne 14 = .ok (.ireturn, 1) := by decide +kernel
theorem dX1_addOne_15 : decode cX1_addOne 15 = .ok (.aload_n 0, 1) := by decide +kernel
theorem dX1_addOne_16 : decode cX1_addOne 16 = .ok (.getfield 15, 3) := by decide +kernel
theorem dX1_addOne_19 : decode cX1_addOne 19 = .ok (.iload 4, 2) := by decide +kernel
theorem dX1_addOne_21 : decode cX1_addOne 21 = .ok (.iload_n 1, 1) := by decide +kernel
theorem dX1_addOne_22 : decode cX1_addOne 22 = .ok (.iastore, 1) := by decide +kernel
theorem dX1_addOne_23 : decode cX1_addOne 23 = .ok (.aload_n 0, 1) := by decide +kernel
theorem dX1_addOne_24 : decode cX1_addOne 24 = .ok (.getfield 19, 3) := by decide +kernel
theorem dX1_addOne_27 : decode cX1_addOne 27 = .ok (.iload 4, 2) := by decide +kernel
theorem dX1_addOne_29 : decode cX1_addOne 29 = .ok (.iload_n 2, 1) := by decide +kernel
theorem dX1_addOne_30 : decode cX1_addOne 30 = .ok (.iastore, 1) := by decide +kernel
theorem dX1_addOne_31 : decode cX1_addOne 31 = .ok (.aload_n 0, 1) := by decide +kernel
theorem dX1_addOne_32 : decode cX1_addOne 32 = .ok (.getfield 22, 3) := by decide +kernel
theorem dX1_addOne_35 : decode cX1_addOne 35 = .ok (.iload 4, 2) := by decide +kernel
theorem dX1_addOne_37 : decode cX1_addOne 37 = .ok (.iload_n 3, 1) := by decide +kernel
theorem dX1_addOne_38 : decode cX1_addOne 38 = .ok (.iastore, 1) := by decide +kernel
theorem dX1_addOne_39 : decode cX1_addOne 39 = .ok (.aload_n 0, 1) := by decide +kernel
theorem dX1_addOne_40 : decode cX1_addOne 40 = .ok (.getfield 25, 3) := by decide +kernel
theorem dX1_addOne_43 : decode cX1_addOne 43 = .ok (.iload 4, 2) := by decide +kernel
theorem dX1_addOne_45 : decode cX1_addOne 45 = .ok (.iconst 0, 1) := by decide +kernel
theorem dX1_addOne_46 : decode cX1_addOne 46 = .ok (.iastore, 1) := by decide +kernel
theorem dX1_addOne_47 : decode cX1_addOne 47 = .ok (.aload_n 0, 1) := by decide +kernel
theorem dX1_addOne_48 : decode cX1_addOne 48 = .ok (.getfield 28, 3) := by decide +kernel
theorem dX1_addOne_51 : decode cX1_addOne 51 = .ok (.iload 4, 2) := by decide +kernel
theorem dX1_addOne_53 : decode cX1_addOne 53 = .ok (.iconst 0, 1) := by decide +kernel
theorem dX1_addOne_54 : decode cX1_addOne 54 = .ok (.iastore, 1) := by decide +kernel
theorem dX1_addOne_55 : decode cX1_addOne 55 = .ok (.aload_n 0, 1) := by decide +kernel
theorem dX1_addOne_56 : decode cX1_addOne 56 = .ok (.getfield 31, 3) := by decide +kernel
theorem dX1_addOne_59 : decode cX1_addOne 59 = .ok (.iload 4, 2) := by decide +kernel
theorem dX1_addOne_61 : decode cX1_addOne 61 = .ok (.iconst 0, 1) := by decide +kernel
theorem dX1_addOne_62 : decode cX1_addOne 62 = .ok (.iastore, 1) := by decide +kernel
theorem dX1_addOne_63 : decode cX1_addOne 63 = .ok (.aload_n 0, 1) := by decide +kernel
theorem dX1_addOne_64 : decode cX1_addOne 64 = .ok (.dup, 1) := by decide +kernel
theorem dX1_addOne_65 : decode cX1_addOne 65 = .ok (.getfield 9, 3) := by decide +kernel
theorem dX1_addOne_68 : decode cX1_addOne 68 = .ok (.iconst 1, 1) := by decide +kernel
theorem dX1_addOne_69 : decode cX1_addOne 69 = .ok (.iadd, 1) := by decide +kernel
theorem dX1_addOne_70 : decode cX1_addOne 70 = .ok (.putfield 9, 3) := by decide +kernel
theorem dX1_addOne_73 : decode cX1_addOne 73 = .ok (.iload 4, 2) := by decide +kernel
theorem dX1_addOne_75 : decode cX1_addOne 75 = .ok (.ireturn, 1) := by decide +kernel
theorem dX1_leftOf_0 : decode cX1_leftOf 0 = .ok (.aload_n 0, 1) := by decide +kernel
theorem dX1_leftOf_1 : decode cX1_leftOf 1 = .ok (.getfield 22, 3) := by decide +kernel
theorem dX1_leftOf_4 : decode cX1_leftOf 4 = .ok (.iload_n 1, 1) := by decide +kernel
theorem dX1_leftOf_5 : decode cX1_leftOf 5 = .ok (.iaload, 1) := by decide +kernel
theorem dX1_leftOf_6 : decode cX1_leftOf 6 = .ok (.aload_n 0, 1) := by decide +kernel
theorem dX1_leftOf_7 : decode cX1_leftOf 7 = .ok (.getfield 25, 3) := by decide +kernel
theorem dX1_leftOf_10 : decode cX1_leftOf 10 = .ok (.iload_n 1, 1) := by decide +kernel
theorem dX1_leftOf_11 : decode cX1_leftOf 11 = .ok (.iaload, 1) := by decide +kernel
theorem dX1_leftOf_12 : decode cX1_leftOf 12 = .ok (.isub, 1) := by decide +kernel
theorem dX1_leftOf_13 : decode cX1_leftOf 13 = .ok (.aload_n 0, 1) := by decide +kernel
theorem dX1_leftOf_14 : decode cX1_leftOf 14 = .ok (.getfield 28, 3) := by decide +kernel
theorem dX1_leftOf_17 : decode cX1_leftOf 17 = .ok (.iload_n 1, 1) := by decide +kernel
theorem dX1_leftOf_18 : decode cX1_leftOf 18 = .ok (.iaload, 1) := by decide +kernel
theorem dX1_leftOf_19 : decode cX1_leftOf 19 = .ok (.isub, 1) := by decide +kernel
theorem dX1_leftOf_20 : decode cX1_leftOf 20 = .ok (.aload_n 0, 1) := by decide +kernel
theorem dX1_leftOf_21 : decode cX1_leftOf 21 = .ok (.getfield 31, 3) := by decide +kernel
theorem dX1_leftOf_24 : decode cX1_leftOf 24 = .ok (.iload_n 1, 1) := by decide +kernel
theorem dX1_leftOf_25 : decode cX1_leftOf 25 = .ok (.iaload, 1) := by decide +kernel
theorem dX1_leftOf_26 : decode cX1_leftOf 26 = .ok (.isub, 1) := by decide +kernel
theorem dX1_leftOf_27 : decode cX1_leftOf 27 = .ok (.ireturn, 1) := by decide +kernel
theorem dX1_numberOf_0 : decode cX1_numberOf 0 = .ok (.iload_n 2, 1) := by decide +kernel
theorem dX1_numberOf_1 : decode cX1_numberOf 1 = .ok (.tableswitch 81 0 5 #[39, 46, 53, 60, 67, 74], 39) := by decide +kernel
theorem dX1_numberOf_40 : decode cX1_numberOf 40 = .ok (.aload_n 0, 1) := by decide +kernel
theorem dX1_numberOf_41 : decode cX1_numberOf 41 = .ok (.getfield 15, 3) := by decide +kernel
theorem dX1_numberOf_44 : decode cX1_numberOf 44 = .ok (.iload_n 1, 1) := by decide +kernel
theorem dX1_numberOf_45 : decode cX1_numberOf 45 = .ok (.iaload, 1) := by decide +kernel
theorem dX1_numberOf_46 : decode cX1_numberOf 46 = .ok (.ireturn, 1) := by decide +kernel
theorem dX1_numberOf_47 : decode cX1_numberOf 47 = .ok (.aload_n 0, 1) := by decide +kernel
theorem dX1_numberOf_48 : decode cX1_numberOf 48 = .ok (.getfield 19, 3) := by decide +kernel
theorem dX1_numberOf_51 : decode cX1_numberOf 51 = .ok (.iload_n 1, 1) := by decide +kernel
theorem dX1_numberOf_52 : decode cX1_numberOf 52 = .ok (.iaload, 1) := by decide +kernel
theorem dX1_numberOf_53 : decode cX1_numberOf 53 = .ok (.ireturn, 1) := by decide +kernel
theorem dX1_numberOf_54 : decode cX1_numberOf 54 = .ok (.aload_n 0, 1) := by decide +kernel
theorem dX1_numberOf_55 : decode cX1_numberOf 55 = .ok (.getfield 22, 3) := by decide +kernel
theorem dX1_numberOf_58 : decode cX1_numberOf 58 = .ok (.iload_n 1, 1) := by decide +kernel
theorem dX1_numberOf_59 : decode cX1_numberOf 59 = .ok (.iaload, 1) := by decide +kernel
theorem dX1_numberOf_60 : decode cX1_numberOf 60 = .ok (.ireturn, 1) := by decide +kernel
theorem dX1_numberOf_61 : decode cX1_numberOf 61 = .ok (.aload_n 0, 1) := by decide +kernel
theorem dX1_numberOf_62 : decode cX1_numberOf 62 = .ok (.getfield 25, 3) := by decide +kernel
theorem dX1_numberOf_65 : decode cX1_numberOf 65 = .ok (.iload_n 1, 1) := by decide +kernel
theorem dX1_numberOf_66 : decode cX1_numberOf 66 = .ok (.iaload, 1) := by decide +kernel
theorem dX1_numberOf_67 : decode cX1_numberOf 67 = .ok (.ireturn, 1) := by decide +kernel
theorem dX1_numberOf_68 : decode cX1_numberOf 68 = .ok (.aload_n 0, 1) := by decide +kernel
theorem dX1_numberOf_69 : decode cX1_numberOf 69 = .ok (.getfield 28, 3) := by decide +kernel
theorem dX1_numberOf_72 : decode cX1_numberOf 72 = .ok (.iload_n 1, 1) := by decide +kernel
theorem dX1_numberOf_73 : decode cX1_numberOf 73 = .ok (.iaload, 1) := by decide +kernel
theorem dX1_numberOf_74 : decode cX1_numberOf 74 = .ok (.ireturn, 1) := by decide +kernel
theorem dX1_numberOf_75 : decode cX1_numberOf 75 = .ok (.aload_n 0, 1) := by decide +kernel
theorem dX1_numberOf_76 : decode cX1_numberOf 76 = .ok (.getfield 31, 3) := by decide +kernel
theorem dX1_numberOf_79 : decode cX1_numberOf 79 = .ok (.iload_n 1, 1) := by decide +kernel
theorem dX1_numberOf_80 : decode cX1_numberOf 80 = .ok (.iaload, 1) := by decide +kernel
theorem dX1_numberOf_81 : decode cX1_numberOf 81 = .ok (.ireturn, 1) := by decide +kernel
theorem dX1_numberOf_82 : decode cX1_numberOf 82 = .ok (.aload_n 0, 1) := by decide +kernel
theorem dX1_numberOf_83 : decode cX1_numberOf 83 = .ok (.iload_n 1, 1) := by decide +kernel
theorem dX1_numberOf_84 : decode cX1_numberOf 84 = .ok (.invokevirtual 40, 3) := by decide +kernel
theorem dX1_numberOf_87 : decode cX1_numberOf 87 = .ok (.ireturn, 1) := by decide +kernel
theorem dX1_sumInDispute_0 : decode cX1_sumInDispute 0 = .ok (.lconst 0, 1) := by decide +kernel
theorem dX1_sumInDispute_1 : decode cX1_sumInDispute 1 = .ok (.lstore_n 1, 1) := by decide +kernel
theorem dX1_sumInDispute_2 : decode cX1_sumInDispute 2 = .ok (.iconst 0, 1) := by decide +kernel
theorem dX1_sumInDispute_3 : decode cX1_sumInDispute 3 = .ok (.istore_n 3, 1) := by decide +kernel
theorem dX1_sumInDispute_4 : decode cX1_sumInDispute 4 = .ok (.iload_n 3, 1) := by decide +kernel
theorem dX1_sumInDispute_5 : decode cX1_sumInDispute 5 = .ok (.aload_n 0, 1) := by decide +kernel
theorem dX1_sumInDispute_6 : decode cX1_sumInDispute 6 = .ok (.getfield 9, 3) := by decide +kernel
theorem dX1_sumInDispute_9 : decode cX1_sumInDispute 9 = .ok (.if_icmp .ge 26, 3) := by decide +kernel
theorem dX1_sumInDispute_12 : decode cX1_sumInDispute 12 = .ok (.lload_n 1, 1) := by decide +kernel
theorem dX1_sumInDispute_13 : decode cX1_sumInDispute 13 = .ok (.aload_n 0, 1) := by decide +kernel
theorem dX1_sumInDispute_14 : decode cX1_sumInDispute 14 = .ok (.getfield 22, 3) := by decide +kernel
theorem dX1_sumInDispute_17 : decode cX1_sumInDispute 17 = .ok (.iload_n 3, 1) := by decide +kernel
theorem dX1_sumInDispute_18 : decode cX1_sumInDispute 18 = .ok (.iaload, 1) := by decide +kernel
theorem dX1_sumInDispute_19 : decode cX1_sumInDispute 19 = .ok (.aload_n 0, 1) := by decide +kernel
theorem dX1_sumInDispute_20 : decode cX1_sumInDispute 20 = .ok (.getfield 31, 3) := by decide +kernel
theorem dX1_sumInDispute_23 : decode cX1_sumInDispute 23 = .ok (.iload_n 3, 1) := by decide +kernel
theorem dX1_sumInDispute_24 : decode cX1_sumInDispute 24 = .ok (.iaload, 1) := by decide +kernel
theorem dX1_sumInDispute_25 : decode cX1_sumInDispute 25 = .ok (.isub, 1) := by decide +kernel
theorem dX1_sumInDispute_26 : decode cX1_sumInDispute 26 = .ok (.i2l, 1) := by decide +kernel
theorem dX1_sumInDispute_27 : decode cX1_sumInDispute 27 = .ok (.ladd, 1) := by decide +kernel
theorem dX1_sumInDispute_28 : decode cX1_sumInDispute 28 = .ok (.lstore_n 1, 1) := by decide +kernel
theorem dX1_sumInDispute_29 : decode cX1_sumInDispute 29 = .ok (.iinc 3 1, 3) := by decide +kernel
theorem dX1_sumInDispute_32 : decode cX1_sumInDispute 32 = .ok (.goto (-28), 3) := by decide +kernel
theorem dX1_sumInDispute_35 : decode cX1_sumInDispute 35 = .ok (.lload_n 1, 1) := by decide +kernel
theorem dX1_sumInDispute_36 : decode cX1_sumInDispute 36 = .ok (.lreturn, 1) := by decide +kernel
theorem dX1_allLeft_0 : decode cX1_allLeft 0 = .ok (.lconst 0, 1) := by decide +kernel
theorem dX1_allLeft_1 : decode cX1_allLeft 1 = .ok (.lstore_n 1, 1) := by decide +kernel
theorem dX1_allLeft_2 : decode cX1_allLeft 2 = .ok (.iconst 0, 1) := by decide +kernel
theorem dX1_allLeft_3 : decode cX1_allLeft 3 = .ok (.istore_n 3, 1) := by decide +kernel
theorem dX1_allLeft_4 : decode cX1_allLeft 4 = .ok (.iload_n 3, 1) := by decide +kernel
theorem dX1_allLeft_5 : decode cX1_allLeft 5 = .ok (.aload_n 0, 1) := by decide +kernel
theorem dX1_allLeft_6 : decode cX1_allLeft 6 = .ok (.getfield 9, 3) := by decide +kernel
theorem dX1_allLeft_9 : decode cX1_allLeft 9 = .ok (.if_icmp .ge 18, 3) := by decide +kernel
theorem dX1_allLeft_12 : decode cX1_allLeft 12 = .ok (.lload_n 1, 1) := by decide +kernel
theorem dX1_allLeft_13 : decode cX1_allLeft 13 = .ok (.aload_n 0, 1) := by decide +kernel
theorem dX1_allLeft_14 : decode cX1_allLeft 14 = .ok (.iload_n 3, 1) := by decide +kernel
theorem dX1_allLeft_15 : decode cX1_allLeft 15 = .ok (.invokevirtual 40, 3) := by decide +kernel
theorem dX1_allLeft_18 : decode cX1_allLeft 18 = .ok (.i2l, 1) := by decide +kernel
theorem dX1_allLeft_19 : decode cX1_allLeft 19 = .ok (.ladd, 1) := by decide +kernel
theorem dX1_allLeft_20 : decode cX1_allLeft 20 = .ok (.lstore_n 1, 1) := by decide +kernel
theorem dX1_allLeft_21 : decode cX1_allLeft 21 = .ok (.iinc 3 1, 3) := by decide +kernel
theorem dX1_allLeft_24 : decode cX1_allLeft 24 = .ok (.goto (-20), 3) := by decide +kernel
theorem dX1_allLeft_27 : decode cX1_allLeft 27 = .ok (.lload_n 1, 1) := by decide +kernel
theorem dX1_allLeft_28 : decode cX1_allLeft 28 = .ok (.lreturn, 1) := by decide +kernel
theorem dX2_init_0 : decode cX2_init 0 = .ok (.aload_n 0, 1) := by decide +kernel
theorem dX2_init_1 : decode cX2_init 1 = .ok (.invokespecial 3, 3) := by decide +kernel
theorem dX2_init_4 : decode cX2_init 4 = .ok (.aload_n 0, 1) := by decide +kernel
theorem dX2_init_5 : decode cX2_init 5 = .ok (.iconst 0, 1) := by decide +kernel
theorem dX2_init_6 : decode cX2_init 6 = .ok (.putfield 9, 3) := by decide +kernel
theorem dX2_init_9 : decode cX2_init 9 = .ok (.aload_n 0, 1) := by decide +kernel
theorem dX2_init_10 : decode cX2_init 10 = .ok (.bipush 30, 2) := by decide +kernel
theorem dX2_init_12 : decode cX2_init 12 = .ok (.newarray .int, 2) := by decide +kernel
theorem dX2_init_14 : decode cX2_init 14 = .ok (.putfield 15, 3) := by decide +kernel
theorem dX2_init_17 : decode cX2_init 17 = .ok (.aload_n 0, 1) := by decide +kernel
theorem dX2_init_18 : decode cX2_init 18 = .ok (.bipush 30, 2) := by decide +kernel
theorem dX2_init_20 : decode cX2_init 20 = .ok (.newarray .int, 2) := by decide +kernel
theorem dX2_init_22 : decode cX2_init 22 = .ok (.putfield 19, 3) := by decide +kernel
theorem dX2_init_25 : decode cX2_init 25 = .ok (.aload_n 0, 1) := by decide +kernel
theorem dX2_init_26 : decode cX2_init 26 = .ok (.bipush 30, 2) := by decide +kernel
theorem dX2_init_28 : decode cX2_init 28 = .ok (.newarray .long, 2) := by decide +kernel
theorem dX2_init_30 : decode cX2_init 30 = .ok (.putfield 22, 3) := by decide +kernel
theorem dX2_init_33 : decode cX2_init 33 = .ok (.aload_n 0, 1) := by decide +kernel
theorem dX2_init_34 : decode cX2_init 34 = .ok (.bipush 30, 2) := by decide +kernel
theorem dX2_init_36 : decode cX2_init 36 = .ok (.newarray .long, 2) := by decide +kernel
theorem dX2_init_38 : decode cX2_init 38 = .ok (.putfield 26, 3) := by decide +kernel
theorem dX2_init_41 : decode cX2_init 41 = .ok (.aload_n 0, 1) := by decide +kernel
theorem dX2_init_42 : decode cX2_init 42 = .ok (.bipush 30, 2) := by decide +kernel
theorem dX2_init_44 : decode cX2_init 44 = .ok (.newarray .long, 2) := by decide +kernel
theorem dX2_init_46 : decode cX2_init 46 = .ok (.putfield 29, 3) := by decide +kernel
theorem dX2_init_49 : decode cX2_init 49 = .ok (.return_, 1) := by decide +kernel
theorem dX2_copyFrom_0 : decode cX2_copyFrom 0 = .ok (.aload_n 0, 1) := by decide +kernel
theorem dX2_copyFrom_1 : decode cX2_copyFrom 1 = .ok (.aload_n 1, 1) := by decide +kernel
theorem dX2_copyFrom_2 : decode cX2_copyFrom 2 = .ok (.getfield 9, 3) := by decide +kernel
theorem dX2_copyFrom_5 : decode cX2_copyFrom 5 = .ok (.putfield 9, 3) := by decide +kernel
theorem dX2_copyFrom_8 : decode cX2_copyFrom 8 = .ok (.aload_n 1, 1) := by decide +kernel
theorem dX2_copyFrom_9 : decode cX2_copyFrom 9 = .ok (.getfield 15, 3) := by decide +kernel
theorem dX2_copyFrom_12 : decode cX2_copyFrom 12 = .ok (.iconst 0, 1) := by decide +kernel
theorem dX2_copyFrom_13 : decode cX2_copyFrom 13 = .ok (.aload_n 0, 1) := by decide +kernel
theorem dX2_copyFrom_14 : decode cX2_copyFrom 14 = .ok (.getfield 15, 3) := by decide +kernel
theorem dX2_copyFrom_17 : decode cX2_copyFrom 17 = .ok (.iconst 0, 1) := by decide +kernel
theorem dX2_copyFrom_18 : decode cX2_copyFrom 18 = .ok (.bipush 30, 2) := by decide +kernel
theorem dX2_copyFrom_20 : decode cX2_copyFrom 20 = .ok (.invokestatic 32, 3) := by decide +kernel
theorem dX2_copyFrom_23 : decode cX2_copyFrom 23 = .ok (.aload_n 1, 1) := by decide +kernel
theorem dX2_copyFrom_24 : decode cX2_copyFrom 24 = .ok (.getfield 19, 3) := by decide +kernel
theorem dX2_copyFrom_27 : decode cX2_copyFrom 27 = .ok (.iconst 0, 1) := by decide +kernel
theorem dX2_copyFrom_28 : decode cX2_copyFrom 28 = .ok (.aload_n 0, 1) := by decide +kernel
theorem dX2_copyFrom_29 : decode cX2_copyFrom 29 = .ok (.getfield 19, 3) := by decide +kernel
theorem dX2_copyFrom_32 : decode cX2_copyFrom 32 = .ok (.iconst 0, 1) := by decide +kernel
theorem dX2_copyFrom_33 : decode cX2_copyFrom 33 = .ok (.bipush 30, 2) := by decide +kernel
theorem dX2_copyFrom_35 : decode cX2_copyFrom 35 = .ok (.invokestatic 32, 3) := by decide +kernel
theorem dX2_copyFrom_38 : decode cX2_copyFrom 38 = .ok (.aload_n 1, 1) := by decide +kernel
theorem dX2_copyFrom_39 : decode cX2_copyFrom 39 = .ok (.getfield 22, 3) := by decide +kernel
theorem dX2_copyFrom_42 : decode cX2_copyFrom 42 = .ok (.iconst 0, 1) := by decide +kernel
theorem dX2_copyFrom_43 : decode cX2_copyFrom 43 = .ok (.aload_n 0, 1) := by decide +kernel
theorem dX2_copyFrom_44 : decode cX2_copyFrom 44 = .ok (.getfield 22, 3) := by decide +kernel
theorem dX2_copyFrom_47 : decode cX2_copyFrom 47 = .ok (.iconst 0, 1) := by decide +kernel
theorem dX2_copyFrom_48 : decode cX2_copyFrom 48 = .ok (.bipush 30, 2) := by decide +kernel
theorem dX2_copyFrom_50 : decode cX2_copyFrom 50 = .ok (.invokestatic 32, 3) := by decide +kernel
theorem dX2_copyFrom_53 : decode cX2_copyFrom 53 = .ok (.aload_n 1, 1) := by decide +kernel
theorem dX2_copyFrom_54 : decode cX2_copyFrom 54 = .ok (.getfield 26, 3) := by decide +kernel
theorem dX2_copyFrom_57 : decode cX2_copyFrom 57 = .ok (.iconst 0, 1) := by decide +kernel
theorem dX2_copyFrom_58 : decode cX2_copyFrom 58 = .ok (.aload_n 0, 1) := by decide +kernel
theorem dX2_copyFrom_59 : decode cX2_copyFrom 59 = .ok (.getfield 26, 3) := by decide +kernel
theorem dX2_copyFrom_62 : decode cX2_copyFrom 62 = .ok (.iconst 0, 1) := by decide +kernel
theorem dX2_copyFrom_63 : decode cX2_copyFrom 63 = .ok (.bipush 30, 2) := by decide +kernel
theorem dX2_copyFrom_65 : decode cX2_copyFrom 65 = .ok (.invokestatic 32, 3) := by decide +kernel
theorem dX2_copyFrom_68 : decode cX2_copyFrom 68 = .ok (.aload_n 1, 1) := by decide +kernel
theorem dX2_copyFrom_69 : decode cX2_copyFrom 69 = .ok (.getfield 29, 3) := by decide +kernel
theorem dX2_copyFrom_72 : decode cX2_copyFrom 72 = .ok (.iconst 0, 1) := by decide +kernel
theorem dX2_copyFrom_73 : decode cX2_copyFrom 73 = .ok (.aload_n 0, 1) := by decide +kernel
theorem dX2_copyFrom_74 : decode cX2_copyFrom 74 = .ok (.getfield 29, 3) := by decide +kernel
theorem dX2_copyFrom_77 : decode cX2_copyFrom 77 = .ok (.iconst 0, 1) := by decide +kernel
theorem dX2_copyFrom_78 : decode cX2_copyFrom 78 = .ok (.bipush 30, 2) := by decide +kernel
theorem dX2_copyFrom_80 : decode cX2_copyFrom 80 = .ok (.invokestatic 32, 3) := by decide +kernel
theorem dX2_copyFrom_83 : decode cX2_copyFrom 83 = .ok (.return_, 1) := by decide +kernel
theorem dX2_has_0 : decode cX2_has 0 = .ok (.iload_n 1, 1) := by decide +kernel
theorem dX2_has_1 : decode cX2_has 1 = .ok (.ifCond .lt 15, 3) := by decide +kernel
theorem dX2_has_4 : decode cX2_has 4 = .ok (.iload_n 1, 1) := by decide +kernel
theorem dX2_has_5 : decode cX2_has 5 = .ok (.aload_n 0, 1) := by decide +kernel
theorem dX2_has_6 : decode cX2_has 6 = .ok (.getfield 9, 3) := by decide +kernel
theorem dX2_has_9 : decode cX2_has 9 = .ok (.if_icmp .ge 7, 3) := by decide +kernel
theorem dX2_has_12 : decode cX2_has 12 = .ok (.iconst 1, 1) := by decide +kernel
theorem dX2_has_13 : decode cX2_has 13 = .ok (.goto 4, 3) := by decide +kernel
theorem dX2_has_16 : decode cX2_has 16 = .ok (.iconst 0, 1) := by decide +kernel
theorem dX2_has_17 : decode cX2_has 17 = .ok (.ireturn, 1) := by decide +kernel
theorem dX2_indexOf_0 : decode cX2_indexOf 0 = .ok (.iconst 0, 1) := by decide +kernel
theorem dX2_indexOf_1 : decode cX2_indexOf 1 = .ok (.istore_n 3, 1) := by decide +kernel
theorem dX2_indexOf_2 : decode cX2_indexOf 2 = .ok (.iload_n 3, 1) := by decide +kernel
theorem dX2_indexOf_3 : decode cX2_indexOf 3 = .ok (.aload_n 0, 1) := by decide +kernel
theorem dX2_indexOf_4 : decode cX2_indexOf 4 = .ok (.getfield 9, 3) := by decide +kernel
theorem dX2_indexOf_7 : decode cX2_indexOf 7 = .ok (.if_icmp .ge 31, 3) := by decide +kernel
theorem dX2_indexOf_10 : decode cX2_indexOf 10 = .ok (.aload_n 0, 1) := by decide +kernel
theorem dX2_indexOf_11 : decode cX2_indexOf 11 = .ok (.getfield 15, 3) := by decide +kernel
theorem dX2_indexOf_14 : decode cX2_indexOf 14 = .ok (.iload_n 3, 1) := by decide +kernel
theorem dX2_indexOf_15 : decode cX2_indexOf 15 = .ok (.iaload, 1) := by decide +kernel
theorem dX2_indexOf_16 : decode cX2_indexOf 16 = .ok (.iload_n 1, 1) := by decide +kernel
theorem dX2_indexOf_17 : decode cX2_indexOf 17 = .ok (.if_icmp .ne 15, 3) := by decide +kernel
theorem dX2_indexOf_20 : decode cX2_indexOf 20 = .ok (.aload_n 0, 1) := by decide +kernel
theorem dX2_indexOf_21 : decode cX2_indexOf 21 = .ok (.getfield 19, 3) := by decide +kernel
theorem dX2_indexOf_24 : decode cX2_indexOf 24 = .ok (.iload_n 3, 1) := by decide +kernel
theorem dX2_indexOf_25 : decode cX2_indexOf 25 = .ok (.iaload, 1) := by decide +kernel
theorem dX2_indexOf_26 : decode cX2_indexOf 26 = .ok (.iload_n 2, 1) := by decide +kernel
theorem dX2_indexOf_27 : decode cX2_indexOf 27 = .ok (.if_icmp .ne 5, 3) := by decide +kernel
theorem dX2_indexOf_30 : decode cX2_indexOf 30 = .ok (.iload_n 3, 1) := by decide +kernel
theorem dX2_indexOf_31 : decode cX2_indexOf 31 = .ok (.ireturn, 1) := by decide +kernel
theorem dX2_indexOf_32 : decode cX2_indexOf 32 = .ok (.iinc 3 1, 3) := by decide +kernel
theorem dX2_indexOf_35 : decode cX2_indexOf 35 = .ok (.goto (-33), 3) := by decide +kernel
theorem dX2_indexOf_38 : decode cX2_indexOf 38 = .ok (.iconst (-1), 1) := by decide +kernel
theorem dX2_indexOf_39 : decode cX2_indexOf 39 = .ok (.ireturn, 1) := by decide +kernel
theorem dX2_amountOf_0 : decode cX2_amountOf 0 = .ok (.aload_n 0, 1) := by decide +kernel
theorem dX2_amountOf_1 : decode cX2_amountOf 1 = .ok (.getfield 22, 3) := by decide +kernel
theorem dX2_amountOf_4 : decode cX2_amountOf 4 = .ok (.iload_n 1, 1) := by decide +kernel
theorem dX2_amountOf_5 : decode cX2_amountOf 5 = .ok (.laload, 1) := by decide +kernel
theorem dX2_amountOf_6 : decode cX2_amountOf 6 = .ok (.aload_n 0, 1) := by decide +kernel
theorem dX2_amountOf_7 : decode cX2_amountOf 7 = .ok (.getfield 26, 3) := by decide +kernel
theorem dX2_amountOf_10 : decode cX2_amountOf 10 = .ok (.iload_n 1, 1) := by decide +kernel
theorem dX2_amountOf_11 : decode cX2_amountOf 11 = .ok (.laload, 1) := by decide +kernel
theorem dX2_amountOf_12 : decode cX2_amountOf 12 = .ok (.ladd, 1) := by decide +kernel
theorem dX2_amountOf_13 : decode cX2_amountOf 13 = .ok (.lreturn, 1) := by decide +kernel
theorem dX2_owedBy_0 : decode cX2_owedBy 0 = .ok (.aload_n 0, 1) := by decide +kernel
theorem dX2_owedBy_1 : decode cX2_owedBy 1 = .ok (.iload_n 1, 1) := by decide +kernel
theorem dX2_owedBy_2 : decode cX2_owedBy 2 = .ok (.iload_n 2, 1) := by decide +kernel
theorem dX2_owedBy_3 : decode cX2_owedBy 3 = .ok (.invokevirtual 38, 3) := by decide +kernel
theorem dX2_owedBy_6 : decode cX2_owedBy 6 = .ok (.istore_n 3, 1) := by decide +kernel
theorem dX2_owedBy_7 : decode cX2_owedBy 7 = .ok (.iload_n 3, 1) := by decide +kernel
theorem dX2_owedBy_8 : decode cX2_owedBy 8 = .ok (.iconst (-1), 1) := by decide +kernel
theorem dX2_owedBy_9 : decode cX2_owedBy 9 = .ok (.if_icmp .ne 7, 3) := by decide +kernel
theorem dX2_owedBy_12 : decode cX2_owedBy 12 = .ok (.lconst 0, 1) := by decide +kernel
theorem dX2_owedBy_13 : decode cX2_owedBy 13 = .ok (.goto 8, 3) := by decide +kernel
theorem dX2_owedBy_16 : decode cX2_owedBy 16 = .ok (.aload_n 0, 1) := by decide +kernel
theorem dX2_owedBy_17 : decode cX2_owedBy 17 = .ok (.iload_n 3, 1) := by decide +kernel
theorem dX2_owedBy_18 : decode cX2_owedBy 18 = .ok (.invokevirtual 42, 3) := by decide +kernel
theorem dX2_owedBy_21 : decode cX2_owedBy 21 = .ok (.lreturn, 1) := by decide +kernel
theorem dX2_allOwedBy_0 : decode cX2_allOwedBy 0 = .ok (.lconst 0, 1) := by decide +kernel
theorem dX2_allOwedBy_1 : decode cX2_allOwedBy 1 = .ok (.lstore_n 2, 1) := by decide +kernel
theorem dX2_allOwedBy_2 : decode cX2_allOwedBy 2 = .ok (.iconst 0, 1) := by decide +kernel
theorem dX2_allOwedBy_3 : decode cX2_allOwedBy 3 = .ok (.istore 4, 2) := by decide +kernel
theorem dX2_allOwedBy_5 : decode cX2_allOwedBy 5 = .ok (.iload 4, 2) := by decide +kernel
theorem dX2_allOwedBy_7 : decode cX2_allOwedBy 7 = .ok (.aload_n 0, 1) := by decide +kernel
theorem dX2_allOwedBy_8 : decode cX2_allOwedBy 8 = .ok (.getfield 9, 3) := by decide +kernel
theorem dX2_allOwedBy_11 : decode cX2_allOwedBy 11 = .ok (.if_icmp .ge 33, 3) := by decide +kernel
theorem dX2_allOwedBy_14 : decode cX2_allOwedBy 14 = .ok (.lload_n 2, 1) := by decide +kernel
theorem dX2_allOwedBy_15 : decode cX2_allOwedBy 15 = .ok (.aload_n 0, 1) := by decide +kernel
theorem dX2_allOwedBy_16 : decode cX2_allOwedBy 16 = .ok (.getfield 15, 3) := by decide +kernel
theorem dX2_allOwedBy_19 : decode cX2_allOwedBy 19 = .ok (.iload 4, 2) := by decide +kernel
theorem dX2_allOwedBy_21 : decode cX2_allOwedBy 21 = .ok (.iaload, 1) := by decide +kernel
theorem dX2_allOwedBy_22 : decode cX2_allOwedBy 22 = .ok (.iload_n 1, 1) := by decide +kernel
theorem dX2_allOwedBy_23 : decode cX2_allOwedBy 23 = .ok (.if_icmp .ne 12, 3) := by decide +kernel
theorem dX2_allOwedBy_26 : decode cX2_allOwedBy 26 = .ok (.aload_n 0, 1) := by decide +kernel
theorem dX2_allOwedBy_27 : decode cX2_allOwedBy 27 = .ok (.iload 4, 2) := by decide +kernel
theorem dX2_allOwedBy_29 : decode cX2_allOwedBy 29 = .ok (.invokevirtual 42, 3) := by decide +kernel
theorem dX2_allOwedBy_32 : decode cX2_allOwedBy 32 = .ok (.goto 4, 3) := by decide +kernel
theorem dX2_allOwedBy_35 : decode cX2_allOwedBy 35 = .ok (.lconst 0, 1) := by decide +kernel
theorem dX2_allOwedBy_36 : decode cX2_allOwedBy 36 = .ok (.ladd, 1) := by decide +kernel
theorem dX2_allOwedBy_37 : decode cX2_allOwedBy 37 = .ok (.lstore_n 2, 1) := by decide +kernel
theorem dX2_allOwedBy_38 : decode cX2_allOwedBy 38 = .ok (.iinc 4 1, 3) := by decide +kernel
theorem dX2_allOwedBy_41 : decode cX2_allOwedBy 41 = .ok (.goto (-36), 3) := by decide +kernel
theorem dX2_allOwedBy_44 : decode cX2_allOwedBy 44 = .ok (.lload_n 2, 1) := by decide +kernel
theorem dX2_allOwedBy_45 : decode cX2_allOwedBy 45 = .ok (.lreturn, 1) := by decide +kernel
theorem dX2_allOwedTo_0 : decode cX2_allOwedTo 0 = .ok (.lconst 0, 1) := by decide +kernel
theorem dX2_allOwedTo_1 : decode cX2_allOwedTo 1 = .ok (.lstore_n 2, 1) := by decide +kernel
theorem dX2_allOwedTo_2 : decode cX2_allOwedTo 2 = .ok (.iconst 0, 1) := by decide +kernel
theorem dX2_allOwedTo_3 : decode cX2_allOwedTo 3 = .ok (.istore 4, 2) := by decide +kernel
theorem dX2_allOwedTo_5 : decode cX2_allOwedTo 5 = .ok (.iload 4, 2) := by decide +kernel
theorem dX2_allOwedTo_7 : decode cX2_allOwedTo 7 = .ok (.aload_n 0, 1) := by decide +kernel
theorem dX2_allOwedTo_8 : decode cX2_allOwedTo 8 = .ok (.getfield 9, 3) := by decide +kernel
theorem dX2_allOwedTo_11 : decode cX2_allOwedTo 11 = .ok (.if_icmp .ge 33, 3) := by decide +kernel
theorem dX2_allOwedTo_14 : decode cX2_allOwedTo 14 = .ok (.lload_n 2, 1) := by decide +kernel
theorem dX2_allOwedTo_15 : decode cX2_allOwedTo 15 = .ok (.aload_n 0, 1) := by decide +kernel
theorem dX2_allOwedTo_16 : decode cX2_allOwedTo 16 = .ok (.getfield 19, 3) := by decide +kernel
theorem dX2_allOwedTo_19 : decode cX2_allOwedTo 19 = .ok (.iload 4, 2) := by decide +kernel
theorem dX2_allOwedTo_21 : decode cX2_allOwedTo 21 = .ok (.iaload, 1) := by decide +kernel
theorem dX2_allOwedTo_22 : decode cX2_allOwedTo 22 = .ok (.iload_n 1, 1) := by decide +kernel
theorem dX2_allOwedTo_23 : decode cX2_allOwedTo 23 = .ok (.if_icmp .ne 12, 3) := by decide +kernel
theorem dX2_allOwedTo_26 : decode cX2_allOwedTo 26 = .ok (.aload_n 0, 1) := by decide +kernel
theorem dX2_allOwedTo_27 : decode cX2_allOwedTo 27 = .ok (.iload 4, 2) := by decide +kernel
theorem dX2_allOwedTo_29 : decode cX2_allOwedTo 29 = .ok (.invokevirtual 42, 3) := by decide +kernel
theorem dX2_allOwedTo_32 : decode cX2_allOwedTo 32 = .ok (.goto 4, 3) := by decide +kernel
theorem dX2_allOwedTo_35 : decode cX2_allOwedTo 35 = .ok (.lconst 0, 1) := by decide +kernel
theorem dX2_allOwedTo_36 : decode cX2_allOwedTo 36 = .ok (.ladd, 1) := by decide +kernel
theorem dX2_allOwedTo_37 : decode cX2_allOwedTo 37 = .ok (.lstore_n 2, 1) := by decide +kernel
theorem dX2_allOwedTo_38 : decode cX2_allOwedTo 38 = .ok (.iinc 4 1, 3) := by decide +kernel
theorem dX2_allOwedTo_41 : decode cX2_allOwedTo 41 = .ok (.goto (-36), 3) := by decide +kernel
theorem dX2_allOwedTo_44 : decode cX2_allOwedTo 44 = .ok (.lload_n 2, 1) := by decide +kernel
theorem dX2_allOwedTo_45 : decode cX2_allOwedTo 45 = .ok (.lreturn, 1) := by decide +kernel
theorem dX2_allOwed_0 : decode cX2_allOwed 0 = .ok (.lconst 0, 1) := by decide +kernel
theorem dX2_allOwed_1 : decode cX2_allOwed 1 = .ok (.lstore_n 1, 1) := by decide +kernel
theorem dX2_allOwed_2 : decode cX2_allOwed 2 = .ok (.iconst 0, 1) := by decide +kernel
theorem dX2_allOwed_3 : decode cX2_allOwed 3 = .ok (.istore_n 3, 1) := by decide +kernel
theorem dX2_allOwed_4 : decode cX2_allOwed 4 = .ok (.iload_n 3, 1) := by decide +kernel
theorem dX2_allOwed_5 : decode cX2_allOwed 5 = .ok (.aload_n 0, 1) := by decide +kernel
theorem dX2_allOwed_6 : decode cX2_allOwed 6 = .ok (.getfield 9, 3) := by decide +kernel
theorem dX2_allOwed_9 : decode cX2_allOwed 9 = .ok (.if_icmp .ge 17, 3) := by decide +kernel
theorem dX2_allOwed_12 : decode cX2_allOwed 12 = .ok (.lload_n 1, 1) := by decide +kernel
theorem dX2_allOwed_13 : decode cX2_allOwed 13 = .ok (.aload_n 0, 1) := by decide +kernel
theorem dX2_allOwed_14 : decode cX2_allOwed 14 = .ok (.iload_n 3, 1) := by decide +kernel
theorem dX2_allOwed_15 : decode cX2_allOwed 15 = .ok (.invokevirtual 42, 3) := by decide +kernel
theorem dX2_allOwed_18 : decode cX2_allOwed 18 = .ok (.ladd, 1) := by decide +kernel
theorem dX2_allOwed_19 : decode cX2_allOwed 19 = .ok (.lstore_n 1, 1) := by decide +kernel
theorem dX2_allOwed_20 : decode cX2_allOwed 20 = .ok (.iinc 3 1, 3) := by decide +kernel
theorem dX2_allOwed_23 : decode cX2_allOwed 23 = .ok (.goto (-19), 3) := by decide +kernel
theorem dX2_allOwed_26 : decode cX2_allOwed 26 = .ok (.lload_n 1, 1) := by decide +kernel
theorem dX2_allOwed_27 : decode cX2_allOwed 27 = .ok (.lreturn, 1) := by decide +kernel
theorem dX2_increase_0 : decode cX2_increase 0 = .ok (.aload_n 0, 1) := by decide +kernel
theorem dX2_increase_1 : decode cX2_increase 1 = .ok (.iload_n 1, 1) := by decide +kernel
theorem dX2_increase_2 : decode cX2_increase 2 = .ok (.iload_n 2, 1) := by decide +kernel
theorem dX2_increase_3 : decode cX2_increase 3 = .ok (.invokevirtual 38, 3) := by decide +kernel
theorem dX2_increase_6 : decode cX2_increase 6 = .ok (.istore 5, 2) := by decide +kernel
theorem dX2_increase_8 : decode cX2_increase 8 = .ok (.iload 5, 2) := by decide +kernel
theorem dX2_increase_10 : decode cX2_increase 10 = .ok (.iconst (-1), 1) := by decide +kernel
theorem dX2_increase_11 : decode cX2_increase 11 = .ok (.if_icmp .eq 17, 3) := by decide +kernel
theorem dX2_increase_14 : decode cX2_increase 14 = .ok (.aload_n 0, 1) := by decide +kernel
theorem dX2_increase_15 : decode cX2_increase 15 = .ok (.getfield 22, 3) := by decide +kernel
theorem dX2_increase_18 : decode cX2_increase 18 = .ok (.iload 5, 2) := by decide +kernel
theorem dX2_increase_20 : decode cX2_increase 20 = .ok (.dup2, 1) := by decide +kernel
theorem dX2_increase_21 : decode cX2_increase 21 = .ok (.laload, 1) := by decide +kernel
theorem dX2_increase_22 : decode cX2_increase 22 = .ok (.lload_n 3, 1) := by decide +kernel
theorem dX2_increase_23 : decode cX2_increase 23 = .ok (.ladd, 1) := by decide +kernel
theorem dX2_increase_24 : decode cX2_increase 24 = .ok (.lastore, 1) := by decide +kernel
theorem dX2_increase_25 : decode cX2_increase 25 = .ok (.goto 72, 3) := by decide +kernel
theorem dX2_increase_28 : decode cX2_increase 28 = .ok (.aload_n 0, 1) := by decide +kernel
theorem dX2_increase_29 : decode cX2_increase 29 = .ok (.getfield 9, 3) := by decide +kernel
theorem dX2_increase_32 : decode cX2_increase 32 = .ok (.bipush 30, 2) := by decide +kernel
theorem dX2_increase_34 : decode cX2_increase 34 = .ok (.if_icmp .ge 63, 3) := by decide +kernel
theorem dX2_increase_37 : decode cX2_increase 37 = .ok (.aload_n 0, 1) := by decide +kernel
theorem dX2_increase_38 : decode cX2_increase 38 = .ok (.getfield 15, 3) := by decide +kernel
theorem dX2_increase_41 : decode cX2_increase 41 = .ok (.aload_n 0, 1) := by decide +kernel
theorem dX2_increase_42 : decode cX2_increase 42 = .ok (.getfield 9, 3) := by decide +kernel
theorem dX2_increase_45 : decode cX2_increase 45 = .ok (.iload_n 1, 1) := by decide +kernel
theorem dX2_increase_46 : decode cX2_increase 46 = .ok (.iastore, 1) := by decide +kernel
theorem dX2_increase_47 : decode cX2_increase 47 = .ok (.aload_n 0, 1) := by decide +kernel
theorem dX2_increase_48 : decode cX2_increase 48 = .ok (.getfield 19, 3) := by decide +kernel
theorem dX2_increase_51 : decode cX2_increase 51 = .ok (.aload_n 0, 1) := by decide +kernel
theorem dX2_increase_52 : decode cX2_increase 52 = .ok (.getfield 9, 3) := by decide +kernel
theorem dX2_increase_55 : decode cX2_increase 55 = .ok (.iload_n 2, 1) := by decide +kernel
theorem dX2_increase_56 : decode cX2_increase 56 = .ok (.iastore, 1) := by decide +kernel
theorem dX2_increase_57 : decode cX2_increase 57 = .ok (.aload_n 0, 1) := by decide +kernel
theorem dX2_increase_58 : decode cX2_increase 58 = .ok (.getfield 22, 3) := by decide +kernel
theorem dX2_increase_61 : decode cX2_increase 61 = .ok (.aload_n 0, 1) := by decide +kernel
theorem dX2_increase_62 : decode cX2_increase 62 = .ok (.getfield 9, 3) := by decide +kernel
theorem dX2_increase_65 : decode cX2_increase 65 = .ok (.lload_n 3, 1) := by decide +kernel
theorem dX2_increase_66 : decode cX2_increase 66 = .ok (.lastore, 1) := by decide +kernel
theorem dX2_increase_67 : decode cX2_increase 67 = .ok (.aload_n 0, 1) := by decide +kernel
theorem dX2_increase_68 : decode cX2_increase 68 = .ok (.getfield 26, 3) := by decide +kernel
theorem dX2_increase_71 : decode cX2_increase 71 = .ok (.aload_n 0, 1) := by decide +kernel
theorem dX2_increase_72 : decode cX2_increase 72 = .ok (.getfield 9, 3) := by decide +kernel
theorem dX2_increase_75 : decode cX2_increase 75 = .ok (.lconst 0, 1) := by decide +kernel
theorem dX2_increase_76 : decode cX2_increase 76 = .ok (.lastore, 1) := by decide +kernel
theorem dX2_increase_77 : decode cX2_increase 77 = .ok (.aload_n 0, 1) := by decide +kernel
theorem dX2_increase_78 : decode cX2_increase 78 = .ok (.getfield 29, 3) := by decide +kernel
theorem dX2_increase_81 : decode cX2_increase 81 = .ok (.aload_n 0, 1) := by decide +kernel
theorem dX2_increase_82 : decode cX2_increase 82 = .ok (.getfield 9, 3) := by decide +kernel
theorem dX2_increase_85 : decode cX2_increase 85 = .ok (.lconst 0, 1) := by decide +kernel
theorem dX2_increase_86 : decode cX2_increase 86 = .ok (.lastore, 1) := by decide +kernel
theorem dX2_increase_87 : decode cX2_increase 87 = .ok (.aload_n 0, 1) := by decide +kernel
theorem dX2_increase_88 : decode cX2_increase 88 = .ok (.dup, 1) := by decide +kernel
theorem dX2_increase_89 : decode cX2_increase 89 = .ok (.getfield 9, 3) := by decide +kernel
theorem dX2_increase_92 : decode cX2_increase 92 = .ok (.iconst 1, 1) := by decide +kernel
theorem dX2_increase_93 : decode cX2_increase 93 = .ok (.iadd, 1) := by decide +kernel
theorem dX2_increase_94 : decode cX2_increase 94 = .ok (.putfield 9, 3) := by decide +kernel
theorem dX2_increase_97 : decode cX2_increase 97 = .ok (.return_, 1) := by decide +kernel
theorem dX2_reduce_0 : decode cX2_reduce 0 = .ok (.aload_n 0, 1) := by decide +kernel
theorem dX2_reduce_1 : decode cX2_reduce 1 = .ok (.iload_n 1, 1) := by decide +kernel
theorem dX2_reduce_2 : decode cX2_reduce 2 = .ok (.iload_n 2, 1) := by decide +kernel
theorem dX2_reduce_3 : decode cX2_reduce 3 = .ok (.invokevirtual 38, 3) := by decide +kernel
theorem dX2_reduce_6 : decode cX2_reduce 6 = .ok (.istore 5, 2) := by decide +kernel
theorem dX2_reduce_8 : decode cX2_reduce 8 = .ok (.iload 5, 2) := by decide +kernel
theorem dX2_reduce_10 : decode cX2_reduce 10 = .ok (.iconst (-1), 1) := by decide +kernel
theorem dX2_reduce_11 : decode cX2_reduce 11 = .ok (.if_icmp .ne 4, 3) := by decide +kernel
theorem dX2_reduce_14 : decode cX2_reduce 14 = .ok (.return_, 1) := by decide +kernel
theorem dX2_reduce_15 : decode cX2_reduce 15 = .ok (.lload_n 3, 1) := by decide +kernel
theorem dX2_reduce_16 : decode cX2_reduce 16 = .ok (.aload_n 0, 1) := by decide +kernel
theorem dX2_reduce_17 : decode cX2_reduce 17 = .ok (.getfield 26, 3) := by decide +kernel
theorem dX2_reduce_20 : decode cX2_reduce 20 = .ok (.iload 5, 2) := by decide +kernel
theorem dX2_reduce_22 : decode cX2_reduce 22 = .ok (.laload, 1) := by decide +kernel
theorem dX2_reduce_23 : decode cX2_reduce 23 = .ok (.invokestatic 46, 3) := by decide +kernel
theorem dX2_reduce_26 : decode cX2_reduce 26 = .ok (.lstore 6, 2) := by decide +kernel
theorem dX2_reduce_28 : decode cX2_reduce 28 = .ok (.aload_n 0, 1) := by decide +kernel
theorem dX2_reduce_29 : decode cX2_reduce 29 = .ok (.getfield 26, 3) := by decide +kernel
theorem dX2_reduce_32 : decode cX2_reduce 32 = .ok (.iload 5, 2) := by decide +kernel
theorem dX2_reduce_34 : decode cX2_reduce 34 = .ok (.dup2, 1) := by decide +kernel
theorem dX2_reduce_35 : decode cX2_reduce 35 = .ok (.laload, 1) := by decide +kernel
theorem dX2_reduce_36 : decode cX2_reduce 36 = .ok (.lload 6, 2) := by decide +kernel
theorem dX2_reduce_38 : decode cX2_reduce 38 = .ok (.lsub, 1) := by decide +kernel
theorem dX2_reduce_39 : decode cX2_reduce 39 = .ok (.lastore, 1) := by decide +kernel
theorem dX2_reduce_40 : decode cX2_reduce 40 = .ok (.aload_n 0, 1) := by decide +kernel
theorem dX2_reduce_41 : decode cX2_reduce 41 = .ok (.getfield 22, 3) := by decide +kernel
theorem dX2_reduce_44 : decode cX2_reduce 44 = .ok (.iload 5, 2) := by decide +kernel
theorem dX2_reduce_46 : decode cX2_reduce 46 = .ok (.dup2, 1) := by decide +kernel
theorem dX2_reduce_47 : decode cX2_reduce 47 = .ok (.laload, 1) := by decide +kernel
theorem dX2_reduce_48 : decode cX2_reduce 48 = .ok (.lload_n 3, 1) := by decide +kernel
theorem dX2_reduce_49 : decode cX2_reduce 49 = .ok (.lload 6, 2) := by decide +kernel
theorem dX2_reduce_51 : decode cX2_reduce 51 = .ok (.lsub, 1) := by decide +kernel
theorem dX2_reduce_52 : decode cX2_reduce 52 = .ok (.lsub, 1) := by decide +kernel
theorem dX2_reduce_53 : decode cX2_reduce 53 = .ok (.lastore, 1) := by decide +kernel
theorem dX2_reduce_54 : decode cX2_reduce 54 = .ok (.aload_n 0, 1) := by decide +kernel
theorem dX2_reduce_55 : decode cX2_reduce 55 = .ok (.iload 5, 2) := by decide +kernel
theorem dX2_reduce_57 : decode cX2_reduce 57 = .ok (.invokevirtual 42, 3) := by decide +kernel
theorem dX2_reduce_60 : decode cX2_reduce 60 = .ok (.lconst 0, 1) := by decide +kernel
theorem dX2_reduce_61 : decode cX2_reduce 61 = .ok (.lcmp, 1) := by decide +kernel
theorem dX2_reduce_62 : decode cX2_reduce 62 = .ok (.ifCond .gt 9, 3) := by decide +kernel
theorem dX2_reduce_65 : decode cX2_reduce 65 = .ok (.aload_n 0, 1) := by decide +kernel
theorem dX2_reduce_66 : decode cX2_reduce 66 = .ok (.iload 5, 2) := by decide +kernel
theorem dX2_reduce_68 : decode cX2_reduce 68 = .ok (.invokevirtual 52, 3) := by decide +kernel
theorem dX2_reduce_71 : decode cX2_reduce 71 = .ok (.return_, 1) := by decide +kernel
theorem dX2_removeAt_0 : decode cX2_removeAt 0 = .ok (.iload_n 1, 1) := by decide +kernel
theorem dX2_removeAt_1 : decode cX2_removeAt 1 = .ok (.istore_n 2, 1) := by decide +kernel
theorem dX2_removeAt_2 : decode cX2_removeAt 2 = .ok (.iload_n 2, 1) := by decide +kernel
theorem dX2_removeAt_3 : decode cX2_removeAt 3 = .ok (.aload_n 0, 1) := by decide +kernel
theorem dX2_removeAt_4 : decode cX2_removeAt 4 = .ok (.getfield 9, 3) := by decide +kernel
theorem dX2_removeAt_7 : decode cX2_removeAt 7 = .ok (.iconst 1, 1) := by decide +kernel
theorem dX2_removeAt_8 : decode cX2_removeAt 8 = .ok (.isub, 1) := by decide +kernel
theorem dX2_removeAt_9 : decode cX2_removeAt 9 = .ok (.if_icmp .ge 79, 3) := by decide +kernel
theorem dX2_removeAt_12 : decode cX2_removeAt 12 = .ok (.aload_n 0, 1) := by decide +kernel
theorem dX2_removeAt_13 : decode cX2_removeAt 13 = .ok (.getfield 15, 3) := by decide +kernel
theorem dX2_removeAt_16 : decode cX2_removeAt 16 = .ok (.iload_n 2, 1) := by decide +kernel
theorem dX2_removeAt_17 : decode cX2_removeAt 17 = .ok (.aload_n 0, 1) := by decide +kernel
theorem dX2_removeAt_18 : decode cX2_removeAt 18 = .ok (.getfield 15, 3) := by decide +kernel
theorem dX2_removeAt_21 : decode cX2_removeAt 21 = .ok (.iload_n 2, 1) := by decide +kernel
theorem dX2_removeAt_22 : decode cX2_removeAt 22 = .ok (.iconst 1, 1) := by decide +kernel
theorem dX2_removeAt_23 : decode cX2_removeAt 23 = .ok (.iadd, 1) := by decide +kernel
theorem dX2_removeAt_24 : decode cX2_removeAt 24 = .ok (.iaload, 1) := by decide +kernel
theorem dX2_removeAt_25 : decode cX2_removeAt 25 = .ok (.iastore, 1) := by decide +kernel
theorem dX2_removeAt_26 : decode cX2_removeAt 26 = .ok (.aload_n 0, 1) := by decide +kernel
theorem dX2_removeAt_27 : decode cX2_removeAt 27 = .ok (.getfield 19, 3) := by decide +kernel
theorem dX2_removeAt_30 : decode cX2_removeAt 30 = .ok (.iload_n 2, 1) := by decide +kernel
theorem dX2_removeAt_31 : decode cX2_removeAt 31 = .ok (.aload_n 0, 1) := by decide +kernel
theorem dX2_removeAt_32 : decode cX2_removeAt 32 = .ok (.getfield 19, 3) := by decide +kernel
theorem dX2_removeAt_35 : decode cX2_removeAt 35 = .ok (.iload_n 2, 1) := by decide +kernel
theorem dX2_removeAt_36 : decode cX2_removeAt 36 = .ok (.iconst 1, 1) := by decide +kernel
theorem dX2_removeAt_37 : decode cX2_removeAt 37 = .ok (.iadd, 1) := by decide +kernel
theorem dX2_removeAt_38 : decode cX2_removeAt 38 = .ok (.iaload, 1) := by decide +kernel
theorem dX2_removeAt_39 : decode cX2_removeAt 39 = .ok (.iastore, 1) := by decide +kernel
theorem dX2_removeAt_40 : decode cX2_removeAt 40 = .ok (.aload_n 0, 1) := by decide +kernel
theorem dX2_removeAt_41 : decode cX2_removeAt 41 = .ok (.getfield 22, 3) := by decide +kernel
theorem dX2_removeAt_44 : decode cX2_removeAt 44 = .ok (.iload_n 2, 1) := by decide +kernel
theorem dX2_removeAt_45 : decode cX2_removeAt 45 = .ok (.aload_n 0, 1) := by decide +kernel
theorem dX2_removeAt_46 : decode cX2_removeAt 46 = .ok (.getfield 22, 3) := by decide +kernel
theorem dX2_removeAt_49 : decode cX2_removeAt 49 = .ok (.iload_n 2, 1) := by decide +kernel
theorem dX2_removeAt_50 : decode cX2_removeAt 50 = .ok (.iconst 1, 1) := by decide +kernel
theorem dX2_removeAt_51 : decode cX2_removeAt 51 = .ok (.iadd, 1) := by decide +kernel
theorem dX2_removeAt_52 : decode cX2_removeAt 52 = .ok (.laload, 1) := by decide +kernel
theorem dX2_removeAt_53 : decode cX2_removeAt 53 = .ok (.lastore, 1) := by decide +kernel
theorem dX2_removeAt_54 : decode cX2_removeAt 54 = .ok (.aload_n 0, 1) := by decide +kernel
theorem dX2_removeAt_55 : decode cX2_removeAt 55 = .ok (.getfield 26, 3) := by decide +kernel
theorem dX2_removeAt_58 : decode cX2_removeAt 58 = .ok (.iload_n 2, 1) := by decide +kernel
theorem dX2_removeAt_59 : decode cX2_removeAt 59 = .ok (.aload_n 0, 1) := by decide +kernel
theorem dX2_removeAt_60 : decode cX2_removeAt 60 = .ok (.getfield 26, 3) := by decide +kernel
theorem dX2_removeAt_63 : decode cX2_removeAt 63 = .ok (.iload_n 2, 1) := by decide +kernel
theorem dX2_removeAt_64 : decode cX2_removeAt 64 = .ok (.iconst 1, 1) := by decide +kernel
theorem dX2_removeAt_65 : decode cX2_removeAt 65 = .ok (.iadd, 1) := by decide +kernel
theorem dX2_removeAt_66 : decode cX2_removeAt 66 = .ok (.laload, 1) := by decide +kernel
theorem dX2_removeAt_67 : decode cX2_removeAt 67 = .ok (.lastore, 1) := by decide +kernel
theorem dX2_removeAt_68 : decode cX2_removeAt 68 = .ok (.aload_n 0, 1) := by decide +kernel
theorem dX2_removeAt_69 : decode cX2_removeAt 69 = .ok (.getfield 29, 3) := by decide +kernel
theorem dX2_removeAt_72 : decode cX2_removeAt 72 = .ok (.iload_n 2, 1) := by decide +kernel
theorem dX2_removeAt_73 : decode cX2_removeAt 73 = .ok (.aload_n 0, 1) := by decide +kernel
theorem dX2_removeAt_74 : decode cX2_removeAt 74 = .ok (.getfield 29, 3) := by decide +kernel
theorem dX2_removeAt_77 : decode cX2_removeAt 77 = .ok (.iload_n 2, 1) := by decide +kernel
theorem dX2_removeAt_78 : decode cX2_removeAt 78 = .ok (.iconst 1, 1) := by decide +kernel
theorem dX2_removeAt_79 : decode cX2_removeAt 79 = .ok (.iadd, 1) := by decide +kernel
theorem dX2_removeAt_80 : decode cX2_removeAt 80 = .ok (.laload, 1) := by decide +kernel
theorem dX2_removeAt_81 : decode cX2_removeAt 81 = .ok (.lastore, 1) := by decide +kernel
theorem dX2_removeAt_82 : decode cX2_removeAt 82 = .ok (.iinc 2 1, 3) := by decide +kernel
theorem dX2_removeAt_85 : decode cX2_removeAt 85 = .ok (.goto (-83), 3) := by decide +kernel
theorem dX2_removeAt_88 : decode cX2_removeAt 88 = .ok (.aload_n 0, 1) := by decide +kernel
theorem dX2_removeAt_89 : decode cX2_removeAt 89 = .ok (.dup, 1) := by decide +kernel
theorem dX2_removeAt_90 : decode cX2_removeAt 90 = .ok (.getfield 9, 3) := by decide +kernel
theorem dX2_removeAt_93 : decode cX2_removeAt 93 = .ok (.iconst 1, 1) := by decide +kernel
theorem dX2_removeAt_94 : decode cX2_removeAt 94 = .ok (.isub, 1) := by decide +kernel
theorem dX2_removeAt_95 : decode cX2_removeAt 95 = .ok (.putfield 9, 3) := by decide +kernel
theorem dX2_removeAt_98 : decode cX2_removeAt 98 = .ok (.return_, 1) := by decide +kernel
theorem dX2_addInterest_0 : decode cX2_addInterest 0 = .ok (.lconst 0, 1) := by decide +kernel
theorem dX2_addInterest_1 : decode cX2_addInterest 1 = .ok (.lstore_n 3, 1) := by decide +kernel
theorem dX2_addInterest_2 : decode cX2_addInterest 2 = .ok (.iconst 0, 1) := by decide +kernel
theorem dX2_addInterest_3 : decode cX2_addInterest 3 = .ok (.istore 5, 2) := by decide +kernel
theorem dX2_addInterest_5 : decode cX2_addInterest 5 = .ok (.iload 5, 2) := by decide +kernel
theorem dX2_addInterest_7 : decode cX2_addInterest 7 = .ok (.aload_n 0, 1) := by decide +kernel
theorem dX2_addInterest_8 : decode cX2_addInterest 8 = .ok (.getfield 9, 3) := by decide +kernel
theorem dX2_addInterest_11 : decode cX2_addInterest 11 = .ok (.if_icmp .ge 70, 3) := by decide +kernel
theorem dX2_addInterest_14 : decode cX2_addInterest 14 = .ok (.aload_n 0, 1) := by decide +kernel
theorem dX2_addInterest_15 : decode cX2_addInterest 15 = .ok (.getfield 29, 3) := by decide +kernel
theorem dX2_addInterest_18 : decode cX2_addInterest 18 = .ok (.iload 5, 2) := by decide +kernel
theorem dX2_addInterest_20 : decode cX2_addInterest 20 = .ok (.laload, 1) := by decide +kernel
theorem dX2_addInterest_21 : decode cX2_addInterest 21 = .ok (.aload_n 0, 1) := by decide +kernel
theorem dX2_addInterest_22 : decode cX2_addInterest 22 = .ok (.getfield 22, 3) := by decide +kernel
theorem dX2_addInterest_25 : decode cX2_addInterest 25 = .ok (.iload 5, 2) := by decide +kernel
theorem dX2_addInterest_27 : decode cX2_addInterest 27 = .ok (.laload, 1) := by decide +kernel
theorem dX2_addInterest_28 : decode cX2_addInterest 28 = .ok (.iload_n 2, 1) := by decide +kernel
theorem dX2_addInterest_29 : decode cX2_addInterest 29 = .ok (.i2l, 1) := by decide +kernel
theorem dX2_addInterest_30 : decode cX2_addInterest 30 = .ok (.lmul, 1) := by decide +kernel
theorem dX2_addInterest_31 : decode cX2_addInterest 31 = .ok (.iload_n 1, 1) := by decide +kernel
theorem dX2_addInterest_32 : decode cX2_addInterest 32 = .ok (.i2l, 1) := by decide +kernel
theorem dX2_addInterest_33 : decode cX2_addInterest 33 = .ok (.lmul, 1) := by decide +kernel
theorem dX2_addInterest_34 : decode cX2_addInterest 34 = .ok (.ladd, 1) := by decide +kernel
theorem dX2_addInterest_35 : decode cX2_addInterest 35 = .ok (.lstore 6, 2) := by decide +kernel
theorem dX2_addInterest_37 : decode cX2_addInterest 37 = .ok (.lload 6, 2) := by decide +kernel
theorem dX2_addInterest_39 : decode cX2_addInterest 39 = .ok (.ldc2_w 56, 3) := by decide +kernel
theorem dX2_addInterest_42 : decode cX2_addInterest 42 = .ok (.ldiv, 1) := by decide +kernel
theorem dX2_addInterest_43 : decode cX2_addInterest 43 = .ok (.lstore 8, 2) := by decide +kernel
theorem dX2_addInterest_45 : decode cX2_addInterest 45 = .ok (.aload_n 0, 1) := by decide +kernel
theorem dX2_addInterest_46 : decode cX2_addInterest 46 = .ok (.getfield 29, 3) := by decide +kernel
theorem dX2_addInterest_49 : decode cX2_addInterest 49 = .ok (.iload 5, 2) := by decide +kernel
theorem dX2_addInterest_51 : decode cX2_addInterest 51 = .ok (.lload 6, 2) := by decide +kernel
theorem dX2_addInterest_53 : decode cX2_addInterest 53 = .ok (.ldc2_w 56, 3) := by decide +kernel
theorem dX2_addInterest_56 : decode cX2_addInterest 56 = .ok (.lrem, 1) := by decide +kernel
theorem dX2_addInterest_57 : decode cX2_addInterest 57 = .ok (.lastore, 1) := by decide +kernel
theorem dX2_addInterest_58 : decode cX2_addInterest 58 = .ok (.aload_n 0, 1) := by decide +kernel
theorem dX2_addInterest_59 : decode cX2_addInterest 59 = .ok (.getfield 26, 3) := by decide +kernel
theorem dX2_addInterest_62 : decode cX2_addInterest 62 = .ok (.iload 5, 2) := by decide +kernel
theorem dX2_addInterest_64 : decode cX2_addInterest 64 = .ok (.dup2, 1) := by decide +kernel
theorem dX2_addInterest_65 : decode cX2_addInterest 65 = .ok (.laload, 1) := by decide +kernel
theorem dX2_addInterest_66 : decode cX2_addInterest 66 = .ok (.lload 8, 2) := by decide +kernel
theorem dX2_addInterest_68 : decode cX2_addInterest 68 = .ok (.ladd, 1) := by decide +kernel
theorem dX2_addInterest_69 : decode cX2_addInterest 69 = .ok (.lastore, 1) := by decide +kernel
theorem dX2_addInterest_70 : decode cX2_addInterest 70 = .ok (.lload_n 3, 1) := by decide +kernel
theorem dX2_addInterest_71 : decode cX2_addInterest 71 = .ok (.lload 8, 2) := by decide +kernel
theorem dX2_addInterest_73 : decode cX2_addInterest 73 = .ok (.ladd, 1) := by decide +kernel
theorem dX2_addInterest_74 : decode cX2_addInterest 74 = .ok (.lstore_n 3, 1) := by decide +kernel
theorem dX2_addInterest_75 : decode cX2_addInterest 75 = .ok (.iinc 5 1, 3) := by decide +kernel
theorem dX2_addInterest_78 : decode cX2_addInterest 78 = .ok (.goto (-73), 3) := by decide +kernel
theorem dX2_addInterest_81 : decode cX2_addInterest 81 = .ok (.lload_n 3, 1) := by decide +kernel
theorem dX2_addInterest_82 : decode cX2_addInterest 82 = .ok (.lreturn, 1) := by decide +kernel
theorem dX2_daysUntil_0 : decode cX2_daysUntil 0 = .ok (.lload_n 2, 1) := by decide +kernel
theorem dX2_daysUntil_1 : decode cX2_daysUntil 1 = .ok (.aload_n 0, 1) := by decide +kernel
theorem dX2_daysUntil_2 : decode cX2_daysUntil 2 = .ok (.iload_n 1, 1) := by decide +kernel
theorem dX2_daysUntil_3 : decode cX2_daysUntil 3 = .ok (.invokevirtual 42, 3) := by decide +kernel
theorem dX2_daysUntil_6 : decode cX2_daysUntil 6 = .ok (.lsub, 1) := by decide +kernel
theorem dX2_daysUntil_7 : decode cX2_daysUntil 7 = .ok (.lstore 5, 2) := by decide +kernel
theorem dX2_daysUntil_9 : decode cX2_daysUntil 9 = .ok (.lload 5, 2) := by decide +kernel
theorem dX2_daysUntil_11 : decode cX2_daysUntil 11 = .ok (.lconst 0, 1) := by decide +kernel
theorem dX2_daysUntil_12 : decode cX2_daysUntil 12 = .ok (.lcmp, 1) := by decide +kernel
theorem dX2_daysUntil_13 : decode cX2_daysUntil 13 = .ok (.ifCond .gt 5, 3) := by decide +kernel
theorem dX2_daysUntil_16 : decode cX2_daysUntil 16 = .ok (.lconst 0, 1) := by decide +kernel
theorem dX2_daysUntil_17 : decode cX2_daysUntil 17 = .ok (.lreturn, 1) := by decide +kernel
theorem dX2_daysUntil_18 : decode cX2_daysUntil 18 = .ok (.aload_n 0, 1) := by decide +kernel
theorem dX2_daysUntil_19 : decode cX2_daysUntil 19 = .ok (.getfield 22, 3) := by decide +kernel
theorem dX2_daysUntil_22 : decode cX2_daysUntil 22 = .ok (.iload_n 1, 1) := by decide +kernel
theorem dX2_daysUntil_23 : decode cX2_daysUntil 23 = .ok (.laload, 1) := by decide +kernel
theorem dX2_daysUntil_24 : decode cX2_daysUntil 24 = .ok (.iload 4, 2) := by decide +kernel
theorem dX2_daysUntil_26 : decode cX2_daysUntil 26 = .ok (.i2l, 1) := by decide +kernel
theorem dX2_daysUntil_27 : decode cX2_daysUntil 27 = .ok (.lmul, 1) := by decide +kernel
theorem dX2_daysUntil_28 : decode cX2_daysUntil 28 = .ok (.lstore 7, 2) := by decide +kernel
theorem dX2_daysUntil_30 : decode cX2_daysUntil 30 = .ok (.lload 7, 2) := by decide +kernel
theorem dX2_daysUntil_32 : decode cX2_daysUntil 32 = .ok (.lconst 0, 1) := by decide +kernel
theorem dX2_daysUntil_33 : decode cX2_daysUntil 33 = .ok (.lcmp, 1) := by decide +kernel
theorem dX2_daysUntil_34 : decode cX2_daysUntil 34 = .ok (.ifCond .gt 7, 3) := by decide +kernel
theorem dX2_daysUntil_37 : decode cX2_daysUntil 37 = .ok (.ldc2_w 58, 3) := by decide +kernel
theorem dX2_daysUntil_40 : decode cX2_daysUntil 40 = .ok (.lreturn, 1) := by decide +kernel
theorem dX2_daysUntil_41 : decode cX2_daysUntil 41 = .ok (.lload 5, 2) := by decide +kernel
theorem dX2_daysUntil_43 : decode cX2_daysUntil 43 = .ok (.ldc2_w 56, 3) := by decide +kernel
theorem dX2_daysUntil_46 : decode cX2_daysUntil 46 = .ok (.lmul, 1) := by decide +kernel
theorem dX2_daysUntil_47 : decode cX2_daysUntil 47 = .ok (.aload_n 0, 1) := by decide +kernel
theorem dX2_daysUntil_48 : decode cX2_daysUntil 48 = .ok (.getfield 29, 3) := by decide +kernel
theorem dX2_daysUntil_51 : decode cX2_daysUntil 51 = .ok (.iload_n 1, 1) := by decide +kernel
theorem dX2_daysUntil_52 : decode cX2_daysUntil 52 = .ok (.laload, 1) := by decide +kernel
theorem dX2_daysUntil_53 : decode cX2_daysUntil 53 = .ok (.lsub, 1) := by decide +kernel
theorem dX2_daysUntil_54 : decode cX2_daysUntil 54 = .ok (.lstore 9, 2) := by decide +kernel
theorem dX2_daysUntil_56 : decode cX2_daysUntil 56 = .ok (.lload 9, 2) := by decide +kernel
theorem dX2_daysUntil_58 : decode cX2_daysUntil 58 = .ok (.lload 7, 2) := by decide +kernel
theorem dX2_daysUntil_60 : decode cX2_daysUntil 60 = .ok (.ladd, 1) := by decide +kernel
theorem dX2_daysUntil_61 : decode cX2_daysUntil 61 = .ok (.lconst 1, 1) := by decide +kernel
theorem dX2_daysUntil_62 : decode cX2_daysUntil 62 = .ok (.lsub, 1) := by decide +kernel
theorem dX2_daysUntil_63 : decode cX2_daysUntil 63 = .ok (.lload 7, 2) := by decide +kernel
theorem dX2_daysUntil_65 : decode cX2_daysUntil 65 = .ok (.ldiv, 1) := by decide +kernel
theorem dX2_daysUntil_66 : decode cX2_daysUntil 66 = .ok (.lreturn, 1) := by decide +kernel
theorem dX2_numberOf_0 : decode cX2_numberOf 0 = .ok (.iload_n 2, 1) := by decide +kernel
theorem dX2_numberOf_1 : decode cX2_numberOf 1 = .ok (.tableswitch 61 0 3 #[31, 39, 47, 54], 31) := by decide +kernel
theorem dX2_numberOf_32 : decode cX2_numberOf 32 = .ok (.aload_n 0, 1) := by decide +kernel
theorem dX2_numberOf_33 : decode cX2_numberOf 33 = .ok (.getfield 15, 3) := by decide +kernel
theorem dX2_numberOf_36 : decode cX2_numberOf 36 = .ok (.iload_n 1, 1) := by decide +kernel
theorem dX2_numberOf_37 : decode cX2_numberOf 37 = .ok (.iaload, 1) := by decide +kernel
theorem dX2_numberOf_38 : decode cX2_numberOf 38 = .ok (.i2l, 1) := by decide +kernel
theorem dX2_numberOf_39 : decode cX2_numberOf 39 = .ok (.lreturn, 1) := by decide +kernel
theorem dX2_numberOf_40 : decode cX2_numberOf 40 = .ok (.aload_n 0, 1) := by decide +kernel
theorem dX2_numberOf_41 : decode cX2_numberOf 41 = .ok (.getfield 19, 3) := by decide +kernel
theorem dX2_numberOf_44 : decode cX2_numberOf 44 = .ok (.iload_n 1, 1) := by decide +kernel
theorem dX2_numberOf_45 : decode cX2_numberOf 45 = .ok (.iaload, 1) := by decide +kernel
theorem dX2_numberOf_46 : decode cX2_numberOf 46 = .ok (.i2l, 1) := by decide +kernel
theorem dX2_numberOf_47 : decode cX2_numberOf 47 = .ok (.lreturn, 1) := by decide +kernel
theorem dX2_numberOf_48 : decode cX2_numberOf 48 = .ok (.aload_n 0, 1) := by decide +kernel
theorem dX2_numberOf_49 : decode cX2_numberOf 49 = .ok (.getfield 22, 3) := by decide +kernel
theorem dX2_numberOf_52 : decode cX2_numberOf 52 = .ok (.iload_n 1, 1) := by decide +kernel
theorem dX2_numberOf_53 : decode cX2_numberOf 53 = .ok (.laload, 1) := by decide +kernel
theorem dX2_numberOf_54 : decode cX2_numberOf 54 = .ok (.lreturn, 1) := by decide +kernel
theorem dX2_numberOf_55 : decode cX2_numberOf 55 = .ok (.aload_n 0, 1) := by decide +kernel
theorem dX2_numberOf_56 : decode cX2_numberOf 56 = .ok (.getfield 26, 3) := by decide +kernel
theorem dX2_numberOf_59 : decode cX2_numberOf 59 = .ok (.iload_n 1, 1) := by decide +kernel
theorem dX2_numberOf_60 : decode cX2_numberOf 60 = .ok (.laload, 1) := by decide +kernel
theorem dX2_numberOf_61 : decode cX2_numberOf 61 = .ok (.lreturn, 1) := by decide +kernel
theorem dX2_numberOf_62 : decode cX2_numberOf 62 = .ok (.aload_n 0, 1) := by decide +kernel
theorem dX2_numberOf_63 : decode cX2_numberOf 63 = .ok (.getfield 29, 3) := by decide +kernel
theorem dX2_numberOf_66 : decode cX2_numberOf 66 = .ok (.iload_n 1, 1) := by decide +kernel
theorem dX2_numberOf_67 : decode cX2_numberOf 67 = .ok (.laload, 1) := by decide +kernel
theorem dX2_numberOf_68 : decode cX2_numberOf 68 = .ok (.lreturn, 1) := by decide +kernel
theorem dX3_init_0 : decode cX3_init 0 = .ok (.aload_n 0, 1) := by decide +kernel
theorem dX3_init_1 : decode cX3_init 1 = .ok (.invokespecial 3, 3) := by decide +kernel
theorem dX3_init_4 : decode cX3_init 4 = .ok (.aload_n 0, 1) := by decide +kernel
theorem dX3_init_5 : decode cX3_init 5 = .ok (.iconst 0, 1) := by decide +kernel
theorem dX3_init_6 : decode cX3_init 6 = .ok (.putfield 9, 3) := by decide +kernel
theorem dX3_init_9 : decode cX3_init 9 = .ok (.aload_n 0, 1) := by decide +kernel
theorem dX3_init_10 : decode cX3_init 10 = .ok (.bipush 16, 2) := by decide +kernel
theorem dX3_init_12 : decode cX3_init 12 = .ok (.newarray .int, 2) := by decide +kernel
theorem dX3_init_14 : decode cX3_init 14 = .ok (.putfield 15, 3) := by decide +kernel
theorem dX3_init_17 : decode cX3_init 17 = .ok (.aload_n 0, 1) := by decide +kernel
theorem dX3_init_18 : decode cX3_init 18 = .ok (.bipush 16, 2) := by decide +kernel
theorem dX3_init_20 : decode cX3_init 20 = .ok (.newarray .long, 2) := by decide +kernel
theorem dX3_init_22 : decode cX3_init 22 = .ok (.putfield 19, 3) := by decide +kernel
theorem dX3_init_25 : decode cX3_init 25 = .ok (.return_, 1) := by decide +kernel
theorem dX3_copyFrom_0 : decode cX3_copyFrom 0 = .ok (.aload_n 0, 1) := by decide +kernel
theorem dX3_copyFrom_1 : decode cX3_copyFrom 1 = .ok (.aload_n 1, 1) := by decide +kernel
theorem dX3_copyFrom_2 : decode cX3_copyFrom 2 = .ok (.getfield 9, 3) := by decide +kernel
theorem dX3_copyFrom_5 : decode cX3_copyFrom 5 = .ok (.putfield 9, 3) := by decide +kernel
theorem dX3_copyFrom_8 : decode cX3_copyFrom 8 = .ok (.aload_n 1, 1) := by decide +kernel
theorem dX3_copyFrom_9 : decode cX3_copyFrom 9 = .ok (.getfield 15, 3) := by decide +kernel
theorem dX3_copyFrom_12 : decode cX3_copyFrom 12 = .ok (.iconst 0, 1) := by decide +kernel
theorem dX3_copyFrom_13 : decode cX3_copyFrom 13 = .ok (.aload_n 0, 1) := by decide +kernel
theorem dX3_copyFrom_14 : decode cX3_copyFrom 14 = .ok (.getfield 15, 3) := by decide +kernel
theorem dX3_copyFrom_17 : decode cX3_copyFrom 17 = .ok (.iconst 0, 1) := by decide +kernel
theorem dX3_copyFrom_18 : decode cX3_copyFrom 18 = .ok (.bipush 16, 2) := by decide +kernel
theorem dX3_copyFrom_20 : decode cX3_copyFrom 20 = .ok (.invokestatic 23, 3) := by decide +kernel
theorem dX3_copyFrom_23 : decode cX3_copyFrom 23 = .ok (.aload_n 1, 1) := by decide +kernel
theorem dX3_copyFrom_24 : decode cX3_copyFrom 24 = .ok (.getfield 19, 3) := by decide +kernel
theorem dX3_copyFrom_27 : decode cX3_copyFrom 27 = .ok (.iconst 0, 1) := by decide +kernel
theorem dX3_copyFrom_28 : decode cX3_copyFrom 28 = .ok (.aload_n 0, 1) := by decide +kernel
theorem dX3_copyFrom_29 : decode cX3_copyFrom 29 = .ok (.getfield 19, 3) := by decide +kernel
theorem dX3_copyFrom_32 : decode cX3_copyFrom 32 = .ok (.iconst 0, 1) := by decide +kernel
theorem dX3_copyFrom_33 : decode cX3_copyFrom 33 = .ok (.bipush 16, 2) := by decide +kernel
theorem dX3_copyFrom_35 : decode cX3_copyFrom 35 = .ok (.invokestatic 23, 3) := by decide +kernel
theorem dX3_copyFrom_38 : decode cX3_copyFrom 38 = .ok (.return_, 1) := by decide +kernel
theorem dX3_has_0 : decode cX3_has 0 = .ok (.iload_n 1, 1) := by decide +kernel
theorem dX3_has_1 : decode cX3_has 1 = .ok (.ifCond .lt 15, 3) := by decide +kernel
theorem dX3_has_4 : decode cX3_has 4 = .ok (.iload_n 1, 1) := by decide +kernel
theorem dX3_has_5 : decode cX3_has 5 = .ok (.aload_n 0, 1) := by decide +kernel
theorem dX3_has_6 : decode cX3_has 6 = .ok (.getfield 9, 3) := by decide +kernel
theorem dX3_has_9 : decode cX3_has 9 = .ok (.if_icmp .ge 7, 3) := by decide +kernel
theorem dX3_has_12 : decode cX3_has 12 = .ok (.iconst 1, 1) := by decide +kernel
theorem dX3_has_13 : decode cX3_has 13 = .ok (.goto 4, 3) := by decide +kernel
theorem dX3_has_16 : decode cX3_has 16 = .ok (.iconst 0, 1) := by decide +kernel
theorem dX3_has_17 : decode cX3_has 17 = .ok (.ireturn, 1) := by decide +kernel
theorem dX3_addOne_0 : decode cX3_addOne 0 = .ok (.aload_n 0, 1) := by decide +kernel
theorem dX3_addOne_1 : decode cX3_addOne 1 = .ok (.getfield 9, 3) := by decide +kernel
theorem dX3_addOne_4 : decode cX3_addOne 4 = .ok (.bipush 16, 2) := by decide +kernel
theorem dX3_addOne_6 : decode cX3_addOne 6 = .ok (.if_icmp .lt 7, 3) := by decide +kernel
theorem dX3_addOne_9 : decode cX3_addOne 9 = .ok (.aload_n 0, 1) := by decide +kernel
theorem dX3_addOne_10 : decode cX3_addOne 10 = .ok (.invokevirtual 29, 3) := by decide +kernel
theorem dX3_addOne_13 : decode cX3_addOne 13 = .ok (.aload_n 0, 1) := by decide +kernel
theorem dX3_addOne_14 : decode cX3_addOne 14 = .ok (.getfield 15, 3) := by decide +kernel
theorem dX3_addOne_17 : decode cX3_addOne 17 = .ok (.aload_n 0, 1) := by decide +kernel
theorem dX3_addOne_18 : decode cX3_addOne 18 = .ok (.getfield 9, 3) := by decide +kernel
theorem dX3_addOne_21 : decode cX3_addOne 21 = .ok (.iload_n 1, 1) := by decide +kernel
theorem dX3_addOne_22 : decode cX3_addOne 22 = .ok (.iastore, 1) := by decide +kernel
theorem dX3_addOne_23 : decode cX3_addOne 23 = .ok (.aload_n 0, 1) := by decide +kernel
theorem dX3_addOne_24 : decode cX3_addOne 24 = .ok (.getfield 19, 3) := by decide +kernel
theorem dX3_addOne_27 : decode cX3_addOne 27 = .ok (.aload_n 0, 1) := by decide +kernel
theorem dX3_addOne_28 : decode cX3_addOne 28 = .ok (.getfield 9, 3) := by decide +kernel
theorem dX3_addOne_31 : decode cX3_addOne 31 = .ok (.lload_n 2, 1) := by decide +kernel
theorem dX3_addOne_32 : decode cX3_addOne 32 = .ok (.lastore, 1) := by decide +kernel
theorem dX3_addOne_33 : decode cX3_addOne 33 = .ok (.aload_n 0, 1) := by decide +kernel
theorem dX3_addOne_34 : decode cX3_addOne 34 = .ok (.dup, 1) := by decide +kernel
theorem dX3_addOne_35 : decode cX3_addOne 35 = .ok (.getfield 9, 3) := by decide +kernel
theorem dX3_addOne_38 : decode cX3_addOne 38 = .ok (.iconst 1, 1) := by decide +kernel
theorem dX3_addOne_39 : decode cX3_addOne 39 = .ok (.iadd, 1) := by decide +kernel
theorem dX3_addOne_40 : decode cX3_addOne 40 = .ok (.putfield 9, 3) := by decide +kernel
theorem dX3_addOne_43 : decode cX3_addOne 43 = .ok (.return_, 1) := by decide +kernel
theorem dX3_forgetOldest_0 : decode cX3_forgetOldest 0 = .ok (.aload_n 0, 1) := by decide +kernel
theorem dX3_forgetOldest_1 : decode cX3_forgetOldest 1 = .ok (.bipush 15, 2) := by decide +kernel
theorem dX3_forgetOldest_3 : decode cX3_forgetOldest 3 = .ok (.putfield 9, 3) := by decide +kernel
theorem dX3_forgetOldest_6 : decode cX3_forgetOldest 6 = .ok (.iconst 0, 1) := by decide +kernel
theorem dX3_forgetOldest_7 : decode cX3_forgetOldest 7 = .ok (.istore_n 1, 1) := by decide +kernel
theorem dX3_forgetOldest_8 : decode cX3_forgetOldest 8 = .ok (.iload_n 1, 1) := by decide +kernel
theorem dX3_forgetOldest_9 : decode cX3_forgetOldest 9 = .ok (.aload_n 0, 1) := by decide +kernel
theorem dX3_forgetOldest_10 : decode cX3_forgetOldest 10 = .ok (.getfield 9, 3) := by decide +kernel
theorem dX3_forgetOldest_13 : decode cX3_forgetOldest 13 = .ok (.if_icmp .ge 37, 3) := by decide +kernel
theorem dX3_forgetOldest_16 : decode cX3_forgetOldest 16 = .ok (.aload_n 0, 1) := by decide +kernel
theorem dX3_forgetOldest_17 : decode cX3_forgetOldest 17 = .ok (.getfield 15, 3) := by decide +kernel
theorem dX3_forgetOldest_20 : decode cX3_forgetOldest 20 = .ok (.iload_n 1, 1) := by decide +kernel
theorem dX3_forgetOldest_21 : decode cX3_forgetOldest 21 = .ok (.aload_n 0, 1) := by decide +kernel
theorem dX3_forgetOldest_22 : decode cX3_forgetOldest 22 = .ok (.getfield 15, 3) := by decide +kernel
theorem dX3_forgetOldest_25 : decode cX3_forgetOldest 25 = .ok (.iload_n 1, 1) := by decide +kernel
theorem dX3_forgetOldest_26 : decode cX3_forgetOldest 26 = .ok (.iconst 1, 1) := by decide +kernel
theorem dX3_forgetOldest_27 : decode cX3_forgetOldest 27 = .ok (.iadd, 1) := by decide +kernel
theorem dX3_forgetOldest_28 : decode cX3_forgetOldest 28 = .ok (.iaload, 1) := by decide +kernel
theorem dX3_forgetOldest_29 : decode cX3_forgetOldest 29 = .ok (.iastore, 1) := by decide +kernel
theorem dX3_forgetOldest_30 : decode cX3_forgetOldest 30 = .ok (.aload_n 0, 1) := by decide +kernel
theorem dX3_forgetOldest_31 : decode cX3_forgetOldest 31 = .ok (.getfield 19, 3) := by decide +kernel
theorem dX3_forgetOldest_34 : decode cX3_forgetOldest 34 = .ok (.iload_n 1, 1) := by decide +kernel
theorem dX3_forgetOldest_35 : decode cX3_forgetOldest 35 = .ok (.aload_n 0, 1) := by decide +kernel
theorem dX3_forgetOldest_36 : decode cX3_forgetOldest 36 = .ok (.getfield 19, 3) := by decide +kernel
theorem dX3_forgetOldest_39 : decode cX3_forgetOldest 39 = .ok (.iload_n 1, 1) := by decide +kernel
theorem dX3_forgetOldest_40 : decode cX3_forgetOldest 40 = .ok (.iconst 1, 1) := by decide +kernel
theorem dX3_forgetOldest_41 : decode cX3_forgetOldest 41 = .ok (.iadd, 1) := by decide +kernel
theorem dX3_forgetOldest_42 : decode cX3_forgetOldest 42 = .ok (.laload, 1) := by decide +kernel
theorem dX3_forgetOldest_43 : decode cX3_forgetOldest 43 = .ok (.lastore, 1) := by decide +kernel
theorem dX3_forgetOldest_44 : decode cX3_forgetOldest 44 = .ok (.iinc 1 1, 3) := by decide +kernel
theorem dX3_forgetOldest_47 : decode cX3_forgetOldest 47 = .ok (.goto (-39), 3) := by decide +kernel
theorem dX3_forgetOldest_50 : decode cX3_forgetOldest 50 = .ok (.return_, 1) := by decide +kernel
theorem dX4_init_0 : decode cX4_init 0 = .ok (.aload_n 0, 1) := by decide +kernel
theorem dX4_init_1 : decode cX4_init 1 = .ok (.invokespecial 3, 3) := by decide +kernel
theorem dX4_init_4 : decode cX4_init 4 = .ok (.aload_n 0, 1) := by decide +kernel
theorem dX4_init_5 : decode cX4_init 5 = .ok (.iconst 0, 1) := by decide +kernel
theorem dX4_init_6 : decode cX4_init 6 = .ok (.putfield 9, 3) := by decide +kernel
theorem dX4_init_9 : decode cX4_init 9 = .ok (.aload_n 0, 1) := by decide +kernel
theorem dX4_init_10 : decode cX4_init 10 = .ok (.bipush 6, 2) := by decide +kernel
theorem dX4_init_12 : decode cX4_init 12 = .ok (.newarray .int, 2) := by decide +kernel
theorem dX4_init_14 : decode cX4_init 14 = .ok (.putfield 15, 3) := by decide +kernel
theorem dX4_init_17 : decode cX4_init 17 = .ok (.aload_n 0, 1) := by decide +kernel
theorem dX4_init_18 : decode cX4_init 18 = .ok (.bipush 6, 2) := by decide +kernel
theorem dX4_init_20 : decode cX4_init 20 = .ok (.newarray .int, 2) := by decide +kernel
theorem dX4_init_22 : decode cX4_init 22 = .ok (.putfield 19, 3) := by decide +kernel
theorem dX4_init_25 : decode cX4_init 25 = .ok (.aload_n 0, 1) := by decide +kernel
theorem dX4_init_26 : decode cX4_init 26 = .ok (.bipush 6, 2) := by decide +kernel
theorem dX4_init_28 : decode cX4_init 28 = .ok (.newarray .long, 2) := by decide +kernel
theorem dX4_init_30 : decode cX4_init 30 = .ok (.putfield 22, 3) := by decide +kernel
theorem dX4_init_33 : decode cX4_init 33 = .ok (.aload_n 0, 1) := by decide +kernel
theorem dX4_init_34 : decode cX4_init 34 = .ok (.bipush 6, 2) := by decide +kernel
theorem dX4_init_36 : decode cX4_init 36 = .ok (.newarray .long, 2) := by decide +kernel
theorem dX4_init_38 : decode cX4_init 38 = .ok (.putfield 26, 3) := by decide +kernel
theorem dX4_init_41 : decode cX4_init 41 = .ok (.aload_n 0, 1) := by decide +kernel
theorem dX4_init_42 : decode cX4_init 42 = .ok (.bipush 6, 2) := by decide +kernel
theorem dX4_init_44 : decode cX4_init 44 = .ok (.newarray .long, 2) := by decide +kernel
theorem dX4_init_46 : decode cX4_init 46 = .ok (.putfield 29, 3) := by decide +kernel
theorem dX4_init_49 : decode cX4_init 49 = .ok (.aload_n 0, 1) := by decide +kernel
theorem dX4_init_50 : decode cX4_init 50 = .ok (.bipush 6, 2) := by decide +kernel
theorem dX4_init_52 : decode cX4_init 52 = .ok (.newarray .long, 2) := by decide +kernel
theorem dX4_init_54 : decode cX4_init 54 = .ok (.putfield 32, 3) := by decide +kernel
theorem dX4_init_57 : decode cX4_init 57 = .ok (.return_, 1) := by decide +kernel
theorem dX4_copyFrom_0 : decode cX4_copyFrom 0 = .ok (.aload_n 0, 1) := by decide +kernel
theorem dX4_copyFrom_1 : decode cX4_copyFrom 1 = .ok (.aload_n 1, 1) := by decide +kernel
theorem dX4_copyFrom_2 : decode cX4_copyFrom 2 = .ok (.getfield 9, 3) := by decide +kernel
theorem dX4_copyFrom_5 : decode cX4_copyFrom 5 = .ok (.putfield 9, 3) := by decide +kernel
theorem dX4_copyFrom_8 : decode cX4_copyFrom 8 = .ok (.aload_n 1, 1) := by decide +kernel
theorem dX4_copyFrom_9 : decode cX4_copyFrom 9 = .ok (.getfield 15, 3) := by decide +kernel
theorem dX4_copyFrom_12 : decode cX4_copyFrom 12 = .ok (.iconst 0, 1) := by decide +kernel
theorem dX4_copyFrom_13 : decode cX4_copyFrom 13 = .ok (.aload_n 0, 1) := by decide +kernel
theorem dX4_copyFrom_14 : decode cX4_copyFrom 14 = .ok (.getfield 15, 3) := by decide +kernel
theorem dX4_copyFrom_17 : decode cX4_copyFrom 17 = .ok (.iconst 0, 1) := by decide +kernel
theorem dX4_copyFrom_18 : decode cX4_copyFrom 18 = .ok (.bipush 6, 2) := by decide +kernel
theorem dX4_copyFrom_20 : decode cX4_copyFrom 20 = .ok (.invokestatic 35, 3) := by decide +kernel
theorem dX4_copyFrom_23 : decode cX4_copyFrom 23 = .ok (.aload_n 1, 1) := by decide +kernel
theorem dX4_copyFrom_24 : decode cX4_copyFrom 24 = .ok (.getfield 19, 3) := by decide +kernel
theorem dX4_copyFrom_27 : decode cX4_copyFrom 27 = .ok (.iconst 0, 1) := by decide +kernel
theorem dX4_copyFrom_28 : decode cX4_copyFrom 28 = .ok (.aload_n 0, 1) := by decide +kernel
theorem dX4_copyFrom_29 : decode cX4_copyFrom 29 = .ok (.getfield 19, 3) := by decide +kernel
theorem dX4_copyFrom_32 : decode cX4_copyFrom 32 = .ok (.iconst 0, 1) := by decide +kernel
theorem dX4_copyFrom_33 : decode cX4_copyFrom 33 = .ok (.bipush 6, 2) := by decide +kernel
theorem dX4_copyFrom_35 : decode cX4_copyFrom 35 = .ok (.invokestatic 35, 3) := by decide +kernel
theorem dX4_copyFrom_38 : decode cX4_copyFrom 38 = .ok (.aload_n 1, 1) := by decide +kernel
theorem dX4_copyFrom_39 : decode cX4_copyFrom 39 = .ok (.getfield 22, 3) := by decide +kernel
theorem dX4_copyFrom_42 : decode cX4_copyFrom 42 = .ok (.iconst 0, 1) := by decide +kernel
theorem dX4_copyFrom_43 : decode cX4_copyFrom 43 = .ok (.aload_n 0, 1) := by decide +kernel
theorem dX4_copyFrom_44 : decode cX4_copyFrom 44 = .ok (.getfield 22, 3) := by decide +kernel
theorem dX4_copyFrom_47 : decode cX4_copyFrom 47 = .ok (.iconst 0, 1) := by decide +kernel
theorem dX4_copyFrom_48 : decode cX4_copyFrom 48 = .ok (.bipush 6, 2) := by decide +kernel
theorem dX4_copyFrom_50 : decode cX4_copyFrom 50 = .ok (.invokestatic 35, 3) := by decide +kernel
theorem dX4_copyFrom_53 : decode cX4_copyFrom 53 = .ok (.aload_n 1, 1) := by decide +kernel
theorem dX4_copyFrom_54 : decode cX4_copyFrom 54 = .ok (.getfield 26, 3) := by decide +kernel
theorem dX4_copyFrom_57 : decode cX4_copyFrom 57 = .ok (.iconst 0, 1) := by decide +kernel
theorem dX4_copyFrom_58 : decode cX4_copyFrom 58 = .ok (.aload_n 0, 1) := by decide +kernel
theorem dX4_copyFrom_59 : decode cX4_copyFrom 59 = .ok (.getfield 26, 3) := by decide +kernel
theorem dX4_copyFrom_62 : decode cX4_copyFrom 62 = .ok (.iconst 0, 1) := by decide +kernel
theorem dX4_copyFrom_63 : decode cX4_copyFrom 63 = .ok (.bipush 6, 2) := by decide +kernel
theorem dX4_copyFrom_65 : decode cX4_copyFrom 65 = .ok (.invokestatic 35, 3) := by decide +kernel
theorem dX4_copyFrom_68 : decode cX4_copyFrom 68 = .ok (.aload_n 1, 1) := by decide +kernel
theorem dX4_copyFrom_69 : decode cX4_copyFrom 69 = .ok (.getfield 29, 3) := by decide +kernel
theorem dX4_copyFrom_72 : decode cX4_copyFrom 72 = .ok (.iconst 0, 1) := by decide +kernel
theorem dX4_copyFrom_73 : decode cX4_copyFrom 73 = .ok (.aload_n 0, 1) := by decide +kernel
theorem dX4_copyFrom_74 : decode cX4_copyFrom 74 = .ok (.getfield 29, 3) := by decide +kernel
theorem dX4_copyFrom_77 : decode cX4_copyFrom 77 = .ok (.iconst 0, 1) := by decide +kernel
theorem dX4_copyFrom_78 : decode cX4_copyFrom 78 = .ok (.bipush 6, 2) := by decide +kernel
theorem dX4_copyFrom_80 : decode cX4_copyFrom 80 = .ok (.invokestatic 35, 3) := by decide +kernel
theorem dX4_copyFrom_83 : decode cX4_copyFrom 83 = .ok (.aload_n 1, 1) := by decide +kernel
theorem dX4_copyFrom_84 : decode cX4_copyFrom 84 = .ok (.getfield 32, 3) := by decide +kernel
theorem dX4_copyFrom_87 : decode cX4_copyFrom 87 = .ok (.iconst 0, 1) := by decide +kernel
theorem dX4_copyFrom_88 : decode cX4_copyFrom 88 = .ok (.aload_n 0, 1) := by decide +kernel
theorem dX4_copyFrom_89 : decode cX4_copyFrom 89 = .ok (.getfield 32, 3) := by decide +kernel
theorem dX4_copyFrom_92 : decode cX4_copyFrom 92 = .ok (.iconst 0, 1) := by decide +kernel
theorem dX4_copyFrom_93 : decode cX4_copyFrom 93 = .ok (.bipush 6, 2) := by decide +kernel
theorem dX4_copyFrom_95 : decode cX4_copyFrom 95 = .ok (.invokestatic 35, 3) := by decide +kernel
theorem dX4_copyFrom_98 : decode cX4_copyFrom 98 = .ok (.return_, 1) := by decide +kernel
theorem dX4_has_0 : decode cX4_has 0 = .ok (.iload_n 1, 1) := by decide +kernel
theorem dX4_has_1 : decode cX4_has 1 = .ok (.ifCond .lt 15, 3) := by decide +kernel
theorem dX4_has_4 : decode cX4_has 4 = .ok (.iload_n 1, 1) := by decide +kernel
theorem dX4_has_5 : decode cX4_has 5 = .ok (.aload_n 0, 1) := by decide +kernel
theorem dX4_has_6 : decode cX4_has 6 = .ok (.getfield 9, 3) := by decide +kernel
theorem dX4_has_9 : decode cX4_has 9 = .ok (.if_icmp .ge 7, 3) := by decide +kernel
theorem dX4_has_12 : decode cX4_has 12 = .ok (.iconst 1, 1) := by decide +kernel
theorem dX4_has_13 : decode cX4_has 13 = .ok (.goto 4, 3) := by decide +kernel
theorem dX4_has_16 : decode cX4_has 16 = .ok (.iconst 0, 1) := by decide +kernel
theorem dX4_has_17 : decode cX4_has 17 = .ok (.ireturn, 1) := by decide +kernel
theorem dX4_hasBoth_0 : decode cX4_hasBoth 0 = .ok (.aload_n 0, 1) := by decide +kernel
theorem dX4_hasBoth_1 : decode cX4_hasBoth 1 = .ok (.iload_n 1, 1) := by decide +kernel
theorem dX4_hasBoth_2 : decode cX4_hasBoth 2 = .ok (.invokevirtual 41, 3) := by decide +kernel
theorem dX4_hasBoth_5 : decode cX4_hasBoth 5 = .ok (.ifCond .eq 15, 3) := by decide +kernel
theorem dX4_hasBoth_8 : decode cX4_hasBoth 8 = .ok (.aload_n 0, 1) := by decide +kernel
theorem dX4_hasBoth_9 : decode cX4_hasBoth 9 = .ok (.iload_n 2, 1) := by decide +kernel
theorem dX4_hasBoth_10 : decode cX4_hasBoth 10 = .ok (.invokevirtual 41, 3) := by decide +kernel
theorem dX4_hasBoth_13 : decode cX4_hasBoth 13 = .ok (.ifCond .eq 7, 3) := by decide +kernel
theorem dX4_hasBoth_16 : decode cX4_hasBoth 16 = .ok (.iconst 1, 1) := by decide +kernel
theorem dX4_hasBoth_17 : decode cX4_hasBoth 17 = .ok (.goto 4, 3) := by decide +kernel
theorem dX4_hasBoth_20 : decode cX4_hasBoth 20 = .ok (.iconst 0, 1) := by decide +kernel
theorem dX4_hasBoth_21 : decode cX4_hasBoth 21 = .ok (.ireturn, 1) := by decide +kernel
theorem dX4_addOne_0 : decode cX4_addOne 0 = .ok (.aload_n 0, 1) := by decide +kernel
theorem dX4_addOne_1 : decode cX4_addOne 1 = .ok (.getfield 9, 3) := by decide +kernel
theorem dX4_addOne_4 : decode cX4_addOne 4 = .ok (.istore_n 3, 1) := by decide +kernel
theorem dX4_addOne_5 : decode cX4_addOne 5 = .ok (.iload_n 3, 1) := by decide +kernel
theorem dX4_addOne_6 : decode cX4_addOne 6 = .ok (.bipush 6, 2) := by decide +kernel
theorem dX4_addOne_8 : decode cX4_addOne 8 = .ok (.if_icmp .lt 5, 3) := by decide +kernel
theorem dX4_addOne_11 : decode cX4_addOne 11 = .ok (.iconst (-1), 1) := by decide +kernel
theorem dX4_addOne_12 : decode cX4_addOne 12 = .ok (.ireturn, 1) := by decide +kernel
theorem dX4_addOne_13 : decode cX4_addOne 13 = .ok (.aload_n 0, 1) := by decide +kernel
theorem dX4_addOne_14 : decode cX4_addOne 14 = .ok (.getfield 15, 3) := by decide +kernel
theorem dX4_addOne_17 : decode cX4_addOne 17 = .ok (.iload_n 3, 1) := by decide +kernel
theorem dX4_addOne_18 : decode cX4_addOne 18 = .ok (.iload_n 1, 1) := by decide +kernel
theorem dX4_addOne_19 : decode cX4_addOne 19 = .ok (.iastore, 1) := by decide +kernel
theorem dX4_addOne_20 : decode cX4_addOne 20 = .ok (.aload_n 0, 1) := by decide +kernel
theorem dX4_addOne_21 : decode cX4_addOne 21 = .ok (.getfield 19, 3) := by decide +kernel
theorem dX4_addOne_24 : decode cX4_addOne 24 = .ok (.iload_n 3, 1) := by decide +kernel
theorem dX4_addOne_25 : decode cX4_addOne 25 = .ok (.iload_n 2, 1) := by decide +kernel
theorem dX4_addOne_26 : decode cX4_addOne 26 = .ok (.iastore, 1) := by decide +kernel
theorem dX4_addOne_27 : decode cX4_addOne 27 = .ok (.aload_n 0, 1) := by decide +kernel
theorem dX4_addOne_28 : decode cX4_addOne 28 = .ok (.getfield 22, 3) := by decide +kernel
theorem dX4_addOne_31 : decode cX4_addOne 31 = .ok (.iload_n 3, 1) := by decide +kernel
theorem dX4_addOne_32 : decode cX4_addOne 32 = .ok (.lconst 0, 1) := by decide +kernel
theorem dX4_addOne_33 : decode cX4_addOne 33 = .ok (.lastore, 1) := by decide +kernel
theorem dX4_addOne_34 : decode cX4_addOne 34 = .ok (.aload_n 0, 1) := by decide +kernel
theorem dX4_addOne_35 : decode cX4_addOne 35 = .ok (.getfield 26, 3) := by decide +kernel
theorem dX4_addOne_38 : decode cX4_addOne 38 = .ok (.iload_n 3, 1) := by decide +kernel
theorem dX4_addOne_39 : decode cX4_addOne 39 = .ok (.lconst 0, 1) := by decide +kernel
theorem dX4_addOne_40 : decode cX4_addOne 40 = .ok (.lastore, 1) := by decide +kernel
theorem dX4_addOne_41 : decode cX4_addOne 41 = .ok (.aload_n 0, 1) := by decide +kernel
theorem dX4_addOne_42 : decode cX4_addOne 42 = .ok (.getfield 29, 3) := by decide +kernel
theorem dX4_addOne_45 : decode cX4_addOne 45 = .ok (.iload_n 3, 1) := by decide +kernel
theorem dX4_addOne_46 : decode cX4_addOne 46 = .ok (.lconst 0, 1) := by decide +kernel
theorem dX4_addOne_47 : decode cX4_addOne 47 = .ok (.lastore, 1) := by decide +kernel
theorem dX4_addOne_48 : decode cX4_addOne 48 = .ok (.aload_n 0, 1) := by decide +kernel
theorem dX4_addOne_49 : decode cX4_addOne 49 = .ok (.getfield 32, 3) := by decide +kernel
theorem dX4_addOne_52 : decode cX4_addOne 52 = .ok (.iload_n 3, 1) := by decide +kernel
theorem dX4_addOne_53 : decode cX4_addOne 53 = .ok (.lconst 0, 1) := by decide +kernel
theorem dX4_addOne_54 : decode cX4_addOne 54 = .ok (.lastore, 1) := by decide +kernel
theorem dX4_addOne_55 : decode cX4_addOne 55 = .ok (.aload_n 0, 1) := by decide +kernel
theorem dX4_addOne_56 : decode cX4_addOne 56 = .ok (.dup, 1) := by decide +kernel
theorem dX4_addOne_57 : decode cX4_addOne 57 = .ok (.getfield 9, 3) := by decide +kernel
theorem dX4_addOne_60 : decode cX4_addOne 60 = .ok (.iconst 1, 1) := by decide +kernel
theorem dX4_addOne_61 : decode cX4_addOne 61 = .ok (.iadd, 1) := by decide +kernel
theorem dX4_addOne_62 : decode cX4_addOne 62 = .ok (.putfield 9, 3) := by decide +kernel
theorem dX4_addOne_65 : decode cX4_addOne 65 = .ok (.iload_n 3, 1) := by decide +kernel
theorem dX4_addOne_66 : decode cX4_addOne 66 = .ok (.ireturn, 1) := by decide +kernel
theorem dX4_heldFor_0 : decode cX4_heldFor 0 = .ok (.aload_n 0, 1) := by decide +kernel
theorem dX4_heldFor_1 : decode cX4_heldFor 1 = .ok (.getfield 26, 3) := by decide +kernel
theorem dX4_heldFor_4 : decode cX4_heldFor 4 = .ok (.iload_n 1, 1) := by decide +kernel
theorem dX4_heldFor_5 : decode cX4_heldFor 5 = .ok (.laload, 1) := by decide +kernel
theorem dX4_heldFor_6 : decode cX4_heldFor 6 = .ok (.aload_n 0, 1) := by decide +kernel
theorem dX4_heldFor_7 : decode cX4_heldFor 7 = .ok (.getfield 29, 3) := by decide +kernel
theorem dX4_heldFor_10 : decode cX4_heldFor 10 = .ok (.iload_n 1, 1) := by decide +kernel
theorem dX4_heldFor_11 : decode cX4_heldFor 11 = .ok (.laload, 1) := by decide +kernel
theorem dX4_heldFor_12 : decode cX4_heldFor 12 = .ok (.lsub, 1) := by decide +kernel
theorem dX4_heldFor_13 : decode cX4_heldFor 13 = .ok (.aload_n 0, 1) := by decide +kernel
theorem dX4_heldFor_14 : decode cX4_heldFor 14 = .ok (.getfield 32, 3) := by decide +kernel
theorem dX4_heldFor_17 : decode cX4_heldFor 17 = .ok (.iload_n 1, 1) := by decide +kernel
theorem dX4_heldFor_18 : decode cX4_heldFor 18 = .ok (.laload, 1) := by decide +kernel
theorem dX4_heldFor_19 : decode cX4_heldFor 19 = .ok (.lsub, 1) := by decide +kernel
theorem dX4_heldFor_20 : decode cX4_heldFor 20 = .ok (.lreturn, 1) := by decide +kernel
theorem dX4_shortOf_0 : decode cX4_shortOf 0 = .ok (.lconst 0, 1) := by decide +kernel
theorem dX4_shortOf_1 : decode cX4_shortOf 1 = .ok (.aload_n 0, 1) := by decide +kernel
theorem dX4_shortOf_2 : decode cX4_shortOf 2 = .ok (.getfield 22, 3) := by decide +kernel
theorem dX4_shortOf_5 : decode cX4_shortOf 5 = .ok (.iload_n 1, 1) := by decide +kernel
theorem dX4_shortOf_6 : decode cX4_shortOf 6 = .ok (.laload, 1) := by decide +kernel
theorem dX4_shortOf_7 : decode cX4_shortOf 7 = .ok (.aload_n 0, 1) := by decide +kernel
theorem dX4_shortOf_8 : decode cX4_shortOf 8 = .ok (.getfield 26, 3) := by decide +kernel
theorem dX4_shortOf_11 : decode cX4_shortOf 11 = .ok (.iload_n 1, 1) := by decide +kernel
theorem dX4_shortOf_12 : decode cX4_shortOf 12 = .ok (.laload, 1) := by decide +kernel
theorem dX4_shortOf_13 : decode cX4_shortOf 13 = .ok (.lsub, 1) := by decide +kernel
theorem dX4_shortOf_14 : decode cX4_shortOf 14 = .ok (.invokestatic 45, 3) := by decide +kernel
theorem dX4_shortOf_17 : decode cX4_shortOf 17 = .ok (.lreturn, 1) := by decide +kernel
theorem dX4_countOn_0 : decode cX4_countOn 0 = .ok (.iconst 0, 1) := by decide +kernel
theorem dX4_countOn_1 : decode cX4_countOn 1 = .ok (.istore_n 2, 1) := by decide +kernel
theorem dX4_countOn_2 : decode cX4_countOn 2 = .ok (.iconst 0, 1) := by decide +kernel
theorem dX4_countOn_3 : decode cX4_countOn 3 = .ok (.istore_n 3, 1) := by decide +kernel
theorem dX4_countOn_4 : decode cX4_countOn 4 = .ok (.iload_n 3, 1) := by decide +kernel
theorem dX4_countOn_5 : decode cX4_countOn 5 = .ok (.aload_n 0, 1) := by decide +kernel
theorem dX4_countOn_6 : decode cX4_countOn 6 = .ok (.getfield 9, 3) := by decide +kernel
theorem dX4_countOn_9 : decode cX4_countOn 9 = .ok (.if_icmp .ge 27, 3) := by decide +kernel
theorem dX4_countOn_12 : decode cX4_countOn 12 = .ok (.iload_n 2, 1) := by decide +kernel
theorem dX4_countOn_13 : decode cX4_countOn 13 = .ok (.aload_n 0, 1) := by decide +kernel
theorem dX4_countOn_14 : decode cX4_countOn 14 = .ok (.getfield 15, 3) := by decide +kernel
theorem dX4_countOn_17 : decode cX4_countOn 17 = .ok (.iload_n 3, 1) := by decide +kernel
theorem dX4_countOn_18 : decode cX4_countOn 18 = .ok (.iaload, 1) := by decide +kernel
theorem dX4_countOn_19 : decode cX4_countOn 19 = .ok (.iload_n 1, 1) := by decide +kernel
theorem dX4_countOn_20 : decode cX4_countOn 20 = .ok (.if_icmp .ne 7, 3) := by decide +kernel
theorem dX4_countOn_23 : decode cX4_countOn 23 = .ok (.iconst 1, 1) := by decide +kernel
theorem dX4_countOn_24 : decode cX4_countOn 24 = .ok (.goto 4, 3) := by decide +kernel
theorem dX4_countOn_27 : decode cX4_countOn 27 = .ok (.iconst 0, 1) := by decide +kernel
theorem dX4_countOn_28 : decode cX4_countOn 28 = .ok (.iadd, 1) := by decide +kernel
theorem dX4_countOn_29 : decode cX4_countOn 29 = .ok (.istore_n 2, 1) := by decide +kernel
theorem dX4_countOn_30 : decode cX4_countOn 30 = .ok (.iinc 3 1, 3) := by decide +kernel
theorem dX4_countOn_33 : decode cX4_countOn 33 = .ok (.goto (-29), 3) := by decide +kernel
theorem dX4_countOn_36 : decode cX4_countOn 36 = .ok (.iload_n 2, 1) := by decide +kernel
theorem dX4_countOn_37 : decode cX4_countOn 37 = .ok (.ireturn, 1) := by decide +kernel
theorem dX4_weightOn_0 : decode cX4_weightOn 0 = .ok (.iconst 0, 1) := by decide +kernel
theorem dX4_weightOn_1 : decode cX4_weightOn 1 = .ok (.istore_n 2, 1) := by decide +kernel
theorem dX4_weightOn_2 : decode cX4_weightOn 2 = .ok (.iconst 0, 1) := by decide +kernel
theorem dX4_weightOn_3 : decode cX4_weightOn 3 = .ok (.istore_n 3, 1) := by decide +kernel
theorem dX4_weightOn_4 : decode cX4_weightOn 4 = .ok (.iload_n 3, 1) := by decide +kernel
theorem dX4_weightOn_5 : decode cX4_weightOn 5 = .ok (.aload_n 0, 1) := by decide +kernel
theorem dX4_weightOn_6 : decode cX4_weightOn 6 = .ok (.getfield 9, 3) := by decide +kernel
theorem dX4_weightOn_9 : decode cX4_weightOn 9 = .ok (.if_icmp .ge 32, 3) := by decide +kernel
theorem dX4_weightOn_12 : decode cX4_weightOn 12 = .ok (.iload_n 2, 1) := by decide +kernel
theorem dX4_weightOn_13 : decode cX4_weightOn 13 = .ok (.aload_n 0, 1) := by decide +kernel
theorem dX4_weightOn_14 : decode cX4_weightOn 14 = .ok (.getfield 15, 3) := by decide +kernel
theorem dX4_weightOn_17 : decode cX4_weightOn 17 = .ok (.iload_n 3, 1) := by decide +kernel
theorem dX4_weightOn_18 : decode cX4_weightOn 18 = .ok (.iaload, 1) := by decide +kernel
theorem dX4_weightOn_19 : decode cX4_weightOn 19 = .ok (.iload_n 1, 1) := by decide +kernel
theorem dX4_weightOn_20 : decode cX4_weightOn 20 = .ok (.if_icmp .ne 12, 3) := by decide +kernel
theorem dX4_weightOn_23 : decode cX4_weightOn 23 = .ok (.aload_n 0, 1) := by decide +kernel
theorem dX4_weightOn_24 : decode cX4_weightOn 24 = .ok (.getfield 19, 3) := by decide +kernel
theorem dX4_weightOn_27 : decode cX4_weightOn 27 = .ok (.iload_n 3, 1) := by decide +kernel
theorem dX4_weightOn_28 : decode cX4_weightOn 28 = .ok (.iaload, 1) := by decide +kernel
theorem dX4_weightOn_29 : decode cX4_weightOn 29 = .ok (.goto 4, 3) := by decide +kernel
theorem dX4_weightOn_32 : decode cX4_weightOn 32 = .ok (.iconst 0, 1) := by decide +kernel
theorem dX4_weightOn_33 : decode cX4_weightOn 33 = .ok (.iadd, 1) := by decide +kernel
theorem dX4_weightOn_34 : decode cX4_weightOn 34 = .ok (.istore_n 2, 1) := by decide +kernel
theorem dX4_weightOn_35 : decode cX4_weightOn 35 = .ok (.iinc 3 1, 3) := by decide +kernel
theorem dX4_weightOn_38 : decode cX4_weightOn 38 = .ok (.goto (-34), 3) := by decide +kernel
theorem dX4_weightOn_41 : decode cX4_weightOn 41 = .ok (.iload_n 2, 1) := by decide +kernel
theorem dX4_weightOn_42 : decode cX4_weightOn 42 = .ok (.ireturn, 1) := by decide +kernel
theorem dX4_partOf_0 : decode cX4_partOf 0 = .ok (.aload_n 0, 1) := by decide +kernel
theorem dX4_partOf_1 : decode cX4_partOf 1 = .ok (.getfield 15, 3) := by decide +kernel
theorem dX4_partOf_4 : decode cX4_partOf 4 = .ok (.iload_n 3, 1) := by decide +kernel
theorem dX4_partOf_5 : decode cX4_partOf 5 = .ok (.iaload, 1) := by decide +kernel
theorem dX4_partOf_6 : decode cX4_partOf 6 = .ok (.istore 4, 2) := by decide +kernel
theorem dX4_partOf_8 : decode cX4_partOf 8 = .ok (.aload_n 0, 1) := by decide +kernel
theorem dX4_partOf_9 : decode cX4_partOf 9 = .ok (.iload 4, 2) := by decide +kernel
theorem dX4_partOf_11 : decode cX4_partOf 11 = .ok (.invokevirtual 51, 3) := by decide +kernel
theorem dX4_partOf_14 : decode cX4_partOf 14 = .ok (.istore 5, 2) := by decide +kernel
theorem dX4_partOf_16 : decode cX4_partOf 16 = .ok (.iload 5, 2) := by decide +kernel
theorem dX4_partOf_18 : decode cX4_partOf 18 = .ok (.ifCond .gt 5, 3) := by decide +kernel
theorem dX4_partOf_21 : decode cX4_partOf 21 = .ok (.lconst 0, 1) := by decide +kernel
theorem dX4_partOf_22 : decode cX4_partOf 22 = .ok (.lreturn, 1) := by decide +kernel
theorem dX4_partOf_23 : decode cX4_partOf 23 = .ok (.lload_n 1, 1) := by decide +kernel
theorem dX4_partOf_24 : decode cX4_partOf 24 = .ok (.lstore 6, 2) := by decide +kernel
theorem dX4_partOf_26 : decode cX4_partOf 26 = .ok (.iconst 0, 1) := by decide +kernel
theorem dX4_partOf_27 : decode cX4_partOf 27 = .ok (.istore 8, 2) := by decide +kernel
theorem dX4_partOf_29 : decode cX4_partOf 29 = .ok (.iconst 0, 1) := by decide +kernel
theorem dX4_partOf_30 : decode cX4_partOf 30 = .ok (.istore 9, 2) := by decide +kernel
theorem dX4_partOf_32 : decode cX4_partOf 32 = .ok (.iload 9, 2) := by decide +kernel
theorem dX4_partOf_34 : decode cX4_partOf 34 = .ok (.aload_n 0, 1) := by decide +kernel
theorem dX4_partOf_35 : decode cX4_partOf 35 = .ok (.getfield 9, 3) := by decide +kernel
theorem dX4_partOf_38 : decode cX4_partOf 38 = .ok (.if_icmp .ge 56, 3) := by decide +kernel
theorem dX4_partOf_41 : decode cX4_partOf 41 = .ok (.aload_n 0, 1) := by decide +kernel
theorem dX4_partOf_42 : decode cX4_partOf 42 = .ok (.getfield 15, 3) := by decide +kernel
theorem dX4_partOf_45 : decode cX4_partOf 45 = .ok (.iload 9, 2) := by decide +kernel
theorem dX4_partOf_47 : decode cX4_partOf 47 = .ok (.iaload, 1) := by decide +kernel
theorem dX4_partOf_48 : decode cX4_partOf 48 = .ok (.iload 4, 2) := by decide +kernel
theorem dX4_partOf_50 : decode cX4_partOf 50 = .ok (.if_icmp .ne 38, 3) := by decide +kernel
theorem dX4_partOf_53 : decode cX4_partOf 53 = .ok (.lload 6, 2) := by decide +kernel
theorem dX4_partOf_55 : decode cX4_partOf 55 = .ok (.lload_n 1, 1) := by decide +kernel
theorem dX4_partOf_56 : decode cX4_partOf 56 = .ok (.aload_n 0, 1) := by decide +kernel
theorem dX4_partOf_57 : decode cX4_partOf 57 = .ok (.getfield 19, 3) := by decide +kernel
theorem dX4_partOf_60 : decode cX4_partOf 60 = .ok (.iload 9, 2) := by decide +kernel
theorem dX4_partOf_62 : decode cX4_partOf 62 = .ok (.iaload, 1) := by decide +kernel
theorem dX4_partOf_63 : decode cX4_partOf 63 = .ok (.i2l, 1) := by decide +kernel
theorem dX4_partOf_64 : decode cX4_partOf 64 = .ok (.lmul, 1) := by decide +kernel
theorem dX4_partOf_65 : decode cX4_partOf 65 = .ok (.iload 5, 2) := by decide +kernel
theorem dX4_partOf_67 : decode cX4_partOf 67 = .ok (.i2l, 1) := by decide +kernel
theorem dX4_partOf_68 : decode cX4_partOf 68 = .ok (.ldiv, 1) := by decide +kernel
theorem dX4_partOf_69 : decode cX4_partOf 69 = .ok (.lsub, 1) := by decide +kernel
theorem dX4_partOf_70 : decode cX4_partOf 70 = .ok (.lstore 6, 2) := by decide +kernel
theorem dX4_partOf_72 : decode cX4_partOf 72 = .ok (.iload 8, 2) := by decide +kernel
theorem dX4_partOf_74 : decode cX4_partOf 74 = .ok (.iload 9, 2) := by decide +kernel
theorem dX4_partOf_76 : decode cX4_partOf 76 = .ok (.iload_n 3, 1) := by decide +kernel
theorem dX4_partOf_77 : decode cX4_partOf 77 = .ok (.if_icmp .ge 7, 3) := by decide +kernel
theorem dX4_partOf_80 : decode cX4_partOf 80 = .ok (.iconst 1, 1) := by decide +kernel
theorem dX4_partOf_81 : decode cX4_partOf 81 = .ok (.goto 4, 3) := by decide +kernel
theorem dX4_partOf_84 : decode cX4_partOf 84 = .ok (.iconst 0, 1) := by decide +kernel
theorem dX4_partOf_85 : decode cX4_partOf 85 = .ok (.iadd, 1) := by decide +kernel
theorem dX4_partOf_86 : decode cX4_partOf 86 = .ok (.istore 8, 2) := by decide +kernel
theorem dX4_partOf_88 : decode cX4_partOf 88 = .ok (.iinc 9 1, 3) := by decide +kernel
theorem dX4_partOf_91 : decode cX4_partOf 91 = .ok (.goto (-59), 3) := by decide +kernel
theorem dX4_partOf_94 : decode cX4_partOf 94 = .ok (.lload_n 1, 1) := by decide +kernel
theorem dX4_partOf_95 : decode cX4_partOf 95 = .ok (.aload_n 0, 1) := by decide +kernel
theorem dX4_partOf_96 : decode cX4_partOf 96 = .ok (.getfield 19, 3) := by decide +kernel
theorem dX4_partOf_99 : decode cX4_partOf 99 = .ok (.iload_n 3, 1) := by decide +kernel
theorem dX4_partOf_100 : decode cX4_partOf 100 = .ok (.iaload, 1) := by decide +kernel
theorem dX4_partOf_101 : decode cX4_partOf 101 = .ok (.i2l, 1) := by decide +kernel
theorem dX4_partOf_102 : decode cX4_partOf 102 = .ok (.lmul, 1) := by decide +kernel
theorem dX4_partOf_103 : decode cX4_partOf 103 = .ok (.iload 5, 2) := by decide +kernel
theorem dX4_partOf_105 : decode cX4_partOf 105 = .ok (.i2l, 1) := by decide +kernel
theorem dX4_partOf_106 : decode cX4_partOf 106 = .ok (.ldiv, 1) := by decide +kernel
theorem dX4_partOf_107 : decode cX4_partOf 107 = .ok (.iload 8, 2) := by decide +kernel
theorem dX4_partOf_109 : decode cX4_partOf 109 = .ok (.i2l, 1) := by decide +kernel
theorem dX4_partOf_110 : decode cX4_partOf 110 = .ok (.lload 6, 2) := by decide +kernel
theorem dX4_partOf_112 : decode cX4_partOf 112 = .ok (.lcmp, 1) := by decide +kernel
theorem dX4_partOf_113 : decode cX4_partOf 113 = .ok (.ifCond .ge 7, 3) := by decide +kernel
theorem dX4_partOf_116 : decode cX4_partOf 116 = .ok (.iconst 1, 1) := by decide +kernel
theorem dX4_partOf_117 : decode cX4_partOf 117 = .ok (.goto 4, 3) := by decide +kernel
theorem dX4_partOf_120 : decode cX4_partOf 120 = .ok (.iconst 0, 1) := by decide +kernel
theorem dX4_partOf_121 : decode cX4_partOf 121 = .ok (.i2l, 1) := by decide +kernel
theorem dX4_partOf_122 : decode cX4_partOf 122 = .ok (.ladd, 1) := by decide +kernel
theorem dX4_partOf_123 : decode cX4_partOf 123 = .ok (.lreturn, 1) := by decide +kernel
theorem dX4_numberOf_0 : decode cX4_numberOf 0 = .ok (.iload_n 2, 1) := by decide +kernel
theorem dX4_numberOf_1 : decode cX4_numberOf 1 = .ok (.tableswitch 93 0 6 #[43, 51, 59, 66, 73, 80, 87], 43) := by decide +kernel
theorem dX4_numberOf_44 : decode cX4_numberOf 44 = .ok (.aload_n 0, 1) := by decide +kernel
theorem dX4_numberOf_45 : decode cX4_numberOf 45 = .ok (.getfield 15, 3) := by decide +kernel
theorem dX4_numberOf_48 : decode cX4_numberOf 48 = .ok (.iload_n 1, 1) := by decide +kernel
theorem dX4_numberOf_49 : decode cX4_numberOf 49 = .ok (.iaload, 1) := by decide +kernel
theorem dX4_numberOf_50 : decode cX4_numberOf 50 = .ok (.i2l, 1) := by decide +kernel
theorem dX4_numberOf_51 : decode cX4_numberOf 51 = .ok (.lreturn, 1) := by decide +kernel
theorem dX4_numberOf_52 : decode cX4_numberOf 52 = .ok (.aload_n 0, 1) := by decide +kernel
theorem dX4_numberOf_53 : decode cX4_numberOf 53 = .ok (.getfield 19, 3) := by decide +kernel
theorem dX4_numberOf_56 : decode cX4_numberOf 56 = .ok (.iload_n 1, 1) := by decide +kernel
theorem dX4_numberOf_57 : decode cX4_numberOf 57 = .ok (.iaload, 1) := by decide +kernel
theorem dX4_numberOf_58 : decode cX4_numberOf 58 = .ok (.i2l, 1) := by decide +kernel
theorem dX4_numberOf_59 : decode cX4_numberOf 59 = .ok (.lreturn, 1) := by decide +kernel
theorem dX4_numberOf_60 : decode cX4_numberOf 60 = .ok (.aload_n 0, 1) := by decide +kernel
theorem dX4_numberOf_61 : decode cX4_numberOf 61 = .ok (.getfield 22, 3) := by decide +kernel
theorem dX4_numberOf_64 : decode cX4_numberOf 64 = .ok (.iload_n 1, 1) := by decide +kernel
theorem dX4_numberOf_65 : decode cX4_numberOf 65 = .ok (.laload, 1) := by decide +kernel
theorem dX4_numberOf_66 : decode cX4_numberOf 66 = .ok (.lreturn, 1) := by decide +kernel
theorem dX4_numberOf_67 : decode cX4_numberOf 67 = .ok (.aload_n 0, 1) := by decide +kernel
theorem dX4_numberOf_68 : decode cX4_numberOf 68 = .ok (.getfield 26, 3) := by decide +kernel
theorem dX4_numberOf_71 : decode cX4_numberOf 71 = .ok (.iload_n 1, 1) := by decide +kernel
theorem dX4_numberOf_72 : decode cX4_numberOf 72 = .ok (.laload, 1) := by decide +kernel
theorem dX4_numberOf_73 : decode cX4_numberOf 73 = .ok (.lreturn, 1) := by decide +kernel
theorem dX4_numberOf_74 : decode cX4_numberOf 74 = .ok (.aload_n 0, 1) := by decide +kernel
theorem dX4_numberOf_75 : decode cX4_numberOf 75 = .ok (.getfield 29, 3) := by decide +kernel
theorem dX4_numberOf_78 : decode cX4_numberOf 78 = .ok (.iload_n 1, 1) := by decide +kernel
theorem dX4_numberOf_79 : decode cX4_numberOf 79 = .ok (.laload, 1) := by decide +kernel
theorem dX4_numberOf_80 : decode cX4_numberOf 80 = .ok (.lreturn, 1) := by decide +kernel
theorem dX4_numberOf_81 : decode cX4_numberOf 81 = .ok (.aload_n 0, 1) := by decide +kernel
theorem dX4_numberOf_82 : decode cX4_numberOf 82 = .ok (.getfield 32, 3) := by decide +kernel
theorem dX4_numberOf_85 : decode cX4_numberOf 85 = .ok (.iload_n 1, 1) := by decide +kernel
theorem dX4_numberOf_86 : decode cX4_numberOf 86 = .ok (.laload, 1) := by decide +kernel
theorem dX4_numberOf_87 : decode cX4_numberOf 87 = .ok (.lreturn, 1) := by decide +kernel
theorem dX4_numberOf_88 : decode cX4_numberOf 88 = .ok (.aload_n 0, 1) := by decide +kernel
theorem dX4_numberOf_89 : decode cX4_numberOf 89 = .ok (.iload_n 1, 1) := by decide +kernel
theorem dX4_numberOf_90 : decode cX4_numberOf 90 = .ok (.invokevirtual 55, 3) := by decide +kernel
theorem dX4_numberOf_93 : decode cX4_numberOf 93 = .ok (.lreturn, 1) := by decide +kernel
theorem dX4_numberOf_94 : decode cX4_numberOf 94 = .ok (.aload_n 0, 1) := by decide +kernel
theorem dX4_numberOf_95 : decode cX4_numberOf 95 = .ok (.iload_n 1, 1) := by decide +kernel
theorem dX4_numberOf_96 : decode cX4_numberOf 96 = .ok (.invokevirtual 59, 3) := by decide +kernel
theorem dX4_numberOf_99 : decode cX4_numberOf 99 = .ok (.lreturn, 1) := by decide +kernel
theorem dX4_totalOf_0 : decode cX4_totalOf 0 = .ok (.lconst 0, 1) := by decide +kernel
theorem dX4_totalOf_1 : decode cX4_totalOf 1 = .ok (.lstore_n 2, 1) := by decide +kernel
theorem dX4_totalOf_2 : decode cX4_totalOf 2 = .ok (.iconst 0, 1) := by decide +kernel
theorem dX4_totalOf_3 : decode cX4_totalOf 3 = .ok (.istore 4, 2) := by decide +kernel
theorem dX4_totalOf_5 : decode cX4_totalOf 5 = .ok (.iload 4, 2) := by decide +kernel
theorem dX4_totalOf_7 : decode cX4_totalOf 7 = .ok (.aload_n 0, 1) := by decide +kernel
theorem dX4_totalOf_8 : decode cX4_totalOf 8 = .ok (.getfield 9, 3) := by decide +kernel
theorem dX4_totalOf_11 : decode cX4_totalOf 11 = .ok (.if_icmp .ge 19, 3) := by decide +kernel
theorem dX4_totalOf_14 : decode cX4_totalOf 14 = .ok (.lload_n 2, 1) := by decide +kernel
theorem dX4_totalOf_15 : decode cX4_totalOf 15 = .ok (.aload_n 0, 1) := by decide +kernel
theorem dX4_totalOf_16 : decode cX4_totalOf 16 = .ok (.iload 4, 2) := by decide +kernel
theorem dX4_totalOf_18 : decode cX4_totalOf 18 = .ok (.iload_n 1, 1) := by decide +kernel
theorem dX4_totalOf_19 : decode cX4_totalOf 19 = .ok (.invokevirtual 62, 3) := by decide +kernel
theorem dX4_totalOf_22 : decode cX4_totalOf 22 = .ok (.ladd, 1) := by decide +kernel
theorem dX4_totalOf_23 : decode cX4_totalOf 23 = .ok (.lstore_n 2, 1) := by decide +kernel
theorem dX4_totalOf_24 : decode cX4_totalOf 24 = .ok (.iinc 4 1, 3) := by decide +kernel
theorem dX4_totalOf_27 : decode cX4_totalOf 27 = .ok (.goto (-22), 3) := by decide +kernel
theorem dX4_totalOf_30 : decode cX4_totalOf 30 = .ok (.lload_n 2, 1) := by decide +kernel
theorem dX4_totalOf_31 : decode cX4_totalOf 31 = .ok (.lreturn, 1) := by decide +kernel
theorem dX5_init_0 : decode cX5_init 0 = .ok (.aload_n 0, 1) := by decide +kernel
theorem dX5_init_1 : decode cX5_init 1 = .ok (.invokespecial 3, 3) := by decide +kernel
theorem dX5_init_4 : decode cX5_init 4 = .ok (.aload_n 0, 1) := by decide +kernel
theorem dX5_init_5 : decode cX5_init 5 = .ok (.iconst 0, 1) := by decide +kernel
theorem dX5_init_6 : decode cX5_init 6 = .ok (.putfield 9, 3) := by decide +kernel
theorem dX5_init_9 : decode cX5_init 9 = .ok (.aload_n 0, 1) := by decide +kernel
theorem dX5_init_10 : decode cX5_init 10 = .ok (.bipush 6, 2) := by decide +kernel
theorem dX5_init_12 : decode cX5_init 12 = .ok (.newarray .int, 2) := by decide +kernel
theorem dX5_init_14 : decode cX5_init 14 = .ok (.putfield 15, 3) := by decide +kernel
theorem dX5_init_17 : decode cX5_init 17 = .ok (.aload_n 0, 1) := by decide +kernel
theorem dX5_init_18 : decode cX5_init 18 = .ok (.bipush 6, 2) := by decide +kernel
theorem dX5_init_20 : decode cX5_init 20 = .ok (.newarray .int, 2) := by decide +kernel
theorem dX5_init_22 : decode cX5_init 22 = .ok (.putfield 19, 3) := by decide +kernel
theorem dX5_init_25 : decode cX5_init 25 = .ok (.return_, 1) := by decide +kernel
theorem dX5_findFirst_0 : decode cX5_findFirst 0 = .ok (.aload_n 0, 1) := by decide +kernel
theorem dX5_findFirst_1 : decode cX5_findFirst 1 = .ok (.aload_n 1, 1) := by decide +kernel
theorem dX5_findFirst_2 : decode cX5_findFirst 2 = .ok (.invokevirtual 22, 3) := by decide +kernel
theorem dX5_findFirst_5 : decode cX5_findFirst 5 = .ok (.aload_n 0, 1) := by decide +kernel
theorem dX5_findFirst_6 : decode cX5_findFirst 6 = .ok (.iconst 0, 1) := by decide +kernel
theorem dX5_findFirst_7 : decode cX5_findFirst 7 = .ok (.putfield 9, 3) := by decide +kernel
theorem dX5_findFirst_10 : decode cX5_findFirst 10 = .ok (.iconst 2, 1) := by decide +kernel
theorem dX5_findFirst_11 : decode cX5_findFirst 11 = .ok (.istore_n 2, 1) := by decide +kernel
theorem dX5_findFirst_12 : decode cX5_findFirst 12 = .ok (.iload_n 2, 1) := by decide +kernel
theorem dX5_findFirst_13 : decode cX5_findFirst 13 = .ok (.bipush 6, 2) := by decide +kernel
theorem dX5_findFirst_15 : decode cX5_findFirst 15 = .ok (.if_icmp .gt 54, 3) := by decide +kernel
theorem dX5_findFirst_18 : decode cX5_findFirst 18 = .ok (.iconst 0, 1) := by decide +kernel
theorem dX5_findFirst_19 : decode cX5_findFirst 19 = .ok (.istore_n 3, 1) := by decide +kernel
theorem dX5_findFirst_20 : decode cX5_findFirst 20 = .ok (.iload_n 3, 1) := by decide +kernel
theorem dX5_findFirst_21 : decode cX5_findFirst 21 = .ok (.bipush 6, 2) := by decide +kernel
theorem dX5_findFirst_23 : decode cX5_findFirst 23 = .ok (.iload_n 2, 1) := by decide +kernel
theorem dX5_findFirst_24 : decode cX5_findFirst 24 = .ok (.isub, 1) := by decide +kernel
theorem dX5_findFirst_25 : decode cX5_findFirst 25 = .ok (.if_icmp .gt 38, 3) := by decide +kernel
theorem dX5_findFirst_28 : decode cX5_findFirst 28 = .ok (.aload_n 0, 1) := by decide +kernel
theorem dX5_findFirst_29 : decode cX5_findFirst 29 = .ok (.getfield 15, 3) := by decide +kernel
theorem dX5_findFirst_32 : decode cX5_findFirst 32 = .ok (.iconst 0, 1) := by decide +kernel
theorem dX5_findFirst_33 : decode cX5_findFirst 33 = .ok (.iload_n 3, 1) := by decide +kernel
theorem dX5_findFirst_34 : decode cX5_findFirst 34 = .ok (.iastore, 1) := by decide +kernel
theorem dX5_findFirst_35 : decode cX5_findFirst 35 = .ok (.aload_n 0, 1) := by decide +kernel
theorem dX5_findFirst_36 : decode cX5_findFirst 36 = .ok (.getfield 19, 3) := by decide +kernel
theorem dX5_findFirst_39 : decode cX5_findFirst 39 = .ok (.aload_n 0, 1) := by decide +kernel
theorem dX5_findFirst_40 : decode cX5_findFirst 40 = .ok (.getfield 15, 3) := by decide +kernel
theorem dX5_findFirst_43 : decode cX5_findFirst 43 = .ok (.iconst 1, 1) := by decide +kernel
theorem dX5_findFirst_44 : decode cX5_findFirst 44 = .ok (.iload_n 2, 1) := by decide +kernel
theorem dX5_findFirst_45 : decode cX5_findFirst 45 = .ok (.invokestatic 26, 3) := by decide +kernel
theorem dX5_findFirst_48 : decode cX5_findFirst 48 = .ok (.ifCond .eq 9, 3) := by decide +kernel
theorem dX5_findFirst_51 : decode cX5_findFirst 51 = .ok (.aload_n 0, 1) := by decide +kernel
theorem dX5_findFirst_52 : decode cX5_findFirst 52 = .ok (.iload_n 2, 1) := by decide +kernel
theorem dX5_findFirst_53 : decode cX5_findFirst 53 = .ok (.putfield 9, 3) := by decide +kernel
theorem dX5_findFirst_56 : decode cX5_findFirst 56 = .ok (.return_, 1) := by decide +kernel
theorem dX5_findFirst_57 : decode cX5_findFirst 57 = .ok (.iinc 3 1, 3) := by decide +kernel
theorem dX5_findFirst_60 : decode cX5_findFirst 60 = .ok (.goto (-40), 3) := by decide +kernel
theorem dX5_findFirst_63 : decode cX5_findFirst 63 = .ok (.iinc 2 1, 3) := by decide +kernel
theorem dX5_findFirst_66 : decode cX5_findFirst 66 = .ok (.goto (-54), 3) := by decide +kernel
theorem dX5_findFirst_69 : decode cX5_findFirst 69 = .ok (.return_, 1) := by decide +kernel
theorem dX5_memberAfter_0 : decode cX5_memberAfter 0 = .ok (.iload_n 1, 1) := by decide +kernel
theorem dX5_memberAfter_1 : decode cX5_memberAfter 1 = .ok (.aload_n 0, 1) := by decide +kernel
theorem dX5_memberAfter_2 : decode cX5_memberAfter 2 = .ok (.getfield 9, 3) := by decide +kernel
theorem dX5_memberAfter_5 : decode cX5_memberAfter 5 = .ok (.iconst 1, 1) := by decide +kernel
theorem dX5_memberAfter_6 : decode cX5_memberAfter 6 = .ok (.isub, 1) := by decide +kernel
theorem dX5_memberAfter_7 : decode cX5_memberAfter 7 = .ok (.if_icmp .ge 14, 3) := by decide +kernel
theorem dX5_memberAfter_10 : decode cX5_memberAfter 10 = .ok (.aload_n 0, 1) := by decide +kernel
theorem dX5_memberAfter_11 : decode cX5_memberAfter 11 = .ok (.getfield 15, 3) := by decide +kernel
theorem dX5_memberAfter_14 : decode cX5_memberAfter 14 = .ok (.iload_n 1, 1) := by decide +kernel
theorem dX5_memberAfter_15 : decode cX5_memberAfter 15 = .ok (.iconst 1, 1) := by decide +kernel
theorem dX5_memberAfter_16 : decode cX5_memberAfter 16 = .ok (.iadd, 1) := by decide +kernel
theorem dX5_memberAfter_17 : decode cX5_memberAfter 17 = .ok (.iaload, 1) := by decide +kernel
theorem dX5_memberAfter_18 : decode cX5_memberAfter 18 = .ok (.goto 9, 3) := by decide +kernel
theorem dX5_memberAfter_21 : decode cX5_memberAfter 21 = .ok (.aload_n 0, 1) := by decide +kernel
theorem dX5_memberAfter_22 : decode cX5_memberAfter 22 = .ok (.getfield 15, 3) := by decide +kernel
theorem dX5_memberAfter_25 : decode cX5_memberAfter 25 = .ok (.iconst 0, 1) := by decide +kernel
theorem dX5_memberAfter_26 : decode cX5_memberAfter 26 = .ok (.iaload, 1) := by decide +kernel
theorem dX5_memberAfter_27 : decode cX5_memberAfter 27 = .ok (.ireturn, 1) := by decide +kernel
theorem dX5_markCreditors_0 : decode cX5_markCreditors 0 = .ok (.iconst 0, 1) := by decide +kernel
theorem dX5_markCreditors_1 : decode cX5_markCreditors 1 = .ok (.istore_n 2, 1) := by decide +kernel
theorem dX5_markCreditors_2 : decode cX5_markCreditors 2 = .ok (.iload_n 2, 1) := by decide +kernel
theorem dX5_markCreditors_3 : decode cX5_markCreditors 3 = .ok (.bipush 6, 2) := by decide +kernel
theorem dX5_markCreditors_5 : decode cX5_markCreditors 5 = .ok (.if_icmp .ge 16, 3) := by decide +kernel
theorem dX5_markCreditors_8 : decode cX5_markCreditors 8 = .ok (.aload_n 0, 1) := by decide +kernel
theorem dX5_markCreditors_9 : decode cX5_markCreditors 9 = .ok (.getfield 19, 3) := by decide +kernel
theorem dX5_markCreditors_12 : decode cX5_markCreditors 12 = .ok (.iload_n 2, 1) := by decide +kernel
theorem dX5_markCreditors_13 : decode cX5_markCreditors 13 = .ok (.iconst 0, 1) := by decide +kernel
theorem dX5_markCreditors_14 : decode cX5_markCreditors 14 = .ok (.iastore, 1) := by decide +kernel
theorem dX5_markCreditors_15 : decode cX5_markCreditors 15 = .ok (.iinc 2 1, 3) := by decide +kernel
theorem dX5_markCreditors_18 : decode cX5_markCreditors 18 = .ok (.goto (-16), 3) := by decide +kernel
theorem dX5_markCreditors_21 : decode cX5_markCreditors 21 = .ok (.iconst 0, 1) := by decide +kernel
theorem dX5_markCreditors_22 : decode cX5_markCreditors 22 = .ok (.istore_n 2, 1) := by decide +kernel
theorem dX5_markCreditors_23 : decode cX5_markCreditors 23 = .ok (.iload_n 2, 1) := by decide +kernel
theorem dX5_markCreditors_24 : decode cX5_markCreditors 24 = .ok (.aload_n 1, 1) := by decide +kernel
theorem dX5_markCreditors_25 : decode cX5_markCreditors 25 = .ok (.getfield 30, 3) := by decide +kernel
theorem dX5_markCreditors_28 : decode cX5_markCreditors 28 = .ok (.if_icmp .ge 31, 3) := by decide +kernel
theorem dX5_markCreditors_31 : decode cX5_markCreditors 31 = .ok (.aload_n 0, 1) := by decide +kernel
theorem dX5_markCreditors_32 : decode cX5_markCreditors 32 = .ok (.getfield 19, 3) := by decide +kernel
theorem dX5_markCreditors_35 : decode cX5_markCreditors 35 = .ok (.aload_n 1, 1) := by decide +kernel
theorem dX5_markCreditors_36 : decode cX5_markCreditors 36 = .ok (.getfield 35, 3) := by decide +kernel
theorem dX5_markCreditors_39 : decode cX5_markCreditors 39 = .ok (.iload_n 2, 1) := by decide +kernel
theorem dX5_markCreditors_40 : decode cX5_markCreditors 40 = .ok (.iaload, 1) := by decide +kernel
theorem dX5_markCreditors_41 : decode cX5_markCreditors 41 = .ok (.dup2, 1) := by decide +kernel
theorem dX5_markCreditors_42 : decode cX5_markCreditors 42 = .ok (.iaload, 1) := by decide +kernel
theorem dX5_markCreditors_43 : decode cX5_markCreditors 43 = .ok (.iconst 1, 1) := by decide +kernel
theorem dX5_markCreditors_44 : decode cX5_markCreditors 44 = .ok (.aload_n 1, 1) := by decide +kernel
theorem dX5_markCreditors_45 : decode cX5_markCreditors 45 = .ok (.getfield 38, 3) := by decide +kernel
theorem dX5_markCreditors_48 : decode cX5_markCreditors 48 = .ok (.iload_n 2, 1) := by decide +kernel
theorem dX5_markCreditors_49 : decode cX5_markCreditors 49 = .ok (.iaload, 1) := by decide +kernel
theorem dX5_markCreditors_50 : decode cX5_markCreditors 50 = .ok (.ishl, 1) := by decide +kernel
theorem dX5_markCreditors_51 : decode cX5_markCreditors 51 = .ok (.ior, 1) := by decide +kernel
theorem dX5_markCreditors_52 : decode cX5_markCreditors 52 = .ok (.iastore, 1) := by decide +kernel
theorem dX5_markCreditors_53 : decode cX5_markCreditors 53 = .ok (.iinc 2 1, 3) := by decide +kernel
theorem dX5_markCreditors_56 : decode cX5_markCreditors 56 = .ok (.goto (-33), 3) := by decide +kernel
theorem dX5_markCreditors_59 : decode cX5_markCreditors 59 = .ok (.return_, 1) := by decide +kernel
theorem dX5_closes_0 : decode cX5_closes 0 = .ok (.aload_n 0, 1) := by decide +kernel
theorem dX5_closes_1 : decode cX5_closes 1 = .ok (.aload_n 1, 1) := by decide +kernel
theorem dX5_closes_2 : decode cX5_closes 2 = .ok (.iload_n 2, 1) := by decide +kernel
theorem dX5_closes_3 : decode cX5_closes 3 = .ok (.iconst 1, 1) := by decide +kernel
theorem dX5_closes_4 : decode cX5_closes 4 = .ok (.isub, 1) := by decide +kernel
theorem dX5_closes_5 : decode cX5_closes 5 = .ok (.iaload, 1) := by decide +kernel
theorem dX5_closes_6 : decode cX5_closes 6 = .ok (.iaload, 1) := by decide +kernel
theorem dX5_closes_7 : decode cX5_closes 7 = .ok (.istore 4, 2) := by decide +kernel
theorem dX5_closes_9 : decode cX5_closes 9 = .ok (.iload_n 2, 1) := by decide +kernel
theorem dX5_closes_10 : decode cX5_closes 10 = .ok (.iload_n 3, 1) := by decide +kernel
theorem dX5_closes_11 : decode cX5_closes 11 = .ok (.if_icmp .lt 21, 3) := by decide +kernel
theorem dX5_closes_14 : decode cX5_closes 14 = .ok (.iload 4, 2) := by decide +kernel
theorem dX5_closes_16 : decode cX5_closes 16 = .ok (.aload_n 1, 1) := by decide +kernel
theorem dX5_closes_17 : decode cX5_closes 17 = .ok (.iconst 0, 1) := by decide +kernel
theorem dX5_closes_18 : decode cX5_closes 18 = .ok (.iaload, 1) := by decide +kernel
theorem dX5_closes_19 : decode cX5_closes 19 = .ok (.ishr, 1) := by decide +kernel
theorem dX5_closes_20 : decode cX5_closes 20 = .ok (.iconst 1, 1) := by decide +kernel
theorem dX5_closes_21 : decode cX5_closes 21 = .ok (.iand, 1) := by decide +kernel
theorem dX5_closes_22 : decode cX5_closes 22 = .ok (.iconst 1, 1) := by decide +kernel
theorem dX5_closes_23 : decode cX5_closes 23 = .ok (.if_icmp .ne 7, 3) := by decide +kernel
theorem dX5_closes_26 : decode cX5_closes 26 = .ok (.iconst 1, 1) := by decide +kernel
theorem dX5_closes_27 : decode cX5_closes 27 = .ok (.goto 4, 3) := by decide +kernel
theorem dX5_closes_30 : decode cX5_closes 30 = .ok (.iconst 0, 1) := by decide +kernel
theorem dX5_closes_31 : decode cX5_closes 31 = .ok (.ireturn, 1) := by decide +kernel
theorem dX5_closes_32 : decode cX5_closes 32 = .ok (.aload_n 1, 1) := by decide +kernel
theorem dX5_closes_33 : decode cX5_closes 33 = .ok (.iconst 0, 1) := by decide +kernel
theorem dX5_closes_34 : decode cX5_closes 34 = .ok (.iaload, 1) := by decide +kernel
theorem dX5_closes_35 : decode cX5_closes 35 = .ok (.iconst 1, 1) := by decide +kernel
theorem dX5_closes_36 : decode cX5_closes 36 = .ok (.iadd, 1) := by decide +kernel
theorem dX5_closes_37 : decode cX5_closes 37 = .ok (.istore 5, 2) := by decide +kernel
theorem dX5_closes_39 : decode cX5_closes 39 = .ok (.iload 5, 2) := by decide +kernel
theorem dX5_closes_41 : decode cX5_closes 41 = .ok (.bipush 6, 2) := by decide +kernel
theorem dX5_closes_43 : decode cX5_closes 43 = .ok (.if_icmp .ge 49, 3) := by decide +kernel
theorem dX5_closes_46 : decode cX5_closes 46 = .ok (.iload 4, 2) := by decide +kernel
theorem dX5_closes_48 : decode cX5_closes 48 = .ok (.iload 5, 2) := by decide +kernel
theorem dX5_closes_50 : decode cX5_closes 50 = .ok (.ishr, 1) := by decide +kernel
theorem dX5_closes_51 : decode cX5_closes 51 = .ok (.iconst 1, 1) := by decide +kernel
theorem dX5_closes_52 : decode cX5_closes 52 = .ok (.iand, 1) := by decide +kernel
theorem dX5_closes_53 : decode cX5_closes 53 = .ok (.iconst 1, 1) := by decide +kernel
theorem dX5_closes_54 : decode cX5_closes 54 = .ok (.if_icmp .ne 32, 3) := by decide +kernel
theorem dX5_closes_57 : decode cX5_closes 57 = .ok (.aload_n 1, 1) := by decide +kernel
theorem dX5_closes_58 : decode cX5_closes 58 = .ok (.iload_n 2, 1) := by decide +kernel
theorem dX5_closes_59 : decode cX5_closes 59 = .ok (.iload 5, 2) := by decide +kernel
theorem dX5_closes_61 : decode cX5_closes 61 = .ok (.invokestatic 39, 3) := by decide +kernel
theorem dX5_closes_64 : decode cX5_closes 64 = .ok (.ifCond .ne 22, 3) := by decide +kernel
theorem dX5_closes_67 : decode cX5_closes 67 = .ok (.aload_n 1, 1) := by decide +kernel
theorem dX5_closes_68 : decode cX5_closes 68 = .ok (.iload_n 2, 1) := by decide +kernel
theorem dX5_closes_69 : decode cX5_closes 69 = .ok (.iload 5, 2) := by decide +kernel
theorem dX5_closes_71 : decode cX5_closes 71 = .ok (.iastore, 1) := by decide +kernel
theorem dX5_closes_72 : decode cX5_closes 72 = .ok (.aload_n 0, 1) := by decide +kernel
theorem dX5_closes_73 : decode cX5_closes 73 = .ok (.aload_n 1, 1) := by decide +kernel
theorem dX5_closes_74 : decode cX5_closes 74 = .ok (.iload_n 2, 1) := by decide +kernel
theorem dX5_closes_75 : decode cX5_closes 75 = .ok (.iconst 1, 1) := by decide +kernel
theorem dX5_closes_76 : decode cX5_closes 76 = .ok (.iadd, 1) := by decide +kernel
theorem dX5_closes_77 : decode cX5_closes 77 = .ok (.iload_n 3, 1) := by decide +kernel
theorem dX5_closes_78 : decode cX5_closes 78 = .ok (.invokestatic 26, 3) := by decide +kernel
theorem dX5_closes_81 : decode cX5_closes 81 = .ok (.ifCond .eq 5, 3) := by decide +kernel
theorem dX5_closes_84 : decode cX5_closes 84 = .ok (.iconst 1, 1) := by decide +kernel
theorem dX5_closes_85 : decode cX5_closes 85 = .ok (.ireturn, 1) := by decide +kernel
theorem dX5_closes_86 : decode cX5_closes 86 = .ok (.iinc 5 1, 3) := by decide +kernel
theorem dX5_closes_89 : decode cX5_closes 89 = .ok (.goto (-50), 3) := by decide +kernel
theorem dX5_closes_92 : decode cX5_closes 92 = .ok (.iconst 0, 1) := by decide +kernel
theorem dX5_closes_93 : decode cX5_closes 93 = .ok (.ireturn, 1) := by decide +kernel
theorem dX5_stands_0 : decode cX5_stands 0 = .ok (.iconst 0, 1) := by decide +kernel
theorem dX5_stands_1 : decode cX5_stands 1 = .ok (.istore_n 3, 1) := by decide +kernel
theorem dX5_stands_2 : decode cX5_stands 2 = .ok (.iload_n 3, 1) := by decide +kernel
theorem dX5_stands_3 : decode cX5_stands 3 = .ok (.iload_n 1, 1) := by decide +kernel
theorem dX5_stands_4 : decode cX5_stands 4 = .ok (.if_icmp .ge 18, 3) := by decide +kernel
theorem dX5_stands_7 : decode cX5_stands 7 = .ok (.aload_n 0, 1) := by decide +kernel
theorem dX5_stands_8 : decode cX5_stands 8 = .ok (.iload_n 3, 1) := by decide +kernel
theorem dX5_stands_9 : decode cX5_stands 9 = .ok (.iaload, 1) := by decide +kernel
theorem dX5_stands_10 : decode cX5_stands 10 = .ok (.iload_n 2, 1) := by decide +kernel
theorem dX5_stands_11 : decode cX5_stands 11 = .ok (.if_icmp .ne 5, 3) := by decide +kernel
theorem dX5_stands_14 : decode cX5_stands 14 = .ok (.iconst 1, 1) := by decide +kernel
theorem dX5_stands_15 : decode cX5_stands 15 = .ok (.ireturn, 1) := by decide +kernel
theorem dX5_stands_16 : decode cX5_stands 16 = .ok (.iinc 3 1, 3) := by decide +kernel
theorem dX5_stands_19 : decode cX5_stands 19 = .ok (.goto (-17), 3) := by decide +kernel
theorem dX5_stands_22 : decode cX5_stands 22 = .ok (.iconst 0, 1) := by decide +kernel
theorem dX5_stands_23 : decode cX5_stands 23 = .ok (.ireturn, 1) := by decide +kernel
theorem dX6_init_0 : decode cX6_init 0 = .ok (.aload_n 0, 1) := by decide +kernel
theorem dX6_init_1 : decode cX6_init 1 = .ok (.invokespecial 3, 3) := by decide +kernel
theorem dX6_init_4 : decode cX6_init 4 = .ok (.aload_n 0, 1) := by decide +kernel
theorem dX6_init_5 : decode cX6_init 5 = .ok (.iconst 0, 1) := by decide +kernel
theorem dX6_init_6 : decode cX6_init 6 = .ok (.putfield 9, 3) := by decide +kernel
theorem dX6_init_9 : decode cX6_init 9 = .ok (.aload_n 0, 1) := by decide +kernel
theorem dX6_init_10 : decode cX6_init 10 = .ok (.bipush 70, 2) := by decide +kernel
theorem dX6_init_12 : decode cX6_init 12 = .ok (.newarray .char, 2) := by decide +kernel
theorem dX6_init_14 : decode cX6_init 14 = .ok (.putfield 15, 3) := by decide +kernel
theorem dX6_init_17 : decode cX6_init 17 = .ok (.aload_n 0, 1) := by decide +kernel
theorem dX6_init_18 : decode cX6_init 18 = .ok (.iconst 0, 1) := by decide +kernel
theorem dX6_init_19 : decode cX6_init 19 = .ok (.putfield 19, 3) := by decide +kernel
theorem dX6_init_22 : decode cX6_init 22 = .ok (.aload_n 0, 1) := by decide +kernel
theorem dX6_init_23 : decode cX6_init 23 = .ok (.iconst 1, 1) := by decide +kernel
theorem dX6_init_24 : decode cX6_init 24 = .ok (.putfield 22, 3) := by decide +kernel
theorem dX6_init_27 : decode cX6_init 27 = .ok (.aload_n 0, 1) := by decide +kernel
theorem dX6_init_28 : decode cX6_init 28 = .ok (.iconst 0, 1) := by decide +kernel
theorem dX6_init_29 : decode cX6_init 29 = .ok (.putfield 26, 3) := by decide +kernel
theorem dX6_init_32 : decode cX6_init 32 = .ok (.aload_n 0, 1) := by decide +kernel
theorem dX6_init_33 : decode cX6_init 33 = .ok (.bipush 35, 2) := by decide +kernel
theorem dX6_init_35 : decode cX6_init 35 = .ok (.newarray .int, 2) := by decide +kernel
theorem dX6_init_37 : decode cX6_init 37 = .ok (.putfield 29, 3) := by decide +kernel
theorem dX6_init_40 : decode cX6_init 40 = .ok (.aload_n 0, 1) := by decide +kernel
theorem dX6_init_41 : decode cX6_init 41 = .ok (.bipush 35, 2) := by decide +kernel
theorem dX6_init_43 : decode cX6_init 43 = .ok (.newarray .int, 2) := by decide +kernel
theorem dX6_init_45 : decode cX6_init 45 = .ok (.putfield 33, 3) := by decide +kernel
theorem dX6_init_48 : decode cX6_init 48 = .ok (.aload_n 0, 1) := by decide +kernel
theorem dX6_init_49 : decode cX6_init 49 = .ok (.bipush 35, 2) := by decide +kernel
theorem dX6_init_51 : decode cX6_init 51 = .ok (.newarray .int, 2) := by decide +kernel
theorem dX6_init_53 : decode cX6_init 53 = .ok (.putfield 36, 3) := by decide +kernel
theorem dX6_init_56 : decode cX6_init 56 = .ok (.aload_n 0, 1) := by decide +kernel
theorem dX6_init_57 : decode cX6_init 57 = .ok (.bipush 35, 2) := by decide +kernel
theorem dX6_init_59 : decode cX6_init 59 = .ok (.newarray .int, 2) := by decide +kernel
theorem dX6_init_61 : decode cX6_init 61 = .ok (.putfield 39, 3) := by decide +kernel
theorem dX6_init_64 : decode cX6_init 64 = .ok (.return_, 1) := by decide +kernel
theorem dX6_addOne_0 : decode cX6_addOne 0 = .ok (.aload_n 0, 1) := by decide +kernel
theorem dX6_addOne_1 : decode cX6_addOne 1 = .ok (.getfield 9, 3) := by decide +kernel
theorem dX6_addOne_4 : decode cX6_addOne 4 = .ok (.bipush 70, 2) := by decide +kernel
theorem dX6_addOne_6 : decode cX6_addOne 6 = .ok (.if_icmp .ge 23, 3) := by decide +kernel
theorem dX6_addOne_9 : decode cX6_addOne 9 = .ok (.aload_n 0, 1) := by decide +kernel
theorem dX6_addOne_10 : decode cX6_addOne 10 = .ok (.getfield 15, 3) := by decide +kernel
theorem dX6_addOne_13 : decode cX6_addOne 13 = .ok (.aload_n 0, 1) := by decide +kernel
theorem dX6_addOne_14 : decode cX6_addOne 14 = .ok (.getfield 9, 3) := by decide +kernel
theorem dX6_addOne_17 : decode cX6_addOne 17 = .ok (.iload_n 1, 1) := by decide +kernel
theorem dX6_addOne_18 : decode cX6_addOne 18 = .ok (.castore, 1) := by decide +kernel
theorem dX6_addOne_19 : decode cX6_addOne 19 = .ok (.aload_n 0, 1) := by decide +kernel
theorem dX6_addOne_20 : decode cX6_addOne 20 = .ok (.dup, 1) := by decide +kernel
theorem dX6_addOne_21 : decode cX6_addOne 21 = .ok (.getfield 9, 3) := by decide +kernel
theorem dX6_addOne_24 : decode cX6_addOne 24 = .ok (.iconst 1, 1) := by decide +kernel
theorem dX6_addOne_25 : decode cX6_addOne 25 = .ok (.iadd, 1) := by decide +kernel
theorem dX6_addOne_26 : decode cX6_addOne 26 = .ok (.putfield 9, 3) := by decide +kernel
theorem dX6_addOne_29 : decode cX6_addOne 29 = .ok (.aload_n 0, 1) := by decide +kernel
theorem dX6_addOne_30 : decode cX6_addOne 30 = .ok (.getfield 9, 3) := by decide +kernel
theorem dX6_addOne_33 : decode cX6_addOne 33 = .ok (.ireturn, 1) := by decide +kernel
theorem dX6_empty_0 : decode cX6_empty 0 = .ok (.aload_n 0, 1) := by decide +kernel
theorem dX6_empty_1 : decode cX6_empty 1 = .ok (.iconst 0, 1) := by decide +kernel
theorem dX6_empty_2 : decode cX6_empty 2 = .ok (.putfield 9, 3) := by decide +kernel
theorem dX6_empty_5 : decode cX6_empty 5 = .ok (.return_, 1) := by decide +kernel
theorem dX6_parseAll_0 : decode cX6_parseAll 0 = .ok (.aload_n 0, 1) := by decide +kernel
theorem dX6_parseAll_1 : decode cX6_parseAll 1 = .ok (.iconst 0, 1) := by decide +kernel
theorem dX6_parseAll_2 : decode cX6_parseAll 2 = .ok (.putfield 19, 3) := by decide +kernel
theorem dX6_parseAll_5 : decode cX6_parseAll 5 = .ok (.aload_n 0, 1) := by decide +kernel
theorem dX6_parseAll_6 : decode cX6_parseAll 6 = .ok (.iconst 0, 1) := by decide +kernel
theorem dX6_parseAll_7 : decode cX6_parseAll 7 = .ok (.putfield 26, 3) := by decide +kernel
theorem dX6_parseAll_10 : decode cX6_parseAll 10 = .ok (.aload_n 0, 1) := by decide +kernel
theorem dX6_parseAll_11 : decode cX6_parseAll 11 = .ok (.aload_n 0, 1) := by decide +kernel
theorem dX6_parseAll_12 : decode cX6_parseAll 12 = .ok (.getfield 9, 3) := by decide +kernel
theorem dX6_parseAll_15 : decode cX6_parseAll 15 = .ok (.ifCond .le 7, 3) := by decide +kernel
theorem dX6_parseAll_18 : decode cX6_parseAll 18 = .ok (.iconst 1, 1) := by decide +kernel
theorem dX6_parseAll_19 : decode cX6_parseAll 19 = .ok (.goto 4, 3) := by decide +kernel
theorem dX6_parseAll_22 : decode cX6_parseAll 22 = .ok (.iconst 0, 1) := by decide +kernel
theorem dX6_parseAll_23 : decode cX6_parseAll 23 = .ok (.putfield 22, 3) := by decide +kernel
theorem dX6_parseAll_26 : decode cX6_parseAll 26 = .ok (.iconst 0, 1) := by decide +kernel
theorem dX6_parseAll_27 : decode cX6_parseAll 27 = .ok (.istore_n 1, 1) := by decide +kernel
theorem dX6_parseAll_28 : decode cX6_parseAll 28 = .ok (.iload_n 1, 1) := by decide +kernel
theorem dX6_parseAll_29 : decode cX6_parseAll 29 = .ok (.bipush 35, 2) := by decide +kernel
theorem dX6_parseAll_31 : decode cX6_parseAll 31 = .ok (.if_icmp .ge 39, 3) := by decide +kernel
theorem dX6_parseAll_34 : decode cX6_parseAll 34 = .ok (.aload_n 0, 1) := by decide +kernel
theorem dX6_parseAll_35 : decode cX6_parseAll 35 = .ok (.getfield 22, 3) := by decide +kernel
theorem dX6_parseAll_38 : decode cX6_parseAll 38 = .ok (.ifCond .eq 32, 3) := by decide +kernel
theorem dX6_parseAll_41 : decode cX6_parseAll 41 = .ok (.aload_n 0, 1) := by decide +kernel
theorem dX6_parseAll_42 : decode cX6_parseAll 42 = .ok (.getfield 19, 3) := by decide +kernel
theorem dX6_parseAll_45 : decode cX6_parseAll 45 = .ok (.aload_n 0, 1) := by decide +kernel
theorem dX6_parseAll_46 : decode cX6_parseAll 46 = .ok (.getfield 9, 3) := by decide +kernel
theorem dX6_parseAll_49 : decode cX6_parseAll 49 = .ok (.if_icmp .ge 21, 3) := by decide +kernel
theorem dX6_parseAll_52 : decode cX6_parseAll 52 = .ok (.aload_n 0, 1) := by decide +kernel
theorem dX6_parseAll_53 : decode cX6_parseAll 53 = .ok (.iload_n 1, 1) := by decide +kernel
theorem dX6_parseAll_54 : decode cX6_parseAll 54 = .ok (.invokevirtual 42, 3) := by decide +kernel
theorem dX6_parseAll_57 : decode cX6_parseAll 57 = .ok (.aload_n 0, 1) := by decide +kernel
theorem dX6_parseAll_58 : decode cX6_parseAll 58 = .ok (.iload_n 1, 1) := by decide +kernel
theorem dX6_parseAll_59 : decode cX6_parseAll 59 = .ok (.iconst 1, 1) := by decide +kernel
theorem dX6_parseAll_60 : decode cX6_parseAll 60 = .ok (.iadd, 1) := by decide +kernel
theorem dX6_parseAll_61 : decode cX6_parseAll 61 = .ok (.putfield 26, 3) := by decide +kernel
theorem dX6_parseAll_64 : decode cX6_parseAll 64 = .ok (.iinc 1 1, 3) := by decide +kernel
theorem dX6_parseAll_67 : decode cX6_parseAll 67 = .ok (.goto (-39), 3) := by decide +kernel
theorem dX6_parseAll_70 : decode cX6_parseAll 70 = .ok (.aload_n 0, 1) := by decide +kernel
theorem dX6_parseAll_71 : decode cX6_parseAll 71 = .ok (.getfield 22, 3) := by decide +kernel
theorem dX6_parseAll_74 : decode cX6_parseAll 74 = .ok (.ireturn, 1) := by decide +kernel
theorem dX6_parseCommand_0 : decode cX6_parseCommand 0 = .ok (.aload_n 0, 1) := by decide +kernel
theorem dX6_parseCommand_1 : decode cX6_parseCommand 1 = .ok (.invokevirtual 46, 3) := by decide +kernel
theorem dX6_parseCommand_4 : decode cX6_parseCommand 4 = .ok (.istore_n 2, 1) := by decide +kernel
theorem dX6_parseCommand_5 : decode cX6_parseCommand 5 = .ok (.aload_n 0, 1) := by decide +kernel
theorem dX6_parseCommand_6 : decode cX6_parseCommand 6 = .ok (.getfield 29, 3) := by decide +kernel
theorem dX6_parseCommand_9 : decode cX6_parseCommand 9 = .ok (.iload_n 1, 1) := by decide +kernel
theorem dX6_parseCommand_10 : decode cX6_parseCommand 10 = .ok (.iload_n 2, 1) := by decide +kernel
theorem dX6_parseCommand_11 : decode cX6_parseCommand 11 = .ok (.iastore, 1) := by decide +kernel
theorem dX6_parseCommand_12 : decode cX6_parseCommand 12 = .ok (.iload_n 2, 1) := by decide +kernel
theorem dX6_parseCommand_13 : decode cX6_parseCommand 13 = .ok (.invokestatic 50, 3) := by decide +kernel
theorem dX6_parseCommand_16 : decode cX6_parseCommand 16 = .ok (.ifCond .ne 9, 3) := by decide +kernel
theorem dX6_parseCommand_19 : decode cX6_parseCommand 19 = .ok (.aload_n 0, 1) := by decide +kernel
theorem dX6_parseCommand_20 : decode cX6_parseCommand 20 = .ok (.iconst 0, 1) := by decide +kernel
theorem dX6_parseCommand_21 : decode cX6_parseCommand 21 = .ok (.putfield 22, 3) := by decide +kernel
theorem dX6_parseCommand_24 : decode cX6_parseCommand 24 = .ok (.return_, 1) := by decide +kernel
theorem dX6_parseCommand_25 : decode cX6_parseCommand 25 = .ok (.aload_n 0, 1) := by decide +kernel
theorem dX6_parseCommand_26 : decode cX6_parseCommand 26 = .ok (.dup, 1) := by decide +kernel
theorem dX6_parseCommand_27 : decode cX6_parseCommand 27 = .ok (.getfield 19, 3) := by decide +kernel
theorem dX6_parseCommand_30 : decode cX6_parseCommand 30 = .ok (.iconst 1, 1) := by decide +kernel
theorem dX6_parseCommand_31 : decode cX6_parseCommand 31 = .ok (.iadd, 1) := by decide +kernel
theorem dX6_parseCommand_32 : decode cX6_parseCommand 32 = .ok (.putfield 19, 3) := by decide +kernel
theorem dX6_parseCommand_35 : decode cX6_parseCommand 35 = .ok (.iload_n 2, 1) := by decide +kernel
theorem dX6_parseCommand_36 : decode cX6_parseCommand 36 = .ok (.bipush 103, 2) := by decide +kernel
theorem dX6_parseCommand_38 : decode cX6_parseCommand 38 = .ok (.if_icmp .eq 36, 3) := by decide +kernel
theorem dX6_parseCommand_41 : decode cX6_parseCommand 41 = .ok (.aload_n 0, 1) := by decide +kernel
theorem dX6_parseCommand_42 : decode cX6_parseCommand 42 = .ok (.getfield 33, 3) := by decide +kernel
theorem dX6_parseCommand_45 : decode cX6_parseCommand 45 = .ok (.iload_n 1, 1) := by decide +kernel
theorem dX6_parseCommand_46 : decode cX6_parseCommand 46 = .ok (.aload_n 0, 1) := by decide +kernel
theorem dX6_parseCommand_47 : decode cX6_parseCommand 47 = .ok (.iload_n 2, 1) := by decide +kernel
theorem dX6_parseCommand_48 : decode cX6_parseCommand 48 = .ok (.bipush 99, 2) := by decide +kernel
theorem dX6_parseCommand_50 : decode cX6_parseCommand 50 = .ok (.if_icmp .eq 15, 3) := by decide +kernel
theorem dX6_parseCommand_53 : decode cX6_parseCommand 53 = .ok (.iload_n 2, 1) := by decide +kernel
theorem dX6_parseCommand_54 : decode cX6_parseCommand 54 = .ok (.bipush 115, 2) := by decide +kernel
theorem dX6_parseCommand_56 : decode cX6_parseCommand 56 = .ok (.if_icmp .eq 9, 3) := by decide +kernel
theorem dX6_parseCommand_59 : decode cX6_parseCommand 59 = .ok (.iload_n 2, 1) := by decide +kernel
theorem dX6_parseCommand_60 : decode cX6_parseCommand 60 = .ok (.bipush 112, 2) := by decide +kernel
theorem dX6_parseCommand_62 : decode cX6_parseCommand 62 = .ok (.if_icmp .ne 7, 3) := by decide +kernel
theorem dX6_parseCommand_65 : decode cX6_parseCommand 65 = .ok (.iconst 1, 1) := by decide +kernel
theorem dX6_parseCommand_66 : decode cX6_parseCommand 66 = .ok (.goto 4, 3) := by decide +kernel
theorem dX6_parseCommand_69 : decode cX6_parseCommand 69 = .ok (.iconst 3, 1) := by decide +kernel
theorem dX6_parseCommand_70 : decode cX6_parseCommand 70 = .ok (.invokevirtual 54, 3) := by decide +kernel
theorem dX6_parseCommand_73 : decode cX6_parseCommand 73 = .ok (.iastore, 1) := by decide +kernel
theorem dX6_parseCommand_74 : decode cX6_parseCommand 74 = .ok (.iload_n 2, 1) := by decide +kernel
theorem dX6_parseCommand_75 : decode cX6_parseCommand 75 = .ok (.bipush 99, 2) := by decide +kernel
theorem dX6_parseCommand_77 : decode cX6_parseCommand 77 = .ok (.if_icmp .eq 9, 3) := by decide +kernel
theorem dX6_parseCommand_80 : decode cX6_parseCommand 80 = .ok (.iload_n 2, 1) := by decide +kernel
theorem dX6_parseCommand_81 : decode cX6_parseCommand 81 = .ok (.bipush 115, 2) := by decide +kernel
theorem dX6_parseCommand_83 : decode cX6_parseCommand 83 = .ok (.if_icmp .ne 20, 3) := by decide +kernel
theorem dX6_parseCommand_86 : decode cX6_parseCommand 86 = .ok (.aload_n 0, 1) := by decide +kernel
theorem dX6_parseCommand_87 : decode cX6_parseCommand 87 = .ok (.bipush 62, 2) := by decide +kernel
theorem dX6_parseCommand_89 : decode cX6_parseCommand 89 = .ok (.invokevirtual 58, 3) := by decide +kernel
theorem dX6_parseCommand_92 : decode cX6_parseCommand 92 = .ok (.aload_n 0, 1) := by decide +kernel
theorem dX6_parseCommand_93 : decode cX6_parseCommand 93 = .ok (.getfield 36, 3) := by decide +kernel
theorem dX6_parseCommand_96 : decode cX6_parseCommand 96 = .ok (.iload_n 1, 1) := by decide +kernel
theorem dX6_parseCommand_97 : decode cX6_parseCommand 97 = .ok (.aload_n 0, 1) := by decide +kernel
theorem dX6_parseCommand_98 : decode cX6_parseCommand 98 = .ok (.iconst 1, 1) := by decide +kernel
theorem dX6_parseCommand_99 : decode cX6_parseCommand 99 = .ok (.invokevirtual 54, 3) := by decide +kernel
theorem dX6_parseCommand_102 : decode cX6_parseCommand 102 = .ok (.iastore, 1) := by decide +kernel
theorem dX6_parseCommand_103 : decode cX6_parseCommand 103 = .ok (.iload_n 2, 1) := by decide +kernel
theorem dX6_parseCommand_104 : decode cX6_parseCommand 104 = .ok (.bipush 103, 2) := by decide +kernel
theorem dX6_parseCommand_106 : decode cX6_parseCommand 106 = .ok (.if_icmp .eq 27, 3) := by decide +kernel
theorem dX6_parseCommand_109 : decode cX6_parseCommand 109 = .ok (.iload_n 2, 1) := by decide +kernel
theorem dX6_parseCommand_110 : decode cX6_parseCommand 110 = .ok (.bipush 110, 2) := by decide +kernel
theorem dX6_parseCommand_112 : decode cX6_parseCommand 112 = .ok (.if_icmp .eq 21, 3) := by decide +kernel
theorem dX6_parseCommand_115 : decode cX6_parseCommand 115 = .ok (.aload_n 0, 1) := by decide +kernel
theorem dX6_parseCommand_116 : decode cX6_parseCommand 116 = .ok (.bipush 58, 2) := by decide +kernel
theorem dX6_parseCommand_118 : decode cX6_parseCommand 118 = .ok (.invokevirtual 58, 3) := by decide +kernel
theorem dX6_parseCommand_121 : decode cX6_parseCommand 121 = .ok (.aload_n 0, 1) := by decide +kernel
theorem dX6_parseCommand_122 : decode cX6_parseCommand 122 = .ok (.getfield 39, 3) := by decide +kernel
theorem dX6_parseCommand_125 : decode cX6_parseCommand 125 = .ok (.iload_n 1, 1) := by decide +kernel
theorem dX6_parseCommand_126 : decode cX6_parseCommand 126 = .ok (.aload_n 0, 1) := by decide +kernel
theorem dX6_parseCommand_127 : decode cX6_parseCommand 127 = .ok (.bipush 9, 2) := by decide +kernel
theorem dX6_parseCommand_129 : decode cX6_parseCommand 129 = .ok (.invokevirtual 54, 3) := by decide +kernel
theorem dX6_parseCommand_132 : decode cX6_parseCommand 132 = .ok (.iastore, 1) := by decide +kernel
theorem dX6_parseCommand_133 : decode cX6_parseCommand 133 = .ok (.aload_n 0, 1) := by decide +kernel
theorem dX6_parseCommand_134 : decode cX6_parseCommand 134 = .ok (.bipush 59, 2) := by decide +kernel
theorem dX6_parseCommand_136 : decode cX6_parseCommand 136 = .ok (.invokevirtual 58, 3) := by decide +kernel
theorem dX6_parseCommand_139 : decode cX6_parseCommand 139 = .ok (.return_, 1) := by decide +kernel
theorem dX6_isKind_0 : decode cX6_isKind 0 = .ok (.iload_n 0, 1) := by decide +kernel
theorem dX6_isKind_1 : decode cX6_isKind 1 = .ok (.tableswitch 109 97 119 #[107, 109, 107, 107, 109, 109, 107, 109, 109, 109, 109, 109, 109, 107, 109, 107, 109, 109, 107, 109, 109, 109, 107], 107) := by decide +kernel
theorem dX6_isKind_108 : decode cX6_isKind 108 = .ok (.iconst 1, 1) := by decide +kernel
theorem dX6_isKind_109 : decode cX6_isKind 109 = .ok (.ireturn, 1) := by decide +kernel
theorem dX6_isKind_110 : decode cX6_isKind 110 = .ok (.iconst 0, 1) := by decide +kernel
theorem dX6_isKind_111 : decode cX6_isKind 111 = .ok (.ireturn, 1) := by decide +kernel
theorem dX6_signAhead_0 : decode cX6_signAhead 0 = .ok (.aload_n 0, 1) := by decide +kernel
theorem dX6_signAhead_1 : decode cX6_signAhead 1 = .ok (.getfield 19, 3) := by decide +kernel
theorem dX6_signAhead_4 : decode cX6_signAhead 4 = .ok (.aload_n 0, 1) := by decide +kernel
theorem dX6_signAhead_5 : decode cX6_signAhead 5 = .ok (.getfield 9, 3) := by decide +kernel
theorem dX6_signAhead_8 : decode cX6_signAhead 8 = .ok (.if_icmp .ge 15, 3) := by decide +kernel
theorem dX6_signAhead_11 : decode cX6_signAhead 11 = .ok (.aload_n 0, 1) := by decide +kernel
theorem dX6_signAhead_12 : decode cX6_signAhead 12 = .ok (.getfield 15, 3) := by decide +kernel
theorem dX6_signAhead_15 : decode cX6_signAhead 15 = .ok (.aload_n 0, 1) := by decide +kernel
theorem dX6_signAhead_16 : decode cX6_signAhead 16 = .ok (.getfield 19, 3) := by decide +kernel
theorem dX6_signAhead_19 : decode cX6_signAhead 19 = .ok (.caload, 1) := by decide +kernel
theorem dX6_signAhead_20 : decode cX6_signAhead 20 = .ok (.goto 4, 3) := by decide +kernel
theorem dX6_signAhead_23 : decode cX6_signAhead 23 = .ok (.iconst 0, 1) := by decide +kernel
theorem dX6_signAhead_24 : decode cX6_signAhead 24 = .ok (.ireturn, 1) := by decide +kernel
theorem dX6_isDigitAhead_0 : decode cX6_isDigitAhead 0 = .ok (.aload_n 0, 1) := by decide +kernel
theorem dX6_isDigitAhead_1 : decode cX6_isDigitAhead 1 = .ok (.invokevirtual 46, 3) := by decide +kernel
theorem dX6_isDigitAhead_4 : decode cX6_isDigitAhead 4 = .ok (.bipush 48, 2) := by decide +kernel
theorem dX6_isDigitAhead_6 : decode cX6_isDigitAhead 6 = .ok (.bipush 57, 2) := by decide +kernel
theorem dX6_isDigitAhead_8 : decode cX6_isDigitAhead 8 = .ok (.invokestatic 61, 3) := by decide +kernel
theorem dX6_isDigitAhead_11 : decode cX6_isDigitAhead 11 = .ok (.ireturn, 1) := by decide +kernel
theorem dX6_takeSign_0 : decode cX6_takeSign 0 = .ok (.aload_n 0, 1) := by decide +kernel
theorem dX6_takeSign_1 : decode cX6_takeSign 1 = .ok (.getfield 22, 3) := by decide +kernel
theorem dX6_takeSign_4 : decode cX6_takeSign 4 = .ok (.ifCond .ne 4, 3) := by decide +kernel
theorem dX6_takeSign_7 : decode cX6_takeSign 7 = .ok (.return_, 1) := by decide +kernel
theorem dX6_takeSign_8 : decode cX6_takeSign 8 = .ok (.aload_n 0, 1) := by decide +kernel
theorem dX6_takeSign_9 : decode cX6_takeSign 9 = .ok (.aload_n 0, 1) := by decide +kernel
theorem dX6_takeSign_10 : decode cX6_takeSign 10 = .ok (.invokevirtual 46, 3) := by decide +kernel
theorem dX6_takeSign_13 : decode cX6_takeSign 13 = .ok (.iload_n 1, 1) := by decide +kernel
theorem dX6_takeSign_14 : decode cX6_takeSign 14 = .ok (.if_icmp .ne 7, 3) := by decide +kernel
theorem dX6_takeSign_17 : decode cX6_takeSign 17 = .ok (.iconst 1, 1) := by decide +kernel
theorem dX6_takeSign_18 : decode cX6_takeSign 18 = .ok (.goto 4, 3) := by decide +kernel
theorem dX6_takeSign_21 : decode cX6_takeSign 21 = .ok (.iconst 0, 1) := by decide +kernel
theorem dX6_takeSign_22 : decode cX6_takeSign 22 = .ok (.putfield 22, 3) := by decide +kernel
theorem dX6_takeSign_25 : decode cX6_takeSign 25 = .ok (.aload_n 0, 1) := by decide +kernel
theorem dX6_takeSign_26 : decode cX6_takeSign 26 = .ok (.dup, 1) := by decide +kernel
theorem dX6_takeSign_27 : decode cX6_takeSign 27 = .ok (.getfield 19, 3) := by decide +kernel
theorem dX6_takeSign_30 : decode cX6_takeSign 30 = .ok (.aload_n 0, 1) := by decide +kernel
theorem dX6_takeSign_31 : decode cX6_takeSign 31 = .ok (.getfield 22, 3) := by decide +kernel
theorem dX6_takeSign_34 : decode cX6_takeSign 34 = .ok (.ifCond .eq 7, 3) := by decide +kernel
theorem dX6_takeSign_37 : decode cX6_takeSign 37 = .ok (.iconst 1, 1) := by decide +kernel
theorem dX6_takeSign_38 : decode cX6_takeSign 38 = .ok (.goto 4, 3) := by decide +kernel
theorem dX6_takeSign_41 : decode cX6_takeSign 41 = .ok (.iconst 0, 1) := by decide +kernel
theorem dX6_takeSign_42 : decode cX6_takeSign 42 = .ok (.iadd, 1) := by decide +kernel
theorem dX6_takeSign_43 : decode cX6_takeSign 43 = .ok (.putfield 19, 3) := by decide +kernel
theorem dX6_takeSign_46 : decode cX6_takeSign 46 = .ok (.return_, 1) := by decide +kernel
theorem dX6_takeNumber_0 : decode cX6_takeNumber 0 = .ok (.aload_n 0, 1) := by decide +kernel
theorem dX6_takeNumber_1 : decode cX6_takeNumber 1 = .ok (.getfield 22, 3) := by decide +kernel
theorem dX6_takeNumber_4 : decode cX6_takeNumber 4 = .ok (.ifCond .ne 5, 3) := by decide +kernel
theorem dX6_takeNumber_7 : decode cX6_takeNumber 7 = .ok (.iconst 0, 1) := by decide +kernel
theorem dX6_takeNumber_8 : decode cX6_takeNumber 8 = .ok (.ireturn, 1) := by decide +kernel
theorem dX6_takeNumber_9 : decode cX6_takeNumber 9 = .ok (.aload_n 0, 1) := by decide +kernel
theorem dX6_takeNumber_10 : decode cX6_takeNumber 10 = .ok (.aload_n 0, 1) := by decide +kernel
theorem dX6_takeNumber_11 : decode cX6_takeNumber 11 = .ok (.invokevirtual 65, 3) := by decide +kernel
theorem dX6_takeNumber_14 : decode cX6_takeNumber 14 = .ok (.putfield 22, 3) := by decide +kernel
theorem dX6_takeNumber_17 : decode cX6_takeNumber 17 = .ok (.iconst 0, 1) := by decide +kernel
theorem dX6_takeNumber_18 : decode cX6_takeNumber 18 = .ok (.istore_n 2, 1) := by decide +kernel
theorem dX6_takeNumber_19 : decode cX6_takeNumber 19 = .ok (.iconst 0, 1) := by decide +kernel
theorem dX6_takeNumber_20 : decode cX6_takeNumber 20 = .ok (.istore_n 3, 1) := by decide +kernel
theorem dX6_takeNumber_21 : decode cX6_takeNumber 21 = .ok (.iload_n 3, 1) := by decide +kernel
theorem dX6_takeNumber_22 : decode cX6_takeNumber 22 = .ok (.iload_n 1, 1) := by decide +kernel
theorem dX6_takeNumber_23 : decode cX6_takeNumber 23 = .ok (.if_icmp .ge 39, 3) := by decide +kernel
theorem dX6_takeNumber_26 : decode cX6_takeNumber 26 = .ok (.aload_n 0, 1) := by decide +kernel
theorem dX6_takeNumber_27 : decode cX6_takeNumber 27 = .ok (.invokevirtual 65, 3) := by decide +kernel
theorem dX6_takeNumber_30 : decode cX6_takeNumber 30 = .ok (.ifCond .eq 32, 3) := by decide +kernel
theorem dX6_takeNumber_33 : decode cX6_takeNumber 33 = .ok (.iload_n 2, 1) := by decide +kernel
theorem dX6_takeNumber_34 : decode cX6_takeNumber 34 = .ok (.bipush 10, 2) := by decide +kernel
theorem dX6_takeNumber_36 : decode cX6_takeNumber 36 = .ok (.imul, 1) := by decide +kernel
theorem dX6_takeNumber_37 : decode cX6_takeNumber 37 = .ok (.aload_n 0, 1) := by decide +kernel
theorem dX6_takeNumber_38 : decode cX6_takeNumber 38 = .ok (.invokevirtual 46, 3) := by decide +kernel
theorem dX6_takeNumber_41 : decode cX6_takeNumber 41 = .ok (.iadd, 1) := by decide +kernel
theorem dX6_takeNumber_42 : decode cX6_takeNumber 42 = .ok (.bipush 48, 2) := by decide +kernel
theorem dX6_takeNumber_44 : decode cX6_takeNumber 44 = .ok (.isub, 1) := by decide +kernel
theorem dX6_takeNumber_45 : decode cX6_takeNumber 45 = .ok (.istore_n 2, 1) := by decide +kernel
theorem dX6_takeNumber_46 : decode cX6_takeNumber 46 = .ok (.aload_n 0, 1) := by decide +kernel
theorem dX6_takeNumber_47 : decode cX6_takeNumber 47 = .ok (.dup, 1) := by decide +kernel
theorem dX6_takeNumber_48 : decode cX6_takeNumber 48 = .ok (.getfield 19, 3) := by decide +kernel
theorem dX6_takeNumber_51 : decode cX6_takeNumber 51 = .ok (.iconst 1, 1) := by decide +kernel
theorem dX6_takeNumber_52 : decode cX6_takeNumber 52 = .ok (.iadd, 1) := by decide +kernel
theorem dX6_takeNumber_53 : decode cX6_takeNumber 53 = .ok (.putfield 19, 3) := by decide +kernel
theorem dX6_takeNumber_56 : decode cX6_takeNumber 56 = .ok (.iinc 3 1, 3) := by decide +kernel
theorem dX6_takeNumber_59 : decode cX6_takeNumber 59 = .ok (.goto (-38), 3) := by decide +kernel
theorem dX6_takeNumber_62 : decode cX6_takeNumber 62 = .ok (.iload_n 2, 1) := by decide +kernel
theorem dX6_takeNumber_63 : decode cX6_takeNumber 63 = .ok (.ireturn, 1) := by decide +kernel
