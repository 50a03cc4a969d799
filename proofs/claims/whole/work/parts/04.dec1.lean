theorem dX5_init_23 : decode cX5_init 23 = .ok (.aload_n 0, 1) := by decide +kernel
theorem dX5_init_24 : decode cX5_init 24 = .ok (.bipush 40, 2) := by decide +kernel
theorem dX5_init_26 : decode cX5_init 26 = .ok (.newarray .int, 2) := by decide +kernel
theorem dX5_init_28 : decode cX5_init 28 = .ok (.putfield 22, 3) := by decide +kernel
theorem dX5_init_31 : decode cX5_init 31 = .ok (.aload_n 0, 1) := by decide +kernel
theorem dX5_init_32 : decode cX5_init 32 = .ok (.sipush 480, 3) := by decide +kernel
theorem dX5_init_35 : decode cX5_init 35 = .ok (.newarray .int, 2) := by decide +kernel
theorem dX5_init_37 : decode cX5_init 37 = .ok (.putfield 25, 3) := by decide +kernel
theorem dX5_init_40 : decode cX5_init 40 = .ok (.aload_n 0, 1) := by decide +kernel
theorem dX5_init_41 : decode cX5_init 41 = .ok (.bipush 40, 2) := by decide +kernel
theorem dX5_init_43 : decode cX5_init 43 = .ok (.newarray .int, 2) := by decide +kernel
theorem dX5_init_45 : decode cX5_init 45 = .ok (.putfield 28, 3) := by decide +kernel
theorem dX5_init_48 : decode cX5_init 48 = .ok (.iconst 0, 1) := by decide +kernel
theorem dX5_init_49 : decode cX5_init 49 = .ok (.istore_n 1, 1) := by decide +kernel
theorem dX5_init_50 : decode cX5_init 50 = .ok (.iload_n 1, 1) := by decide +kernel
theorem dX5_init_51 : decode cX5_init 51 = .ok (.bipush 40, 2) := by decide +kernel
theorem dX5_init_53 : decode cX5_init 53 = .ok (.if_icmp .ge 16, 3) := by decide +kernel
theorem dX5_init_56 : decode cX5_init 56 = .ok (.aload_n 0, 1) := by decide +kernel
theorem dX5_init_57 : decode cX5_init 57 = .ok (.getfield 22, 3) := by decide +kernel
theorem dX5_init_60 : decode cX5_init 60 = .ok (.iload_n 1, 1) := by decide +kernel
theorem dX5_init_61 : decode cX5_init 61 = .ok (.iconst (-1), 1) := by decide +kernel
theorem dX5_init_62 : decode cX5_init 62 = .ok (.iastore, 1) := by decide +kernel
theorem dX5_init_63 : decode cX5_init 63 = .ok (.iinc 1 1, 3) := by decide +kernel
theorem dX5_init_66 : decode cX5_init 66 = .ok (.goto (-16), 3) := by decide +kernel
theorem dX5_init_69 : decode cX5_init 69 = .ok (.return_, 1) := by decide +kernel
theorem dX5_takeWritten_0 : decode cX5_takeWritten 0 = .ok (.aload_n 0, 1) := by decide +kernel
theorem dX5_takeWritten_1 : decode cX5_takeWritten 1 = .ok (.getfield 12, 3) := by decide +kernel
theorem dX5_takeWritten_4 : decode cX5_takeWritten 4 = .ok (.aload_n 1, 1) := by decide +kernel
theorem dX5_takeWritten_5 : decode cX5_takeWritten 5 = .ok (.getfield 31, 3) := by decide +kernel
theorem dX5_takeWritten_8 : decode cX5_takeWritten 8 = .ok (.aload_n 1, 1) := by decide +kernel
theorem dX5_takeWritten_9 : decode cX5_takeWritten 9 = .ok (.getfield 37, 3) := by decide +kernel
theorem dX5_takeWritten_12 : decode cX5_takeWritten 12 = .ok (.invokevirtual 40, 3) := by decide +kernel
theorem dX5_takeWritten_15 : decode cX5_takeWritten 15 = .ok (.iconst 0, 1) := by decide +kernel
theorem dX5_takeWritten_16 : decode cX5_takeWritten 16 = .ok (.istore_n 2, 1) := by decide +kernel
theorem dX5_takeWritten_17 : decode cX5_takeWritten 17 = .ok (.iload_n 2, 1) := by decide +kernel
theorem dX5_takeWritten_18 : decode cX5_takeWritten 18 = .ok (.bipush 40, 2) := by decide +kernel
theorem dX5_takeWritten_20 : decode cX5_takeWritten 20 = .ok (.if_icmp .ge 49, 3) := by decide +kernel
theorem dX5_takeWritten_23 : decode cX5_takeWritten 23 = .ok (.aload_n 1, 1) := by decide +kernel
theorem dX5_takeWritten_24 : decode cX5_takeWritten 24 = .ok (.getfield 31, 3) := by decide +kernel
theorem dX5_takeWritten_27 : decode cX5_takeWritten 27 = .ok (.iload_n 2, 1) := by decide +kernel
theorem dX5_takeWritten_28 : decode cX5_takeWritten 28 = .ok (.invokestatic 44, 3) := by decide +kernel
theorem dX5_takeWritten_31 : decode cX5_takeWritten 31 = .ok (.ifCond .eq 32, 3) := by decide +kernel
theorem dX5_takeWritten_34 : decode cX5_takeWritten 34 = .ok (.aload_n 0, 1) := by decide +kernel
theorem dX5_takeWritten_35 : decode cX5_takeWritten 35 = .ok (.getfield 18, 3) := by decide +kernel
theorem dX5_takeWritten_38 : decode cX5_takeWritten 38 = .ok (.iload_n 2, 1) := by decide +kernel
theorem dX5_takeWritten_39 : decode cX5_takeWritten 39 = .ok (.dup2, 1) := by decide +kernel
theorem dX5_takeWritten_40 : decode cX5_takeWritten 40 = .ok (.iaload, 1) := by decide +kernel
theorem dX5_takeWritten_41 : decode cX5_takeWritten 41 = .ok (.iconst 1, 1) := by decide +kernel
theorem dX5_takeWritten_42 : decode cX5_takeWritten 42 = .ok (.iadd, 1) := by decide +kernel
theorem dX5_takeWritten_43 : decode cX5_takeWritten 43 = .ok (.iastore, 1) := by decide +kernel
theorem dX5_takeWritten_44 : decode cX5_takeWritten 44 = .ok (.aload_n 0, 1) := by decide +kernel
theorem dX5_takeWritten_45 : decode cX5_takeWritten 45 = .ok (.getfield 22, 3) := by decide +kernel
theorem dX5_takeWritten_48 : decode cX5_takeWritten 48 = .ok (.iload_n 2, 1) := by decide +kernel
theorem dX5_takeWritten_49 : decode cX5_takeWritten 49 = .ok (.aload_n 1, 1) := by decide +kernel
theorem dX5_takeWritten_50 : decode cX5_takeWritten 50 = .ok (.getfield 48, 3) := by decide +kernel
theorem dX5_takeWritten_53 : decode cX5_takeWritten 53 = .ok (.iastore, 1) := by decide +kernel
theorem dX5_takeWritten_54 : decode cX5_takeWritten 54 = .ok (.aload_n 0, 1) := by decide +kernel
theorem dX5_takeWritten_55 : decode cX5_takeWritten 55 = .ok (.iload_n 2, 1) := by decide +kernel
theorem dX5_takeWritten_56 : decode cX5_takeWritten 56 = .ok (.aload_n 1, 1) := by decide +kernel
theorem dX5_takeWritten_57 : decode cX5_takeWritten 57 = .ok (.getfield 48, 3) := by decide +kernel
theorem dX5_takeWritten_60 : decode cX5_takeWritten 60 = .ok (.invokevirtual 52, 3) := by decide +kernel
theorem dX5_takeWritten_63 : decode cX5_takeWritten 63 = .ok (.iinc 2 1, 3) := by decide +kernel
theorem dX5_takeWritten_66 : decode cX5_takeWritten 66 = .ok (.goto (-49), 3) := by decide +kernel
theorem dX5_takeWritten_69 : decode cX5_takeWritten 69 = .ok (.return_, 1) := by decide +kernel
theorem dX5_remember_0 : decode cX5_remember 0 = .ok (.aload_n 0, 1) := by decide +kernel
theorem dX5_remember_1 : decode cX5_remember 1 = .ok (.getfield 28, 3) := by decide +kernel
theorem dX5_remember_4 : decode cX5_remember 4 = .ok (.iload_n 1, 1) := by decide +kernel
theorem dX5_remember_5 : decode cX5_remember 5 = .ok (.iaload, 1) := by decide +kernel
theorem dX5_remember_6 : decode cX5_remember 6 = .ok (.bipush 12, 2) := by decide +kernel
theorem dX5_remember_8 : decode cX5_remember 8 = .ok (.if_icmp .ge 30, 3) := by decide +kernel
theorem dX5_remember_11 : decode cX5_remember 11 = .ok (.aload_n 0, 1) := by decide +kernel
theorem dX5_remember_12 : decode cX5_remember 12 = .ok (.getfield 25, 3) := by decide +kernel
theorem dX5_remember_15 : decode cX5_remember 15 = .ok (.iload_n 1, 1) := by decide +kernel
theorem dX5_remember_16 : decode cX5_remember 16 = .ok (.bipush 12, 2) := by decide +kernel
theorem dX5_remember_18 : decode cX5_remember 18 = .ok (.imul, 1) := by decide +kernel
theorem dX5_remember_19 : decode cX5_remember 19 = .ok (.aload_n 0, 1) := by decide +kernel
theorem dX5_remember_20 : decode cX5_remember 20 = .ok (.getfield 28, 3) := by decide +kernel
theorem dX5_remember_23 : decode cX5_remember 23 = .ok (.iload_n 1, 1) := by decide +kernel
theorem dX5_remember_24 : decode cX5_remember 24 = .ok (.iaload, 1) := by decide +kernel
theorem dX5_remember_25 : decode cX5_remember 25 = .ok (.iadd, 1) := by decide +kernel
theorem dX5_remember_26 : decode cX5_remember 26 = .ok (.iload_n 2, 1) := by decide +kernel
theorem dX5_remember_27 : decode cX5_remember 27 = .ok (.iastore, 1) := by decide +kernel
theorem dX5_remember_28 : decode cX5_remember 28 = .ok (.aload_n 0, 1) := by decide +kernel
theorem dX5_remember_29 : decode cX5_remember 29 = .ok (.getfield 28, 3) := by decide +kernel
theorem dX5_remember_32 : decode cX5_remember 32 = .ok (.iload_n 1, 1) := by decide +kernel
theorem dX5_remember_33 : decode cX5_remember 33 = .ok (.dup2, 1) := by decide +kernel
theorem dX5_remember_34 : decode cX5_remember 34 = .ok (.iaload, 1) := by decide +kernel
theorem dX5_remember_35 : decode cX5_remember 35 = .ok (.iconst 1, 1) := by decide +kernel
theorem dX5_remember_36 : decode cX5_remember 36 = .ok (.iadd, 1) := by decide +kernel
theorem dX5_remember_37 : decode cX5_remember 37 = .ok (.iastore, 1) := by decide +kernel
theorem dX5_remember_38 : decode cX5_remember 38 = .ok (.return_, 1) := by decide +kernel
theorem dX6_init_0 : decode cX6_init 0 = .ok (.aload_n 0, 1) := by decide +kernel
theorem dX6_init_1 : decode cX6_init 1 = .ok (.invokespecial 3, 3) := by decide +kernel
theorem dX6_init_4 : decode cX6_init 4 = .ok (.aload_n 0, 1) := by decide +kernel
theorem dX6_init_5 : decode cX6_init 5 = .ok (.iconst 0, 1) := by decide +kernel
theorem dX6_init_6 : decode cX6_init 6 = .ok (.putfield 9, 3) := by decide +kernel
theorem dX6_init_9 : decode cX6_init 9 = .ok (.aload_n 0, 1) := by decide +kernel
theorem dX6_init_10 : decode cX6_init 10 = .ok (.iconst (-1), 1) := by decide +kernel
theorem dX6_init_11 : decode cX6_init 11 = .ok (.putfield 15, 3) := by decide +kernel
theorem dX6_init_14 : decode cX6_init 14 = .ok (.aload_n 0, 1) := by decide +kernel
theorem dX6_init_15 : decode cX6_init 15 = .ok (.iconst (-1), 1) := by decide +kernel
theorem dX6_init_16 : decode cX6_init 16 = .ok (.putfield 18, 3) := by decide +kernel
theorem dX6_init_19 : decode cX6_init 19 = .ok (.aload_n 0, 1) := by decide +kernel
theorem dX6_init_20 : decode cX6_init 20 = .ok (.iconst (-1), 1) := by decide +kernel
theorem dX6_init_21 : decode cX6_init 21 = .ok (.putfield 21, 3) := by decide +kernel
theorem dX6_init_24 : decode cX6_init 24 = .ok (.aload_n 0, 1) := by decide +kernel
theorem dX6_init_25 : decode cX6_init 25 = .ok (.bipush 6, 2) := by decide +kernel
theorem dX6_init_27 : decode cX6_init 27 = .ok (.newarray .int, 2) := by decide +kernel
theorem dX6_init_29 : decode cX6_init 29 = .ok (.putfield 24, 3) := by decide +kernel
theorem dX6_init_32 : decode cX6_init 32 = .ok (.aload_n 0, 1) := by decide +kernel
theorem dX6_init_33 : decode cX6_init 33 = .ok (.bipush 6, 2) := by decide +kernel
theorem dX6_init_35 : decode cX6_init 35 = .ok (.newarray .int, 2) := by decide +kernel
theorem dX6_init_37 : decode cX6_init 37 = .ok (.putfield 28, 3) := by decide +kernel
theorem dX6_init_40 : decode cX6_init 40 = .ok (.aload_n 0, 1) := by decide +kernel
theorem dX6_init_41 : decode cX6_init 41 = .ok (.bipush 8, 2) := by decide +kernel
theorem dX6_init_43 : decode cX6_init 43 = .ok (.newarray .long, 2) := by decide +kernel
theorem dX6_init_45 : decode cX6_init 45 = .ok (.putfield 31, 3) := by decide +kernel
theorem dX6_init_48 : decode cX6_init 48 = .ok (.aload_n 0, 1) := by decide +kernel
theorem dX6_init_49 : decode cX6_init 49 = .ok (.iload_n 1, 1) := by decide +kernel
theorem dX6_init_50 : decode cX6_init 50 = .ok (.putfield 35, 3) := by decide +kernel
theorem dX6_init_53 : decode cX6_init 53 = .ok (.return_, 1) := by decide +kernel
theorem dX6_keepTry_0 : decode cX6_keepTry 0 = .ok (.aload_n 1, 1) := by decide +kernel
theorem dX6_keepTry_1 : decode cX6_keepTry 1 = .ok (.getfield 38, 3) := by decide +kernel
theorem dX6_keepTry_4 : decode cX6_keepTry 4 = .ok (.ifCond .ne 7, 3) := by decide +kernel
theorem dX6_keepTry_7 : decode cX6_keepTry 7 = .ok (.iconst 1, 1) := by decide +kernel
theorem dX6_keepTry_8 : decode cX6_keepTry 8 = .ok (.goto 4, 3) := by decide +kernel
theorem dX6_keepTry_11 : decode cX6_keepTry 11 = .ok (.iconst 0, 1) := by decide +kernel
theorem dX6_keepTry_12 : decode cX6_keepTry 12 = .ok (.istore_n 2, 1) := by decide +kernel
theorem dX6_keepTry_13 : decode cX6_keepTry 13 = .ok (.aload_n 0, 1) := by decide +kernel
theorem dX6_keepTry_14 : decode cX6_keepTry 14 = .ok (.iconst 1, 1) := by decide +kernel
theorem dX6_keepTry_15 : decode cX6_keepTry 15 = .ok (.putfield 43, 3) := by decide +kernel
theorem dX6_keepTry_18 : decode cX6_keepTry 18 = .ok (.aload_n 0, 1) := by decide +kernel
theorem dX6_keepTry_19 : decode cX6_keepTry 19 = .ok (.aload_n 1, 1) := by decide +kernel
theorem dX6_keepTry_20 : decode cX6_keepTry 20 = .ok (.getfield 47, 3) := by decide +kernel
theorem dX6_keepTry_23 : decode cX6_keepTry 23 = .ok (.putfield 50, 3) := by decide +kernel
theorem dX6_keepTry_26 : decode cX6_keepTry 26 = .ok (.aload_n 0, 1) := by decide +kernel
theorem dX6_keepTry_27 : decode cX6_keepTry 27 = .ok (.aload_n 1, 1) := by decide +kernel
theorem dX6_keepTry_28 : decode cX6_keepTry 28 = .ok (.getfield 51, 3) := by decide +kernel
theorem dX6_keepTry_31 : decode cX6_keepTry 31 = .ok (.putfield 55, 3) := by decide +kernel
theorem dX6_keepTry_34 : decode cX6_keepTry 34 = .ok (.aload_n 0, 1) := by decide +kernel
theorem dX6_keepTry_35 : decode cX6_keepTry 35 = .ok (.iload_n 2, 1) := by decide +kernel
theorem dX6_keepTry_36 : decode cX6_keepTry 36 = .ok (.ifCond .eq 13, 3) := by decide +kernel
theorem dX6_keepTry_39 : decode cX6_keepTry 39 = .ok (.aload_n 1, 1) := by decide +kernel
theorem dX6_keepTry_40 : decode cX6_keepTry 40 = .ok (.getfield 56, 3) := by decide +kernel
theorem dX6_keepTry_43 : decode cX6_keepTry 43 = .ok (.invokestatic 59, 3) := by decide +kernel
theorem dX6_keepTry_46 : decode cX6_keepTry 46 = .ok (.goto 4, 3) := by decide +kernel
theorem dX6_keepTry_49 : decode cX6_keepTry 49 = .ok (.iconst 0, 1) := by decide +kernel
theorem dX6_keepTry_50 : decode cX6_keepTry 50 = .ok (.putfield 65, 3) := by decide +kernel
theorem dX6_keepTry_53 : decode cX6_keepTry 53 = .ok (.aload_n 0, 1) := by decide +kernel
theorem dX6_keepTry_54 : decode cX6_keepTry 54 = .ok (.iload_n 2, 1) := by decide +kernel
theorem dX6_keepTry_55 : decode cX6_keepTry 55 = .ok (.ifCond .eq 7, 3) := by decide +kernel
theorem dX6_keepTry_58 : decode cX6_keepTry 58 = .ok (.iconst 0, 1) := by decide +kernel
theorem dX6_keepTry_59 : decode cX6_keepTry 59 = .ok (.goto 7, 3) := by decide +kernel
theorem dX6_keepTry_62 : decode cX6_keepTry 62 = .ok (.aload_n 1, 1) := by decide +kernel
theorem dX6_keepTry_63 : decode cX6_keepTry 63 = .ok (.getfield 68, 3) := by decide +kernel
theorem dX6_keepTry_66 : decode cX6_keepTry 66 = .ok (.putfield 71, 3) := by decide +kernel
theorem dX6_keepTry_69 : decode cX6_keepTry 69 = .ok (.aload_n 1, 1) := by decide +kernel
theorem dX6_keepTry_70 : decode cX6_keepTry 70 = .ok (.getfield 72, 3) := by decide +kernel
theorem dX6_keepTry_73 : decode cX6_keepTry 73 = .ok (.iconst 0, 1) := by decide +kernel
theorem dX6_keepTry_74 : decode cX6_keepTry 74 = .ok (.aload_n 0, 1) := by decide +kernel
theorem dX6_keepTry_75 : decode cX6_keepTry 75 = .ok (.getfield 24, 3) := by decide +kernel
theorem dX6_keepTry_78 : decode cX6_keepTry 78 = .ok (.iconst 0, 1) := by decide +kernel
theorem dX6_keepTry_79 : decode cX6_keepTry 79 = .ok (.bipush 6, 2) := by decide +kernel
theorem dX6_keepTry_81 : decode cX6_keepTry 81 = .ok (.invokestatic 73, 3) := by decide +kernel
theorem dX6_keepTry_84 : decode cX6_keepTry 84 = .ok (.aload_n 1, 1) := by decide +kernel
theorem dX6_keepTry_85 : decode cX6_keepTry 85 = .ok (.getfield 79, 3) := by decide +kernel
theorem dX6_keepTry_88 : decode cX6_keepTry 88 = .ok (.iconst 0, 1) := by decide +kernel
theorem dX6_keepTry_89 : decode cX6_keepTry 89 = .ok (.aload_n 0, 1) := by decide +kernel
theorem dX6_keepTry_90 : decode cX6_keepTry 90 = .ok (.getfield 28, 3) := by decide +kernel
theorem dX6_keepTry_93 : decode cX6_keepTry 93 = .ok (.iconst 0, 1) := by decide +kernel
theorem dX6_keepTry_94 : decode cX6_keepTry 94 = .ok (.bipush 6, 2) := by decide +kernel
theorem dX6_keepTry_96 : decode cX6_keepTry 96 = .ok (.invokestatic 73, 3) := by decide +kernel
theorem dX6_keepTry_99 : decode cX6_keepTry 99 = .ok (.return_, 1) := by decide +kernel
theorem dX6_forgetTry_0 : decode cX6_forgetTry 0 = .ok (.aload_n 0, 1) := by decide +kernel
theorem dX6_forgetTry_1 : decode cX6_forgetTry 1 = .ok (.iconst 0, 1) := by decide +kernel
theorem dX6_forgetTry_2 : decode cX6_forgetTry 2 = .ok (.putfield 43, 3) := by decide +kernel
theorem dX6_forgetTry_5 : decode cX6_forgetTry 5 = .ok (.aload_n 0, 1) := by decide +kernel
theorem dX6_forgetTry_6 : decode cX6_forgetTry 6 = .ok (.lconst 0, 1) := by decide +kernel
theorem dX6_forgetTry_7 : decode cX6_forgetTry 7 = .ok (.putfield 55, 3) := by decide +kernel
theorem dX6_forgetTry_10 : decode cX6_forgetTry 10 = .ok (.aload_n 0, 1) := by decide +kernel
theorem dX6_forgetTry_11 : decode cX6_forgetTry 11 = .ok (.iconst 0, 1) := by decide +kernel
theorem dX6_forgetTry_12 : decode cX6_forgetTry 12 = .ok (.putfield 71, 3) := by decide +kernel
theorem dX6_forgetTry_15 : decode cX6_forgetTry 15 = .ok (.return_, 1) := by decide +kernel
theorem dX6_keepAnswers_0 : decode cX6_keepAnswers 0 = .ok (.aload_n 0, 1) := by decide +kernel
theorem dX6_keepAnswers_1 : decode cX6_keepAnswers 1 = .ok (.aload_n 1, 1) := by decide +kernel
theorem dX6_keepAnswers_2 : decode cX6_keepAnswers 2 = .ok (.getfield 80, 3) := by decide +kernel
theorem dX6_keepAnswers_5 : decode cX6_keepAnswers 5 = .ok (.putfield 83, 3) := by decide +kernel
theorem dX6_keepAnswers_8 : decode cX6_keepAnswers 8 = .ok (.aload_n 1, 1) := by decide +kernel
theorem dX6_keepAnswers_9 : decode cX6_keepAnswers 9 = .ok (.getfield 84, 3) := by decide +kernel
theorem dX6_keepAnswers_12 : decode cX6_keepAnswers 12 = .ok (.iconst 0, 1) := by decide +kernel
theorem dX6_keepAnswers_13 : decode cX6_keepAnswers 13 = .ok (.aload_n 0, 1) := by decide +kernel
theorem dX6_keepAnswers_14 : decode cX6_keepAnswers 14 = .ok (.getfield 31, 3) := by decide +kernel
theorem dX6_keepAnswers_17 : decode cX6_keepAnswers 17 = .ok (.iconst 0, 1) := by decide +kernel
theorem dX6_keepAnswers_18 : decode cX6_keepAnswers 18 = .ok (.bipush 8, 2) := by decide +kernel
theorem dX6_keepAnswers_20 : decode cX6_keepAnswers 20 = .ok (.invokestatic 73, 3) := by decide +kernel
theorem dX6_keepAnswers_23 : decode cX6_keepAnswers 23 = .ok (.return_, 1) := by decide +kernel
theorem dX7_init_0 : decode cX7_init 0 = .ok (.aload_n 0, 1) := by decide +kernel
theorem dX7_init_1 : decode cX7_init 1 = .ok (.invokespecial 3, 3) := by decide +kernel
theorem dX7_init_4 : decode cX7_init 4 = .ok (.aload_n 0, 1) := by decide +kernel
theorem dX7_init_5 : decode cX7_init 5 = .ok (.bipush 16, 2) := by decide +kernel
theorem dX7_init_7 : decode cX7_init 7 = .ok (.newarray .int, 2) := by decide +kernel
theorem dX7_init_9 : decode cX7_init 9 = .ok (.putfield 9, 3) := by decide +kernel
theorem dX7_init_12 : decode cX7_init 12 = .ok (.aload_n 0, 1) := by decide +kernel
theorem dX7_init_13 : decode cX7_init 13 = .ok (.bipush 16, 2) := by decide +kernel
theorem dX7_init_15 : decode cX7_init 15 = .ok (.newarray .int, 2) := by decide +kernel
theorem dX7_init_17 : decode cX7_init 17 = .ok (.putfield 15, 3) := by decide +kernel
theorem dX7_init_20 : decode cX7_init 20 = .ok (.aload_n 0, 1) := by decide +kernel
theorem dX7_init_21 : decode cX7_init 21 = .ok (.sipush 384, 3) := by decide +kernel
theorem dX7_init_24 : decode cX7_init 24 = .ok (.newarray .int, 2) := by decide +kernel
theorem dX7_init_26 : decode cX7_init 26 = .ok (.putfield 18, 3) := by decide +kernel
theorem dX7_init_29 : decode cX7_init 29 = .ok (.aload_n 0, 1) := by decide +kernel
theorem dX7_init_30 : decode cX7_init 30 = .ok (.sipush 384, 3) := by decide +kernel
theorem dX7_init_33 : decode cX7_init 33 = .ok (.newarray .int, 2) := by decide +kernel
theorem dX7_init_35 : decode cX7_init 35 = .ok (.putfield 21, 3) := by decide +kernel
theorem dX7_init_38 : decode cX7_init 38 = .ok (.aload_n 0, 1) := by decide +kernel
theorem dX7_init_39 : decode cX7_init 39 = .ok (.sipush 384, 3) := by decide +kernel
theorem dX7_init_42 : decode cX7_init 42 = .ok (.newarray .int, 2) := by decide +kernel
theorem dX7_init_44 : decode cX7_init 44 = .ok (.putfield 24, 3) := by decide +kernel
theorem dX7_init_47 : decode cX7_init 47 = .ok (.return_, 1) := by decide +kernel
theorem dX7_fits_0 : decode cX7_fits 0 = .ok (.iload_n 0, 1) := by decide +kernel
theorem dX7_fits_1 : decode cX7_fits 1 = .ok (.tableswitch 183 1 19 #[91, 91, 91, 183, 183, 91, 183, 91, 91, 97, 97, 183, 119, 183, 183, 135, 135, 140, 160], 91) := by decide +kernel
theorem dX7_fits_92 : decode cX7_fits 92 = .ok (.iload_n 1, 1) := by decide +kernel
theorem dX7_fits_93 : decode cX7_fits 93 = .ok (.i2l, 1) := by decide +kernel
theorem dX7_fits_94 : decode cX7_fits 94 = .ok (.invokestatic 27, 3) := by decide +kernel
theorem dX7_fits_97 : decode cX7_fits 97 = .ok (.ireturn, 1) := by decide +kernel
theorem dX7_fits_98 : decode cX7_fits 98 = .ok (.iload_n 1, 1) := by decide +kernel
theorem dX7_fits_99 : decode cX7_fits 99 = .ok (.i2l, 1) := by decide +kernel
theorem dX7_fits_100 : decode cX7_fits 100 = .ok (.invokestatic 27, 3) := by decide +kernel
theorem dX7_fits_103 : decode cX7_fits 103 = .ok (.ifCond .eq 15, 3) := by decide +kernel
theorem dX7_fits_106 : decode cX7_fits 106 = .ok (.iload_n 2, 1) := by decide +kernel
theorem dX7_fits_107 : decode cX7_fits 107 = .ok (.i2l, 1) := by decide +kernel
theorem dX7_fits_108 : decode cX7_fits 108 = .ok (.invokestatic 27, 3) := by decide +kernel
theorem dX7_fits_111 : decode cX7_fits 111 = .ok (.ifCond .eq 7, 3) := by decide +kernel
theorem dX7_fits_114 : decode cX7_fits 114 = .ok (.iconst 1, 1) := by decide +kernel
theorem dX7_fits_115 : decode cX7_fits 115 = .ok (.goto 4, 3) := by decide +kernel
theorem dX7_fits_118 : decode cX7_fits 118 = .ok (.iconst 0, 1) := by decide +kernel
theorem dX7_fits_119 : decode cX7_fits 119 = .ok (.ireturn, 1) := by decide +kernel
theorem dX7_fits_120 : decode cX7_fits 120 = .ok (.iload_n 1, 1) := by decide +kernel
theorem dX7_fits_121 : decode cX7_fits 121 = .ok (.ifCond .lt 13, 3) := by decide +kernel
theorem dX7_fits_124 : decode cX7_fits 124 = .ok (.iload_n 1, 1) := by decide +kernel
theorem dX7_fits_125 : decode cX7_fits 125 = .ok (.bipush 24, 2) := by decide +kernel
theorem dX7_fits_127 : decode cX7_fits 127 = .ok (.if_icmp .gt 7, 3) := by decide +kernel
theorem dX7_fits_130 : decode cX7_fits 130 = .ok (.iconst 1, 1) := by decide +kernel
theorem dX7_fits_131 : decode cX7_fits 131 = .ok (.goto 4, 3) := by decide +kernel
theorem dX7_fits_134 : decode cX7_fits 134 = .ok (.iconst 0, 1) := by decide +kernel
theorem dX7_fits_135 : decode cX7_fits 135 = .ok (.ireturn, 1) := by decide +kernel
theorem dX7_fits_136 : decode cX7_fits 136 = .ok (.iload_n 1, 1) := by decide +kernel
theorem dX7_fits_137 : decode cX7_fits 137 = .ok (.invokestatic 31, 3) := by decide +kernel
theorem dX7_fits_140 : decode cX7_fits 140 = .ok (.ireturn, 1) := by decide +kernel
theorem dX7_fits_141 : decode cX7_fits 141 = .ok (.iload_n 1, 1) := by decide +kernel
theorem dX7_fits_142 : decode cX7_fits 142 = .ok (.invokestatic 31, 3) := by decide +kernel
theorem dX7_fits_145 : decode cX7_fits 145 = .ok (.ifCond .eq 14, 3) := by decide +kernel
theorem dX7_fits_148 : decode cX7_fits 148 = .ok (.iload_n 2, 1) := by decide +kernel
theorem dX7_fits_149 : decode cX7_fits 149 = .ok (.invokestatic 31, 3) := by decide +kernel
theorem dX7_fits_152 : decode cX7_fits 152 = .ok (.ifCond .eq 7, 3) := by decide +kernel
theorem dX7_fits_155 : decode cX7_fits 155 = .ok (.iconst 1, 1) := by decide +kernel
theorem dX7_fits_156 : decode cX7_fits 156 = .ok (.goto 4, 3) := by decide +kernel
theorem dX7_fits_159 : decode cX7_fits 159 = .ok (.iconst 0, 1) := by decide +kernel
theorem dX7_fits_160 : decode cX7_fits 160 = .ok (.ireturn, 1) := by decide +kernel
theorem dX7_fits_161 : decode cX7_fits 161 = .ok (.iload_n 1, 1) := by decide +kernel
theorem dX7_fits_162 : decode cX7_fits 162 = .ok (.ifCond .eq 16, 3) := by decide +kernel
theorem dX7_fits_165 : decode cX7_fits 165 = .ok (.iload_n 1, 1) := by decide +kernel
theorem dX7_fits_166 : decode cX7_fits 166 = .ok (.iconst 1, 1) := by decide +kernel
theorem dX7_fits_167 : decode cX7_fits 167 = .ok (.if_icmp .ne 15, 3) := by decide +kernel
theorem dX7_fits_170 : decode cX7_fits 170 = .ok (.iload_n 2, 1) := by decide +kernel
theorem dX7_fits_171 : decode cX7_fits 171 = .ok (.i2l, 1) := by decide +kernel
theorem dX7_fits_172 : decode cX7_fits 172 = .ok (.invokestatic 27, 3) := by decide +kernel
theorem dX7_fits_175 : decode cX7_fits 175 = .ok (.ifCond .eq 7, 3) := by decide +kernel
theorem dX7_fits_178 : decode cX7_fits 178 = .ok (.iconst 1, 1) := by decide +kernel
theorem dX7_fits_179 : decode cX7_fits 179 = .ok (.goto 4, 3) := by decide +kernel
theorem dX7_fits_182 : decode cX7_fits 182 = .ok (.iconst 0, 1) := by decide +kernel
theorem dX7_fits_183 : decode cX7_fits 183 = .ok (.ireturn, 1) := by decide +kernel
theorem dX7_fits_184 : decode cX7_fits 184 = .ok (.iload_n 0, 1) := by decide +kernel
theorem dX7_fits_185 : decode cX7_fits 185 = .ok (.ifCond .lt 13, 3) := by decide +kernel
theorem dX7_fits_188 : decode cX7_fits 188 = .ok (.iload_n 0, 1) := by decide +kernel
theorem dX7_fits_189 : decode cX7_fits 189 = .ok (.bipush 19, 2) := by decide +kernel
theorem dX7_fits_191 : decode cX7_fits 191 = .ok (.if_icmp .gt 7, 3) := by decide +kernel
theorem dX7_fits_194 : decode cX7_fits 194 = .ok (.iconst 1, 1) := by decide +kernel
theorem dX7_fits_195 : decode cX7_fits 195 = .ok (.goto 4, 3) := by decide +kernel
theorem dX7_fits_198 : decode cX7_fits 198 = .ok (.iconst 0, 1) := by decide +kernel
theorem dX7_fits_199 : decode cX7_fits 199 = .ok (.ireturn, 1) := by decide +kernel
theorem dX7_append_0 : decode cX7_append 0 = .ok (.iload_n 1, 1) := by decide +kernel
theorem dX7_append_1 : decode cX7_append 1 = .ok (.bipush 24, 2) := by decide +kernel
theorem dX7_append_3 : decode cX7_append 3 = .ok (.imul, 1) := by decide +kernel
theorem dX7_append_4 : decode cX7_append 4 = .ok (.aload_n 0, 1) := by decide +kernel
theorem dX7_append_5 : decode cX7_append 5 = .ok (.getfield 9, 3) := by decide +kernel
theorem dX7_append_8 : decode cX7_append 8 = .ok (.iload_n 1, 1) := by decide +kernel
theorem dX7_append_9 : decode cX7_append 9 = .ok (.iaload, 1) := by decide +kernel
theorem dX7_append_10 : decode cX7_append 10 = .ok (.iadd, 1) := by decide +kernel
theorem dX7_append_11 : decode cX7_append 11 = .ok (.istore 5, 2) := by decide +kernel
theorem dX7_append_13 : decode cX7_append 13 = .ok (.aload_n 0, 1) := by decide +kernel
theorem dX7_append_14 : decode cX7_append 14 = .ok (.getfield 18, 3) := by decide +kernel
theorem dX7_append_17 : decode cX7_append 17 = .ok (.iload 5, 2) := by decide +kernel
theorem dX7_append_19 : decode cX7_append 19 = .ok (.iload_n 2, 1) := by decide +kernel
theorem dX7_append_20 : decode cX7_append 20 = .ok (.iastore, 1) := by decide +kernel
theorem dX7_append_21 : decode cX7_append 21 = .ok (.aload_n 0, 1) := by decide +kernel
theorem dX7_append_22 : decode cX7_append 22 = .ok (.getfield 21, 3) := by decide +kernel
theorem dX7_append_25 : decode cX7_append 25 = .ok (.iload 5, 2) := by decide +kernel
theorem dX7_append_27 : decode cX7_append 27 = .ok (.iload_n 3, 1) := by decide +kernel
theorem dX7_append_28 : decode cX7_append 28 = .ok (.iastore, 1) := by decide +kernel
theorem dX7_append_29 : decode cX7_append 29 = .ok (.aload_n 0, 1) := by decide +kernel
theorem dX7_append_30 : decode cX7_append 30 = .ok (.getfield 24, 3) := by decide +kernel
theorem dX7_append_33 : decode cX7_append 33 = .ok (.iload 5, 2) := by decide +kernel
theorem dX7_append_35 : decode cX7_append 35 = .ok (.iload 4, 2) := by decide +kernel
theorem dX7_append_37 : decode cX7_append 37 = .ok (.iastore, 1) := by decide +kernel
theorem dX7_append_38 : decode cX7_append 38 = .ok (.aload_n 0, 1) := by decide +kernel
theorem dX7_append_39 : decode cX7_append 39 = .ok (.getfield 9, 3) := by decide +kernel
theorem dX7_append_42 : decode cX7_append 42 = .ok (.iload_n 1, 1) := by decide +kernel
theorem dX7_append_43 : decode cX7_append 43 = .ok (.dup2, 1) := by decide +kernel
theorem dX7_append_44 : decode cX7_append 44 = .ok (.iaload, 1) := by decide +kernel
theorem dX7_append_45 : decode cX7_append 45 = .ok (.iconst 1, 1) := by decide +kernel
theorem dX7_append_46 : decode cX7_append 46 = .ok (.iadd, 1) := by decide +kernel
theorem dX7_append_47 : decode cX7_append 47 = .ok (.iastore, 1) := by decide +kernel
theorem dX7_append_48 : decode cX7_append 48 = .ok (.aload_n 0, 1) := by decide +kernel
theorem dX7_append_49 : decode cX7_append 49 = .ok (.getfield 9, 3) := by decide +kernel
theorem dX7_append_52 : decode cX7_append 52 = .ok (.iload_n 1, 1) := by decide +kernel
theorem dX7_append_53 : decode cX7_append 53 = .ok (.iaload, 1) := by decide +kernel
theorem dX7_append_54 : decode cX7_append 54 = .ok (.ireturn, 1) := by decide +kernel
theorem dX8_init_0 : decode cX8_init 0 = .ok (.aload_n 0, 1) := by decide +kernel
theorem dX8_init_1 : decode cX8_init 1 = .ok (.invokespecial 1, 3) := by decide +kernel
theorem dX8_init_4 : decode cX8_init 4 = .ok (.aload_n 0, 1) := by decide +kernel
theorem dX8_init_5 : decode cX8_init 5 = .ok (.new 7, 3) := by decide +kernel
theorem dX8_init_8 : decode cX8_init 8 = .ok (.dup, 1) := by decide +kernel
theorem dX8_init_9 : decode cX8_init 9 = .ok (.invokespecial 9, 3) := by decide +kernel
theorem dX8_init_12 : decode cX8_init 12 = .ok (.putfield 10, 3) := by decide +kernel
theorem dX8_init_15 : decode cX8_init 15 = .ok (.aload_n 0, 1) := by decide +kernel
theorem dX8_init_16 : decode cX8_init 16 = .ok (.new 16, 3) := by decide +kernel
theorem dX8_init_19 : decode cX8_init 19 = .ok (.dup, 1) := by decide +kernel
theorem dX8_init_20 : decode cX8_init 20 = .ok (.invokespecial 18, 3) := by decide +kernel
theorem dX8_init_23 : decode cX8_init 23 = .ok (.putfield 19, 3) := by decide +kernel
theorem dX8_init_26 : decode cX8_init 26 = .ok (.aload_n 0, 1) := by decide +kernel
theorem dX8_init_27 : decode cX8_init 27 = .ok (.new 23, 3) := by decide +kernel
theorem dX8_init_30 : decode cX8_init 30 = .ok (.dup, 1) := by decide +kernel
theorem dX8_init_31 : decode cX8_init 31 = .ok (.invokespecial 25, 3) := by decide +kernel
theorem dX8_init_34 : decode cX8_init 34 = .ok (.putfield 26, 3) := by decide +kernel
theorem dX8_init_37 : decode cX8_init 37 = .ok (.aload_n 0, 1) := by decide +kernel
theorem dX8_init_38 : decode cX8_init 38 = .ok (.new 30, 3) := by decide +kernel
theorem dX8_init_41 : decode cX8_init 41 = .ok (.dup, 1) := by decide +kernel
theorem dX8_init_42 : decode cX8_init 42 = .ok (.invokespecial 32, 3) := by decide +kernel
theorem dX8_init_45 : decode cX8_init 45 = .ok (.putfield 33, 3) := by decide +kernel
theorem dX8_init_48 : decode cX8_init 48 = .ok (.aload_n 0, 1) := by decide +kernel
theorem dX8_init_49 : decode cX8_init 49 = .ok (.bipush 20, 2) := by decide +kernel
theorem dX8_init_51 : decode cX8_init 51 = .ok (.anewarray 37, 3) := by decide +kernel
theorem dX8_init_54 : decode cX8_init 54 = .ok (.putfield 39, 3) := by decide +kernel
theorem dX8_init_57 : decode cX8_init 57 = .ok (.aload_n 0, 1) := by decide +kernel
theorem dX8_init_58 : decode cX8_init 58 = .ok (.iconst 4, 1) := by decide +kernel
theorem dX8_init_59 : decode cX8_init 59 = .ok (.anewarray 43, 3) := by decide +kernel
theorem dX8_init_62 : decode cX8_init 62 = .ok (.putfield 45, 3) := by decide +kernel
theorem dX8_init_65 : decode cX8_init 65 = .ok (.bipush 6, 2) := by decide +kernel
theorem dX8_init_67 : decode cX8_init 67 = .ok (.anewarray 49, 3) := by decide +kernel
theorem dX8_init_70 : decode cX8_init 70 = .ok (.astore_n 1, 1) := by decide +kernel
theorem dX8_init_71 : decode cX8_init 71 = .ok (.iconst 0, 1) := by decide +kernel
theorem dX8_init_72 : decode cX8_init 72 = .ok (.istore_n 2, 1) := by decide +kernel
theorem dX8_init_73 : decode cX8_init 73 = .ok (.iload_n 2, 1) := by decide +kernel
theorem dX8_init_74 : decode cX8_init 74 = .ok (.bipush 6, 2) := by decide +kernel
theorem dX8_init_76 : decode cX8_init 76 = .ok (.if_icmp .ge 19, 3) := by decide +kernel
theorem dX8_init_79 : decode cX8_init 79 = .ok (.aload_n 1, 1) := by decide +kernel
theorem dX8_init_80 : decode cX8_init 80 = .ok (.iload_n 2, 1) := by decide +kernel
theorem dX8_init_81 : decode cX8_init 81 = .ok (.new 49, 3) := by decide +kernel
theorem dX8_init_84 : decode cX8_init 84 = .ok (.dup, 1) := by decide +kernel
theorem dX8_init_85 : decode cX8_init 85 = .ok (.invokespecial 51, 3) := by decide +kernel
theorem dX8_init_88 : decode cX8_init 88 = .ok (.aastore, 1) := by decide +kernel
theorem dX8_init_89 : decode cX8_init 89 = .ok (.iinc 2 1, 3) := by decide +kernel
theorem dX8_init_92 : decode cX8_init 92 = .ok (.goto (-19), 3) := by decide +kernel
theorem dX8_init_95 : decode cX8_init 95 = .ok (.iconst 0, 1) := by decide +kernel
theorem dX8_init_96 : decode cX8_init 96 = .ok (.istore_n 2, 1) := by decide +kernel
theorem dX8_init_97 : decode cX8_init 97 = .ok (.iload_n 2, 1) := by decide +kernel
theorem dX8_init_98 : decode cX8_init 98 = .ok (.iconst 4, 1) := by decide +kernel
theorem dX8_init_99 : decode cX8_init 99 = .ok (.if_icmp .ge 27, 3) := by decide +kernel
theorem dX8_init_102 : decode cX8_init 102 = .ok (.aload_n 0, 1) := by decide +kernel
theorem dX8_init_103 : decode cX8_init 103 = .ok (.getfield 45, 3) := by decide +kernel
theorem dX8_init_106 : decode cX8_init 106 = .ok (.iload_n 2, 1) := by decide +kernel
theorem dX8_init_107 : decode cX8_init 107 = .ok (.new 43, 3) := by decide +kernel
theorem dX8_init_110 : decode cX8_init 110 = .ok (.dup, 1) := by decide +kernel
theorem dX8_init_111 : decode cX8_init 111 = .ok (.aload_n 0, 1) := by decide +kernel
theorem dX8_init_112 : decode cX8_init 112 = .ok (.getfield 19, 3) := by decide +kernel
theorem dX8_init_115 : decode cX8_init 115 = .ok (.aload_n 1, 1) := by decide +kernel
theorem dX8_init_116 : decode cX8_init 116 = .ok (.invokespecial 52, 3) := by decide +kernel
theorem dX8_init_119 : decode cX8_init 119 = .ok (.aastore, 1) := by decide +kernel
theorem dX8_init_120 : decode cX8_init 120 = .ok (.iinc 2 1, 3) := by decide +kernel
theorem dX8_init_123 : decode cX8_init 123 = .ok (.goto (-26), 3) := by decide +kernel
theorem dX8_init_126 : decode cX8_init 126 = .ok (.aload_n 0, 1) := by decide +kernel
theorem dX8_init_127 : decode cX8_init 127 = .ok (.new 55, 3) := by decide +kernel
theorem dX8_init_130 : decode cX8_init 130 = .ok (.dup, 1) := by decide +kernel
theorem dX8_init_131 : decode cX8_init 131 = .ok (.invokespecial 57, 3) := by decide +kernel
theorem dX8_init_134 : decode cX8_init 134 = .ok (.putfield 58, 3) := by decide +kernel
theorem dX8_init_137 : decode cX8_init 137 = .ok (.aload_n 0, 1) := by decide +kernel
theorem dX8_init_138 : decode cX8_init 138 = .ok (.bipush 20, 2) := by decide +kernel
theorem dX8_init_140 : decode cX8_init 140 = .ok (.newarray .int, 2) := by decide +kernel
theorem dX8_init_142 : decode cX8_init 142 = .ok (.putfield 62, 3) := by decide +kernel
theorem dX8_init_145 : decode cX8_init 145 = .ok (.aload_n 0, 1) := by decide +kernel
theorem dX8_init_146 : decode cX8_init 146 = .ok (.iconst 1, 1) := by decide +kernel
theorem dX8_init_147 : decode cX8_init 147 = .ok (.putfield 66, 3) := by decide +kernel
theorem dX8_init_150 : decode cX8_init 150 = .ok (.return_, 1) := by decide +kernel
theorem dX8_number_0 : decode cX8_number 0 = .ok (.iload_n 1, 1) := by decide +kernel
theorem dX8_number_1 : decode cX8_number 1 = .ok (.i2l, 1) := by decide +kernel
theorem dX8_number_2 : decode cX8_number 2 = .ok (.invokestatic 70, 3) := by decide +kernel
theorem dX8_number_5 : decode cX8_number 5 = .ok (.ifCond .ne 6, 3) := by decide +kernel
theorem dX8_number_8 : decode cX8_number 8 = .ok (.bipush (-2), 2) := by decide +kernel
theorem dX8_number_10 : decode cX8_number 10 = .ok (.ireturn, 1) := by decide +kernel
theorem dX8_number_11 : decode cX8_number 11 = .ok (.aload_n 0, 1) := by decide +kernel
theorem dX8_number_12 : decode cX8_number 12 = .ok (.getfield 10, 3) := by decide +kernel
theorem dX8_number_15 : decode cX8_number 15 = .ok (.getfield 74, 3) := by decide +kernel
theorem dX8_number_18 : decode cX8_number 18 = .ok (.iload_n 1, 1) := by decide +kernel
theorem dX8_number_19 : decode cX8_number 19 = .ok (.iconst 1, 1) := by decide +kernel
theorem dX8_number_20 : decode cX8_number 20 = .ok (.lload_n 2, 1) := by decide +kernel
theorem dX8_number_21 : decode cX8_number 21 = .ok (.iconst (-1), 1) := by decide +kernel
theorem dX8_number_22 : decode cX8_number 22 = .ok (.iconst (-1), 1) := by decide +kernel
theorem dX8_number_23 : decode cX8_number 23 = .ok (.invokevirtual 77, 3) := by decide +kernel
theorem dX8_number_26 : decode cX8_number 26 = .ok (.aload_n 0, 1) := by decide +kernel
theorem dX8_number_27 : decode cX8_number 27 = .ok (.iload_n 1, 1) := by decide +kernel
theorem dX8_number_28 : decode cX8_number 28 = .ok (.invokevirtual 81, 3) := by decide +kernel
theorem dX8_number_31 : decode cX8_number 31 = .ok (.ireturn, 1) := by decide +kernel
theorem dX8_lot_0 : decode cX8_lot 0 = .ok (.iload_n 1, 1) := by decide +kernel
theorem dX8_lot_1 : decode cX8_lot 1 = .ok (.i2l, 1) := by decide +kernel
theorem dX8_lot_2 : decode cX8_lot 2 = .ok (.invokestatic 70, 3) := by decide +kernel
theorem dX8_lot_5 : decode cX8_lot 5 = .ok (.ifCond .eq 29, 3) := by decide +kernel
theorem dX8_lot_8 : decode cX8_lot 8 = .ok (.iload_n 2, 1) := by decide +kernel
theorem dX8_lot_9 : decode cX8_lot 9 = .ok (.invokestatic 85, 3) := by decide +kernel
theorem dX8_lot_12 : decode cX8_lot 12 = .ok (.ifCond .eq 22, 3) := by decide +kernel
theorem dX8_lot_15 : decode cX8_lot 15 = .ok (.iload_n 3, 1) := by decide +kernel
theorem dX8_lot_16 : decode cX8_lot 16 = .ok (.invokestatic 89, 3) := by decide +kernel
theorem dX8_lot_19 : decode cX8_lot 19 = .ok (.ifCond .eq 15, 3) := by decide +kernel
theorem dX8_lot_22 : decode cX8_lot 22 = .ok (.iload 4, 2) := by decide +kernel
theorem dX8_lot_24 : decode cX8_lot 24 = .ok (.ifCond .lt 10, 3) := by decide +kernel
theorem dX8_lot_27 : decode cX8_lot 27 = .ok (.iload 4, 2) := by decide +kernel
theorem dX8_lot_29 : decode cX8_lot 29 = .ok (.ldc 92, 2) := by decide +kernel
theorem dX8_lot_31 : decode cX8_lot 31 = .ok (.if_icmp .le 6, 3) := by decide +kernel
theorem dX8_lot_34 : decode cX8_lot 34 = .ok (.bipush (-2), 2) := by decide +kernel
theorem dX8_lot_36 : decode cX8_lot 36 = .ok (.ireturn, 1) := by decide +kernel
theorem dX8_lot_37 : decode cX8_lot 37 = .ok (.aload_n 0, 1) := by decide +kernel
theorem dX8_lot_38 : decode cX8_lot 38 = .ok (.getfield 10, 3) := by decide +kernel
theorem dX8_lot_41 : decode cX8_lot 41 = .ok (.getfield 74, 3) := by decide +kernel
theorem dX8_lot_44 : decode cX8_lot 44 = .ok (.iload_n 1, 1) := by decide +kernel
theorem dX8_lot_45 : decode cX8_lot 45 = .ok (.iconst 2, 1) := by decide +kernel
theorem dX8_lot_46 : decode cX8_lot 46 = .ok (.iload 4, 2) := by decide +kernel
theorem dX8_lot_48 : decode cX8_lot 48 = .ok (.i2l, 1) := by decide +kernel
theorem dX8_lot_49 : decode cX8_lot 49 = .ok (.iload_n 2, 1) := by decide +kernel
theorem dX8_lot_50 : decode cX8_lot 50 = .ok (.iload_n 3, 1) := by decide +kernel
theorem dX8_lot_51 : decode cX8_lot 51 = .ok (.invokevirtual 77, 3) := by decide +kernel
theorem dX8_lot_54 : decode cX8_lot 54 = .ok (.aload_n 0, 1) := by decide +kernel
theorem dX8_lot_55 : decode cX8_lot 55 = .ok (.iload_n 1, 1) := by decide +kernel
theorem dX8_lot_56 : decode cX8_lot 56 = .ok (.invokevirtual 81, 3) := by decide +kernel
theorem dX8_lot_59 : decode cX8_lot 59 = .ok (.ireturn, 1) := by decide +kernel
theorem dX8_empty_0 : decode cX8_empty 0 = .ok (.iload_n 1, 1) := by decide +kernel
theorem dX8_empty_1 : decode cX8_empty 1 = .ok (.i2l, 1) := by decide +kernel
theorem dX8_empty_2 : decode cX8_empty 2 = .ok (.invokestatic 70, 3) := by decide +kernel
theorem dX8_empty_5 : decode cX8_empty 5 = .ok (.ifCond .ne 6, 3) := by decide +kernel
theorem dX8_empty_8 : decode cX8_empty 8 = .ok (.bipush (-2), 2) := by decide +kernel
theorem dX8_empty_10 : decode cX8_empty 10 = .ok (.ireturn, 1) := by decide +kernel
theorem dX8_empty_11 : decode cX8_empty 11 = .ok (.aload_n 0, 1) := by decide +kernel
theorem dX8_empty_12 : decode cX8_empty 12 = .ok (.getfield 10, 3) := by decide +kernel
theorem dX8_empty_15 : decode cX8_empty 15 = .ok (.getfield 74, 3) := by decide +kernel
theorem dX8_empty_18 : decode cX8_empty 18 = .ok (.iload_n 1, 1) := by decide +kernel
theorem dX8_empty_19 : decode cX8_empty 19 = .ok (.iconst 0, 1) := by decide +kernel
theorem dX8_empty_20 : decode cX8_empty 20 = .ok (.lconst 0, 1) := by decide +kernel
theorem dX8_empty_21 : decode cX8_empty 21 = .ok (.iconst (-1), 1) := by decide +kernel
theorem dX8_empty_22 : decode cX8_empty 22 = .ok (.iconst (-1), 1) := by decide +kernel
theorem dX8_empty_23 : decode cX8_empty 23 = .ok (.invokevirtual 77, 3) := by decide +kernel
theorem dX8_empty_26 : decode cX8_empty 26 = .ok (.aload_n 0, 1) := by decide +kernel
theorem dX8_empty_27 : decode cX8_empty 27 = .ok (.iload_n 1, 1) := by decide +kernel
theorem dX8_empty_28 : decode cX8_empty 28 = .ok (.invokevirtual 81, 3) := by decide +kernel
theorem dX8_empty_31 : decode cX8_empty 31 = .ok (.ireturn, 1) := by decide +kernel
theorem dX8_holds_0 : decode cX8_holds 0 = .ok (.iload_n 1, 1) := by decide +kernel
theorem dX8_holds_1 : decode cX8_holds 1 = .ok (.i2l, 1) := by decide +kernel
theorem dX8_holds_2 : decode cX8_holds 2 = .ok (.invokestatic 70, 3) := by decide +kernel
theorem dX8_holds_5 : decode cX8_holds 5 = .ok (.ifCond .eq 18, 3) := by decide +kernel
theorem dX8_holds_8 : decode cX8_holds 8 = .ok (.aload_n 0, 1) := by decide +kernel
theorem dX8_holds_9 : decode cX8_holds 9 = .ok (.getfield 10, 3) := by decide +kernel
theorem dX8_holds_12 : decode cX8_holds 12 = .ok (.getfield 74, 3) := by decide +kernel
theorem dX8_holds_15 : decode cX8_holds 15 = .ok (.getfield 93, 3) := by decide +kernel
theorem dX8_holds_18 : decode cX8_holds 18 = .ok (.iload_n 1, 1) := by decide +kernel
theorem dX8_holds_19 : decode cX8_holds 19 = .ok (.iaload, 1) := by decide +kernel
theorem dX8_holds_20 : decode cX8_holds 20 = .ok (.goto 5, 3) := by decide +kernel
theorem dX8_holds_23 : decode cX8_holds 23 = .ok (.bipush (-2), 2) := by decide +kernel
theorem dX8_holds_25 : decode cX8_holds 25 = .ok (.ireturn, 1) := by decide +kernel
theorem dX8_value_0 : decode cX8_value 0 = .ok (.iload_n 1, 1) := by decide +kernel
theorem dX8_value_1 : decode cX8_value 1 = .ok (.i2l, 1) := by decide +kernel
theorem dX8_value_2 : decode cX8_value 2 = .ok (.invokestatic 70, 3) := by decide +kernel
theorem dX8_value_5 : decode cX8_value 5 = .ok (.ifCond .eq 18, 3) := by decide +kernel
theorem dX8_value_8 : decode cX8_value 8 = .ok (.aload_n 0, 1) := by decide +kernel
theorem dX8_value_9 : decode cX8_value 9 = .ok (.getfield 10, 3) := by decide +kernel
theorem dX8_value_12 : decode cX8_value 12 = .ok (.getfield 74, 3) := by decide +kernel
theorem dX8_value_15 : decode cX8_value 15 = .ok (.getfield 96, 3) := by decide +kernel
theorem dX8_value_18 : decode cX8_value 18 = .ok (.iload_n 1, 1) := by decide +kernel
theorem dX8_value_19 : decode cX8_value 19 = .ok (.laload, 1) := by decide +kernel
theorem dX8_value_20 : decode cX8_value 20 = .ok (.goto 4, 3) := by decide +kernel
theorem dX8_value_23 : decode cX8_value 23 = .ok (.lconst 0, 1) := by decide +kernel
theorem dX8_value_24 : decode cX8_value 24 = .ok (.lreturn, 1) := by decide +kernel
theorem dX8_cell_0 : decode cX8_cell 0 = .ok (.iload_n 1, 1) := by decide +kernel
theorem dX8_cell_1 : decode cX8_cell 1 = .ok (.i2l, 1) := by decide +kernel
theorem dX8_cell_2 : decode cX8_cell 2 = .ok (.invokestatic 70, 3) := by decide +kernel
theorem dX8_cell_5 : decode cX8_cell 5 = .ok (.ifCond .ne 6, 3) := by decide +kernel
theorem dX8_cell_8 : decode cX8_cell 8 = .ok (.bipush (-2), 2) := by decide +kernel
theorem dX8_cell_10 : decode cX8_cell 10 = .ok (.ireturn, 1) := by decide +kernel
theorem dX8_cell_11 : decode cX8_cell 11 = .ok (.iload_n 2, 1) := by decide +kernel
theorem dX8_cell_12 : decode cX8_cell 12 = .ok (.tableswitch 78 0 3 #[32, 42, 52, 65], 32) := by decide +kernel
theorem dX8_cell_44 : decode cX8_cell 44 = .ok (.aload_n 0, 1) := by decide +kernel
theorem dX8_cell_45 : decode cX8_cell 45 = .ok (.getfield 10, 3) := by decide +kernel
theorem dX8_cell_48 : decode cX8_cell 48 = .ok (.getfield 100, 3) := by decide +kernel
theorem dX8_cell_51 : decode cX8_cell 51 = .ok (.iload_n 1, 1) := by decide +kernel
theorem dX8_cell_52 : decode cX8_cell 52 = .ok (.iaload, 1) := by decide +kernel
theorem dX8_cell_53 : decode cX8_cell 53 = .ok (.ireturn, 1) := by decide +kernel
theorem dX8_cell_54 : decode cX8_cell 54 = .ok (.aload_n 0, 1) := by decide +kernel
theorem dX8_cell_55 : decode cX8_cell 55 = .ok (.getfield 10, 3) := by decide +kernel
theorem dX8_cell_58 : decode cX8_cell 58 = .ok (.getfield 103, 3) := by decide +kernel
theorem dX8_cell_61 : decode cX8_cell 61 = .ok (.iload_n 1, 1) := by decide +kernel
theorem dX8_cell_62 : decode cX8_cell 62 = .ok (.iaload, 1) := by decide +kernel
theorem dX8_cell_63 : decode cX8_cell 63 = .ok (.ireturn, 1) := by decide +kernel
theorem dX8_cell_64 : decode cX8_cell 64 = .ok (.aload_n 0, 1) := by decide +kernel
theorem dX8_cell_65 : decode cX8_cell 65 = .ok (.getfield 10, 3) := by decide +kernel
theorem dX8_cell_68 : decode cX8_cell 68 = .ok (.getfield 74, 3) := by decide +kernel
theorem dX8_cell_71 : decode cX8_cell 71 = .ok (.getfield 106, 3) := by decide +kernel
theorem dX8_cell_74 : decode cX8_cell 74 = .ok (.iload_n 1, 1) := by decide +kernel
theorem dX8_cell_75 : decode cX8_cell 75 = .ok (.iaload, 1) := by decide +kernel
theorem dX8_cell_76 : decode cX8_cell 76 = .ok (.ireturn, 1) := by decide +kernel
theorem dX8_cell_77 : decode cX8_cell 77 = .ok (.aload_n 0, 1) := by decide +kernel
theorem dX8_cell_78 : decode cX8_cell 78 = .ok (.getfield 10, 3) := by decide +kernel
theorem dX8_cell_81 : decode cX8_cell 81 = .ok (.getfield 74, 3) := by decide +kernel
theorem dX8_cell_84 : decode cX8_cell 84 = .ok (.getfield 109, 3) := by decide +kernel
theorem dX8_cell_87 : decode cX8_cell 87 = .ok (.iload_n 1, 1) := by decide +kernel
theorem dX8_cell_88 : decode cX8_cell 88 = .ok (.iaload, 1) := by decide +kernel
theorem dX8_cell_89 : decode cX8_cell 89 = .ok (.ireturn, 1) := by decide +kernel
theorem dX8_cell_90 : decode cX8_cell 90 = .ok (.bipush (-2), 2) := by decide +kernel
theorem dX8_cell_92 : decode cX8_cell 92 = .ok (.ireturn, 1) := by decide +kernel
theorem dX8_history_0 : decode cX8_history 0 = .ok (.iload_n 1, 1) := by decide +kernel
theorem dX8_history_1 : decode cX8_history 1 = .ok (.i2l, 1) := by decide +kernel
theorem dX8_history_2 : decode cX8_history 2 = .ok (.invokestatic 70, 3) := by decide +kernel
theorem dX8_history_5 : decode cX8_history 5 = .ok (.ifCond .ne 6, 3) := by decide +kernel
theorem dX8_history_8 : decode cX8_history 8 = .ok (.bipush (-2), 2) := by decide +kernel
theorem dX8_history_10 : decode cX8_history 10 = .ok (.ireturn, 1) := by decide +kernel
theorem dX8_history_11 : decode cX8_history 11 = .ok (.iload_n 2, 1) := by decide +kernel
theorem dX8_history_12 : decode cX8_history 12 = .ok (.ifCond .lt 20, 3) := by decide +kernel
theorem dX8_history_15 : decode cX8_history 15 = .ok (.iload_n 2, 1) := by decide +kernel
theorem dX8_history_16 : decode cX8_history 16 = .ok (.aload_n 0, 1) := by decide +kernel
theorem dX8_history_17 : decode cX8_history 17 = .ok (.getfield 10, 3) := by decide +kernel
theorem dX8_history_20 : decode cX8_history 20 = .ok (.getfield 112, 3) := by decide +kernel
theorem dX8_history_23 : decode cX8_history 23 = .ok (.iload_n 1, 1) := by decide +kernel
theorem dX8_history_24 : decode cX8_history 24 = .ok (.iaload, 1) := by decide +kernel
theorem dX8_history_25 : decode cX8_history 25 = .ok (.if_icmp .ge 7, 3) := by decide +kernel
theorem dX8_history_28 : decode cX8_history 28 = .ok (.iconst 1, 1) := by decide +kernel
theorem dX8_history_29 : decode cX8_history 29 = .ok (.goto 4, 3) := by decide +kernel
theorem dX8_history_32 : decode cX8_history 32 = .ok (.iconst 0, 1) := by decide +kernel
theorem dX8_history_33 : decode cX8_history 33 = .ok (.istore_n 3, 1) := by decide +kernel
theorem dX8_history_34 : decode cX8_history 34 = .ok (.iload_n 3, 1) := by decide +kernel
theorem dX8_history_35 : decode cX8_history 35 = .ok (.ifCond .eq 20, 3) := by decide +kernel
theorem dX8_history_38 : decode cX8_history 38 = .ok (.aload_n 0, 1) := by decide +kernel
theorem dX8_history_39 : decode cX8_history 39 = .ok (.getfield 10, 3) := by decide +kernel
theorem dX8_history_42 : decode cX8_history 42 = .ok (.getfield 115, 3) := by decide +kernel
theorem dX8_history_45 : decode cX8_history 45 = .ok (.iload_n 1, 1) := by decide +kernel
theorem dX8_history_46 : decode cX8_history 46 = .ok (.bipush 12, 2) := by decide +kernel
theorem dX8_history_48 : decode cX8_history 48 = .ok (.imul, 1) := by decide +kernel
theorem dX8_history_49 : decode cX8_history 49 = .ok (.iload_n 2, 1) := by decide +kernel
theorem dX8_history_50 : decode cX8_history 50 = .ok (.iadd, 1) := by decide +kernel
theorem dX8_history_51 : decode cX8_history 51 = .ok (.iaload, 1) := by decide +kernel
theorem dX8_history_52 : decode cX8_history 52 = .ok (.goto 4, 3) := by decide +kernel
theorem dX8_history_55 : decode cX8_history 55 = .ok (.iconst (-1), 1) := by decide +kernel
theorem dX8_history_56 : decode cX8_history 56 = .ok (.ireturn, 1) := by decide +kernel
theorem dX8_stock_0 : decode cX8_stock 0 = .ok (.iload_n 1, 1) := by decide +kernel
theorem dX8_stock_1 : decode cX8_stock 1 = .ok (.ifCond .ne 22, 3) := by decide +kernel
theorem dX8_stock_4 : decode cX8_stock 4 = .ok (.iload_n 2, 1) := by decide +kernel
theorem dX8_stock_5 : decode cX8_stock 5 = .ok (.invokestatic 85, 3) := by decide +kernel
theorem dX8_stock_8 : decode cX8_stock 8 = .ok (.ifCond .eq 15, 3) := by decide +kernel
theorem dX8_stock_11 : decode cX8_stock 11 = .ok (.aload_n 0, 1) := by decide +kernel
theorem dX8_stock_12 : decode cX8_stock 12 = .ok (.getfield 10, 3) := by decide +kernel
theorem dX8_stock_15 : decode cX8_stock 15 = .ok (.getfield 74, 3) := by decide +kernel
theorem dX8_stock_18 : decode cX8_stock 18 = .ok (.iload_n 2, 1) := by decide +kernel
theorem dX8_stock_19 : decode cX8_stock 19 = .ok (.invokevirtual 118, 3) := by decide +kernel
theorem dX8_stock_22 : decode cX8_stock 22 = .ok (.lreturn, 1) := by decide +kernel
theorem dX8_stock_23 : decode cX8_stock 23 = .ok (.iload_n 1, 1) := by decide +kernel
theorem dX8_stock_24 : decode cX8_stock 24 = .ok (.iconst 1, 1) := by decide +kernel
theorem dX8_stock_25 : decode cX8_stock 25 = .ok (.if_icmp .ne 22, 3) := by decide +kernel
theorem dX8_stock_28 : decode cX8_stock 28 = .ok (.iload_n 2, 1) := by decide +kernel
theorem dX8_stock_29 : decode cX8_stock 29 = .ok (.invokestatic 89, 3) := by decide +kernel
theorem dX8_stock_32 : decode cX8_stock 32 = .ok (.ifCond .eq 15, 3) := by decide +kernel
theorem dX8_stock_35 : decode cX8_stock 35 = .ok (.aload_n 0, 1) := by decide +kernel
theorem dX8_stock_36 : decode cX8_stock 36 = .ok (.getfield 10, 3) := by decide +kernel
theorem dX8_stock_39 : decode cX8_stock 39 = .ok (.getfield 74, 3) := by decide +kernel
theorem dX8_stock_42 : decode cX8_stock 42 = .ok (.iload_n 2, 1) := by decide +kernel
theorem dX8_stock_43 : decode cX8_stock 43 = .ok (.invokevirtual 122, 3) := by decide +kernel
theorem dX8_stock_46 : decode cX8_stock 46 = .ok (.lreturn, 1) := by decide +kernel
theorem dX8_stock_47 : decode cX8_stock 47 = .ok (.ldc2_w 125, 3) := by decide +kernel
theorem dX8_stock_50 : decode cX8_stock 50 = .ok (.lreturn, 1) := by decide +kernel
theorem dX8_step_0 : decode cX8_step 0 = .ok (.iload_n 1, 1) := by decide +kernel
theorem dX8_step_1 : decode cX8_step 1 = .ok (.invokestatic 127, 3) := by decide +kernel
theorem dX8_step_4 : decode cX8_step 4 = .ok (.ifCond .eq 13, 3) := by decide +kernel
theorem dX8_step_7 : decode cX8_step 7 = .ok (.iload_n 2, 1) := by decide +kernel
theorem dX8_step_8 : decode cX8_step 8 = .ok (.iload_n 3, 1) := by decide +kernel
theorem dX8_step_9 : decode cX8_step 9 = .ok (.iload 4, 2) := by decide +kernel
theorem dX8_step_11 : decode cX8_step 11 = .ok (.invokestatic 130, 3) := by decide +kernel
theorem dX8_step_14 : decode cX8_step 14 = .ok (.ifCond .ne 6, 3) := by decide +kernel
theorem dX8_step_17 : decode cX8_step 17 = .ok (.bipush (-2), 2) := by decide +kernel
theorem dX8_step_19 : decode cX8_step 19 = .ok (.ireturn, 1) := by decide +kernel
theorem dX8_step_20 : decode cX8_step 20 = .ok (.aload_n 0, 1) := by decide +kernel
theorem dX8_step_21 : decode cX8_step 21 = .ok (.getfield 19, 3) := by decide +kernel
theorem dX8_step_24 : decode cX8_step 24 = .ok (.getfield 134, 3) := by decide +kernel
theorem dX8_step_27 : decode cX8_step 27 = .ok (.iload_n 1, 1) := by decide +kernel
theorem dX8_step_28 : decode cX8_step 28 = .ok (.iaload, 1) := by decide +kernel
theorem dX8_step_29 : decode cX8_step 29 = .ok (.bipush 24, 2) := by decide +kernel
theorem dX8_step_31 : decode cX8_step 31 = .ok (.if_icmp .lt 6, 3) := by decide +kernel
theorem dX8_step_34 : decode cX8_step 34 = .ok (.bipush (-3), 2) := by decide +kernel
theorem dX8_step_36 : decode cX8_step 36 = .ok (.ireturn, 1) := by decide +kernel
theorem dX8_step_37 : decode cX8_step 37 = .ok (.aload_n 0, 1) := by decide +kernel
theorem dX8_step_38 : decode cX8_step 38 = .ok (.getfield 19, 3) := by decide +kernel
theorem dX8_step_41 : decode cX8_step 41 = .ok (.iload_n 1, 1) := by decide +kernel
theorem dX8_step_42 : decode cX8_step 42 = .ok (.iload_n 2, 1) := by decide +kernel
theorem dX8_step_43 : decode cX8_step 43 = .ok (.iload_n 3, 1) := by decide +kernel
theorem dX8_step_44 : decode cX8_step 44 = .ok (.iload 4, 2) := by decide +kernel
theorem dX8_step_46 : decode cX8_step 46 = .ok (.invokevirtual 137, 3) := by decide +kernel
theorem dX8_step_49 : decode cX8_step 49 = .ok (.ireturn, 1) := by decide +kernel
theorem dX8_drop_0 : decode cX8_drop 0 = .ok (.iload_n 1, 1) := by decide +kernel
theorem dX8_drop_1 : decode cX8_drop 1 = .ok (.invokestatic 127, 3) := by decide +kernel
theorem dX8_drop_4 : decode cX8_drop 4 = .ok (.ifCond .ne 6, 3) := by decide +kernel
theorem dX8_drop_7 : decode cX8_drop 7 = .ok (.bipush (-2), 2) := by decide +kernel
theorem dX8_drop_9 : decode cX8_drop 9 = .ok (.ireturn, 1) := by decide +kernel
theorem dX8_drop_10 : decode cX8_drop 10 = .ok (.aload_n 0, 1) := by decide +kernel
theorem dX8_drop_11 : decode cX8_drop 11 = .ok (.getfield 19, 3) := by decide +kernel
theorem dX8_drop_14 : decode cX8_drop 14 = .ok (.getfield 134, 3) := by decide +kernel
theorem dX8_drop_17 : decode cX8_drop 17 = .ok (.iload_n 1, 1) := by decide +kernel
theorem dX8_drop_18 : decode cX8_drop 18 = .ok (.iaload, 1) := by decide +kernel
theorem dX8_drop_19 : decode cX8_drop 19 = .ok (.istore_n 2, 1) := by decide +kernel
theorem dX8_drop_20 : decode cX8_drop 20 = .ok (.aload_n 0, 1) := by decide +kernel
theorem dX8_drop_21 : decode cX8_drop 21 = .ok (.getfield 19, 3) := by decide +kernel
theorem dX8_drop_24 : decode cX8_drop 24 = .ok (.getfield 134, 3) := by decide +kernel
theorem dX8_drop_27 : decode cX8_drop 27 = .ok (.iload_n 1, 1) := by decide +kernel
theorem dX8_drop_28 : decode cX8_drop 28 = .ok (.iconst 0, 1) := by decide +kernel
theorem dX8_drop_29 : decode cX8_drop 29 = .ok (.iastore, 1) := by decide +kernel
theorem dX8_drop_30 : decode cX8_drop 30 = .ok (.iload_n 2, 1) := by decide +kernel
theorem dX8_drop_31 : decode cX8_drop 31 = .ok (.ireturn, 1) := by decide +kernel
theorem dX8_clash_0 : decode cX8_clash 0 = .ok (.iload_n 1, 1) := by decide +kernel
theorem dX8_clash_1 : decode cX8_clash 1 = .ok (.invokestatic 127, 3) := by decide +kernel
theorem dX8_clash_4 : decode cX8_clash 4 = .ok (.ifCond .eq 13, 3) := by decide +kernel
theorem dX8_clash_7 : decode cX8_clash 7 = .ok (.iload_n 2, 1) := by decide +kernel
theorem dX8_clash_8 : decode cX8_clash 8 = .ok (.ifCond .lt 9, 3) := by decide +kernel
theorem dX8_clash_11 : decode cX8_clash 11 = .ok (.iload_n 2, 1) := by decide +kernel
theorem dX8_clash_12 : decode cX8_clash 12 = .ok (.bipush 10, 2) := by decide +kernel
theorem dX8_clash_14 : decode cX8_clash 14 = .ok (.if_icmp .le 6, 3) := by decide +kernel
theorem dX8_clash_17 : decode cX8_clash 17 = .ok (.bipush (-2), 2) := by decide +kernel
theorem dX8_clash_19 : decode cX8_clash 19 = .ok (.ireturn, 1) := by decide +kernel
theorem dX8_clash_20 : decode cX8_clash 20 = .ok (.aload_n 0, 1) := by decide +kernel
theorem dX8_clash_21 : decode cX8_clash 21 = .ok (.getfield 19, 3) := by decide +kernel
theorem dX8_clash_24 : decode cX8_clash 24 = .ok (.getfield 141, 3) := by decide +kernel
theorem dX8_clash_27 : decode cX8_clash 27 = .ok (.iload_n 1, 1) := by decide +kernel
theorem dX8_clash_28 : decode cX8_clash 28 = .ok (.iaload, 1) := by decide +kernel
theorem dX8_clash_29 : decode cX8_clash 29 = .ok (.istore_n 3, 1) := by decide +kernel
theorem dX8_clash_30 : decode cX8_clash 30 = .ok (.aload_n 0, 1) := by decide +kernel
theorem dX8_clash_31 : decode cX8_clash 31 = .ok (.getfield 19, 3) := by decide +kernel
theorem dX8_clash_34 : decode cX8_clash 34 = .ok (.getfield 141, 3) := by decide +kernel
theorem dX8_clash_37 : decode cX8_clash 37 = .ok (.iload_n 1, 1) := by decide +kernel
theorem dX8_clash_38 : decode cX8_clash 38 = .ok (.iload_n 2, 1) := by decide +kernel
theorem dX8_clash_39 : decode cX8_clash 39 = .ok (.iastore, 1) := by decide +kernel
theorem dX8_clash_40 : decode cX8_clash 40 = .ok (.iload_n 3, 1) := by decide +kernel
theorem dX8_clash_41 : decode cX8_clash 41 = .ok (.ireturn, 1) := by decide +kernel
theorem dX8_rule_0 : decode cX8_rule 0 = .ok (.iload_n 1, 1) := by decide +kernel
theorem dX8_rule_1 : decode cX8_rule 1 = .ok (.iload_n 2, 1) := by decide +kernel
theorem dX8_rule_2 : decode cX8_rule 2 = .ok (.iload_n 3, 1) := by decide +kernel
theorem dX8_rule_3 : decode cX8_rule 3 = .ok (.invokestatic 144, 3) := by decide +kernel
theorem dX8_rule_6 : decode cX8_rule 6 = .ok (.ifCond .ne 6, 3) := by decide +kernel
theorem dX8_rule_9 : decode cX8_rule 9 = .ok (.bipush (-2), 2) := by decide +kernel
theorem dX8_rule_11 : decode cX8_rule 11 = .ok (.ireturn, 1) := by decide +kernel
theorem dX8_rule_12 : decode cX8_rule 12 = .ok (.aload_n 0, 1) := by decide +kernel
theorem dX8_rule_13 : decode cX8_rule 13 = .ok (.getfield 26, 3) := by decide +kernel
theorem dX8_rule_16 : decode cX8_rule 16 = .ok (.getfield 145, 3) := by decide +kernel
theorem dX8_rule_19 : decode cX8_rule 19 = .ok (.bipush 10, 2) := by decide +kernel
theorem dX8_rule_21 : decode cX8_rule 21 = .ok (.if_icmp .lt 6, 3) := by decide +kernel
theorem dX8_rule_24 : decode cX8_rule 24 = .ok (.bipush (-3), 2) := by decide +kernel
theorem dX8_rule_26 : decode cX8_rule 26 = .ok (.ireturn, 1) := by decide +kernel
theorem dX8_rule_27 : decode cX8_rule 27 = .ok (.aload_n 0, 1) := by decide +kernel
theorem dX8_rule_28 : decode cX8_rule 28 = .ok (.getfield 26, 3) := by decide +kernel
theorem dX8_rule_31 : decode cX8_rule 31 = .ok (.iload_n 1, 1) := by decide +kernel
theorem dX8_rule_32 : decode cX8_rule 32 = .ok (.iload_n 2, 1) := by decide +kernel
theorem dX8_rule_33 : decode cX8_rule 33 = .ok (.iload_n 3, 1) := by decide +kernel
theorem dX8_rule_34 : decode cX8_rule 34 = .ok (.lload 4, 2) := by decide +kernel
theorem dX8_rule_36 : decode cX8_rule 36 = .ok (.invokevirtual 148, 3) := by decide +kernel
theorem dX8_rule_39 : decode cX8_rule 39 = .ok (.ireturn, 1) := by decide +kernel
theorem dX8_submit_0 : decode cX8_submit 0 = .ok (.iload_n 1, 1) := by decide +kernel
theorem dX8_submit_1 : decode cX8_submit 1 = .ok (.invokestatic 127, 3) := by decide +kernel
theorem dX8_submit_4 : decode cX8_submit 4 = .ok (.ifCond .ne 6, 3) := by decide +kernel
theorem dX8_submit_7 : decode cX8_submit 7 = .ok (.bipush (-2), 2) := by decide +kernel
theorem dX8_submit_9 : decode cX8_submit 9 = .ok (.ireturn, 1) := by decide +kernel
theorem dX8_submit_10 : decode cX8_submit 10 = .ok (.aload_n 0, 1) := by decide +kernel
theorem dX8_submit_11 : decode cX8_submit 11 = .ok (.getfield 151, 3) := by decide +kernel
theorem dX8_submit_14 : decode cX8_submit 14 = .ok (.bipush 20, 2) := by decide +kernel
theorem dX8_submit_16 : decode cX8_submit 16 = .ok (.if_icmp .lt 6, 3) := by decide +kernel
theorem dX8_submit_19 : decode cX8_submit 19 = .ok (.bipush (-3), 2) := by decide +kernel
theorem dX8_submit_21 : decode cX8_submit 21 = .ok (.ireturn, 1) := by decide +kernel
theorem dX8_submit_22 : decode cX8_submit 22 = .ok (.aload_n 0, 1) := by decide +kernel
theorem dX8_submit_23 : decode cX8_submit 23 = .ok (.getfield 39, 3) := by decide +kernel
theorem dX8_submit_26 : decode cX8_submit 26 = .ok (.aload_n 0, 1) := by decide +kernel
theorem dX8_submit_27 : decode cX8_submit 27 = .ok (.getfield 151, 3) := by decide +kernel
theorem dX8_submit_30 : decode cX8_submit 30 = .ok (.new 37, 3) := by decide +kernel
theorem dX8_submit_33 : decode cX8_submit 33 = .ok (.dup, 1) := by decide +kernel
theorem dX8_submit_34 : decode cX8_submit 34 = .ok (.iload_n 1, 1) := by decide +kernel
theorem dX8_submit_35 : decode cX8_submit 35 = .ok (.invokespecial 154, 3) := by decide +kernel
theorem dX8_submit_38 : decode cX8_submit 38 = .ok (.aastore, 1) := by decide +kernel
theorem dX8_submit_39 : decode cX8_submit 39 = .ok (.aload_n 0, 1) := by decide +kernel
theorem dX8_submit_40 : decode cX8_submit 40 = .ok (.dup, 1) := by decide +kernel
theorem dX8_submit_41 : decode cX8_submit 41 = .ok (.getfield 151, 3) := by decide +kernel
theorem dX8_submit_44 : decode cX8_submit 44 = .ok (.iconst 1, 1) := by decide +kernel
theorem dX8_submit_45 : decode cX8_submit 45 = .ok (.iadd, 1) := by decide +kernel
theorem dX8_submit_46 : decode cX8_submit 46 = .ok (.putfield 151, 3) := by decide +kernel
theorem dX8_submit_49 : decode cX8_submit 49 = .ok (.aload_n 0, 1) := by decide +kernel
theorem dX8_submit_50 : decode cX8_submit 50 = .ok (.getfield 151, 3) := by decide +kernel
theorem dX8_submit_53 : decode cX8_submit 53 = .ok (.iconst 1, 1) := by decide +kernel
theorem dX8_submit_54 : decode cX8_submit 54 = .ok (.isub, 1) := by decide +kernel
theorem dX8_submit_55 : decode cX8_submit 55 = .ok (.ireturn, 1) := by decide +kernel
theorem dX8_window_0 : decode cX8_window 0 = .ok (.iload_n 1, 1) := by decide +kernel
theorem dX8_window_1 : decode cX8_window 1 = .ok (.iconst 1, 1) := by decide +kernel
theorem dX8_window_2 : decode cX8_window 2 = .ok (.if_icmp .lt 8, 3) := by decide +kernel
theorem dX8_window_5 : decode cX8_window 5 = .ok (.iload_n 1, 1) := by decide +kernel
theorem dX8_window_6 : decode cX8_window 6 = .ok (.iconst 4, 1) := by decide +kernel
theorem dX8_window_7 : decode cX8_window 7 = .ok (.if_icmp .le 6, 3) := by decide +kernel
theorem dX8_window_10 : decode cX8_window 10 = .ok (.bipush (-2), 2) := by decide +kernel
theorem dX8_window_12 : decode cX8_window 12 = .ok (.ireturn, 1) := by decide +kernel
theorem dX8_window_13 : decode cX8_window 13 = .ok (.aload_n 0, 1) := by decide +kernel
theorem dX8_window_14 : decode cX8_window 14 = .ok (.getfield 66, 3) := by decide +kernel
theorem dX8_window_17 : decode cX8_window 17 = .ok (.istore_n 2, 1) := by decide +kernel
theorem dX8_window_18 : decode cX8_window 18 = .ok (.aload_n 0, 1) := by decide +kernel
theorem dX8_window_19 : decode cX8_window 19 = .ok (.iload_n 1, 1) := by decide +kernel
theorem dX8_window_20 : decode cX8_window 20 = .ok (.putfield 66, 3) := by decide +kernel
theorem dX8_window_23 : decode cX8_window 23 = .ok (.iload_n 2, 1) := by decide +kernel
theorem dX8_window_24 : decode cX8_window 24 = .ok (.ireturn, 1) := by decide +kernel
theorem dX8_run_0 : decode cX8_run 0 = .ok (.iload_n 1, 1) := by decide +kernel
theorem dX8_run_1 : decode cX8_run 1 = .ok (.iconst 1, 1) := by decide +kernel
theorem dX8_run_2 : decode cX8_run 2 = .ok (.if_icmp .lt 9, 3) := by decide +kernel
theorem dX8_run_5 : decode cX8_run 5 = .ok (.iload_n 1, 1) := by decide +kernel
theorem dX8_run_6 : decode cX8_run 6 = .ok (.bipush 100, 2) := by decide +kernel
theorem dX8_run_8 : decode cX8_run 8 = .ok (.if_icmp .le 6, 3) := by decide +kernel
theorem dX8_run_11 : decode cX8_run 11 = .ok (.bipush (-2), 2) := by decide +kernel
theorem dX8_run_13 : decode cX8_run 13 = .ok (.ireturn, 1) := by decide +kernel
theorem dX8_run_14 : decode cX8_run 14 = .ok (.iconst 0, 1) := by decide +kernel
theorem dX8_run_15 : decode cX8_run 15 = .ok (.istore_n 2, 1) := by decide +kernel
theorem dX8_run_16 : decode cX8_run 16 = .ok (.iconst 0, 1) := by decide +kernel
theorem dX8_run_17 : decode cX8_run 17 = .ok (.istore_n 3, 1) := by decide +kernel
theorem dX8_run_18 : decode cX8_run 18 = .ok (.iload_n 3, 1) := by decide +kernel
theorem dX8_run_19 : decode cX8_run 19 = .ok (.iload_n 1, 1) := by decide +kernel
theorem dX8_run_20 : decode cX8_run 20 = .ok (.if_icmp .ge 27, 3) := by decide +kernel
theorem dX8_run_23 : decode cX8_run 23 = .ok (.aload_n 0, 1) := by decide +kernel
theorem dX8_run_24 : decode cX8_run 24 = .ok (.aload_n 0, 1) := by decide +kernel
theorem dX8_run_25 : decode cX8_run 25 = .ok (.getfield 151, 3) := by decide +kernel
theorem dX8_run_28 : decode cX8_run 28 = .ok (.invokevirtual 157, 3) := by decide +kernel
theorem dX8_run_31 : decode cX8_run 31 = .ok (.ifCond .eq 16, 3) := by decide +kernel
theorem dX8_run_34 : decode cX8_run 34 = .ok (.iload_n 2, 1) := by decide +kernel
theorem dX8_run_35 : decode cX8_run 35 = .ok (.aload_n 0, 1) := by decide +kernel
theorem dX8_run_36 : decode cX8_run 36 = .ok (.invokevirtual 160, 3) := by decide +kernel
theorem dX8_run_39 : decode cX8_run 39 = .ok (.iadd, 1) := by decide +kernel
theorem dX8_run_40 : decode cX8_run 40 = .ok (.istore_n 2, 1) := by decide +kernel
theorem dX8_run_41 : decode cX8_run 41 = .ok (.iinc 3 1, 3) := by decide +kernel
theorem dX8_run_44 : decode cX8_run 44 = .ok (.goto (-26), 3) := by decide +kernel
theorem dX8_run_47 : decode cX8_run 47 = .ok (.iload_n 2, 1) := by decide +kernel
theorem dX8_run_48 : decode cX8_run 48 = .ok (.ireturn, 1) := by decide +kernel
theorem dX8_ticket_0 : decode cX8_ticket 0 = .ok (.aload_n 0, 1) := by decide +kernel
theorem dX8_ticket_1 : decode cX8_ticket 1 = .ok (.iload_n 1, 1) := by decide +kernel
theorem dX8_ticket_2 : decode cX8_ticket 2 = .ok (.invokevirtual 164, 3) := by decide +kernel
theorem dX8_ticket_5 : decode cX8_ticket 5 = .ok (.ifCond .ne 6, 3) := by decide +kernel
theorem dX8_ticket_8 : decode cX8_ticket 8 = .ok (.bipush (-2), 2) := by decide +kernel
theorem dX8_ticket_10 : decode cX8_ticket 10 = .ok (.ireturn, 1) := by decide +kernel
theorem dX8_ticket_11 : decode cX8_ticket 11 = .ok (.aload_n 0, 1) := by decide +kernel
theorem dX8_ticket_12 : decode cX8_ticket 12 = .ok (.getfield 39, 3) := by decide +kernel
theorem dX8_ticket_15 : decode cX8_ticket 15 = .ok (.iload_n 1, 1) := by decide +kernel
theorem dX8_ticket_16 : decode cX8_ticket 16 = .ok (.aaload, 1) := by decide +kernel
theorem dX8_ticket_17 : decode cX8_ticket 17 = .ok (.astore_n 3, 1) := by decide +kernel
theorem dX8_ticket_18 : decode cX8_ticket 18 = .ok (.iload_n 2, 1) := by decide +kernel
theorem dX8_ticket_19 : decode cX8_ticket 19 = .ok (.tableswitch 76 0 6 #[41, 46, 51, 56, 61, 66, 71], 41) := by decide +kernel
theorem dX8_ticket_60 : decode cX8_ticket 60 = .ok (.aload_n 3, 1) := by decide +kernel
theorem dX8_ticket_61 : decode cX8_ticket 61 = .ok (.getfield 167, 3) := by decide +kernel
theorem dX8_ticket_64 : decode cX8_ticket 64 = .ok (.ireturn, 1) := by decide +kernel
theorem dX8_ticket_65 : decode cX8_ticket 65 = .ok (.aload_n 3, 1) := by decide +kernel
theorem dX8_ticket_66 : decode cX8_ticket 66 = .ok (.getfield 170, 3) := by decide +kernel
theorem dX8_ticket_69 : decode cX8_ticket 69 = .ok (.ireturn, 1) := by decide +kernel
theorem dX8_ticket_70 : decode cX8_ticket 70 = .ok (.aload_n 3, 1) := by decide +kernel
theorem dX8_ticket_71 : decode cX8_ticket 71 = .ok (.getfield 173, 3) := by decide +kernel
theorem dX8_ticket_74 : decode cX8_ticket 74 = .ok (.ireturn, 1) := by decide +kernel
theorem dX8_ticket_75 : decode cX8_ticket 75 = .ok (.aload_n 3, 1) := by decide +kernel
theorem dX8_ticket_76 : decode cX8_ticket 76 = .ok (.getfield 176, 3) := by decide +kernel
theorem dX8_ticket_79 : decode cX8_ticket 79 = .ok (.ireturn, 1) := by decide +kernel
theorem dX8_ticket_80 : decode cX8_ticket 80 = .ok (.aload_n 3, 1) := by decide +kernel
theorem dX8_ticket_81 : decode cX8_ticket 81 = .ok (.getfield 179, 3) := by decide +kernel
theorem dX8_ticket_84 : decode cX8_ticket 84 = .ok (.ireturn, 1) := by decide +kernel
theorem dX8_ticket_85 : decode cX8_ticket 85 = .ok (.aload_n 3, 1) := by decide +kernel
theorem dX8_ticket_86 : decode cX8_ticket 86 = .ok (.getfield 182, 3) := by decide +kernel
theorem dX8_ticket_89 : decode cX8_ticket 89 = .ok (.ireturn, 1) := by decide +kernel
theorem dX8_ticket_90 : decode cX8_ticket 90 = .ok (.aload_n 3, 1) := by decide +kernel
theorem dX8_ticket_91 : decode cX8_ticket 91 = .ok (.getfield 185, 3) := by decide +kernel
theorem dX8_ticket_94 : decode cX8_ticket 94 = .ok (.ireturn, 1) := by decide +kernel
theorem dX8_ticket_95 : decode cX8_ticket 95 = .ok (.bipush (-2), 2) := by decide +kernel
theorem dX8_ticket_97 : decode cX8_ticket 97 = .ok (.ireturn, 1) := by decide +kernel
theorem dX8_answer_0 : decode cX8_answer 0 = .ok (.aload_n 0, 1) := by decide +kernel
theorem dX8_answer_1 : decode cX8_answer 1 = .ok (.iload_n 1, 1) := by decide +kernel
theorem dX8_answer_2 : decode cX8_answer 2 = .ok (.invokevirtual 164, 3) := by decide +kernel
theorem dX8_answer_5 : decode cX8_answer 5 = .ok (.ifCond .ne 5, 3) := by decide +kernel
theorem dX8_answer_8 : decode cX8_answer 8 = .ok (.lconst 0, 1) := by decide +kernel
theorem dX8_answer_9 : decode cX8_answer 9 = .ok (.lreturn, 1) := by decide +kernel
theorem dX8_answer_10 : decode cX8_answer 10 = .ok (.aload_n 0, 1) := by decide +kernel
theorem dX8_answer_11 : decode cX8_answer 11 = .ok (.getfield 39, 3) := by decide +kernel
theorem dX8_answer_14 : decode cX8_answer 14 = .ok (.iload_n 1, 1) := by decide +kernel
theorem dX8_answer_15 : decode cX8_answer 15 = .ok (.aaload, 1) := by decide +kernel
theorem dX8_answer_16 : decode cX8_answer 16 = .ok (.astore_n 3, 1) := by decide +kernel
theorem dX8_answer_17 : decode cX8_answer 17 = .ok (.aload_n 3, 1) := by decide +kernel
theorem dX8_answer_18 : decode cX8_answer 18 = .ok (.getfield 167, 3) := by decide +kernel
theorem dX8_answer_21 : decode cX8_answer 21 = .ok (.iconst 1, 1) := by decide +kernel
theorem dX8_answer_22 : decode cX8_answer 22 = .ok (.if_icmp .ne 19, 3) := by decide +kernel
theorem dX8_answer_25 : decode cX8_answer 25 = .ok (.iload_n 2, 1) := by decide +kernel
theorem dX8_answer_26 : decode cX8_answer 26 = .ok (.ifCond .lt 15, 3) := by decide +kernel
theorem dX8_answer_29 : decode cX8_answer 29 = .ok (.iload_n 2, 1) := by decide +kernel
theorem dX8_answer_30 : decode cX8_answer 30 = .ok (.aload_n 3, 1) := by decide +kernel
theorem dX8_answer_31 : decode cX8_answer 31 = .ok (.getfield 188, 3) := by decide +kernel
theorem dX8_answer_34 : decode cX8_answer 34 = .ok (.if_icmp .ge 7, 3) := by decide +kernel
theorem dX8_answer_37 : decode cX8_answer 37 = .ok (.iconst 1, 1) := by decide +kernel
theorem dX8_answer_38 : decode cX8_answer 38 = .ok (.goto 4, 3) := by decide +kernel
theorem dX8_answer_41 : decode cX8_answer 41 = .ok (.iconst 0, 1) := by decide +kernel
theorem dX8_answer_42 : decode cX8_answer 42 = .ok (.istore 4, 2) := by decide +kernel
theorem dX8_answer_44 : decode cX8_answer 44 = .ok (.iload 4, 2) := by decide +kernel
theorem dX8_answer_46 : decode cX8_answer 46 = .ok (.ifCond .eq 12, 3) := by decide +kernel
theorem dX8_answer_49 : decode cX8_answer 49 = .ok (.aload_n 3, 1) := by decide +kernel
theorem dX8_answer_50 : decode cX8_answer 50 = .ok (.getfield 191, 3) := by decide +kernel
theorem dX8_answer_53 : decode cX8_answer 53 = .ok (.iload_n 2, 1) := by decide +kernel
theorem dX8_answer_54 : decode cX8_answer 54 = .ok (.laload, 1) := by decide +kernel
theorem dX8_answer_55 : decode cX8_answer 55 = .ok (.goto 4, 3) := by decide +kernel
theorem dX8_answer_58 : decode cX8_answer 58 = .ok (.lconst 0, 1) := by decide +kernel
theorem dX8_answer_59 : decode cX8_answer 59 = .ok (.lreturn, 1) := by decide +kernel
theorem dX8_tried_0 : decode cX8_tried 0 = .ok (.aload_n 0, 1) := by decide +kernel
theorem dX8_tried_1 : decode cX8_tried 1 = .ok (.iload_n 1, 1) := by decide +kernel
theorem dX8_tried_2 : decode cX8_tried 2 = .ok (.invokevirtual 164, 3) := by decide +kernel
theorem dX8_tried_5 : decode cX8_tried 5 = .ok (.ifCond .eq 12, 3) := by decide +kernel
theorem dX8_tried_8 : decode cX8_tried 8 = .ok (.iload_n 2, 1) := by decide +kernel
theorem dX8_tried_9 : decode cX8_tried 9 = .ok (.ifCond .lt 8, 3) := by decide +kernel
theorem dX8_tried_12 : decode cX8_tried 12 = .ok (.iload_n 2, 1) := by decide +kernel
theorem dX8_tried_13 : decode cX8_tried 13 = .ok (.iconst 3, 1) := by decide +kernel
theorem dX8_tried_14 : decode cX8_tried 14 = .ok (.if_icmp .le 6, 3) := by decide +kernel
theorem dX8_tried_17 : decode cX8_tried 17 = .ok (.bipush (-2), 2) := by decide +kernel
theorem dX8_tried_19 : decode cX8_tried 19 = .ok (.ireturn, 1) := by decide +kernel
theorem dX8_tried_20 : decode cX8_tried 20 = .ok (.aload_n 0, 1) := by decide +kernel
theorem dX8_tried_21 : decode cX8_tried 21 = .ok (.getfield 39, 3) := by decide +kernel
theorem dX8_tried_24 : decode cX8_tried 24 = .ok (.iload_n 1, 1) := by decide +kernel
theorem dX8_tried_25 : decode cX8_tried 25 = .ok (.aaload, 1) := by decide +kernel
theorem dX8_tried_26 : decode cX8_tried 26 = .ok (.astore_n 3, 1) := by decide +kernel
theorem dX8_tried_27 : decode cX8_tried 27 = .ok (.aload_n 3, 1) := by decide +kernel
theorem dX8_tried_28 : decode cX8_tried 28 = .ok (.getfield 194, 3) := by decide +kernel
theorem dX8_tried_31 : decode cX8_tried 31 = .ok (.ifCond .ne 5, 3) := by decide +kernel
theorem dX8_tried_34 : decode cX8_tried 34 = .ok (.iconst (-1), 1) := by decide +kernel
theorem dX8_tried_35 : decode cX8_tried 35 = .ok (.ireturn, 1) := by decide +kernel
theorem dX8_tried_36 : decode cX8_tried 36 = .ok (.iload_n 2, 1) := by decide +kernel
theorem dX8_tried_37 : decode cX8_tried 37 = .ok (.tableswitch 45 0 2 #[27, 32, 40], 27) := by decide +kernel
theorem dX8_tried_64 : decode cX8_tried 64 = .ok (.aload_n 3, 1) := by decide +kernel
theorem dX8_tried_65 : decode cX8_tried 65 = .ok (.getfield 198, 3) := by decide +kernel
theorem dX8_tried_68 : decode cX8_tried 68 = .ok (.ireturn, 1) := by decide +kernel
theorem dX8_tried_69 : decode cX8_tried 69 = .ok (.aload_n 3, 1) := by decide +kernel
theorem dX8_tried_70 : decode cX8_tried 70 = .ok (.getfield 201, 3) := by decide +kernel
theorem dX8_tried_73 : decode cX8_tried 73 = .ok (.invokestatic 205, 3) := by decide +kernel
theorem dX8_tried_76 : decode cX8_tried 76 = .ok (.ireturn, 1) := by decide +kernel
theorem dX8_tried_77 : decode cX8_tried 77 = .ok (.aload_n 3, 1) := by decide +kernel
theorem dX8_tried_78 : decode cX8_tried 78 = .ok (.getfield 211, 3) := by decide +kernel
theorem dX8_tried_81 : decode cX8_tried 81 = .ok (.ireturn, 1) := by decide +kernel
theorem dX8_tried_82 : decode cX8_tried 82 = .ok (.aload_n 3, 1) := by decide +kernel
theorem dX8_tried_83 : decode cX8_tried 83 = .ok (.getfield 214, 3) := by decide +kernel
theorem dX8_tried_86 : decode cX8_tried 86 = .ok (.ireturn, 1) := by decide +kernel
theorem dX8_way_0 : decode cX8_way 0 = .ok (.aload_n 0, 1) := by decide +kernel
theorem dX8_way_1 : decode cX8_way 1 = .ok (.iload_n 1, 1) := by decide +kernel
theorem dX8_way_2 : decode cX8_way 2 = .ok (.invokevirtual 164, 3) := by decide +kernel
theorem dX8_way_5 : decode cX8_way 5 = .ok (.ifCond .eq 12, 3) := by decide +kernel
theorem dX8_way_8 : decode cX8_way 8 = .ok (.iload_n 3, 1) := by decide +kernel
theorem dX8_way_9 : decode cX8_way 9 = .ok (.ifCond .lt 8, 3) := by decide +kernel
theorem dX8_way_12 : decode cX8_way 12 = .ok (.iload_n 3, 1) := by decide +kernel
theorem dX8_way_13 : decode cX8_way 13 = .ok (.iconst 1, 1) := by decide +kernel
theorem dX8_way_14 : decode cX8_way 14 = .ok (.if_icmp .le 6, 3) := by decide +kernel
theorem dX8_way_17 : decode cX8_way 17 = .ok (.bipush (-2), 2) := by decide +kernel
theorem dX8_way_19 : decode cX8_way 19 = .ok (.ireturn, 1) := by decide +kernel
theorem dX8_way_20 : decode cX8_way 20 = .ok (.aload_n 0, 1) := by decide +kernel
theorem dX8_way_21 : decode cX8_way 21 = .ok (.getfield 39, 3) := by decide +kernel
theorem dX8_way_24 : decode cX8_way 24 = .ok (.iload_n 1, 1) := by decide +kernel
theorem dX8_way_25 : decode cX8_way 25 = .ok (.aaload, 1) := by decide +kernel
theorem dX8_way_26 : decode cX8_way 26 = .ok (.astore 4, 2) := by decide +kernel
theorem dX8_way_28 : decode cX8_way 28 = .ok (.iload_n 2, 1) := by decide +kernel
theorem dX8_way_29 : decode cX8_way 29 = .ok (.ifCond .lt 12, 3) := by decide +kernel
theorem dX8_way_32 : decode cX8_way 32 = .ok (.iload_n 2, 1) := by decide +kernel
theorem dX8_way_33 : decode cX8_way 33 = .ok (.aload 4, 2) := by decide +kernel
theorem dX8_way_35 : decode cX8_way 35 = .ok (.getfield 214, 3) := by decide +kernel
theorem dX8_way_38 : decode cX8_way 38 = .ok (.if_icmp .lt 5, 3) := by decide +kernel
theorem dX8_way_41 : decode cX8_way 41 = .ok (.iconst (-1), 1) := by decide +kernel
theorem dX8_way_42 : decode cX8_way 42 = .ok (.ireturn, 1) := by decide +kernel
theorem dX8_way_43 : decode cX8_way 43 = .ok (.iload_n 3, 1) := by decide +kernel
theorem dX8_way_44 : decode cX8_way 44 = .ok (.ifCond .ne 13, 3) := by decide +kernel
theorem dX8_way_47 : decode cX8_way 47 = .ok (.aload 4, 2) := by decide +kernel
theorem dX8_way_49 : decode cX8_way 49 = .ok (.getfield 217, 3) := by decide +kernel
theorem dX8_way_52 : decode cX8_way 52 = .ok (.iload_n 2, 1) := by decide +kernel
theorem dX8_way_53 : decode cX8_way 53 = .ok (.iaload, 1) := by decide +kernel
theorem dX8_way_54 : decode cX8_way 54 = .ok (.goto 10, 3) := by decide +kernel
theorem dX8_way_57 : decode cX8_way 57 = .ok (.aload 4, 2) := by decide +kernel
theorem dX8_way_59 : decode cX8_way 59 = .ok (.getfield 220, 3) := by decide +kernel
theorem dX8_way_62 : decode cX8_way 62 = .ok (.iload_n 2, 1) := by decide +kernel
theorem dX8_way_63 : decode cX8_way 63 = .ok (.iaload, 1) := by decide +kernel
theorem dX8_way_64 : decode cX8_way 64 = .ok (.ireturn, 1) := by decide +kernel
theorem dX8_read_0 : decode cX8_read 0 = .ok (.aload_n 0, 1) := by decide +kernel
theorem dX8_read_1 : decode cX8_read 1 = .ok (.iload_n 1, 1) := by decide +kernel
theorem dX8_read_2 : decode cX8_read 2 = .ok (.invokevirtual 164, 3) := by decide +kernel
theorem dX8_read_5 : decode cX8_read 5 = .ok (.ifCond .eq 11, 3) := by decide +kernel
theorem dX8_read_8 : decode cX8_read 8 = .ok (.iload_n 2, 1) := by decide +kernel
theorem dX8_read_9 : decode cX8_read 9 = .ok (.i2l, 1) := by decide +kernel
theorem dX8_read_10 : decode cX8_read 10 = .ok (.invokestatic 70, 3) := by decide +kernel
theorem dX8_read_13 : decode cX8_read 13 = .ok (.ifCond .ne 6, 3) := by decide +kernel
theorem dX8_read_16 : decode cX8_read 16 = .ok (.bipush (-2), 2) := by decide +kernel
theorem dX8_read_18 : decode cX8_read 18 = .ok (.ireturn, 1) := by decide +kernel
theorem dX8_read_19 : decode cX8_read 19 = .ok (.aload_n 0, 1) := by decide +kernel
theorem dX8_read_20 : decode cX8_read 20 = .ok (.getfield 39, 3) := by decide +kernel
theorem dX8_read_23 : decode cX8_read 23 = .ok (.iload_n 1, 1) := by decide +kernel
theorem dX8_read_24 : decode cX8_read 24 = .ok (.aaload, 1) := by decide +kernel
theorem dX8_read_25 : decode cX8_read 25 = .ok (.getfield 201, 3) := by decide +kernel
theorem dX8_read_28 : decode cX8_read 28 = .ok (.iload_n 2, 1) := by decide +kernel
theorem dX8_read_29 : decode cX8_read 29 = .ok (.invokestatic 223, 3) := by decide +kernel
theorem dX8_read_32 : decode cX8_read 32 = .ok (.ifCond .eq 7, 3) := by decide +kernel
theorem dX8_read_35 : decode cX8_read 35 = .ok (.iconst 1, 1) := by decide +kernel
theorem dX8_read_36 : decode cX8_read 36 = .ok (.goto 4, 3) := by decide +kernel
theorem dX8_read_39 : decode cX8_read 39 = .ok (.iconst 0, 1) := by decide +kernel
theorem dX8_read_40 : decode cX8_read 40 = .ok (.ireturn, 1) := by decide +kernel
theorem dX8_woken_0 : decode cX8_woken 0 = .ok (.aload_n 0, 1) := by decide +kernel
theorem dX8_woken_1 : decode cX8_woken 1 = .ok (.iload_n 1, 1) := by decide +kernel
theorem dX8_woken_2 : decode cX8_woken 2 = .ok (.invokevirtual 164, 3) := by decide +kernel
theorem dX8_woken_5 : decode cX8_woken 5 = .ok (.ifCond .eq 12, 3) := by decide +kernel
theorem dX8_woken_8 : decode cX8_woken 8 = .ok (.iload_n 2, 1) := by decide +kernel
theorem dX8_woken_9 : decode cX8_woken 9 = .ok (.ifCond .lt 8, 3) := by decide +kernel
theorem dX8_woken_12 : decode cX8_woken 12 = .ok (.iload_n 2, 1) := by decide +kernel
theorem dX8_woken_13 : decode cX8_woken 13 = .ok (.iconst 1, 1) := by decide +kernel
theorem dX8_woken_14 : decode cX8_woken 14 = .ok (.if_icmp .le 6, 3) := by decide +kernel
theorem dX8_woken_17 : decode cX8_woken 17 = .ok (.bipush (-2), 2) := by decide +kernel
theorem dX8_woken_19 : decode cX8_woken 19 = .ok (.ireturn, 1) := by decide +kernel
theorem dX8_woken_20 : decode cX8_woken 20 = .ok (.iload_n 2, 1) := by decide +kernel
theorem dX8_woken_21 : decode cX8_woken 21 = .ok (.ifCond .ne 15, 3) := by decide +kernel
theorem dX8_woken_24 : decode cX8_woken 24 = .ok (.aload_n 0, 1) := by decide +kernel
theorem dX8_woken_25 : decode cX8_woken 25 = .ok (.getfield 39, 3) := by decide +kernel
theorem dX8_woken_28 : decode cX8_woken 28 = .ok (.iload_n 1, 1) := by decide +kernel
theorem dX8_woken_29 : decode cX8_woken 29 = .ok (.aaload, 1) := by decide +kernel
theorem dX8_woken_30 : decode cX8_woken 30 = .ok (.getfield 227, 3) := by decide +kernel
theorem dX8_woken_33 : decode cX8_woken 33 = .ok (.goto 12, 3) := by decide +kernel
theorem dX8_woken_36 : decode cX8_woken 36 = .ok (.aload_n 0, 1) := by decide +kernel
theorem dX8_woken_37 : decode cX8_woken 37 = .ok (.getfield 39, 3) := by decide +kernel
theorem dX8_woken_40 : decode cX8_woken 40 = .ok (.iload_n 1, 1) := by decide +kernel
theorem dX8_woken_41 : decode cX8_woken 41 = .ok (.aaload, 1) := by decide +kernel
theorem dX8_woken_42 : decode cX8_woken 42 = .ok (.getfield 230, 3) := by decide +kernel
theorem dX8_woken_45 : decode cX8_woken 45 = .ok (.ireturn, 1) := by decide +kernel
theorem dX8_order_0 : decode cX8_order 0 = .ok (.iload_n 1, 1) := by decide +kernel
theorem dX8_order_1 : decode cX8_order 1 = .ok (.ifCond .lt 20, 3) := by decide +kernel
theorem dX8_order_4 : decode cX8_order 4 = .ok (.iload_n 1, 1) := by decide +kernel
theorem dX8_order_5 : decode cX8_order 5 = .ok (.aload_n 0, 1) := by decide +kernel
theorem dX8_order_6 : decode cX8_order 6 = .ok (.getfield 233, 3) := by decide +kernel
theorem dX8_order_9 : decode cX8_order 9 = .ok (.if_icmp .ge 12, 3) := by decide +kernel
theorem dX8_order_12 : decode cX8_order 12 = .ok (.aload_n 0, 1) := by decide +kernel
theorem dX8_order_13 : decode cX8_order 13 = .ok (.getfield 62, 3) := by decide +kernel
theorem dX8_order_16 : decode cX8_order 16 = .ok (.iload_n 1, 1) := by decide +kernel
theorem dX8_order_17 : decode cX8_order 17 = .ok (.iaload, 1) := by decide +kernel
theorem dX8_order_18 : decode cX8_order 18 = .ok (.goto 4, 3) := by decide +kernel
theorem dX8_order_21 : decode cX8_order 21 = .ok (.iconst (-1), 1) := by decide +kernel
theorem dX8_order_22 : decode cX8_order 22 = .ok (.ireturn, 1) := by decide +kernel
theorem dX8_note_0 : decode cX8_note 0 = .ok (.iload_n 2, 1) := by decide +kernel
theorem dX8_note_1 : decode cX8_note 1 = .ok (.ifCond .lt 8, 3) := by decide +kernel
theorem dX8_note_4 : decode cX8_note 4 = .ok (.iload_n 2, 1) := by decide +kernel
theorem dX8_note_5 : decode cX8_note 5 = .ok (.iconst 1, 1) := by decide +kernel
theorem dX8_note_6 : decode cX8_note 6 = .ok (.if_icmp .le 6, 3) := by decide +kernel
theorem dX8_note_9 : decode cX8_note 9 = .ok (.bipush (-2), 2) := by decide +kernel
theorem dX8_note_11 : decode cX8_note 11 = .ok (.ireturn, 1) := by decide +kernel
theorem dX8_note_12 : decode cX8_note 12 = .ok (.aload_n 0, 1) := by decide +kernel
theorem dX8_note_13 : decode cX8_note 13 = .ok (.getfield 33, 3) := by decide +kernel
theorem dX8_note_16 : decode cX8_note 16 = .ok (.iload_n 1, 1) := by decide +kernel
theorem dX8_note_17 : decode cX8_note 17 = .ok (.invokevirtual 236, 3) := by decide +kernel
theorem dX8_note_20 : decode cX8_note 20 = .ok (.ifCond .ne 5, 3) := by decide +kernel
theorem dX8_note_23 : decode cX8_note 23 = .ok (.iconst (-1), 1) := by decide +kernel
theorem dX8_note_24 : decode cX8_note 24 = .ok (.ireturn, 1) := by decide +kernel
theorem dX8_note_25 : decode cX8_note 25 = .ok (.iload_n 2, 1) := by decide +kernel
theorem dX8_note_26 : decode cX8_note 26 = .ok (.ifCond .ne 15, 3) := by decide +kernel
theorem dX8_note_29 : decode cX8_note 29 = .ok (.aload_n 0, 1) := by decide +kernel
theorem dX8_note_30 : decode cX8_note 30 = .ok (.getfield 33, 3) := by decide +kernel
theorem dX8_note_33 : decode cX8_note 33 = .ok (.getfield 239, 3) := by decide +kernel
theorem dX8_note_36 : decode cX8_note 36 = .ok (.iload_n 1, 1) := by decide +kernel
theorem dX8_note_37 : decode cX8_note 37 = .ok (.iaload, 1) := by decide +kernel
theorem dX8_note_38 : decode cX8_note 38 = .ok (.goto 12, 3) := by decide +kernel
theorem dX8_note_41 : decode cX8_note 41 = .ok (.aload_n 0, 1) := by decide +kernel
theorem dX8_note_42 : decode cX8_note 42 = .ok (.getfield 33, 3) := by decide +kernel
theorem dX8_note_45 : decode cX8_note 45 = .ok (.getfield 242, 3) := by decide +kernel
theorem dX8_note_48 : decode cX8_note 48 = .ok (.iload_n 1, 1) := by decide +kernel
theorem dX8_note_49 : decode cX8_note 49 = .ok (.iaload, 1) := by decide +kernel
theorem dX8_note_50 : decode cX8_note 50 = .ok (.ireturn, 1) := by decide +kernel
theorem dX8_noted_0 : decode cX8_noted 0 = .ok (.aload_n 0, 1) := by decide +kernel
theorem dX8_noted_1 : decode cX8_noted 1 = .ok (.getfield 33, 3) := by decide +kernel
theorem dX8_noted_4 : decode cX8_noted 4 = .ok (.iload_n 1, 1) := by decide +kernel
theorem dX8_noted_5 : decode cX8_noted 5 = .ok (.invokevirtual 236, 3) := by decide +kernel
theorem dX8_noted_8 : decode cX8_noted 8 = .ok (.ifCond .eq 15, 3) := by decide +kernel
theorem dX8_noted_11 : decode cX8_noted 11 = .ok (.aload_n 0, 1) := by decide +kernel
theorem dX8_noted_12 : decode cX8_noted 12 = .ok (.getfield 33, 3) := by decide +kernel
theorem dX8_noted_15 : decode cX8_noted 15 = .ok (.getfield 243, 3) := by decide +kernel
theorem dX8_noted_18 : decode cX8_noted 18 = .ok (.iload_n 1, 1) := by decide +kernel
theorem dX8_noted_19 : decode cX8_noted 19 = .ok (.laload, 1) := by decide +kernel
theorem dX8_noted_20 : decode cX8_noted 20 = .ok (.goto 4, 3) := by decide +kernel
theorem dX8_noted_23 : decode cX8_noted 23 = .ok (.lconst 0, 1) := by decide +kernel
theorem dX8_noted_24 : decode cX8_noted 24 = .ok (.lreturn, 1) := by decide +kernel
theorem dX8_count_0 : decode cX8_count 0 = .ok (.iload_n 1, 1) := by decide +kernel
theorem dX8_count_1 : decode cX8_count 1 = .ok (.tableswitch 95 0 7 #[47, 52, 58, 64, 69, 74, 79, 87], 47) := by decide +kernel
theorem dX8_count_48 : decode cX8_count 48 = .ok (.aload_n 0, 1) := by decide +kernel
theorem dX8_count_49 : decode cX8_count 49 = .ok (.getfield 151, 3) := by decide +kernel
theorem dX8_count_52 : decode cX8_count 52 = .ok (.ireturn, 1) := by decide +kernel
theorem dX8_count_53 : decode cX8_count 53 = .ok (.aload_n 0, 1) := by decide +kernel
theorem dX8_count_54 : decode cX8_count 54 = .ok (.iconst 0, 1) := by decide +kernel
theorem dX8_count_55 : decode cX8_count 55 = .ok (.invokevirtual 246, 3) := by decide +kernel
theorem dX8_count_58 : decode cX8_count 58 = .ok (.ireturn, 1) := by decide +kernel
theorem dX8_count_59 : decode cX8_count 59 = .ok (.aload_n 0, 1) := by decide +kernel
theorem dX8_count_60 : decode cX8_count 60 = .ok (.iconst 3, 1) := by decide +kernel
theorem dX8_count_61 : decode cX8_count 61 = .ok (.invokevirtual 246, 3) := by decide +kernel
theorem dX8_count_64 : decode cX8_count 64 = .ok (.ireturn, 1) := by decide +kernel
theorem dX8_count_65 : decode cX8_count 65 = .ok (.aload_n 0, 1) := by decide +kernel
theorem dX8_count_66 : decode cX8_count 66 = .ok (.getfield 233, 3) := by decide +kernel
theorem dX8_count_69 : decode cX8_count 69 = .ok (.ireturn, 1) := by decide +kernel
theorem dX8_count_70 : decode cX8_count 70 = .ok (.aload_n 0, 1) := by decide +kernel
theorem dX8_count_71 : decode cX8_count 71 = .ok (.getfield 249, 3) := by decide +kernel
theorem dX8_count_74 : decode cX8_count 74 = .ok (.ireturn, 1) := by decide +kernel
theorem dX8_count_75 : decode cX8_count 75 = .ok (.aload_n 0, 1) := by decide +kernel
theorem dX8_count_76 : decode cX8_count 76 = .ok (.getfield 252, 3) := by decide +kernel
theorem dX8_count_79 : decode cX8_count 79 = .ok (.ireturn, 1) := by decide +kernel
theorem dX8_count_80 : decode cX8_count 80 = .ok (.aload_n 0, 1) := by decide +kernel
theorem dX8_count_81 : decode cX8_count 81 = .ok (.getfield 33, 3) := by decide +kernel
theorem dX8_count_84 : decode cX8_count 84 = .ok (.getfield 255, 3) := by decide +kernel
theorem dX8_count_87 : decode cX8_count 87 = .ok (.ireturn, 1) := by decide +kernel
theorem dX8_count_88 : decode cX8_count 88 = .ok (.aload_n 0, 1) := by decide +kernel
theorem dX8_count_89 : decode cX8_count 89 = .ok (.getfield 26, 3) := by decide +kernel
theorem dX8_count_92 : decode cX8_count 92 = .ok (.getfield 145, 3) := by decide +kernel
theorem dX8_count_95 : decode cX8_count 95 = .ok (.ireturn, 1) := by decide +kernel
theorem dX8_count_96 : decode cX8_count 96 = .ok (.bipush (-2), 2) := by decide +kernel
theorem dX8_count_98 : decode cX8_count 98 = .ok (.ireturn, 1) := by decide +kernel
theorem dX8_digest_0 : decode cX8_digest 0 = .ok (.ldc2_w 258, 3) := by decide +kernel
theorem dX8_digest_3 : decode cX8_digest 3 = .ok (.lstore_n 1, 1) := by decide +kernel
theorem dX8_digest_4 : decode cX8_digest 4 = .ok (.iconst 0, 1) := by decide +kernel
theorem dX8_digest_5 : decode cX8_digest 5 = .ok (.istore_n 3, 1) := by decide +kernel
theorem dX8_digest_6 : decode cX8_digest 6 = .ok (.iload_n 3, 1) := by decide +kernel
theorem dX8_digest_7 : decode cX8_digest 7 = .ok (.bipush 40, 2) := by decide +kernel
theorem dX8_digest_9 : decode cX8_digest 9 = .ok (.if_icmp .ge 64, 3) := by decide +kernel
theorem dX8_digest_12 : decode cX8_digest 12 = .ok (.ldc2_w 260, 3) := by decide +kernel
theorem dX8_digest_15 : decode cX8_digest 15 = .ok (.lload_n 1, 1) := by decide +kernel
theorem dX8_digest_16 : decode cX8_digest 16 = .ok (.lmul, 1) := by decide +kernel
theorem dX8_digest_17 : decode cX8_digest 17 = .ok (.aload_n 0, 1) := by decide +kernel
theorem dX8_digest_18 : decode cX8_digest 18 = .ok (.iload_n 3, 1) := by decide +kernel
theorem dX8_digest_19 : decode cX8_digest 19 = .ok (.invokevirtual 262, 3) := by decide +kernel
theorem dX8_digest_22 : decode cX8_digest 22 = .ok (.i2l, 1) := by decide +kernel
theorem dX8_digest_23 : decode cX8_digest 23 = .ok (.ladd, 1) := by decide +kernel
theorem dX8_digest_24 : decode cX8_digest 24 = .ok (.lstore_n 1, 1) := by decide +kernel
theorem dX8_digest_25 : decode cX8_digest 25 = .ok (.ldc2_w 260, 3) := by decide +kernel
theorem dX8_digest_28 : decode cX8_digest 28 = .ok (.lload_n 1, 1) := by decide +kernel
theorem dX8_digest_29 : decode cX8_digest 29 = .ok (.lmul, 1) := by decide +kernel
theorem dX8_digest_30 : decode cX8_digest 30 = .ok (.aload_n 0, 1) := by decide +kernel
theorem dX8_digest_31 : decode cX8_digest 31 = .ok (.iload_n 3, 1) := by decide +kernel
theorem dX8_digest_32 : decode cX8_digest 32 = .ok (.invokevirtual 265, 3) := by decide +kernel
theorem dX8_digest_35 : decode cX8_digest 35 = .ok (.ladd, 1) := by decide +kernel
theorem dX8_digest_36 : decode cX8_digest 36 = .ok (.lstore_n 1, 1) := by decide +kernel
theorem dX8_digest_37 : decode cX8_digest 37 = .ok (.iconst 0, 1) := by decide +kernel
theorem dX8_digest_38 : decode cX8_digest 38 = .ok (.istore 4, 2) := by decide +kernel
theorem dX8_digest_40 : decode cX8_digest 40 = .ok (.iload 4, 2) := by decide +kernel
theorem dX8_digest_42 : decode cX8_digest 42 = .ok (.iconst 3, 1) := by decide +kernel
theorem dX8_digest_43 : decode cX8_digest 43 = .ok (.if_icmp .gt 24, 3) := by decide +kernel
theorem dX8_digest_46 : decode cX8_digest 46 = .ok (.ldc2_w 260, 3) := by decide +kernel
theorem dX8_digest_49 : decode cX8_digest 49 = .ok (.lload_n 1, 1) := by decide +kernel
theorem dX8_digest_50 : decode cX8_digest 50 = .ok (.lmul, 1) := by decide +kernel
theorem dX8_digest_51 : decode cX8_digest 51 = .ok (.aload_n 0, 1) := by decide +kernel
theorem dX8_digest_52 : decode cX8_digest 52 = .ok (.iload_n 3, 1) := by decide +kernel
theorem dX8_digest_53 : decode cX8_digest 53 = .ok (.iload 4, 2) := by decide +kernel
theorem dX8_digest_55 : decode cX8_digest 55 = .ok (.invokevirtual 268, 3) := by decide +kernel
theorem dX8_digest_58 : decode cX8_digest 58 = .ok (.i2l, 1) := by decide +kernel
theorem dX8_digest_59 : decode cX8_digest 59 = .ok (.ladd, 1) := by decide +kernel
theorem dX8_digest_60 : decode cX8_digest 60 = .ok (.lstore_n 1, 1) := by decide +kernel
theorem dX8_digest_61 : decode cX8_digest 61 = .ok (.iinc 4 1, 3) := by decide +kernel
theorem dX8_digest_64 : decode cX8_digest 64 = .ok (.goto (-24), 3) := by decide +kernel
theorem dX8_digest_67 : decode cX8_digest 67 = .ok (.iinc 3 1, 3) := by decide +kernel
theorem dX8_digest_70 : decode cX8_digest 70 = .ok (.goto (-64), 3) := by decide +kernel
theorem dX8_digest_73 : decode cX8_digest 73 = .ok (.iconst 0, 1) := by decide +kernel
theorem dX8_digest_74 : decode cX8_digest 74 = .ok (.istore_n 3, 1) := by decide +kernel
theorem dX8_digest_75 : decode cX8_digest 75 = .ok (.iload_n 3, 1) := by decide +kernel
theorem dX8_digest_76 : decode cX8_digest 76 = .ok (.aload_n 0, 1) := by decide +kernel
theorem dX8_digest_77 : decode cX8_digest 77 = .ok (.getfield 151, 3) := by decide +kernel
theorem dX8_digest_80 : decode cX8_digest 80 = .ok (.if_icmp .ge 69, 3) := by decide +kernel
theorem dX8_digest_83 : decode cX8_digest 83 = .ok (.iconst 0, 1) := by decide +kernel
theorem dX8_digest_84 : decode cX8_digest 84 = .ok (.istore 4, 2) := by decide +kernel
theorem dX8_digest_86 : decode cX8_digest 86 = .ok (.iload 4, 2) := by decide +kernel
theorem dX8_digest_88 : decode cX8_digest 88 = .ok (.iconst 5, 1) := by decide +kernel
theorem dX8_digest_89 : decode cX8_digest 89 = .ok (.if_icmp .gt 24, 3) := by decide +kernel
theorem dX8_digest_92 : decode cX8_digest 92 = .ok (.ldc2_w 260, 3) := by decide +kernel
theorem dX8_digest_95 : decode cX8_digest 95 = .ok (.lload_n 1, 1) := by decide +kernel
theorem dX8_digest_96 : decode cX8_digest 96 = .ok (.lmul, 1) := by decide +kernel
theorem dX8_digest_97 : decode cX8_digest 97 = .ok (.aload_n 0, 1) := by decide +kernel
theorem dX8_digest_98 : decode cX8_digest 98 = .ok (.iload_n 3, 1) := by decide +kernel
theorem dX8_digest_99 : decode cX8_digest 99 = .ok (.iload 4, 2) := by decide +kernel
theorem dX8_digest_101 : decode cX8_digest 101 = .ok (.invokevirtual 272, 3) := by decide +kernel
theorem dX8_digest_104 : decode cX8_digest 104 = .ok (.i2l, 1) := by decide +kernel
theorem dX8_digest_105 : decode cX8_digest 105 = .ok (.ladd, 1) := by decide +kernel
theorem dX8_digest_106 : decode cX8_digest 106 = .ok (.lstore_n 1, 1) := by decide +kernel
theorem dX8_digest_107 : decode cX8_digest 107 = .ok (.iinc 4 1, 3) := by decide +kernel
theorem dX8_digest_110 : decode cX8_digest 110 = .ok (.goto (-24), 3) := by decide +kernel
theorem dX8_digest_113 : decode cX8_digest 113 = .ok (.iconst 0, 1) := by decide +kernel
theorem dX8_digest_114 : decode cX8_digest 114 = .ok (.istore 4, 2) := by decide +kernel
theorem dX8_digest_116 : decode cX8_digest 116 = .ok (.iload 4, 2) := by decide +kernel
theorem dX8_digest_118 : decode cX8_digest 118 = .ok (.bipush 8, 2) := by decide +kernel
theorem dX8_digest_120 : decode cX8_digest 120 = .ok (.if_icmp .ge 23, 3) := by decide +kernel
theorem dX8_digest_123 : decode cX8_digest 123 = .ok (.ldc2_w 260, 3) := by decide +kernel
theorem dX8_digest_126 : decode cX8_digest 126 = .ok (.lload_n 1, 1) := by decide +kernel
theorem dX8_digest_127 : decode cX8_digest 127 = .ok (.lmul, 1) := by decide +kernel
theorem dX8_digest_128 : decode cX8_digest 128 = .ok (.aload_n 0, 1) := by decide +kernel
theorem dX8_digest_129 : decode cX8_digest 129 = .ok (.iload_n 3, 1) := by decide +kernel
theorem dX8_digest_130 : decode cX8_digest 130 = .ok (.iload 4, 2) := by decide +kernel
theorem dX8_digest_132 : decode cX8_digest 132 = .ok (.invokevirtual 275, 3) := by decide +kernel
theorem dX8_digest_135 : decode cX8_digest 135 = .ok (.ladd, 1) := by decide +kernel
theorem dX8_digest_136 : decode cX8_digest 136 = .ok (.lstore_n 1, 1) := by decide +kernel
theorem dX8_digest_137 : decode cX8_digest 137 = .ok (.iinc 4 1, 3) := by decide +kernel
theorem dX8_digest_140 : decode cX8_digest 140 = .ok (.goto (-24), 3) := by decide +kernel
theorem dX8_digest_143 : decode cX8_digest 143 = .ok (.iinc 3 1, 3) := by decide +kernel
theorem dX8_digest_146 : decode cX8_digest 146 = .ok (.goto (-71), 3) := by decide +kernel
theorem dX8_digest_149 : decode cX8_digest 149 = .ok (.iconst 0, 1) := by decide +kernel
theorem dX8_digest_150 : decode cX8_digest 150 = .ok (.istore_n 3, 1) := by decide +kernel
theorem dX8_digest_151 : decode cX8_digest 151 = .ok (.iload_n 3, 1) := by decide +kernel
theorem dX8_digest_152 : decode cX8_digest 152 = .ok (.aload_n 0, 1) := by decide +kernel
theorem dX8_digest_153 : decode cX8_digest 153 = .ok (.getfield 233, 3) := by decide +kernel
theorem dX8_digest_156 : decode cX8_digest 156 = .ok (.if_icmp .ge 22, 3) := by decide +kernel
theorem dX8_digest_159 : decode cX8_digest 159 = .ok (.ldc2_w 260, 3) := by decide +kernel
theorem dX8_digest_162 : decode cX8_digest 162 = .ok (.lload_n 1, 1) := by decide +kernel
theorem dX8_digest_163 : decode cX8_digest 163 = .ok (.lmul, 1) := by decide +kernel
theorem dX8_digest_164 : decode cX8_digest 164 = .ok (.aload_n 0, 1) := by decide +kernel
theorem dX8_digest_165 : decode cX8_digest 165 = .ok (.iload_n 3, 1) := by decide +kernel
theorem dX8_digest_166 : decode cX8_digest 166 = .ok (.invokevirtual 279, 3) := by decide +kernel
theorem dX8_digest_169 : decode cX8_digest 169 = .ok (.i2l, 1) := by decide +kernel
theorem dX8_digest_170 : decode cX8_digest 170 = .ok (.ladd, 1) := by decide +kernel
theorem dX8_digest_171 : decode cX8_digest 171 = .ok (.lstore_n 1, 1) := by decide +kernel
theorem dX8_digest_172 : decode cX8_digest 172 = .ok (.iinc 3 1, 3) := by decide +kernel
theorem dX8_digest_175 : decode cX8_digest 175 = .ok (.goto (-24), 3) := by decide +kernel
theorem dX8_digest_178 : decode cX8_digest 178 = .ok (.lload_n 1, 1) := by decide +kernel
theorem dX8_digest_179 : decode cX8_digest 179 = .ok (.lreturn, 1) := by decide +kernel
theorem dX8_isCell_0 : decode cX8_isCell 0 = .ok (.lload_n 0, 1) := by decide +kernel
theorem dX8_isCell_1 : decode cX8_isCell 1 = .ok (.lconst 0, 1) := by decide +kernel
theorem dX8_isCell_2 : decode cX8_isCell 2 = .ok (.lcmp, 1) := by decide +kernel
theorem dX8_isCell_3 : decode cX8_isCell 3 = .ok (.ifCond .lt 15, 3) := by decide +kernel
theorem dX8_isCell_6 : decode cX8_isCell 6 = .ok (.lload_n 0, 1) := by decide +kernel
theorem dX8_isCell_7 : decode cX8_isCell 7 = .ok (.ldc2_w 282, 3) := by decide +kernel
theorem dX8_isCell_10 : decode cX8_isCell 10 = .ok (.lcmp, 1) := by decide +kernel
theorem dX8_isCell_11 : decode cX8_isCell 11 = .ok (.ifCond .ge 7, 3) := by decide +kernel
theorem dX8_isCell_14 : decode cX8_isCell 14 = .ok (.iconst 1, 1) := by decide +kernel
theorem dX8_isCell_15 : decode cX8_isCell 15 = .ok (.goto 4, 3) := by decide +kernel
theorem dX8_isCell_18 : decode cX8_isCell 18 = .ok (.iconst 0, 1) := by decide +kernel
theorem dX8_isCell_19 : decode cX8_isCell 19 = .ok (.ireturn, 1) := by decide +kernel
theorem dX8_isTrade_0 : decode cX8_isTrade 0 = .ok (.iload_n 0, 1) := by decide +kernel
theorem dX8_isTrade_1 : decode cX8_isTrade 1 = .ok (.ifCond .lt 13, 3) := by decide +kernel
theorem dX8_isTrade_4 : decode cX8_isTrade 4 = .ok (.iload_n 0, 1) := by decide +kernel
theorem dX8_isTrade_5 : decode cX8_isTrade 5 = .ok (.bipush 16, 2) := by decide +kernel
theorem dX8_isTrade_7 : decode cX8_isTrade 7 = .ok (.if_icmp .ge 7, 3) := by decide +kernel
theorem dX8_isTrade_10 : decode cX8_isTrade 10 = .ok (.iconst 1, 1) := by decide +kernel
theorem dX8_isTrade_11 : decode cX8_isTrade 11 = .ok (.goto 4, 3) := by decide +kernel
theorem dX8_isTrade_14 : decode cX8_isTrade 14 = .ok (.iconst 0, 1) := by decide +kernel
theorem dX8_isTrade_15 : decode cX8_isTrade 15 = .ok (.ireturn, 1) := by decide +kernel
theorem dX8_isKind_0 : decode cX8_isKind 0 = .ok (.iload_n 0, 1) := by decide +kernel
theorem dX8_isKind_1 : decode cX8_isKind 1 = .ok (.ifCond .lt 13, 3) := by decide +kernel
theorem dX8_isKind_4 : decode cX8_isKind 4 = .ok (.iload_n 0, 1) := by decide +kernel
theorem dX8_isKind_5 : decode cX8_isKind 5 = .ok (.bipush 8, 2) := by decide +kernel
theorem dX8_isKind_7 : decode cX8_isKind 7 = .ok (.if_icmp .ge 7, 3) := by decide +kernel
theorem dX8_isKind_10 : decode cX8_isKind 10 = .ok (.iconst 1, 1) := by decide +kernel
theorem dX8_isKind_11 : decode cX8_isKind 11 = .ok (.goto 4, 3) := by decide +kernel
theorem dX8_isKind_14 : decode cX8_isKind 14 = .ok (.iconst 0, 1) := by decide +kernel
theorem dX8_isKind_15 : decode cX8_isKind 15 = .ok (.ireturn, 1) := by decide +kernel
theorem dX8_isGrower_0 : decode cX8_isGrower 0 = .ok (.iload_n 0, 1) := by decide +kernel
theorem dX8_isGrower_1 : decode cX8_isGrower 1 = .ok (.ifCond .lt 13, 3) := by decide +kernel
theorem dX8_isGrower_4 : decode cX8_isGrower 4 = .ok (.iload_n 0, 1) := by decide +kernel
theorem dX8_isGrower_5 : decode cX8_isGrower 5 = .ok (.bipush 8, 2) := by decide +kernel
theorem dX8_isGrower_7 : decode cX8_isGrower 7 = .ok (.if_icmp .ge 7, 3) := by decide +kernel
theorem dX8_isGrower_10 : decode cX8_isGrower 10 = .ok (.iconst 1, 1) := by decide +kernel
theorem dX8_isGrower_11 : decode cX8_isGrower 11 = .ok (.goto 4, 3) := by decide +kernel
theorem dX8_isGrower_14 : decode cX8_isGrower 14 = .ok (.iconst 0, 1) := by decide +kernel
theorem dX8_isGrower_15 : decode cX8_isGrower 15 = .ok (.ireturn, 1) := by decide +kernel
theorem dX8_isTicket_0 : decode cX8_isTicket 0 = .ok (.iload_n 1, 1) := by decide +kernel
theorem dX8_isTicket_1 : decode cX8_isTicket 1 = .ok (.ifCond .lt 15, 3) := by decide +kernel
theorem dX8_isTicket_4 : decode cX8_isTicket 4 = .ok (.iload_n 1, 1) := by decide +kernel
theorem dX8_isTicket_5 : decode cX8_isTicket 5 = .ok (.aload_n 0, 1) := by decide +kernel
theorem dX8_isTicket_6 : decode cX8_isTicket 6 = .ok (.getfield 151, 3) := by decide +kernel
theorem dX8_isTicket_9 : decode cX8_isTicket 9 = .ok (.if_icmp .ge 7, 3) := by decide +kernel
theorem dX8_isTicket_12 : decode cX8_isTicket 12 = .ok (.iconst 1, 1) := by decide +kernel
theorem dX8_isTicket_13 : decode cX8_isTicket 13 = .ok (.goto 4, 3) := by decide +kernel
theorem dX8_isTicket_16 : decode cX8_isTicket 16 = .ok (.iconst 0, 1) := by decide +kernel
theorem dX8_isTicket_17 : decode cX8_isTicket 17 = .ok (.ireturn, 1) := by decide +kernel
theorem dX8_isAmong_0 : decode cX8_isAmong 0 = .ok (.lload_n 0, 1) := by decide +kernel
theorem dX8_isAmong_1 : decode cX8_isAmong 1 = .ok (.lconst 1, 1) := by decide +kernel
theorem dX8_isAmong_2 : decode cX8_isAmong 2 = .ok (.iload_n 2, 1) := by decide +kernel
theorem dX8_isAmong_3 : decode cX8_isAmong 3 = .ok (.lshl, 1) := by decide +kernel
theorem dX8_isAmong_4 : decode cX8_isAmong 4 = .ok (.land, 1) := by decide +kernel
theorem dX8_isAmong_5 : decode cX8_isAmong 5 = .ok (.lconst 0, 1) := by decide +kernel
theorem dX8_isAmong_6 : decode cX8_isAmong 6 = .ok (.lcmp, 1) := by decide +kernel
theorem dX8_isAmong_7 : decode cX8_isAmong 7 = .ok (.ifCond .eq 7, 3) := by decide +kernel
theorem dX8_isAmong_10 : decode cX8_isAmong 10 = .ok (.iconst 1, 1) := by decide +kernel
theorem dX8_isAmong_11 : decode cX8_isAmong 11 = .ok (.goto 4, 3) := by decide +kernel
theorem dX8_isAmong_14 : decode cX8_isAmong 14 = .ok (.iconst 0, 1) := by decide +kernel
theorem dX8_isAmong_15 : decode cX8_isAmong 15 = .ok (.ireturn, 1) := by decide +kernel
theorem dX8_leastOf_0 : decode cX8_leastOf 0 = .ok (.iconst 0, 1) := by decide +kernel
theorem dX8_leastOf_1 : decode cX8_leastOf 1 = .ok (.istore_n 2, 1) := by decide +kernel
theorem dX8_leastOf_2 : decode cX8_leastOf 2 = .ok (.iload_n 2, 1) := by decide +kernel
theorem dX8_leastOf_3 : decode cX8_leastOf 3 = .ok (.bipush 40, 2) := by decide +kernel
theorem dX8_leastOf_5 : decode cX8_leastOf 5 = .ok (.if_icmp .ge 19, 3) := by decide +kernel
theorem dX8_leastOf_8 : decode cX8_leastOf 8 = .ok (.lload_n 0, 1) := by decide +kernel
theorem dX8_leastOf_9 : decode cX8_leastOf 9 = .ok (.iload_n 2, 1) := by decide +kernel
theorem dX8_leastOf_10 : decode cX8_leastOf 10 = .ok (.invokestatic 223, 3) := by decide +kernel
theorem dX8_leastOf_13 : decode cX8_leastOf 13 = .ok (.ifCond .eq 5, 3) := by decide +kernel
theorem dX8_leastOf_16 : decode cX8_leastOf 16 = .ok (.iload_n 2, 1) := by decide +kernel
theorem dX8_leastOf_17 : decode cX8_leastOf 17 = .ok (.ireturn, 1) := by decide +kernel
theorem dX8_leastOf_18 : decode cX8_leastOf 18 = .ok (.iinc 2 1, 3) := by decide +kernel
theorem dX8_leastOf_21 : decode cX8_leastOf 21 = .ok (.goto (-19), 3) := by decide +kernel
theorem dX8_leastOf_24 : decode cX8_leastOf 24 = .ok (.iconst (-1), 1) := by decide +kernel
theorem dX8_leastOf_25 : decode cX8_leastOf 25 = .ok (.ireturn, 1) := by decide +kernel
theorem dX8_faultOfPart_0 : decode cX8_faultOfPart 0 = .ok (.lload_n 2, 1) := by decide +kernel
theorem dX8_faultOfPart_1 : decode cX8_faultOfPart 1 = .ok (.lconst 0, 1) := by decide +kernel
theorem dX8_faultOfPart_2 : decode cX8_faultOfPart 2 = .ok (.lcmp, 1) := by decide +kernel
theorem dX8_faultOfPart_3 : decode cX8_faultOfPart 3 = .ok (.ifCond .ne 5, 3) := by decide +kernel
theorem dX8_faultOfPart_6 : decode cX8_faultOfPart 6 = .ok (.iconst 4, 1) := by decide +kernel
theorem dX8_faultOfPart_7 : decode cX8_faultOfPart 7 = .ok (.ireturn, 1) := by decide +kernel
theorem dX8_faultOfPart_8 : decode cX8_faultOfPart 8 = .ok (.lload_n 0, 1) := by decide +kernel
theorem dX8_faultOfPart_9 : decode cX8_faultOfPart 9 = .ok (.ldc2_w 284, 3) := by decide +kernel
theorem dX8_faultOfPart_12 : decode cX8_faultOfPart 12 = .ok (.lcmp, 1) := by decide +kernel
theorem dX8_faultOfPart_13 : decode cX8_faultOfPart 13 = .ok (.ifCond .ne 15, 3) := by decide +kernel
theorem dX8_faultOfPart_16 : decode cX8_faultOfPart 16 = .ok (.lload_n 2, 1) := by decide +kernel
theorem dX8_faultOfPart_17 : decode cX8_faultOfPart 17 = .ok (.ldc2_w 286, 3) := by decide +kernel
theorem dX8_faultOfPart_20 : decode cX8_faultOfPart 20 = .ok (.lcmp, 1) := by decide +kernel
theorem dX8_faultOfPart_21 : decode cX8_faultOfPart 21 = .ok (.ifCond .ne 7, 3) := by decide +kernel
theorem dX8_faultOfPart_24 : decode cX8_faultOfPart 24 = .ok (.iconst 5, 1) := by decide +kernel
theorem dX8_faultOfPart_25 : decode cX8_faultOfPart 25 = .ok (.goto 4, 3) := by decide +kernel
theorem dX8_faultOfPart_28 : decode cX8_faultOfPart 28 = .ok (.iconst 0, 1) := by decide +kernel
theorem dX8_faultOfPart_29 : decode cX8_faultOfPart 29 = .ok (.ireturn, 1) := by decide +kernel
theorem dX8_tellAnew_0 : decode cX8_tellAnew 0 = .ok (.aload_n 0, 1) := by decide +kernel
theorem dX8_tellAnew_1 : decode cX8_tellAnew 1 = .ok (.getfield 10, 3) := by decide +kernel
theorem dX8_tellAnew_4 : decode cX8_tellAnew 4 = .ok (.getfield 100, 3) := by decide +kernel
theorem dX8_tellAnew_7 : decode cX8_tellAnew 7 = .ok (.iload_n 1, 1) := by decide +kernel
theorem dX8_tellAnew_8 : decode cX8_tellAnew 8 = .ok (.dup2, 1) := by decide +kernel
theorem dX8_tellAnew_9 : decode cX8_tellAnew 9 = .ok (.iaload, 1) := by decide +kernel
theorem dX8_tellAnew_10 : decode cX8_tellAnew 10 = .ok (.iconst 1, 1) := by decide +kernel
theorem dX8_tellAnew_11 : decode cX8_tellAnew 11 = .ok (.iadd, 1) := by decide +kernel
theorem dX8_tellAnew_12 : decode cX8_tellAnew 12 = .ok (.iastore, 1) := by decide +kernel
theorem dX8_tellAnew_13 : decode cX8_tellAnew 13 = .ok (.aload_n 0, 1) := by decide +kernel
theorem dX8_tellAnew_14 : decode cX8_tellAnew 14 = .ok (.getfield 10, 3) := by decide +kernel
theorem dX8_tellAnew_17 : decode cX8_tellAnew 17 = .ok (.getfield 103, 3) := by decide +kernel
theorem dX8_tellAnew_20 : decode cX8_tellAnew 20 = .ok (.iload_n 1, 1) := by decide +kernel
theorem dX8_tellAnew_21 : decode cX8_tellAnew 21 = .ok (.iconst (-1), 1) := by decide +kernel
theorem dX8_tellAnew_22 : decode cX8_tellAnew 22 = .ok (.iastore, 1) := by decide +kernel
theorem dX8_tellAnew_23 : decode cX8_tellAnew 23 = .ok (.aload_n 0, 1) := by decide +kernel
theorem dX8_tellAnew_24 : decode cX8_tellAnew 24 = .ok (.lconst 1, 1) := by decide +kernel
theorem dX8_tellAnew_25 : decode cX8_tellAnew 25 = .ok (.iload_n 1, 1) := by decide +kernel
theorem dX8_tellAnew_26 : decode cX8_tellAnew 26 = .ok (.lshl, 1) := by decide +kernel
theorem dX8_tellAnew_27 : decode cX8_tellAnew 27 = .ok (.iconst (-1), 1) := by decide +kernel
theorem dX8_tellAnew_28 : decode cX8_tellAnew 28 = .ok (.invokevirtual 288, 3) := by decide +kernel
theorem dX8_tellAnew_31 : decode cX8_tellAnew 31 = .ok (.aload_n 0, 1) := by decide +kernel
theorem dX8_tellAnew_32 : decode cX8_tellAnew 32 = .ok (.getfield 10, 3) := by decide +kernel
theorem dX8_tellAnew_35 : decode cX8_tellAnew 35 = .ok (.getfield 100, 3) := by decide +kernel
theorem dX8_tellAnew_38 : decode cX8_tellAnew 38 = .ok (.iload_n 1, 1) := by decide +kernel
theorem dX8_tellAnew_39 : decode cX8_tellAnew 39 = .ok (.iaload, 1) := by decide +kernel
theorem dX8_tellAnew_40 : decode cX8_tellAnew 40 = .ok (.ireturn, 1) := by decide +kernel
