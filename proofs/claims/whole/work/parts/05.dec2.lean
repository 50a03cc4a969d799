theorem dX8_wake_0 : decode cX8_wake 0 = .ok (.iconst 0, 1) := by decide +kernel
theorem dX8_wake_1 : decode cX8_wake 1 = .ok (.istore 4, 2) := by decide +kernel
theorem dX8_wake_3 : decode cX8_wake 3 = .ok (.iload 4, 2) := by decide +kernel
theorem dX8_wake_5 : decode cX8_wake 5 = .ok (.aload_n 0, 1) := by decide +kernel
theorem dX8_wake_6 : decode cX8_wake 6 = .ok (.getfield 151, 3) := by decide +kernel
theorem dX8_wake_9 : decode cX8_wake 9 = .ok (.if_icmp .ge 65, 3) := by decide +kernel
theorem dX8_wake_12 : decode cX8_wake 12 = .ok (.aload_n 0, 1) := by decide +kernel
theorem dX8_wake_13 : decode cX8_wake 13 = .ok (.getfield 39, 3) := by decide +kernel
theorem dX8_wake_16 : decode cX8_wake 16 = .ok (.iload 4, 2) := by decide +kernel
theorem dX8_wake_18 : decode cX8_wake 18 = .ok (.aaload, 1) := by decide +kernel
theorem dX8_wake_19 : decode cX8_wake 19 = .ok (.astore 5, 2) := by decide +kernel
theorem dX8_wake_21 : decode cX8_wake 21 = .ok (.aload 5, 2) := by decide +kernel
theorem dX8_wake_23 : decode cX8_wake 23 = .ok (.getfield 201, 3) := by decide +kernel
theorem dX8_wake_26 : decode cX8_wake 26 = .ok (.lload_n 1, 1) := by decide +kernel
theorem dX8_wake_27 : decode cX8_wake 27 = .ok (.land, 1) := by decide +kernel
theorem dX8_wake_28 : decode cX8_wake 28 = .ok (.lstore 6, 2) := by decide +kernel
theorem dX8_wake_30 : decode cX8_wake 30 = .ok (.aload 5, 2) := by decide +kernel
theorem dX8_wake_32 : decode cX8_wake 32 = .ok (.getfield 167, 3) := by decide +kernel
theorem dX8_wake_35 : decode cX8_wake 35 = .ok (.iconst 3, 1) := by decide +kernel
theorem dX8_wake_36 : decode cX8_wake 36 = .ok (.if_icmp .ne 32, 3) := by decide +kernel
theorem dX8_wake_39 : decode cX8_wake 39 = .ok (.lload 6, 2) := by decide +kernel
theorem dX8_wake_41 : decode cX8_wake 41 = .ok (.lconst 0, 1) := by decide +kernel
theorem dX8_wake_42 : decode cX8_wake 42 = .ok (.lcmp, 1) := by decide +kernel
theorem dX8_wake_43 : decode cX8_wake 43 = .ok (.ifCond .eq 25, 3) := by decide +kernel
theorem dX8_wake_46 : decode cX8_wake 46 = .ok (.aload 5, 2) := by decide +kernel
theorem dX8_wake_48 : decode cX8_wake 48 = .ok (.iconst 0, 1) := by decide +kernel
theorem dX8_wake_49 : decode cX8_wake 49 = .ok (.putfield 167, 3) := by decide +kernel
theorem dX8_wake_52 : decode cX8_wake 52 = .ok (.aload 5, 2) := by decide +kernel
theorem dX8_wake_54 : decode cX8_wake 54 = .ok (.lload 6, 2) := by decide +kernel
theorem dX8_wake_56 : decode cX8_wake 56 = .ok (.invokestatic 292, 3) := by decide +kernel
theorem dX8_wake_59 : decode cX8_wake 59 = .ok (.putfield 227, 3) := by decide +kernel
theorem dX8_wake_62 : decode cX8_wake 62 = .ok (.aload 5, 2) := by decide +kernel
theorem dX8_wake_64 : decode cX8_wake 64 = .ok (.iload_n 3, 1) := by decide +kernel
theorem dX8_wake_65 : decode cX8_wake 65 = .ok (.putfield 230, 3) := by decide +kernel
theorem dX8_wake_68 : decode cX8_wake 68 = .ok (.iinc 4 1, 3) := by decide +kernel
theorem dX8_wake_71 : decode cX8_wake 71 = .ok (.goto (-68), 3) := by decide +kernel
theorem dX8_wake_74 : decode cX8_wake 74 = .ok (.return_, 1) := by decide +kernel
theorem dX8_howManyAre_0 : decode cX8_howManyAre 0 = .ok (.iconst 0, 1) := by decide +kernel
theorem dX8_howManyAre_1 : decode cX8_howManyAre 1 = .ok (.istore_n 2, 1) := by decide +kernel
theorem dX8_howManyAre_2 : decode cX8_howManyAre 2 = .ok (.iconst 0, 1) := by decide +kernel
theorem dX8_howManyAre_3 : decode cX8_howManyAre 3 = .ok (.istore_n 3, 1) := by decide +kernel
theorem dX8_howManyAre_4 : decode cX8_howManyAre 4 = .ok (.iload_n 3, 1) := by decide +kernel
theorem dX8_howManyAre_5 : decode cX8_howManyAre 5 = .ok (.aload_n 0, 1) := by decide +kernel
theorem dX8_howManyAre_6 : decode cX8_howManyAre 6 = .ok (.getfield 151, 3) := by decide +kernel
theorem dX8_howManyAre_9 : decode cX8_howManyAre 9 = .ok (.if_icmp .ge 25, 3) := by decide +kernel
theorem dX8_howManyAre_12 : decode cX8_howManyAre 12 = .ok (.aload_n 0, 1) := by decide +kernel
theorem dX8_howManyAre_13 : decode cX8_howManyAre 13 = .ok (.getfield 39, 3) := by decide +kernel
theorem dX8_howManyAre_16 : decode cX8_howManyAre 16 = .ok (.iload_n 3, 1) := by decide +kernel
theorem dX8_howManyAre_17 : decode cX8_howManyAre 17 = .ok (.aaload, 1) := by decide +kernel
theorem dX8_howManyAre_18 : decode cX8_howManyAre 18 = .ok (.getfield 167, 3) := by decide +kernel
theorem dX8_howManyAre_21 : decode cX8_howManyAre 21 = .ok (.iload_n 1, 1) := by decide +kernel
theorem dX8_howManyAre_22 : decode cX8_howManyAre 22 = .ok (.if_icmp .ne 6, 3) := by decide +kernel
theorem dX8_howManyAre_25 : decode cX8_howManyAre 25 = .ok (.iinc 2 1, 3) := by decide +kernel
theorem dX8_howManyAre_28 : decode cX8_howManyAre 28 = .ok (.iinc 3 1, 3) := by decide +kernel
theorem dX8_howManyAre_31 : decode cX8_howManyAre 31 = .ok (.goto (-27), 3) := by decide +kernel
theorem dX8_howManyAre_34 : decode cX8_howManyAre 34 = .ok (.iload_n 2, 1) := by decide +kernel
theorem dX8_howManyAre_35 : decode cX8_howManyAre 35 = .ok (.ireturn, 1) := by decide +kernel
theorem dX8_isReadyBelow_0 : decode cX8_isReadyBelow 0 = .ok (.iconst 0, 1) := by decide +kernel
theorem dX8_isReadyBelow_1 : decode cX8_isReadyBelow 1 = .ok (.istore_n 2, 1) := by decide +kernel
theorem dX8_isReadyBelow_2 : decode cX8_isReadyBelow 2 = .ok (.iload_n 2, 1) := by decide +kernel
theorem dX8_isReadyBelow_3 : decode cX8_isReadyBelow 3 = .ok (.iload_n 1, 1) := by decide +kernel
theorem dX8_isReadyBelow_4 : decode cX8_isReadyBelow 4 = .ok (.if_icmp .ge 23, 3) := by decide +kernel
theorem dX8_isReadyBelow_7 : decode cX8_isReadyBelow 7 = .ok (.aload_n 0, 1) := by decide +kernel
theorem dX8_isReadyBelow_8 : decode cX8_isReadyBelow 8 = .ok (.getfield 39, 3) := by decide +kernel
theorem dX8_isReadyBelow_11 : decode cX8_isReadyBelow 11 = .ok (.iload_n 2, 1) := by decide +kernel
theorem dX8_isReadyBelow_12 : decode cX8_isReadyBelow 12 = .ok (.aaload, 1) := by decide +kernel
theorem dX8_isReadyBelow_13 : decode cX8_isReadyBelow 13 = .ok (.getfield 167, 3) := by decide +kernel
theorem dX8_isReadyBelow_16 : decode cX8_isReadyBelow 16 = .ok (.ifCond .ne 5, 3) := by decide +kernel
theorem dX8_isReadyBelow_19 : decode cX8_isReadyBelow 19 = .ok (.iconst 1, 1) := by decide +kernel
theorem dX8_isReadyBelow_20 : decode cX8_isReadyBelow 20 = .ok (.ireturn, 1) := by decide +kernel
theorem dX8_isReadyBelow_21 : decode cX8_isReadyBelow 21 = .ok (.iinc 2 1, 3) := by decide +kernel
theorem dX8_isReadyBelow_24 : decode cX8_isReadyBelow 24 = .ok (.goto (-22), 3) := by decide +kernel
theorem dX8_isReadyBelow_27 : decode cX8_isReadyBelow 27 = .ok (.iconst 0, 1) := by decide +kernel
theorem dX8_isReadyBelow_28 : decode cX8_isReadyBelow 28 = .ok (.ireturn, 1) := by decide +kernel
theorem dX8_playRound_0 : decode cX8_playRound 0 = .ok (.aload_n 0, 1) := by decide +kernel
theorem dX8_playRound_1 : decode cX8_playRound 1 = .ok (.dup, 1) := by decide +kernel
theorem dX8_playRound_2 : decode cX8_playRound 2 = .ok (.getfield 249, 3) := by decide +kernel
theorem dX8_playRound_5 : decode cX8_playRound 5 = .ok (.iconst 1, 1) := by decide +kernel
theorem dX8_playRound_6 : decode cX8_playRound 6 = .ok (.iadd, 1) := by decide +kernel
theorem dX8_playRound_7 : decode cX8_playRound 7 = .ok (.putfield 249, 3) := by decide +kernel
theorem dX8_playRound_10 : decode cX8_playRound 10 = .ok (.aload_n 0, 1) := by decide +kernel
theorem dX8_playRound_11 : decode cX8_playRound 11 = .ok (.lconst 0, 1) := by decide +kernel
theorem dX8_playRound_12 : decode cX8_playRound 12 = .ok (.putfield 295, 3) := by decide +kernel
theorem dX8_playRound_15 : decode cX8_playRound 15 = .ok (.aload_n 0, 1) := by decide +kernel
theorem dX8_playRound_16 : decode cX8_playRound 16 = .ok (.invokevirtual 298, 3) := by decide +kernel
theorem dX8_playRound_19 : decode cX8_playRound 19 = .ok (.istore_n 1, 1) := by decide +kernel
theorem dX8_playRound_20 : decode cX8_playRound 20 = .ok (.iconst 0, 1) := by decide +kernel
theorem dX8_playRound_21 : decode cX8_playRound 21 = .ok (.istore_n 2, 1) := by decide +kernel
theorem dX8_playRound_22 : decode cX8_playRound 22 = .ok (.iload_n 2, 1) := by decide +kernel
theorem dX8_playRound_23 : decode cX8_playRound 23 = .ok (.iload_n 1, 1) := by decide +kernel
theorem dX8_playRound_24 : decode cX8_playRound 24 = .ok (.if_icmp .ge 35, 3) := by decide +kernel
theorem dX8_playRound_27 : decode cX8_playRound 27 = .ok (.aload_n 0, 1) := by decide +kernel
theorem dX8_playRound_28 : decode cX8_playRound 28 = .ok (.aload_n 0, 1) := by decide +kernel
theorem dX8_playRound_29 : decode cX8_playRound 29 = .ok (.getfield 45, 3) := by decide +kernel
theorem dX8_playRound_32 : decode cX8_playRound 32 = .ok (.iload_n 2, 1) := by decide +kernel
theorem dX8_playRound_33 : decode cX8_playRound 33 = .ok (.aaload, 1) := by decide +kernel
theorem dX8_playRound_34 : decode cX8_playRound 34 = .ok (.getfield 301, 3) := by decide +kernel
theorem dX8_playRound_37 : decode cX8_playRound 37 = .ok (.invokevirtual 157, 3) := by decide +kernel
theorem dX8_playRound_40 : decode cX8_playRound 40 = .ok (.ifCond .ne 19, 3) := by decide +kernel
theorem dX8_playRound_43 : decode cX8_playRound 43 = .ok (.aload_n 0, 1) := by decide +kernel
theorem dX8_playRound_44 : decode cX8_playRound 44 = .ok (.aload_n 0, 1) := by decide +kernel
theorem dX8_playRound_45 : decode cX8_playRound 45 = .ok (.getfield 45, 3) := by decide +kernel
theorem dX8_playRound_48 : decode cX8_playRound 48 = .ok (.iload_n 2, 1) := by decide +kernel
theorem dX8_playRound_49 : decode cX8_playRound 49 = .ok (.aaload, 1) := by decide +kernel
theorem dX8_playRound_50 : decode cX8_playRound 50 = .ok (.invokevirtual 303, 3) := by decide +kernel
theorem dX8_playRound_53 : decode cX8_playRound 53 = .ok (.iinc 2 1, 3) := by decide +kernel
theorem dX8_playRound_56 : decode cX8_playRound 56 = .ok (.goto (-34), 3) := by decide +kernel
theorem dX8_playRound_59 : decode cX8_playRound 59 = .ok (.iload_n 2, 1) := by decide +kernel
theorem dX8_playRound_60 : decode cX8_playRound 60 = .ok (.ireturn, 1) := by decide +kernel
theorem dX8_tryLeastReady_0 : decode cX8_tryLeastReady 0 = .ok (.iconst 0, 1) := by decide +kernel
theorem dX8_tryLeastReady_1 : decode cX8_tryLeastReady 1 = .ok (.istore_n 1, 1) := by decide +kernel
theorem dX8_tryLeastReady_2 : decode cX8_tryLeastReady 2 = .ok (.iconst 0, 1) := by decide +kernel
theorem dX8_tryLeastReady_3 : decode cX8_tryLeastReady 3 = .ok (.istore_n 2, 1) := by decide +kernel
theorem dX8_tryLeastReady_4 : decode cX8_tryLeastReady 4 = .ok (.iload_n 2, 1) := by decide +kernel
theorem dX8_tryLeastReady_5 : decode cX8_tryLeastReady 5 = .ok (.aload_n 0, 1) := by decide +kernel
theorem dX8_tryLeastReady_6 : decode cX8_tryLeastReady 6 = .ok (.getfield 151, 3) := by decide +kernel
theorem dX8_tryLeastReady_9 : decode cX8_tryLeastReady 9 = .ok (.if_icmp .ge 52, 3) := by decide +kernel
theorem dX8_tryLeastReady_12 : decode cX8_tryLeastReady 12 = .ok (.iload_n 1, 1) := by decide +kernel
theorem dX8_tryLeastReady_13 : decode cX8_tryLeastReady 13 = .ok (.aload_n 0, 1) := by decide +kernel
theorem dX8_tryLeastReady_14 : decode cX8_tryLeastReady 14 = .ok (.getfield 66, 3) := by decide +kernel
theorem dX8_tryLeastReady_17 : decode cX8_tryLeastReady 17 = .ok (.if_icmp .ge 44, 3) := by decide +kernel
theorem dX8_tryLeastReady_20 : decode cX8_tryLeastReady 20 = .ok (.aload_n 0, 1) := by decide +kernel
theorem dX8_tryLeastReady_21 : decode cX8_tryLeastReady 21 = .ok (.getfield 39, 3) := by decide +kernel
theorem dX8_tryLeastReady_24 : decode cX8_tryLeastReady 24 = .ok (.iload_n 2, 1) := by decide +kernel
theorem dX8_tryLeastReady_25 : decode cX8_tryLeastReady 25 = .ok (.aaload, 1) := by decide +kernel
theorem dX8_tryLeastReady_26 : decode cX8_tryLeastReady 26 = .ok (.getfield 167, 3) := by decide +kernel
theorem dX8_tryLeastReady_29 : decode cX8_tryLeastReady 29 = .ok (.ifCond .ne 26, 3) := by decide +kernel
theorem dX8_tryLeastReady_32 : decode cX8_tryLeastReady 32 = .ok (.aload_n 0, 1) := by decide +kernel
theorem dX8_tryLeastReady_33 : decode cX8_tryLeastReady 33 = .ok (.getfield 45, 3) := by decide +kernel
theorem dX8_tryLeastReady_36 : decode cX8_tryLeastReady 36 = .ok (.iload_n 1, 1) := by decide +kernel
theorem dX8_tryLeastReady_37 : decode cX8_tryLeastReady 37 = .ok (.aaload, 1) := by decide +kernel
theorem dX8_tryLeastReady_38 : decode cX8_tryLeastReady 38 = .ok (.iload_n 2, 1) := by decide +kernel
theorem dX8_tryLeastReady_39 : decode cX8_tryLeastReady 39 = .ok (.putfield 301, 3) := by decide +kernel
theorem dX8_tryLeastReady_42 : decode cX8_tryLeastReady 42 = .ok (.aload_n 0, 1) := by decide +kernel
theorem dX8_tryLeastReady_43 : decode cX8_tryLeastReady 43 = .ok (.aload_n 0, 1) := by decide +kernel
theorem dX8_tryLeastReady_44 : decode cX8_tryLeastReady 44 = .ok (.getfield 45, 3) := by decide +kernel
theorem dX8_tryLeastReady_47 : decode cX8_tryLeastReady 47 = .ok (.iload_n 1, 1) := by decide +kernel
theorem dX8_tryLeastReady_48 : decode cX8_tryLeastReady 48 = .ok (.aaload, 1) := by decide +kernel
theorem dX8_tryLeastReady_49 : decode cX8_tryLeastReady 49 = .ok (.invokevirtual 307, 3) := by decide +kernel
theorem dX8_tryLeastReady_52 : decode cX8_tryLeastReady 52 = .ok (.iinc 1 1, 3) := by decide +kernel
theorem dX8_tryLeastReady_55 : decode cX8_tryLeastReady 55 = .ok (.iinc 2 1, 3) := by decide +kernel
theorem dX8_tryLeastReady_58 : decode cX8_tryLeastReady 58 = .ok (.goto (-54), 3) := by decide +kernel
theorem dX8_tryLeastReady_61 : decode cX8_tryLeastReady 61 = .ok (.iload_n 1, 1) := by decide +kernel
theorem dX8_tryLeastReady_62 : decode cX8_tryLeastReady 62 = .ok (.ireturn, 1) := by decide +kernel
theorem dX8_makeTry_0 : decode cX8_makeTry 0 = .ok (.aload_n 0, 1) := by decide +kernel
theorem dX8_makeTry_1 : decode cX8_makeTry 1 = .ok (.getfield 39, 3) := by decide +kernel
theorem dX8_makeTry_4 : decode cX8_makeTry 4 = .ok (.aload_n 1, 1) := by decide +kernel
theorem dX8_makeTry_5 : decode cX8_makeTry 5 = .ok (.getfield 301, 3) := by decide +kernel
theorem dX8_makeTry_8 : decode cX8_makeTry 8 = .ok (.aaload, 1) := by decide +kernel
theorem dX8_makeTry_9 : decode cX8_makeTry 9 = .ok (.astore_n 2, 1) := by decide +kernel
theorem dX8_makeTry_10 : decode cX8_makeTry 10 = .ok (.aload_n 2, 1) := by decide +kernel
theorem dX8_makeTry_11 : decode cX8_makeTry 11 = .ok (.dup, 1) := by decide +kernel
theorem dX8_makeTry_12 : decode cX8_makeTry 12 = .ok (.getfield 185, 3) := by decide +kernel
theorem dX8_makeTry_15 : decode cX8_makeTry 15 = .ok (.iconst 1, 1) := by decide +kernel
theorem dX8_makeTry_16 : decode cX8_makeTry 16 = .ok (.iadd, 1) := by decide +kernel
theorem dX8_makeTry_17 : decode cX8_makeTry 17 = .ok (.putfield 185, 3) := by decide +kernel
theorem dX8_makeTry_20 : decode cX8_makeTry 20 = .ok (.aload_n 0, 1) := by decide +kernel
theorem dX8_makeTry_21 : decode cX8_makeTry 21 = .ok (.dup, 1) := by decide +kernel
theorem dX8_makeTry_22 : decode cX8_makeTry 22 = .ok (.getfield 252, 3) := by decide +kernel
theorem dX8_makeTry_25 : decode cX8_makeTry 25 = .ok (.iconst 1, 1) := by decide +kernel
theorem dX8_makeTry_26 : decode cX8_makeTry 26 = .ok (.iadd, 1) := by decide +kernel
theorem dX8_makeTry_27 : decode cX8_makeTry 27 = .ok (.putfield 252, 3) := by decide +kernel
theorem dX8_makeTry_30 : decode cX8_makeTry 30 = .ok (.aload_n 1, 1) := by decide +kernel
theorem dX8_makeTry_31 : decode cX8_makeTry 31 = .ok (.aload_n 0, 1) := by decide +kernel
theorem dX8_makeTry_32 : decode cX8_makeTry 32 = .ok (.getfield 10, 3) := by decide +kernel
theorem dX8_makeTry_35 : decode cX8_makeTry 35 = .ok (.getfield 74, 3) := by decide +kernel
theorem dX8_makeTry_38 : decode cX8_makeTry 38 = .ok (.invokevirtual 310, 3) := by decide +kernel
theorem dX8_makeTry_41 : decode cX8_makeTry 41 = .ok (.aload_n 1, 1) := by decide +kernel
theorem dX8_makeTry_42 : decode cX8_makeTry 42 = .ok (.aload_n 1, 1) := by decide +kernel
theorem dX8_makeTry_43 : decode cX8_makeTry 43 = .ok (.aload_n 2, 1) := by decide +kernel
theorem dX8_makeTry_44 : decode cX8_makeTry 44 = .ok (.getfield 170, 3) := by decide +kernel
theorem dX8_makeTry_47 : decode cX8_makeTry 47 = .ok (.iconst 0, 1) := by decide +kernel
theorem dX8_makeTry_48 : decode cX8_makeTry 48 = .ok (.invokevirtual 314, 3) := by decide +kernel
theorem dX8_makeTry_51 : decode cX8_makeTry 51 = .ok (.putfield 317, 3) := by decide +kernel
theorem dX8_makeTry_54 : decode cX8_makeTry 54 = .ok (.return_, 1) := by decide +kernel
theorem dX8_takeTurn_0 : decode cX8_takeTurn 0 = .ok (.aload_n 0, 1) := by decide +kernel
theorem dX8_takeTurn_1 : decode cX8_takeTurn 1 = .ok (.getfield 39, 3) := by decide +kernel
theorem dX8_takeTurn_4 : decode cX8_takeTurn 4 = .ok (.aload_n 1, 1) := by decide +kernel
theorem dX8_takeTurn_5 : decode cX8_takeTurn 5 = .ok (.getfield 301, 3) := by decide +kernel
theorem dX8_takeTurn_8 : decode cX8_takeTurn 8 = .ok (.aaload, 1) := by decide +kernel
theorem dX8_takeTurn_9 : decode cX8_takeTurn 9 = .ok (.astore_n 2, 1) := by decide +kernel
theorem dX8_takeTurn_10 : decode cX8_takeTurn 10 = .ok (.aload_n 2, 1) := by decide +kernel
theorem dX8_takeTurn_11 : decode cX8_takeTurn 11 = .ok (.dup, 1) := by decide +kernel
theorem dX8_takeTurn_12 : decode cX8_takeTurn 12 = .ok (.getfield 173, 3) := by decide +kernel
theorem dX8_takeTurn_15 : decode cX8_takeTurn 15 = .ok (.iconst 1, 1) := by decide +kernel
theorem dX8_takeTurn_16 : decode cX8_takeTurn 16 = .ok (.iadd, 1) := by decide +kernel
theorem dX8_takeTurn_17 : decode cX8_takeTurn 17 = .ok (.putfield 173, 3) := by decide +kernel
theorem dX8_takeTurn_20 : decode cX8_takeTurn 20 = .ok (.aload_n 1, 1) := by decide +kernel
theorem dX8_takeTurn_21 : decode cX8_takeTurn 21 = .ok (.getfield 320, 3) := by decide +kernel
theorem dX8_takeTurn_24 : decode cX8_takeTurn 24 = .ok (.aload_n 0, 1) := by decide +kernel
theorem dX8_takeTurn_25 : decode cX8_takeTurn 25 = .ok (.getfield 295, 3) := by decide +kernel
theorem dX8_takeTurn_28 : decode cX8_takeTurn 28 = .ok (.land, 1) := by decide +kernel
theorem dX8_takeTurn_29 : decode cX8_takeTurn 29 = .ok (.lconst 0, 1) := by decide +kernel
theorem dX8_takeTurn_30 : decode cX8_takeTurn 30 = .ok (.lcmp, 1) := by decide +kernel
theorem dX8_takeTurn_31 : decode cX8_takeTurn 31 = .ok (.ifCond .eq 8, 3) := by decide +kernel
theorem dX8_takeTurn_34 : decode cX8_takeTurn 34 = .ok (.aload_n 0, 1) := by decide +kernel
theorem dX8_takeTurn_35 : decode cX8_takeTurn 35 = .ok (.aload_n 1, 1) := by decide +kernel
theorem dX8_takeTurn_36 : decode cX8_takeTurn 36 = .ok (.invokevirtual 307, 3) := by decide +kernel
theorem dX8_takeTurn_39 : decode cX8_takeTurn 39 = .ok (.aload_n 0, 1) := by decide +kernel
theorem dX8_takeTurn_40 : decode cX8_takeTurn 40 = .ok (.getfield 19, 3) := by decide +kernel
theorem dX8_takeTurn_43 : decode cX8_takeTurn 43 = .ok (.getfield 141, 3) := by decide +kernel
theorem dX8_takeTurn_46 : decode cX8_takeTurn 46 = .ok (.aload_n 2, 1) := by decide +kernel
theorem dX8_takeTurn_47 : decode cX8_takeTurn 47 = .ok (.getfield 170, 3) := by decide +kernel
theorem dX8_takeTurn_50 : decode cX8_takeTurn 50 = .ok (.iaload, 1) := by decide +kernel
theorem dX8_takeTurn_51 : decode cX8_takeTurn 51 = .ok (.istore_n 3, 1) := by decide +kernel
theorem dX8_takeTurn_52 : decode cX8_takeTurn 52 = .ok (.iconst 0, 1) := by decide +kernel
theorem dX8_takeTurn_53 : decode cX8_takeTurn 53 = .ok (.istore 4, 2) := by decide +kernel
theorem dX8_takeTurn_55 : decode cX8_takeTurn 55 = .ok (.iload 4, 2) := by decide +kernel
theorem dX8_takeTurn_57 : decode cX8_takeTurn 57 = .ok (.iload_n 3, 1) := by decide +kernel
theorem dX8_takeTurn_58 : decode cX8_takeTurn 58 = .ok (.if_icmp .ge 20, 3) := by decide +kernel
theorem dX8_takeTurn_61 : decode cX8_takeTurn 61 = .ok (.iload 4, 2) := by decide +kernel
theorem dX8_takeTurn_63 : decode cX8_takeTurn 63 = .ok (.iconst 2, 1) := by decide +kernel
theorem dX8_takeTurn_64 : decode cX8_takeTurn 64 = .ok (.if_icmp .ge 14, 3) := by decide +kernel
theorem dX8_takeTurn_67 : decode cX8_takeTurn 67 = .ok (.aload_n 0, 1) := by decide +kernel
theorem dX8_takeTurn_68 : decode cX8_takeTurn 68 = .ok (.aload_n 1, 1) := by decide +kernel
theorem dX8_takeTurn_69 : decode cX8_takeTurn 69 = .ok (.invokevirtual 307, 3) := by decide +kernel
theorem dX8_takeTurn_72 : decode cX8_takeTurn 72 = .ok (.iinc 4 1, 3) := by decide +kernel
theorem dX8_takeTurn_75 : decode cX8_takeTurn 75 = .ok (.goto (-20), 3) := by decide +kernel
theorem dX8_takeTurn_78 : decode cX8_takeTurn 78 = .ok (.iload_n 3, 1) := by decide +kernel
theorem dX8_takeTurn_79 : decode cX8_takeTurn 79 = .ok (.iconst 2, 1) := by decide +kernel
theorem dX8_takeTurn_80 : decode cX8_takeTurn 80 = .ok (.if_icmp .le 15, 3) := by decide +kernel
theorem dX8_takeTurn_83 : decode cX8_takeTurn 83 = .ok (.aload_n 2, 1) := by decide +kernel
theorem dX8_takeTurn_84 : decode cX8_takeTurn 84 = .ok (.invokevirtual 321, 3) := by decide +kernel
theorem dX8_takeTurn_87 : decode cX8_takeTurn 87 = .ok (.aload_n 2, 1) := by decide +kernel
theorem dX8_takeTurn_88 : decode cX8_takeTurn 88 = .ok (.iconst 5, 1) := by decide +kernel
theorem dX8_takeTurn_89 : decode cX8_takeTurn 89 = .ok (.putfield 167, 3) := by decide +kernel
theorem dX8_takeTurn_92 : decode cX8_takeTurn 92 = .ok (.goto 9, 3) := by decide +kernel
theorem dX8_takeTurn_95 : decode cX8_takeTurn 95 = .ok (.aload_n 0, 1) := by decide +kernel
theorem dX8_takeTurn_96 : decode cX8_takeTurn 96 = .ok (.aload_n 2, 1) := by decide +kernel
theorem dX8_takeTurn_97 : decode cX8_takeTurn 97 = .ok (.aload_n 1, 1) := by decide +kernel
theorem dX8_takeTurn_98 : decode cX8_takeTurn 98 = .ok (.invokevirtual 324, 3) := by decide +kernel
theorem dX8_takeTurn_101 : decode cX8_takeTurn 101 = .ok (.return_, 1) := by decide +kernel
theorem dX8_endTurn_0 : decode cX8_endTurn 0 = .ok (.aload_n 1, 1) := by decide +kernel
theorem dX8_endTurn_1 : decode cX8_endTurn 1 = .ok (.aload_n 2, 1) := by decide +kernel
theorem dX8_endTurn_2 : decode cX8_endTurn 2 = .ok (.invokevirtual 328, 3) := by decide +kernel
theorem dX8_endTurn_5 : decode cX8_endTurn 5 = .ok (.aload_n 2, 1) := by decide +kernel
theorem dX8_endTurn_6 : decode cX8_endTurn 6 = .ok (.getfield 317, 3) := by decide +kernel
theorem dX8_endTurn_9 : decode cX8_endTurn 9 = .ok (.bipush 11, 2) := by decide +kernel
theorem dX8_endTurn_11 : decode cX8_endTurn 11 = .ok (.if_icmp .ne 23, 3) := by decide +kernel
theorem dX8_endTurn_14 : decode cX8_endTurn 14 = .ok (.aload_n 1, 1) := by decide +kernel
theorem dX8_endTurn_15 : decode cX8_endTurn 15 = .ok (.aload_n 1, 1) := by decide +kernel
theorem dX8_endTurn_16 : decode cX8_endTurn 16 = .ok (.getfield 173, 3) := by decide +kernel
theorem dX8_endTurn_19 : decode cX8_endTurn 19 = .ok (.iconst 5, 1) := by decide +kernel
theorem dX8_endTurn_20 : decode cX8_endTurn 20 = .ok (.if_icmp .lt 7, 3) := by decide +kernel
theorem dX8_endTurn_23 : decode cX8_endTurn 23 = .ok (.iconst 5, 1) := by decide +kernel
theorem dX8_endTurn_24 : decode cX8_endTurn 24 = .ok (.goto 4, 3) := by decide +kernel
theorem dX8_endTurn_27 : decode cX8_endTurn 27 = .ok (.iconst 3, 1) := by decide +kernel
theorem dX8_endTurn_28 : decode cX8_endTurn 28 = .ok (.putfield 167, 3) := by decide +kernel
theorem dX8_endTurn_31 : decode cX8_endTurn 31 = .ok (.goto 78, 3) := by decide +kernel
theorem dX8_endTurn_34 : decode cX8_endTurn 34 = .ok (.aload_n 2, 1) := by decide +kernel
theorem dX8_endTurn_35 : decode cX8_endTurn 35 = .ok (.getfield 317, 3) := by decide +kernel
theorem dX8_endTurn_38 : decode cX8_endTurn 38 = .ok (.ifCond .eq 40, 3) := by decide +kernel
theorem dX8_endTurn_41 : decode cX8_endTurn 41 = .ok (.aload_n 1, 1) := by decide +kernel
theorem dX8_endTurn_42 : decode cX8_endTurn 42 = .ok (.iconst 2, 1) := by decide +kernel
theorem dX8_endTurn_43 : decode cX8_endTurn 43 = .ok (.putfield 167, 3) := by decide +kernel
theorem dX8_endTurn_46 : decode cX8_endTurn 46 = .ok (.aload_n 1, 1) := by decide +kernel
theorem dX8_endTurn_47 : decode cX8_endTurn 47 = .ok (.aload_n 2, 1) := by decide +kernel
theorem dX8_endTurn_48 : decode cX8_endTurn 48 = .ok (.getfield 317, 3) := by decide +kernel
theorem dX8_endTurn_51 : decode cX8_endTurn 51 = .ok (.putfield 176, 3) := by decide +kernel
theorem dX8_endTurn_54 : decode cX8_endTurn 54 = .ok (.aload_n 1, 1) := by decide +kernel
theorem dX8_endTurn_55 : decode cX8_endTurn 55 = .ok (.aload_n 2, 1) := by decide +kernel
theorem dX8_endTurn_56 : decode cX8_endTurn 56 = .ok (.getfield 317, 3) := by decide +kernel
theorem dX8_endTurn_59 : decode cX8_endTurn 59 = .ok (.bipush 8, 2) := by decide +kernel
theorem dX8_endTurn_61 : decode cX8_endTurn 61 = .ok (.if_icmp .ne 10, 3) := by decide +kernel
theorem dX8_endTurn_64 : decode cX8_endTurn 64 = .ok (.aload_n 2, 1) := by decide +kernel
theorem dX8_endTurn_65 : decode cX8_endTurn 65 = .ok (.getfield 331, 3) := by decide +kernel
theorem dX8_endTurn_68 : decode cX8_endTurn 68 = .ok (.goto 4, 3) := by decide +kernel
theorem dX8_endTurn_71 : decode cX8_endTurn 71 = .ok (.iconst 0, 1) := by decide +kernel
theorem dX8_endTurn_72 : decode cX8_endTurn 72 = .ok (.putfield 179, 3) := by decide +kernel
theorem dX8_endTurn_75 : decode cX8_endTurn 75 = .ok (.goto 34, 3) := by decide +kernel
theorem dX8_endTurn_78 : decode cX8_endTurn 78 = .ok (.aload_n 1, 1) := by decide +kernel
theorem dX8_endTurn_79 : decode cX8_endTurn 79 = .ok (.aload_n 0, 1) := by decide +kernel
theorem dX8_endTurn_80 : decode cX8_endTurn 80 = .ok (.aload_n 2, 1) := by decide +kernel
theorem dX8_endTurn_81 : decode cX8_endTurn 81 = .ok (.invokevirtual 332, 3) := by decide +kernel
theorem dX8_endTurn_84 : decode cX8_endTurn 84 = .ok (.putfield 182, 3) := by decide +kernel
theorem dX8_endTurn_87 : decode cX8_endTurn 87 = .ok (.aload_n 1, 1) := by decide +kernel
theorem dX8_endTurn_88 : decode cX8_endTurn 88 = .ok (.getfield 182, 3) := by decide +kernel
theorem dX8_endTurn_91 : decode cX8_endTurn 91 = .ok (.iconst (-1), 1) := by decide +kernel
theorem dX8_endTurn_92 : decode cX8_endTurn 92 = .ok (.if_icmp .ne 12, 3) := by decide +kernel
theorem dX8_endTurn_95 : decode cX8_endTurn 95 = .ok (.aload_n 0, 1) := by decide +kernel
theorem dX8_endTurn_96 : decode cX8_endTurn 96 = .ok (.aload_n 1, 1) := by decide +kernel
theorem dX8_endTurn_97 : decode cX8_endTurn 97 = .ok (.aload_n 2, 1) := by decide +kernel
theorem dX8_endTurn_98 : decode cX8_endTurn 98 = .ok (.invokevirtual 336, 3) := by decide +kernel
theorem dX8_endTurn_101 : decode cX8_endTurn 101 = .ok (.goto 8, 3) := by decide +kernel
theorem dX8_endTurn_104 : decode cX8_endTurn 104 = .ok (.aload_n 1, 1) := by decide +kernel
theorem dX8_endTurn_105 : decode cX8_endTurn 105 = .ok (.iconst 4, 1) := by decide +kernel
theorem dX8_endTurn_106 : decode cX8_endTurn 106 = .ok (.putfield 167, 3) := by decide +kernel
theorem dX8_endTurn_109 : decode cX8_endTurn 109 = .ok (.return_, 1) := by decide +kernel
theorem dX8_leastBrokenBy_0 : decode cX8_leastBrokenBy 0 = .ok (.aload_n 0, 1) := by decide +kernel
theorem dX8_leastBrokenBy_1 : decode cX8_leastBrokenBy 1 = .ok (.getfield 58, 3) := by decide +kernel
theorem dX8_leastBrokenBy_4 : decode cX8_leastBrokenBy 4 = .ok (.aload_n 0, 1) := by decide +kernel
theorem dX8_leastBrokenBy_5 : decode cX8_leastBrokenBy 5 = .ok (.getfield 10, 3) := by decide +kernel
theorem dX8_leastBrokenBy_8 : decode cX8_leastBrokenBy 8 = .ok (.getfield 74, 3) := by decide +kernel
theorem dX8_leastBrokenBy_11 : decode cX8_leastBrokenBy 11 = .ok (.invokevirtual 339, 3) := by decide +kernel
theorem dX8_leastBrokenBy_14 : decode cX8_leastBrokenBy 14 = .ok (.aload_n 0, 1) := by decide +kernel
theorem dX8_leastBrokenBy_15 : decode cX8_leastBrokenBy 15 = .ok (.getfield 58, 3) := by decide +kernel
theorem dX8_leastBrokenBy_18 : decode cX8_leastBrokenBy 18 = .ok (.aload_n 1, 1) := by decide +kernel
theorem dX8_leastBrokenBy_19 : decode cX8_leastBrokenBy 19 = .ok (.getfield 342, 3) := by decide +kernel
theorem dX8_leastBrokenBy_22 : decode cX8_leastBrokenBy 22 = .ok (.aload_n 1, 1) := by decide +kernel
theorem dX8_leastBrokenBy_23 : decode cX8_leastBrokenBy 23 = .ok (.getfield 345, 3) := by decide +kernel
theorem dX8_leastBrokenBy_26 : decode cX8_leastBrokenBy 26 = .ok (.invokevirtual 348, 3) := by decide +kernel
theorem dX8_leastBrokenBy_29 : decode cX8_leastBrokenBy 29 = .ok (.aload_n 0, 1) := by decide +kernel
theorem dX8_leastBrokenBy_30 : decode cX8_leastBrokenBy 30 = .ok (.getfield 26, 3) := by decide +kernel
theorem dX8_leastBrokenBy_33 : decode cX8_leastBrokenBy 33 = .ok (.aload_n 0, 1) := by decide +kernel
theorem dX8_leastBrokenBy_34 : decode cX8_leastBrokenBy 34 = .ok (.getfield 58, 3) := by decide +kernel
theorem dX8_leastBrokenBy_37 : decode cX8_leastBrokenBy 37 = .ok (.invokevirtual 352, 3) := by decide +kernel
theorem dX8_leastBrokenBy_40 : decode cX8_leastBrokenBy 40 = .ok (.ireturn, 1) := by decide +kernel
theorem dX8_takeEffect_0 : decode cX8_takeEffect 0 = .ok (.aload_n 1, 1) := by decide +kernel
theorem dX8_takeEffect_1 : decode cX8_takeEffect 1 = .ok (.iconst 1, 1) := by decide +kernel
theorem dX8_takeEffect_2 : decode cX8_takeEffect 2 = .ok (.putfield 167, 3) := by decide +kernel
theorem dX8_takeEffect_5 : decode cX8_takeEffect 5 = .ok (.aload_n 1, 1) := by decide +kernel
theorem dX8_takeEffect_6 : decode cX8_takeEffect 6 = .ok (.aload_n 2, 1) := by decide +kernel
theorem dX8_takeEffect_7 : decode cX8_takeEffect 7 = .ok (.invokevirtual 356, 3) := by decide +kernel
theorem dX8_takeEffect_10 : decode cX8_takeEffect 10 = .ok (.aload_n 0, 1) := by decide +kernel
theorem dX8_takeEffect_11 : decode cX8_takeEffect 11 = .ok (.getfield 62, 3) := by decide +kernel
theorem dX8_takeEffect_14 : decode cX8_takeEffect 14 = .ok (.aload_n 0, 1) := by decide +kernel
theorem dX8_takeEffect_15 : decode cX8_takeEffect 15 = .ok (.getfield 233, 3) := by decide +kernel
theorem dX8_takeEffect_18 : decode cX8_takeEffect 18 = .ok (.aload_n 2, 1) := by decide +kernel
theorem dX8_takeEffect_19 : decode cX8_takeEffect 19 = .ok (.getfield 301, 3) := by decide +kernel
theorem dX8_takeEffect_22 : decode cX8_takeEffect 22 = .ok (.iastore, 1) := by decide +kernel
theorem dX8_takeEffect_23 : decode cX8_takeEffect 23 = .ok (.aload_n 0, 1) := by decide +kernel
theorem dX8_takeEffect_24 : decode cX8_takeEffect 24 = .ok (.dup, 1) := by decide +kernel
theorem dX8_takeEffect_25 : decode cX8_takeEffect 25 = .ok (.getfield 233, 3) := by decide +kernel
theorem dX8_takeEffect_28 : decode cX8_takeEffect 28 = .ok (.iconst 1, 1) := by decide +kernel
theorem dX8_takeEffect_29 : decode cX8_takeEffect 29 = .ok (.iadd, 1) := by decide +kernel
theorem dX8_takeEffect_30 : decode cX8_takeEffect 30 = .ok (.putfield 233, 3) := by decide +kernel
theorem dX8_takeEffect_33 : decode cX8_takeEffect 33 = .ok (.aload_n 0, 1) := by decide +kernel
theorem dX8_takeEffect_34 : decode cX8_takeEffect 34 = .ok (.getfield 10, 3) := by decide +kernel
theorem dX8_takeEffect_37 : decode cX8_takeEffect 37 = .ok (.aload_n 2, 1) := by decide +kernel
theorem dX8_takeEffect_38 : decode cX8_takeEffect 38 = .ok (.invokevirtual 359, 3) := by decide +kernel
theorem dX8_takeEffect_41 : decode cX8_takeEffect 41 = .ok (.aload_n 0, 1) := by decide +kernel
theorem dX8_takeEffect_42 : decode cX8_takeEffect 42 = .ok (.dup, 1) := by decide +kernel
theorem dX8_takeEffect_43 : decode cX8_takeEffect 43 = .ok (.getfield 295, 3) := by decide +kernel
theorem dX8_takeEffect_46 : decode cX8_takeEffect 46 = .ok (.aload_n 2, 1) := by decide +kernel
theorem dX8_takeEffect_47 : decode cX8_takeEffect 47 = .ok (.getfield 342, 3) := by decide +kernel
theorem dX8_takeEffect_50 : decode cX8_takeEffect 50 = .ok (.lor, 1) := by decide +kernel
theorem dX8_takeEffect_51 : decode cX8_takeEffect 51 = .ok (.putfield 295, 3) := by decide +kernel
theorem dX8_takeEffect_54 : decode cX8_takeEffect 54 = .ok (.iconst 0, 1) := by decide +kernel
theorem dX8_takeEffect_55 : decode cX8_takeEffect 55 = .ok (.istore_n 3, 1) := by decide +kernel
theorem dX8_takeEffect_56 : decode cX8_takeEffect 56 = .ok (.iload_n 3, 1) := by decide +kernel
theorem dX8_takeEffect_57 : decode cX8_takeEffect 57 = .ok (.aload_n 2, 1) := by decide +kernel
theorem dX8_takeEffect_58 : decode cX8_takeEffect 58 = .ok (.getfield 362, 3) := by decide +kernel
theorem dX8_takeEffect_61 : decode cX8_takeEffect 61 = .ok (.if_icmp .ge 32, 3) := by decide +kernel
theorem dX8_takeEffect_64 : decode cX8_takeEffect 64 = .ok (.aload_n 0, 1) := by decide +kernel
theorem dX8_takeEffect_65 : decode cX8_takeEffect 65 = .ok (.getfield 33, 3) := by decide +kernel
theorem dX8_takeEffect_68 : decode cX8_takeEffect 68 = .ok (.aload_n 2, 1) := by decide +kernel
theorem dX8_takeEffect_69 : decode cX8_takeEffect 69 = .ok (.getfield 301, 3) := by decide +kernel
theorem dX8_takeEffect_72 : decode cX8_takeEffect 72 = .ok (.aload_n 2, 1) := by decide +kernel
theorem dX8_takeEffect_73 : decode cX8_takeEffect 73 = .ok (.getfield 365, 3) := by decide +kernel
theorem dX8_takeEffect_76 : decode cX8_takeEffect 76 = .ok (.iload_n 3, 1) := by decide +kernel
theorem dX8_takeEffect_77 : decode cX8_takeEffect 77 = .ok (.iaload, 1) := by decide +kernel
theorem dX8_takeEffect_78 : decode cX8_takeEffect 78 = .ok (.aload_n 0, 1) := by decide +kernel
theorem dX8_takeEffect_79 : decode cX8_takeEffect 79 = .ok (.aload_n 2, 1) := by decide +kernel
theorem dX8_takeEffect_80 : decode cX8_takeEffect 80 = .ok (.iload_n 3, 1) := by decide +kernel
theorem dX8_takeEffect_81 : decode cX8_takeEffect 81 = .ok (.invokevirtual 368, 3) := by decide +kernel
theorem dX8_takeEffect_84 : decode cX8_takeEffect 84 = .ok (.invokevirtual 372, 3) := by decide +kernel
theorem dX8_takeEffect_87 : decode cX8_takeEffect 87 = .ok (.iinc 3 1, 3) := by decide +kernel
theorem dX8_takeEffect_90 : decode cX8_takeEffect 90 = .ok (.goto (-34), 3) := by decide +kernel
theorem dX8_takeEffect_93 : decode cX8_takeEffect 93 = .ok (.aload_n 0, 1) := by decide +kernel
theorem dX8_takeEffect_94 : decode cX8_takeEffect 94 = .ok (.aload_n 2, 1) := by decide +kernel
theorem dX8_takeEffect_95 : decode cX8_takeEffect 95 = .ok (.getfield 342, 3) := by decide +kernel
theorem dX8_takeEffect_98 : decode cX8_takeEffect 98 = .ok (.aload_n 2, 1) := by decide +kernel
theorem dX8_takeEffect_99 : decode cX8_takeEffect 99 = .ok (.getfield 301, 3) := by decide +kernel
theorem dX8_takeEffect_102 : decode cX8_takeEffect 102 = .ok (.invokevirtual 288, 3) := by decide +kernel
theorem dX8_takeEffect_105 : decode cX8_takeEffect 105 = .ok (.return_, 1) := by decide +kernel
theorem dX8_whatActTells_0 : decode cX8_whatActTells 0 = .ok (.aload_n 1, 1) := by decide +kernel
theorem dX8_whatActTells_1 : decode cX8_whatActTells 1 = .ok (.getfield 375, 3) := by decide +kernel
theorem dX8_whatActTells_4 : decode cX8_whatActTells 4 = .ok (.iload_n 2, 1) := by decide +kernel
theorem dX8_whatActTells_5 : decode cX8_whatActTells 5 = .ok (.laload, 1) := by decide +kernel
theorem dX8_whatActTells_6 : decode cX8_whatActTells 6 = .ok (.lstore_n 3, 1) := by decide +kernel
theorem dX8_whatActTells_7 : decode cX8_whatActTells 7 = .ok (.aload_n 1, 1) := by decide +kernel
theorem dX8_whatActTells_8 : decode cX8_whatActTells 8 = .ok (.getfield 378, 3) := by decide +kernel
theorem dX8_whatActTells_11 : decode cX8_whatActTells 11 = .ok (.iload_n 2, 1) := by decide +kernel
theorem dX8_whatActTells_12 : decode cX8_whatActTells 12 = .ok (.iaload, 1) := by decide +kernel
theorem dX8_whatActTells_13 : decode cX8_whatActTells 13 = .ok (.istore 5, 2) := by decide +kernel
theorem dX8_whatActTells_15 : decode cX8_whatActTells 15 = .ok (.aload_n 1, 1) := by decide +kernel
theorem dX8_whatActTells_16 : decode cX8_whatActTells 16 = .ok (.getfield 365, 3) := by decide +kernel
theorem dX8_whatActTells_19 : decode cX8_whatActTells 19 = .ok (.iload_n 2, 1) := by decide +kernel
theorem dX8_whatActTells_20 : decode cX8_whatActTells 20 = .ok (.iaload, 1) := by decide +kernel
theorem dX8_whatActTells_21 : decode cX8_whatActTells 21 = .ok (.ifCond .ne 9, 3) := by decide +kernel
theorem dX8_whatActTells_24 : decode cX8_whatActTells 24 = .ok (.lload_n 3, 1) := by decide +kernel
theorem dX8_whatActTells_25 : decode cX8_whatActTells 25 = .ok (.iload 5, 2) := by decide +kernel
theorem dX8_whatActTells_27 : decode cX8_whatActTells 27 = .ok (.i2l, 1) := by decide +kernel
theorem dX8_whatActTells_28 : decode cX8_whatActTells 28 = .ok (.ladd, 1) := by decide +kernel
theorem dX8_whatActTells_29 : decode cX8_whatActTells 29 = .ok (.lreturn, 1) := by decide +kernel
theorem dX8_whatActTells_30 : decode cX8_whatActTells 30 = .ok (.aload_n 0, 1) := by decide +kernel
theorem dX8_whatActTells_31 : decode cX8_whatActTells 31 = .ok (.getfield 10, 3) := by decide +kernel
theorem dX8_whatActTells_34 : decode cX8_whatActTells 34 = .ok (.getfield 74, 3) := by decide +kernel
theorem dX8_whatActTells_37 : decode cX8_whatActTells 37 = .ok (.getfield 93, 3) := by decide +kernel
theorem dX8_whatActTells_40 : decode cX8_whatActTells 40 = .ok (.iload 5, 2) := by decide +kernel
theorem dX8_whatActTells_42 : decode cX8_whatActTells 42 = .ok (.iaload, 1) := by decide +kernel
theorem dX8_whatActTells_43 : decode cX8_whatActTells 43 = .ok (.iconst 1, 1) := by decide +kernel
theorem dX8_whatActTells_44 : decode cX8_whatActTells 44 = .ok (.if_icmp .eq 28, 3) := by decide +kernel
theorem dX8_whatActTells_47 : decode cX8_whatActTells 47 = .ok (.iconst (-1), 1) := by decide +kernel
theorem dX8_whatActTells_48 : decode cX8_whatActTells 48 = .ok (.aload_n 0, 1) := by decide +kernel
theorem dX8_whatActTells_49 : decode cX8_whatActTells 49 = .ok (.getfield 10, 3) := by decide +kernel
theorem dX8_whatActTells_52 : decode cX8_whatActTells 52 = .ok (.getfield 74, 3) := by decide +kernel
theorem dX8_whatActTells_55 : decode cX8_whatActTells 55 = .ok (.getfield 93, 3) := by decide +kernel
theorem dX8_whatActTells_58 : decode cX8_whatActTells 58 = .ok (.iload 5, 2) := by decide +kernel
theorem dX8_whatActTells_60 : decode cX8_whatActTells 60 = .ok (.iaload, 1) := by decide +kernel
theorem dX8_whatActTells_61 : decode cX8_whatActTells 61 = .ok (.ifCond .ne 7, 3) := by decide +kernel
theorem dX8_whatActTells_64 : decode cX8_whatActTells 64 = .ok (.iconst 1, 1) := by decide +kernel
theorem dX8_whatActTells_65 : decode cX8_whatActTells 65 = .ok (.goto 4, 3) := by decide +kernel
theorem dX8_whatActTells_68 : decode cX8_whatActTells 68 = .ok (.iconst 3, 1) := by decide +kernel
theorem dX8_whatActTells_69 : decode cX8_whatActTells 69 = .ok (.isub, 1) := by decide +kernel
theorem dX8_whatActTells_70 : decode cX8_whatActTells 70 = .ok (.i2l, 1) := by decide +kernel
theorem dX8_whatActTells_71 : decode cX8_whatActTells 71 = .ok (.lreturn, 1) := by decide +kernel
theorem dX8_whatActTells_72 : decode cX8_whatActTells 72 = .ok (.aload_n 0, 1) := by decide +kernel
theorem dX8_whatActTells_73 : decode cX8_whatActTells 73 = .ok (.getfield 10, 3) := by decide +kernel
theorem dX8_whatActTells_76 : decode cX8_whatActTells 76 = .ok (.getfield 74, 3) := by decide +kernel
theorem dX8_whatActTells_79 : decode cX8_whatActTells 79 = .ok (.getfield 96, 3) := by decide +kernel
theorem dX8_whatActTells_82 : decode cX8_whatActTells 82 = .ok (.iload 5, 2) := by decide +kernel
theorem dX8_whatActTells_84 : decode cX8_whatActTells 84 = .ok (.laload, 1) := by decide +kernel
theorem dX8_whatActTells_85 : decode cX8_whatActTells 85 = .ok (.lstore 6, 2) := by decide +kernel
theorem dX8_whatActTells_87 : decode cX8_whatActTells 87 = .ok (.lload_n 3, 1) := by decide +kernel
theorem dX8_whatActTells_88 : decode cX8_whatActTells 88 = .ok (.lload 6, 2) := by decide +kernel
theorem dX8_whatActTells_90 : decode cX8_whatActTells 90 = .ok (.invokestatic 381, 3) := by decide +kernel
theorem dX8_whatActTells_93 : decode cX8_whatActTells 93 = .ok (.istore 8, 2) := by decide +kernel
theorem dX8_whatActTells_95 : decode cX8_whatActTells 95 = .ok (.iload 8, 2) := by decide +kernel
theorem dX8_whatActTells_97 : decode cX8_whatActTells 97 = .ok (.ifCond .ne 10, 3) := by decide +kernel
theorem dX8_whatActTells_100 : decode cX8_whatActTells 100 = .ok (.lload_n 3, 1) := by decide +kernel
theorem dX8_whatActTells_101 : decode cX8_whatActTells 101 = .ok (.lload 6, 2) := by decide +kernel
theorem dX8_whatActTells_103 : decode cX8_whatActTells 103 = .ok (.ldiv, 1) := by decide +kernel
theorem dX8_whatActTells_104 : decode cX8_whatActTells 104 = .ok (.goto 8, 3) := by decide +kernel
theorem dX8_whatActTells_107 : decode cX8_whatActTells 107 = .ok (.iconst (-1), 1) := by decide +kernel
theorem dX8_whatActTells_108 : decode cX8_whatActTells 108 = .ok (.iload 8, 2) := by decide +kernel
theorem dX8_whatActTells_110 : decode cX8_whatActTells 110 = .ok (.isub, 1) := by decide +kernel
theorem dX8_whatActTells_111 : decode cX8_whatActTells 111 = .ok (.i2l, 1) := by decide +kernel
theorem dX8_whatActTells_112 : decode cX8_whatActTells 112 = .ok (.lreturn, 1) := by decide +kernel
theorem dX9_init_0 : decode cX9_init 0 = .ok (.aload_n 0, 1) := by decide +kernel
theorem dX9_init_1 : decode cX9_init 1 = .ok (.invokespecial 1, 3) := by decide +kernel
theorem dX9_init_4 : decode cX9_init 4 = .ok (.aload_n 0, 1) := by decide +kernel
theorem dX9_init_5 : decode cX9_init 5 = .ok (.bipush 40, 2) := by decide +kernel
theorem dX9_init_7 : decode cX9_init 7 = .ok (.newarray .int, 2) := by decide +kernel
theorem dX9_init_9 : decode cX9_init 9 = .ok (.putfield 7, 3) := by decide +kernel
theorem dX9_init_12 : decode cX9_init 12 = .ok (.aload_n 0, 1) := by decide +kernel
theorem dX9_init_13 : decode cX9_init 13 = .ok (.bipush 40, 2) := by decide +kernel
theorem dX9_init_15 : decode cX9_init 15 = .ok (.newarray .long, 2) := by decide +kernel
theorem dX9_init_17 : decode cX9_init 17 = .ok (.putfield 13, 3) := by decide +kernel
theorem dX9_init_20 : decode cX9_init 20 = .ok (.aload_n 0, 1) := by decide +kernel
theorem dX9_init_21 : decode cX9_init 21 = .ok (.bipush 40, 2) := by decide +kernel
theorem dX9_init_23 : decode cX9_init 23 = .ok (.newarray .int, 2) := by decide +kernel
theorem dX9_init_25 : decode cX9_init 25 = .ok (.putfield 17, 3) := by decide +kernel
theorem dX9_init_28 : decode cX9_init 28 = .ok (.aload_n 0, 1) := by decide +kernel
theorem dX9_init_29 : decode cX9_init 29 = .ok (.bipush 40, 2) := by decide +kernel
theorem dX9_init_31 : decode cX9_init 31 = .ok (.newarray .int, 2) := by decide +kernel
theorem dX9_init_33 : decode cX9_init 33 = .ok (.putfield 20, 3) := by decide +kernel
theorem dX9_init_36 : decode cX9_init 36 = .ok (.aload_n 0, 1) := by decide +kernel
theorem dX9_init_37 : decode cX9_init 37 = .ok (.bipush 40, 2) := by decide +kernel
theorem dX9_init_39 : decode cX9_init 39 = .ok (.newarray .int, 2) := by decide +kernel
theorem dX9_init_41 : decode cX9_init 41 = .ok (.putfield 23, 3) := by decide +kernel
theorem dX9_init_44 : decode cX9_init 44 = .ok (.aload_n 0, 1) := by decide +kernel
theorem dX9_init_45 : decode cX9_init 45 = .ok (.bipush 40, 2) := by decide +kernel
theorem dX9_init_47 : decode cX9_init 47 = .ok (.newarray .int, 2) := by decide +kernel
theorem dX9_init_49 : decode cX9_init 49 = .ok (.putfield 26, 3) := by decide +kernel
theorem dX9_init_52 : decode cX9_init 52 = .ok (.aload_n 0, 1) := by decide +kernel
theorem dX9_init_53 : decode cX9_init 53 = .ok (.bipush 40, 2) := by decide +kernel
theorem dX9_init_55 : decode cX9_init 55 = .ok (.newarray .int, 2) := by decide +kernel
theorem dX9_init_57 : decode cX9_init 57 = .ok (.putfield 29, 3) := by decide +kernel
theorem dX9_init_60 : decode cX9_init 60 = .ok (.aload_n 0, 1) := by decide +kernel
theorem dX9_init_61 : decode cX9_init 61 = .ok (.sipush 480, 3) := by decide +kernel
theorem dX9_init_64 : decode cX9_init 64 = .ok (.newarray .int, 2) := by decide +kernel
theorem dX9_init_66 : decode cX9_init 66 = .ok (.putfield 32, 3) := by decide +kernel
theorem dX9_init_69 : decode cX9_init 69 = .ok (.aload_n 0, 1) := by decide +kernel
theorem dX9_init_70 : decode cX9_init 70 = .ok (.bipush 16, 2) := by decide +kernel
theorem dX9_init_72 : decode cX9_init 72 = .ok (.newarray .int, 2) := by decide +kernel
theorem dX9_init_74 : decode cX9_init 74 = .ok (.putfield 35, 3) := by decide +kernel
theorem dX9_init_77 : decode cX9_init 77 = .ok (.aload_n 0, 1) := by decide +kernel
theorem dX9_init_78 : decode cX9_init 78 = .ok (.sipush 384, 3) := by decide +kernel
theorem dX9_init_81 : decode cX9_init 81 = .ok (.newarray .int, 2) := by decide +kernel
theorem dX9_init_83 : decode cX9_init 83 = .ok (.putfield 38, 3) := by decide +kernel
theorem dX9_init_86 : decode cX9_init 86 = .ok (.aload_n 0, 1) := by decide +kernel
theorem dX9_init_87 : decode cX9_init 87 = .ok (.sipush 384, 3) := by decide +kernel
theorem dX9_init_90 : decode cX9_init 90 = .ok (.newarray .int, 2) := by decide +kernel
theorem dX9_init_92 : decode cX9_init 92 = .ok (.putfield 41, 3) := by decide +kernel
theorem dX9_init_95 : decode cX9_init 95 = .ok (.aload_n 0, 1) := by decide +kernel
theorem dX9_init_96 : decode cX9_init 96 = .ok (.sipush 384, 3) := by decide +kernel
theorem dX9_init_99 : decode cX9_init 99 = .ok (.newarray .int, 2) := by decide +kernel
theorem dX9_init_101 : decode cX9_init 101 = .ok (.putfield 44, 3) := by decide +kernel
theorem dX9_init_104 : decode cX9_init 104 = .ok (.aload_n 0, 1) := by decide +kernel
theorem dX9_init_105 : decode cX9_init 105 = .ok (.bipush 16, 2) := by decide +kernel
theorem dX9_init_107 : decode cX9_init 107 = .ok (.newarray .int, 2) := by decide +kernel
theorem dX9_init_109 : decode cX9_init 109 = .ok (.putfield 47, 3) := by decide +kernel
theorem dX9_init_112 : decode cX9_init 112 = .ok (.aload_n 0, 1) := by decide +kernel
theorem dX9_init_113 : decode cX9_init 113 = .ok (.bipush 10, 2) := by decide +kernel
theorem dX9_init_115 : decode cX9_init 115 = .ok (.newarray .int, 2) := by decide +kernel
theorem dX9_init_117 : decode cX9_init 117 = .ok (.putfield 50, 3) := by decide +kernel
theorem dX9_init_120 : decode cX9_init 120 = .ok (.aload_n 0, 1) := by decide +kernel
theorem dX9_init_121 : decode cX9_init 121 = .ok (.bipush 10, 2) := by decide +kernel
theorem dX9_init_123 : decode cX9_init 123 = .ok (.newarray .int, 2) := by decide +kernel
theorem dX9_init_125 : decode cX9_init 125 = .ok (.putfield 53, 3) := by decide +kernel
theorem dX9_init_128 : decode cX9_init 128 = .ok (.aload_n 0, 1) := by decide +kernel
theorem dX9_init_129 : decode cX9_init 129 = .ok (.bipush 10, 2) := by decide +kernel
theorem dX9_init_131 : decode cX9_init 131 = .ok (.newarray .int, 2) := by decide +kernel
theorem dX9_init_133 : decode cX9_init 133 = .ok (.putfield 56, 3) := by decide +kernel
theorem dX9_init_136 : decode cX9_init 136 = .ok (.aload_n 0, 1) := by decide +kernel
theorem dX9_init_137 : decode cX9_init 137 = .ok (.bipush 10, 2) := by decide +kernel
theorem dX9_init_139 : decode cX9_init 139 = .ok (.newarray .long, 2) := by decide +kernel
theorem dX9_init_141 : decode cX9_init 141 = .ok (.putfield 59, 3) := by decide +kernel
theorem dX9_init_144 : decode cX9_init 144 = .ok (.aload_n 0, 1) := by decide +kernel
theorem dX9_init_145 : decode cX9_init 145 = .ok (.bipush 20, 2) := by decide +kernel
theorem dX9_init_147 : decode cX9_init 147 = .ok (.newarray .int, 2) := by decide +kernel
theorem dX9_init_149 : decode cX9_init 149 = .ok (.putfield 62, 3) := by decide +kernel
theorem dX9_init_152 : decode cX9_init 152 = .ok (.aload_n 0, 1) := by decide +kernel
theorem dX9_init_153 : decode cX9_init 153 = .ok (.bipush 20, 2) := by decide +kernel
theorem dX9_init_155 : decode cX9_init 155 = .ok (.newarray .int, 2) := by decide +kernel
theorem dX9_init_157 : decode cX9_init 157 = .ok (.putfield 65, 3) := by decide +kernel
theorem dX9_init_160 : decode cX9_init 160 = .ok (.aload_n 0, 1) := by decide +kernel
theorem dX9_init_161 : decode cX9_init 161 = .ok (.bipush 20, 2) := by decide +kernel
theorem dX9_init_163 : decode cX9_init 163 = .ok (.newarray .int, 2) := by decide +kernel
theorem dX9_init_165 : decode cX9_init 165 = .ok (.putfield 68, 3) := by decide +kernel
theorem dX9_init_168 : decode cX9_init 168 = .ok (.aload_n 0, 1) := by decide +kernel
theorem dX9_init_169 : decode cX9_init 169 = .ok (.bipush 20, 2) := by decide +kernel
theorem dX9_init_171 : decode cX9_init 171 = .ok (.newarray .int, 2) := by decide +kernel
theorem dX9_init_173 : decode cX9_init 173 = .ok (.putfield 71, 3) := by decide +kernel
theorem dX9_init_176 : decode cX9_init 176 = .ok (.aload_n 0, 1) := by decide +kernel
theorem dX9_init_177 : decode cX9_init 177 = .ok (.bipush 20, 2) := by decide +kernel
theorem dX9_init_179 : decode cX9_init 179 = .ok (.newarray .int, 2) := by decide +kernel
theorem dX9_init_181 : decode cX9_init 181 = .ok (.putfield 74, 3) := by decide +kernel
theorem dX9_init_184 : decode cX9_init 184 = .ok (.aload_n 0, 1) := by decide +kernel
theorem dX9_init_185 : decode cX9_init 185 = .ok (.bipush 20, 2) := by decide +kernel
theorem dX9_init_187 : decode cX9_init 187 = .ok (.newarray .int, 2) := by decide +kernel
theorem dX9_init_189 : decode cX9_init 189 = .ok (.putfield 77, 3) := by decide +kernel
theorem dX9_init_192 : decode cX9_init 192 = .ok (.aload_n 0, 1) := by decide +kernel
theorem dX9_init_193 : decode cX9_init 193 = .ok (.bipush 20, 2) := by decide +kernel
theorem dX9_init_195 : decode cX9_init 195 = .ok (.newarray .int, 2) := by decide +kernel
theorem dX9_init_197 : decode cX9_init 197 = .ok (.putfield 80, 3) := by decide +kernel
theorem dX9_init_200 : decode cX9_init 200 = .ok (.aload_n 0, 1) := by decide +kernel
theorem dX9_init_201 : decode cX9_init 201 = .ok (.bipush 20, 2) := by decide +kernel
theorem dX9_init_203 : decode cX9_init 203 = .ok (.newarray .int, 2) := by decide +kernel
theorem dX9_init_205 : decode cX9_init 205 = .ok (.putfield 83, 3) := by decide +kernel
theorem dX9_init_208 : decode cX9_init 208 = .ok (.aload_n 0, 1) := by decide +kernel
theorem dX9_init_209 : decode cX9_init 209 = .ok (.bipush 20, 2) := by decide +kernel
theorem dX9_init_211 : decode cX9_init 211 = .ok (.newarray .int, 2) := by decide +kernel
theorem dX9_init_213 : decode cX9_init 213 = .ok (.putfield 86, 3) := by decide +kernel
theorem dX9_init_216 : decode cX9_init 216 = .ok (.aload_n 0, 1) := by decide +kernel
theorem dX9_init_217 : decode cX9_init 217 = .ok (.sipush 160, 3) := by decide +kernel
theorem dX9_init_220 : decode cX9_init 220 = .ok (.newarray .long, 2) := by decide +kernel
theorem dX9_init_222 : decode cX9_init 222 = .ok (.putfield 89, 3) := by decide +kernel
theorem dX9_init_225 : decode cX9_init 225 = .ok (.aload_n 0, 1) := by decide +kernel
theorem dX9_init_226 : decode cX9_init 226 = .ok (.bipush 20, 2) := by decide +kernel
theorem dX9_init_228 : decode cX9_init 228 = .ok (.newarray .int, 2) := by decide +kernel
theorem dX9_init_230 : decode cX9_init 230 = .ok (.putfield 92, 3) := by decide +kernel
theorem dX9_init_233 : decode cX9_init 233 = .ok (.aload_n 0, 1) := by decide +kernel
theorem dX9_init_234 : decode cX9_init 234 = .ok (.bipush 20, 2) := by decide +kernel
theorem dX9_init_236 : decode cX9_init 236 = .ok (.newarray .boolean, 2) := by decide +kernel
theorem dX9_init_238 : decode cX9_init 238 = .ok (.putfield 95, 3) := by decide +kernel
theorem dX9_init_241 : decode cX9_init 241 = .ok (.aload_n 0, 1) := by decide +kernel
theorem dX9_init_242 : decode cX9_init 242 = .ok (.bipush 20, 2) := by decide +kernel
theorem dX9_init_244 : decode cX9_init 244 = .ok (.newarray .int, 2) := by decide +kernel
theorem dX9_init_246 : decode cX9_init 246 = .ok (.putfield 99, 3) := by decide +kernel
theorem dX9_init_249 : decode cX9_init 249 = .ok (.aload_n 0, 1) := by decide +kernel
theorem dX9_init_250 : decode cX9_init 250 = .ok (.bipush 20, 2) := by decide +kernel
theorem dX9_init_252 : decode cX9_init 252 = .ok (.newarray .int, 2) := by decide +kernel
theorem dX9_init_254 : decode cX9_init 254 = .ok (.putfield 102, 3) := by decide +kernel
theorem dX9_init_257 : decode cX9_init 257 = .ok (.aload_n 0, 1) := by decide +kernel
theorem dX9_init_258 : decode cX9_init 258 = .ok (.sipush 800, 3) := by decide +kernel
theorem dX9_init_261 : decode cX9_init 261 = .ok (.newarray .boolean, 2) := by decide +kernel
theorem dX9_init_263 : decode cX9_init 263 = .ok (.putfield 105, 3) := by decide +kernel
theorem dX9_init_266 : decode cX9_init 266 = .ok (.aload_n 0, 1) := by decide +kernel
theorem dX9_init_267 : decode cX9_init 267 = .ok (.bipush 20, 2) := by decide +kernel
theorem dX9_init_269 : decode cX9_init 269 = .ok (.newarray .int, 2) := by decide +kernel
theorem dX9_init_271 : decode cX9_init 271 = .ok (.putfield 108, 3) := by decide +kernel
theorem dX9_init_274 : decode cX9_init 274 = .ok (.aload_n 0, 1) := by decide +kernel
theorem dX9_init_275 : decode cX9_init 275 = .ok (.bipush 120, 2) := by decide +kernel
theorem dX9_init_277 : decode cX9_init 277 = .ok (.newarray .int, 2) := by decide +kernel
theorem dX9_init_279 : decode cX9_init 279 = .ok (.putfield 111, 3) := by decide +kernel
theorem dX9_init_282 : decode cX9_init 282 = .ok (.aload_n 0, 1) := by decide +kernel
theorem dX9_init_283 : decode cX9_init 283 = .ok (.bipush 120, 2) := by decide +kernel
theorem dX9_init_285 : decode cX9_init 285 = .ok (.newarray .int, 2) := by decide +kernel
theorem dX9_init_287 : decode cX9_init 287 = .ok (.putfield 114, 3) := by decide +kernel
theorem dX9_init_290 : decode cX9_init 290 = .ok (.aload_n 0, 1) := by decide +kernel
theorem dX9_init_291 : decode cX9_init 291 = .ok (.iconst 1, 1) := by decide +kernel
theorem dX9_init_292 : decode cX9_init 292 = .ok (.putfield 117, 3) := by decide +kernel
theorem dX9_init_295 : decode cX9_init 295 = .ok (.aload_n 0, 1) := by decide +kernel
theorem dX9_init_296 : decode cX9_init 296 = .ok (.bipush 20, 2) := by decide +kernel
theorem dX9_init_298 : decode cX9_init 298 = .ok (.newarray .int, 2) := by decide +kernel
theorem dX9_init_300 : decode cX9_init 300 = .ok (.putfield 121, 3) := by decide +kernel
theorem dX9_init_303 : decode cX9_init 303 = .ok (.aload_n 0, 1) := by decide +kernel
theorem dX9_init_304 : decode cX9_init 304 = .ok (.bipush 40, 2) := by decide +kernel
theorem dX9_init_306 : decode cX9_init 306 = .ok (.newarray .int, 2) := by decide +kernel
theorem dX9_init_308 : decode cX9_init 308 = .ok (.putfield 124, 3) := by decide +kernel
theorem dX9_init_311 : decode cX9_init 311 = .ok (.aload_n 0, 1) := by decide +kernel
theorem dX9_init_312 : decode cX9_init 312 = .ok (.bipush 40, 2) := by decide +kernel
theorem dX9_init_314 : decode cX9_init 314 = .ok (.newarray .int, 2) := by decide +kernel
theorem dX9_init_316 : decode cX9_init 316 = .ok (.putfield 127, 3) := by decide +kernel
theorem dX9_init_319 : decode cX9_init 319 = .ok (.aload_n 0, 1) := by decide +kernel
theorem dX9_init_320 : decode cX9_init 320 = .ok (.bipush 40, 2) := by decide +kernel
theorem dX9_init_322 : decode cX9_init 322 = .ok (.newarray .long, 2) := by decide +kernel
theorem dX9_init_324 : decode cX9_init 324 = .ok (.putfield 130, 3) := by decide +kernel
theorem dX9_init_327 : decode cX9_init 327 = .ok (.aload_n 0, 1) := by decide +kernel
theorem dX9_init_328 : decode cX9_init 328 = .ok (.iconst 4, 1) := by decide +kernel
theorem dX9_init_329 : decode cX9_init 329 = .ok (.newarray .int, 2) := by decide +kernel
theorem dX9_init_331 : decode cX9_init 331 = .ok (.putfield 133, 3) := by decide +kernel
theorem dX9_init_334 : decode cX9_init 334 = .ok (.aload_n 0, 1) := by decide +kernel
theorem dX9_init_335 : decode cX9_init 335 = .ok (.iconst 4, 1) := by decide +kernel
theorem dX9_init_336 : decode cX9_init 336 = .ok (.newarray .int, 2) := by decide +kernel
theorem dX9_init_338 : decode cX9_init 338 = .ok (.putfield 136, 3) := by decide +kernel
theorem dX9_init_341 : decode cX9_init 341 = .ok (.aload_n 0, 1) := by decide +kernel
theorem dX9_init_342 : decode cX9_init 342 = .ok (.iconst 4, 1) := by decide +kernel
theorem dX9_init_343 : decode cX9_init 343 = .ok (.newarray .int, 2) := by decide +kernel
theorem dX9_init_345 : decode cX9_init 345 = .ok (.putfield 139, 3) := by decide +kernel
theorem dX9_init_348 : decode cX9_init 348 = .ok (.aload_n 0, 1) := by decide +kernel
theorem dX9_init_349 : decode cX9_init 349 = .ok (.iconst 4, 1) := by decide +kernel
theorem dX9_init_350 : decode cX9_init 350 = .ok (.newarray .int, 2) := by decide +kernel
theorem dX9_init_352 : decode cX9_init 352 = .ok (.putfield 142, 3) := by decide +kernel
theorem dX9_init_355 : decode cX9_init 355 = .ok (.aload_n 0, 1) := by decide +kernel
theorem dX9_init_356 : decode cX9_init 356 = .ok (.sipush 160, 3) := by decide +kernel
theorem dX9_init_359 : decode cX9_init 359 = .ok (.newarray .boolean, 2) := by decide +kernel
theorem dX9_init_361 : decode cX9_init 361 = .ok (.putfield 145, 3) := by decide +kernel
theorem dX9_init_364 : decode cX9_init 364 = .ok (.aload_n 0, 1) := by decide +kernel
theorem dX9_init_365 : decode cX9_init 365 = .ok (.sipush 160, 3) := by decide +kernel
theorem dX9_init_368 : decode cX9_init 368 = .ok (.newarray .int, 2) := by decide +kernel
theorem dX9_init_370 : decode cX9_init 370 = .ok (.putfield 148, 3) := by decide +kernel
theorem dX9_init_373 : decode cX9_init 373 = .ok (.aload_n 0, 1) := by decide +kernel
theorem dX9_init_374 : decode cX9_init 374 = .ok (.sipush 160, 3) := by decide +kernel
theorem dX9_init_377 : decode cX9_init 377 = .ok (.newarray .long, 2) := by decide +kernel
theorem dX9_init_379 : decode cX9_init 379 = .ok (.putfield 151, 3) := by decide +kernel
theorem dX9_init_382 : decode cX9_init 382 = .ok (.aload_n 0, 1) := by decide +kernel
theorem dX9_init_383 : decode cX9_init 383 = .ok (.sipush 160, 3) := by decide +kernel
theorem dX9_init_386 : decode cX9_init 386 = .ok (.newarray .int, 2) := by decide +kernel
theorem dX9_init_388 : decode cX9_init 388 = .ok (.putfield 154, 3) := by decide +kernel
theorem dX9_init_391 : decode cX9_init 391 = .ok (.aload_n 0, 1) := by decide +kernel
theorem dX9_init_392 : decode cX9_init 392 = .ok (.sipush 160, 3) := by decide +kernel
theorem dX9_init_395 : decode cX9_init 395 = .ok (.newarray .int, 2) := by decide +kernel
theorem dX9_init_397 : decode cX9_init 397 = .ok (.putfield 157, 3) := by decide +kernel
theorem dX9_init_400 : decode cX9_init 400 = .ok (.aload_n 0, 1) := by decide +kernel
theorem dX9_init_401 : decode cX9_init 401 = .ok (.sipush 160, 3) := by decide +kernel
theorem dX9_init_404 : decode cX9_init 404 = .ok (.newarray .boolean, 2) := by decide +kernel
theorem dX9_init_406 : decode cX9_init 406 = .ok (.putfield 160, 3) := by decide +kernel
theorem dX9_init_409 : decode cX9_init 409 = .ok (.aload_n 0, 1) := by decide +kernel
theorem dX9_init_410 : decode cX9_init 410 = .ok (.sipush 160, 3) := by decide +kernel
theorem dX9_init_413 : decode cX9_init 413 = .ok (.newarray .int, 2) := by decide +kernel
theorem dX9_init_415 : decode cX9_init 415 = .ok (.putfield 163, 3) := by decide +kernel
theorem dX9_init_418 : decode cX9_init 418 = .ok (.aload_n 0, 1) := by decide +kernel
theorem dX9_init_419 : decode cX9_init 419 = .ok (.iconst 4, 1) := by decide +kernel
theorem dX9_init_420 : decode cX9_init 420 = .ok (.newarray .int, 2) := by decide +kernel
theorem dX9_init_422 : decode cX9_init 422 = .ok (.putfield 166, 3) := by decide +kernel
theorem dX9_init_425 : decode cX9_init 425 = .ok (.aload_n 0, 1) := by decide +kernel
theorem dX9_init_426 : decode cX9_init 426 = .ok (.bipush 32, 2) := by decide +kernel
theorem dX9_init_428 : decode cX9_init 428 = .ok (.newarray .long, 2) := by decide +kernel
theorem dX9_init_430 : decode cX9_init 430 = .ok (.putfield 169, 3) := by decide +kernel
theorem dX9_init_433 : decode cX9_init 433 = .ok (.aload_n 0, 1) := by decide +kernel
theorem dX9_init_434 : decode cX9_init 434 = .ok (.iconst 4, 1) := by decide +kernel
theorem dX9_init_435 : decode cX9_init 435 = .ok (.newarray .int, 2) := by decide +kernel
theorem dX9_init_437 : decode cX9_init 437 = .ok (.putfield 172, 3) := by decide +kernel
theorem dX9_init_440 : decode cX9_init 440 = .ok (.aload_n 0, 1) := by decide +kernel
theorem dX9_init_441 : decode cX9_init 441 = .ok (.sipush 160, 3) := by decide +kernel
theorem dX9_init_444 : decode cX9_init 444 = .ok (.newarray .int, 2) := by decide +kernel
theorem dX9_init_446 : decode cX9_init 446 = .ok (.putfield 175, 3) := by decide +kernel
theorem dX9_init_449 : decode cX9_init 449 = .ok (.aload_n 0, 1) := by decide +kernel
theorem dX9_init_450 : decode cX9_init 450 = .ok (.sipush 160, 3) := by decide +kernel
theorem dX9_init_453 : decode cX9_init 453 = .ok (.newarray .int, 2) := by decide +kernel
theorem dX9_init_455 : decode cX9_init 455 = .ok (.putfield 178, 3) := by decide +kernel
theorem dX9_init_458 : decode cX9_init 458 = .ok (.aload_n 0, 1) := by decide +kernel
theorem dX9_init_459 : decode cX9_init 459 = .ok (.sipush 160, 3) := by decide +kernel
theorem dX9_init_462 : decode cX9_init 462 = .ok (.newarray .long, 2) := by decide +kernel
theorem dX9_init_464 : decode cX9_init 464 = .ok (.putfield 181, 3) := by decide +kernel
theorem dX9_init_467 : decode cX9_init 467 = .ok (.aload_n 0, 1) := by decide +kernel
theorem dX9_init_468 : decode cX9_init 468 = .ok (.iconst 4, 1) := by decide +kernel
theorem dX9_init_469 : decode cX9_init 469 = .ok (.newarray .int, 2) := by decide +kernel
theorem dX9_init_471 : decode cX9_init 471 = .ok (.putfield 184, 3) := by decide +kernel
theorem dX9_init_474 : decode cX9_init 474 = .ok (.aload_n 0, 1) := by decide +kernel
theorem dX9_init_475 : decode cX9_init 475 = .ok (.bipush 24, 2) := by decide +kernel
theorem dX9_init_477 : decode cX9_init 477 = .ok (.newarray .int, 2) := by decide +kernel
theorem dX9_init_479 : decode cX9_init 479 = .ok (.putfield 187, 3) := by decide +kernel
theorem dX9_init_482 : decode cX9_init 482 = .ok (.aload_n 0, 1) := by decide +kernel
theorem dX9_init_483 : decode cX9_init 483 = .ok (.bipush 24, 2) := by decide +kernel
theorem dX9_init_485 : decode cX9_init 485 = .ok (.newarray .int, 2) := by decide +kernel
theorem dX9_init_487 : decode cX9_init 487 = .ok (.putfield 190, 3) := by decide +kernel
theorem dX9_init_490 : decode cX9_init 490 = .ok (.aload_n 0, 1) := by decide +kernel
theorem dX9_init_491 : decode cX9_init 491 = .ok (.bipush 24, 2) := by decide +kernel
theorem dX9_init_493 : decode cX9_init 493 = .ok (.newarray .int, 2) := by decide +kernel
theorem dX9_init_495 : decode cX9_init 495 = .ok (.putfield 193, 3) := by decide +kernel
theorem dX9_init_498 : decode cX9_init 498 = .ok (.aload_n 0, 1) := by decide +kernel
theorem dX9_init_499 : decode cX9_init 499 = .ok (.bipush 24, 2) := by decide +kernel
theorem dX9_init_501 : decode cX9_init 501 = .ok (.newarray .long, 2) := by decide +kernel
theorem dX9_init_503 : decode cX9_init 503 = .ok (.putfield 196, 3) := by decide +kernel
theorem dX9_init_506 : decode cX9_init 506 = .ok (.aload_n 0, 1) := by decide +kernel
theorem dX9_init_507 : decode cX9_init 507 = .ok (.bipush 24, 2) := by decide +kernel
theorem dX9_init_509 : decode cX9_init 509 = .ok (.newarray .int, 2) := by decide +kernel
theorem dX9_init_511 : decode cX9_init 511 = .ok (.putfield 199, 3) := by decide +kernel
theorem dX9_init_514 : decode cX9_init 514 = .ok (.aload_n 0, 1) := by decide +kernel
theorem dX9_init_515 : decode cX9_init 515 = .ok (.bipush 24, 2) := by decide +kernel
theorem dX9_init_517 : decode cX9_init 517 = .ok (.newarray .int, 2) := by decide +kernel
theorem dX9_init_519 : decode cX9_init 519 = .ok (.putfield 202, 3) := by decide +kernel
theorem dX9_init_522 : decode cX9_init 522 = .ok (.aload_n 0, 1) := by decide +kernel
theorem dX9_init_523 : decode cX9_init 523 = .ok (.sipush 240, 3) := by decide +kernel
theorem dX9_init_526 : decode cX9_init 526 = .ok (.newarray .boolean, 2) := by decide +kernel
theorem dX9_init_528 : decode cX9_init 528 = .ok (.putfield 205, 3) := by decide +kernel
theorem dX9_init_531 : decode cX9_init 531 = .ok (.aload_n 0, 1) := by decide +kernel
theorem dX9_init_532 : decode cX9_init 532 = .ok (.sipush 240, 3) := by decide +kernel
theorem dX9_init_535 : decode cX9_init 535 = .ok (.newarray .int, 2) := by decide +kernel
theorem dX9_init_537 : decode cX9_init 537 = .ok (.putfield 208, 3) := by decide +kernel
theorem dX9_init_540 : decode cX9_init 540 = .ok (.aload_n 0, 1) := by decide +kernel
theorem dX9_init_541 : decode cX9_init 541 = .ok (.sipush 240, 3) := by decide +kernel
theorem dX9_init_544 : decode cX9_init 544 = .ok (.newarray .long, 2) := by decide +kernel
theorem dX9_init_546 : decode cX9_init 546 = .ok (.putfield 211, 3) := by decide +kernel
theorem dX9_init_549 : decode cX9_init 549 = .ok (.aload_n 0, 1) := by decide +kernel
theorem dX9_init_550 : decode cX9_init 550 = .ok (.sipush 240, 3) := by decide +kernel
theorem dX9_init_553 : decode cX9_init 553 = .ok (.newarray .int, 2) := by decide +kernel
theorem dX9_init_555 : decode cX9_init 555 = .ok (.putfield 214, 3) := by decide +kernel
theorem dX9_init_558 : decode cX9_init 558 = .ok (.aload_n 0, 1) := by decide +kernel
theorem dX9_init_559 : decode cX9_init 559 = .ok (.sipush 240, 3) := by decide +kernel
theorem dX9_init_562 : decode cX9_init 562 = .ok (.newarray .int, 2) := by decide +kernel
theorem dX9_init_564 : decode cX9_init 564 = .ok (.putfield 217, 3) := by decide +kernel
theorem dX9_init_567 : decode cX9_init 567 = .ok (.aload_n 0, 1) := by decide +kernel
theorem dX9_init_568 : decode cX9_init 568 = .ok (.iconst 4, 1) := by decide +kernel
theorem dX9_init_569 : decode cX9_init 569 = .ok (.newarray .int, 2) := by decide +kernel
theorem dX9_init_571 : decode cX9_init 571 = .ok (.putfield 220, 3) := by decide +kernel
theorem dX9_init_574 : decode cX9_init 574 = .ok (.iconst 0, 1) := by decide +kernel
theorem dX9_init_575 : decode cX9_init 575 = .ok (.istore_n 1, 1) := by decide +kernel
theorem dX9_init_576 : decode cX9_init 576 = .ok (.iload_n 1, 1) := by decide +kernel
theorem dX9_init_577 : decode cX9_init 577 = .ok (.bipush 40, 2) := by decide +kernel
theorem dX9_init_579 : decode cX9_init 579 = .ok (.if_icmp .ge 16, 3) := by decide +kernel
theorem dX9_init_582 : decode cX9_init 582 = .ok (.aload_n 0, 1) := by decide +kernel
theorem dX9_init_583 : decode cX9_init 583 = .ok (.getfield 26, 3) := by decide +kernel
theorem dX9_init_586 : decode cX9_init 586 = .ok (.iload_n 1, 1) := by decide +kernel
theorem dX9_init_587 : decode cX9_init 587 = .ok (.iconst (-1), 1) := by decide +kernel
theorem dX9_init_588 : decode cX9_init 588 = .ok (.iastore, 1) := by decide +kernel
theorem dX9_init_589 : decode cX9_init 589 = .ok (.iinc 1 1, 3) := by decide +kernel
theorem dX9_init_592 : decode cX9_init 592 = .ok (.goto (-16), 3) := by decide +kernel
theorem dX9_init_595 : decode cX9_init 595 = .ok (.return_, 1) := by decide +kernel
theorem dX9_in_0 : decode cX9_in 0 = .ok (.lload_n 0, 1) := by decide +kernel
theorem dX9_in_1 : decode cX9_in 1 = .ok (.lload_n 2, 1) := by decide +kernel
theorem dX9_in_2 : decode cX9_in 2 = .ok (.lcmp, 1) := by decide +kernel
theorem dX9_in_3 : decode cX9_in 3 = .ok (.ifCond .lt 14, 3) := by decide +kernel
theorem dX9_in_6 : decode cX9_in 6 = .ok (.lload_n 0, 1) := by decide +kernel
theorem dX9_in_7 : decode cX9_in 7 = .ok (.lload 4, 2) := by decide +kernel
theorem dX9_in_9 : decode cX9_in 9 = .ok (.lcmp, 1) := by decide +kernel
theorem dX9_in_10 : decode cX9_in 10 = .ok (.ifCond .gt 7, 3) := by decide +kernel
theorem dX9_in_13 : decode cX9_in 13 = .ok (.iconst 1, 1) := by decide +kernel
theorem dX9_in_14 : decode cX9_in 14 = .ok (.goto 4, 3) := by decide +kernel
theorem dX9_in_17 : decode cX9_in 17 = .ok (.iconst 0, 1) := by decide +kernel
theorem dX9_in_18 : decode cX9_in 18 = .ok (.ireturn, 1) := by decide +kernel
theorem dX9_isCell_0 : decode cX9_isCell 0 = .ok (.lload_n 0, 1) := by decide +kernel
theorem dX9_isCell_1 : decode cX9_isCell 1 = .ok (.lconst 0, 1) := by decide +kernel
theorem dX9_isCell_2 : decode cX9_isCell 2 = .ok (.ldc2_w 223, 3) := by decide +kernel
theorem dX9_isCell_5 : decode cX9_isCell 5 = .ok (.invokestatic 225, 3) := by decide +kernel
theorem dX9_isCell_8 : decode cX9_isCell 8 = .ok (.ireturn, 1) := by decide +kernel
theorem dX9_isTrade_0 : decode cX9_isTrade 0 = .ok (.iload_n 0, 1) := by decide +kernel
theorem dX9_isTrade_1 : decode cX9_isTrade 1 = .ok (.i2l, 1) := by decide +kernel
theorem dX9_isTrade_2 : decode cX9_isTrade 2 = .ok (.lconst 0, 1) := by decide +kernel
theorem dX9_isTrade_3 : decode cX9_isTrade 3 = .ok (.ldc2_w 229, 3) := by decide +kernel
theorem dX9_isTrade_6 : decode cX9_isTrade 6 = .ok (.invokestatic 225, 3) := by decide +kernel
theorem dX9_isTrade_9 : decode cX9_isTrade 9 = .ok (.ireturn, 1) := by decide +kernel
theorem dX9_isTicket_0 : decode cX9_isTicket 0 = .ok (.iload_n 1, 1) := by decide +kernel
theorem dX9_isTicket_1 : decode cX9_isTicket 1 = .ok (.i2l, 1) := by decide +kernel
theorem dX9_isTicket_2 : decode cX9_isTicket 2 = .ok (.lconst 0, 1) := by decide +kernel
theorem dX9_isTicket_3 : decode cX9_isTicket 3 = .ok (.aload_n 0, 1) := by decide +kernel
theorem dX9_isTicket_4 : decode cX9_isTicket 4 = .ok (.getfield 231, 3) := by decide +kernel
theorem dX9_isTicket_7 : decode cX9_isTicket 7 = .ok (.iconst 1, 1) := by decide +kernel
theorem dX9_isTicket_8 : decode cX9_isTicket 8 = .ok (.isub, 1) := by decide +kernel
theorem dX9_isTicket_9 : decode cX9_isTicket 9 = .ok (.i2l, 1) := by decide +kernel
theorem dX9_isTicket_10 : decode cX9_isTicket 10 = .ok (.invokestatic 225, 3) := by decide +kernel
theorem dX9_isTicket_13 : decode cX9_isTicket 13 = .ok (.ireturn, 1) := by decide +kernel
theorem dX9_tells_0 : decode cX9_tells 0 = .ok (.aload_n 0, 1) := by decide +kernel
theorem dX9_tells_1 : decode cX9_tells 1 = .ok (.getfield 7, 3) := by decide +kernel
theorem dX9_tells_4 : decode cX9_tells 4 = .ok (.iload_n 1, 1) := by decide +kernel
theorem dX9_tells_5 : decode cX9_tells 5 = .ok (.iload_n 2, 1) := by decide +kernel
theorem dX9_tells_6 : decode cX9_tells 6 = .ok (.iastore, 1) := by decide +kernel
theorem dX9_tells_7 : decode cX9_tells 7 = .ok (.aload_n 0, 1) := by decide +kernel
theorem dX9_tells_8 : decode cX9_tells 8 = .ok (.getfield 13, 3) := by decide +kernel
theorem dX9_tells_11 : decode cX9_tells 11 = .ok (.iload_n 1, 1) := by decide +kernel
theorem dX9_tells_12 : decode cX9_tells 12 = .ok (.lload_n 3, 1) := by decide +kernel
theorem dX9_tells_13 : decode cX9_tells 13 = .ok (.lastore, 1) := by decide +kernel
theorem dX9_tells_14 : decode cX9_tells 14 = .ok (.aload_n 0, 1) := by decide +kernel
theorem dX9_tells_15 : decode cX9_tells 15 = .ok (.getfield 17, 3) := by decide +kernel
theorem dX9_tells_18 : decode cX9_tells 18 = .ok (.iload_n 1, 1) := by decide +kernel
theorem dX9_tells_19 : decode cX9_tells 19 = .ok (.iload 5, 2) := by decide +kernel
theorem dX9_tells_21 : decode cX9_tells 21 = .ok (.iastore, 1) := by decide +kernel
theorem dX9_tells_22 : decode cX9_tells 22 = .ok (.aload_n 0, 1) := by decide +kernel
theorem dX9_tells_23 : decode cX9_tells 23 = .ok (.getfield 20, 3) := by decide +kernel
theorem dX9_tells_26 : decode cX9_tells 26 = .ok (.iload_n 1, 1) := by decide +kernel
theorem dX9_tells_27 : decode cX9_tells 27 = .ok (.iload 6, 2) := by decide +kernel
theorem dX9_tells_29 : decode cX9_tells 29 = .ok (.iastore, 1) := by decide +kernel
theorem dX9_tells_30 : decode cX9_tells 30 = .ok (.aload_n 0, 1) := by decide +kernel
theorem dX9_tells_31 : decode cX9_tells 31 = .ok (.getfield 23, 3) := by decide +kernel
theorem dX9_tells_34 : decode cX9_tells 34 = .ok (.iload_n 1, 1) := by decide +kernel
theorem dX9_tells_35 : decode cX9_tells 35 = .ok (.dup2, 1) := by decide +kernel
theorem dX9_tells_36 : decode cX9_tells 36 = .ok (.iaload, 1) := by decide +kernel
theorem dX9_tells_37 : decode cX9_tells 37 = .ok (.iconst 1, 1) := by decide +kernel
theorem dX9_tells_38 : decode cX9_tells 38 = .ok (.iadd, 1) := by decide +kernel
theorem dX9_tells_39 : decode cX9_tells 39 = .ok (.iastore, 1) := by decide +kernel
theorem dX9_tells_40 : decode cX9_tells 40 = .ok (.aload_n 0, 1) := by decide +kernel
theorem dX9_tells_41 : decode cX9_tells 41 = .ok (.getfield 26, 3) := by decide +kernel
theorem dX9_tells_44 : decode cX9_tells 44 = .ok (.iload_n 1, 1) := by decide +kernel
theorem dX9_tells_45 : decode cX9_tells 45 = .ok (.iconst (-1), 1) := by decide +kernel
theorem dX9_tells_46 : decode cX9_tells 46 = .ok (.iastore, 1) := by decide +kernel
theorem dX9_tells_47 : decode cX9_tells 47 = .ok (.iconst 0, 1) := by decide +kernel
theorem dX9_tells_48 : decode cX9_tells 48 = .ok (.istore 7, 2) := by decide +kernel
theorem dX9_tells_50 : decode cX9_tells 50 = .ok (.iload 7, 2) := by decide +kernel
theorem dX9_tells_52 : decode cX9_tells 52 = .ok (.aload_n 0, 1) := by decide +kernel
theorem dX9_tells_53 : decode cX9_tells 53 = .ok (.getfield 231, 3) := by decide +kernel
theorem dX9_tells_56 : decode cX9_tells 56 = .ok (.if_icmp .ge 59, 3) := by decide +kernel
theorem dX9_tells_59 : decode cX9_tells 59 = .ok (.aload_n 0, 1) := by decide +kernel
theorem dX9_tells_60 : decode cX9_tells 60 = .ok (.getfield 65, 3) := by decide +kernel
theorem dX9_tells_63 : decode cX9_tells 63 = .ok (.iload 7, 2) := by decide +kernel
theorem dX9_tells_65 : decode cX9_tells 65 = .ok (.iaload, 1) := by decide +kernel
theorem dX9_tells_66 : decode cX9_tells 66 = .ok (.iconst 3, 1) := by decide +kernel
theorem dX9_tells_67 : decode cX9_tells 67 = .ok (.if_icmp .ne 42, 3) := by decide +kernel
theorem dX9_tells_70 : decode cX9_tells 70 = .ok (.aload_n 0, 1) := by decide +kernel
theorem dX9_tells_71 : decode cX9_tells 71 = .ok (.getfield 105, 3) := by decide +kernel
theorem dX9_tells_74 : decode cX9_tells 74 = .ok (.bipush 40, 2) := by decide +kernel
theorem dX9_tells_76 : decode cX9_tells 76 = .ok (.iload 7, 2) := by decide +kernel
theorem dX9_tells_78 : decode cX9_tells 78 = .ok (.imul, 1) := by decide +kernel
theorem dX9_tells_79 : decode cX9_tells 79 = .ok (.iload_n 1, 1) := by decide +kernel
theorem dX9_tells_80 : decode cX9_tells 80 = .ok (.iadd, 1) := by decide +kernel
theorem dX9_tells_81 : decode cX9_tells 81 = .ok (.baload, 1) := by decide +kernel
theorem dX9_tells_82 : decode cX9_tells 82 = .ok (.ifCond .eq 27, 3) := by decide +kernel
theorem dX9_tells_85 : decode cX9_tells 85 = .ok (.aload_n 0, 1) := by decide +kernel
theorem dX9_tells_86 : decode cX9_tells 86 = .ok (.getfield 65, 3) := by decide +kernel
theorem dX9_tells_89 : decode cX9_tells 89 = .ok (.iload 7, 2) := by decide +kernel
theorem dX9_tells_91 : decode cX9_tells 91 = .ok (.iconst 0, 1) := by decide +kernel
theorem dX9_tells_92 : decode cX9_tells 92 = .ok (.iastore, 1) := by decide +kernel
theorem dX9_tells_93 : decode cX9_tells 93 = .ok (.aload_n 0, 1) := by decide +kernel
theorem dX9_tells_94 : decode cX9_tells 94 = .ok (.getfield 83, 3) := by decide +kernel
theorem dX9_tells_97 : decode cX9_tells 97 = .ok (.iload 7, 2) := by decide +kernel
theorem dX9_tells_99 : decode cX9_tells 99 = .ok (.iload_n 1, 1) := by decide +kernel
theorem dX9_tells_100 : decode cX9_tells 100 = .ok (.iastore, 1) := by decide +kernel
theorem dX9_tells_101 : decode cX9_tells 101 = .ok (.aload_n 0, 1) := by decide +kernel
theorem dX9_tells_102 : decode cX9_tells 102 = .ok (.getfield 86, 3) := by decide +kernel
theorem dX9_tells_105 : decode cX9_tells 105 = .ok (.iload 7, 2) := by decide +kernel
theorem dX9_tells_107 : decode cX9_tells 107 = .ok (.iconst (-1), 1) := by decide +kernel
theorem dX9_tells_108 : decode cX9_tells 108 = .ok (.iastore, 1) := by decide +kernel
theorem dX9_tells_109 : decode cX9_tells 109 = .ok (.iinc 7 1, 3) := by decide +kernel
theorem dX9_tells_112 : decode cX9_tells 112 = .ok (.goto (-62), 3) := by decide +kernel
theorem dX9_tells_115 : decode cX9_tells 115 = .ok (.aload_n 0, 1) := by decide +kernel
theorem dX9_tells_116 : decode cX9_tells 116 = .ok (.getfield 23, 3) := by decide +kernel
theorem dX9_tells_119 : decode cX9_tells 119 = .ok (.iload_n 1, 1) := by decide +kernel
theorem dX9_tells_120 : decode cX9_tells 120 = .ok (.iaload, 1) := by decide +kernel
theorem dX9_tells_121 : decode cX9_tells 121 = .ok (.ireturn, 1) := by decide +kernel
theorem dX9_number_0 : decode cX9_number 0 = .ok (.iload_n 1, 1) := by decide +kernel
theorem dX9_number_1 : decode cX9_number 1 = .ok (.i2l, 1) := by decide +kernel
theorem dX9_number_2 : decode cX9_number 2 = .ok (.invokestatic 234, 3) := by decide +kernel
theorem dX9_number_5 : decode cX9_number 5 = .ok (.ifCond .eq 15, 3) := by decide +kernel
theorem dX9_number_8 : decode cX9_number 8 = .ok (.aload_n 0, 1) := by decide +kernel
theorem dX9_number_9 : decode cX9_number 9 = .ok (.iload_n 1, 1) := by decide +kernel
theorem dX9_number_10 : decode cX9_number 10 = .ok (.iconst 1, 1) := by decide +kernel
theorem dX9_number_11 : decode cX9_number 11 = .ok (.lload_n 2, 1) := by decide +kernel
theorem dX9_number_12 : decode cX9_number 12 = .ok (.iconst 0, 1) := by decide +kernel
theorem dX9_number_13 : decode cX9_number 13 = .ok (.iconst 0, 1) := by decide +kernel
theorem dX9_number_14 : decode cX9_number 14 = .ok (.invokevirtual 238, 3) := by decide +kernel
theorem dX9_number_17 : decode cX9_number 17 = .ok (.goto 5, 3) := by decide +kernel
theorem dX9_number_20 : decode cX9_number 20 = .ok (.bipush (-2), 2) := by decide +kernel
theorem dX9_number_22 : decode cX9_number 22 = .ok (.ireturn, 1) := by decide +kernel
theorem dX9_lot_0 : decode cX9_lot 0 = .ok (.iload_n 1, 1) := by decide +kernel
theorem dX9_lot_1 : decode cX9_lot 1 = .ok (.i2l, 1) := by decide +kernel
theorem dX9_lot_2 : decode cX9_lot 2 = .ok (.invokestatic 234, 3) := by decide +kernel
theorem dX9_lot_5 : decode cX9_lot 5 = .ok (.ifCond .eq 44, 3) := by decide +kernel
theorem dX9_lot_8 : decode cX9_lot 8 = .ok (.iload_n 2, 1) := by decide +kernel
theorem dX9_lot_9 : decode cX9_lot 9 = .ok (.i2l, 1) := by decide +kernel
theorem dX9_lot_10 : decode cX9_lot 10 = .ok (.lconst 0, 1) := by decide +kernel
theorem dX9_lot_11 : decode cX9_lot 11 = .ok (.ldc2_w 242, 3) := by decide +kernel
theorem dX9_lot_14 : decode cX9_lot 14 = .ok (.invokestatic 225, 3) := by decide +kernel
theorem dX9_lot_17 : decode cX9_lot 17 = .ok (.ifCond .eq 32, 3) := by decide +kernel
theorem dX9_lot_20 : decode cX9_lot 20 = .ok (.iload_n 3, 1) := by decide +kernel
theorem dX9_lot_21 : decode cX9_lot 21 = .ok (.i2l, 1) := by decide +kernel
theorem dX9_lot_22 : decode cX9_lot 22 = .ok (.lconst 0, 1) := by decide +kernel
theorem dX9_lot_23 : decode cX9_lot 23 = .ok (.ldc2_w 242, 3) := by decide +kernel
theorem dX9_lot_26 : decode cX9_lot 26 = .ok (.invokestatic 225, 3) := by decide +kernel
theorem dX9_lot_29 : decode cX9_lot 29 = .ok (.ifCond .eq 20, 3) := by decide +kernel
theorem dX9_lot_32 : decode cX9_lot 32 = .ok (.iload 4, 2) := by decide +kernel
theorem dX9_lot_34 : decode cX9_lot 34 = .ok (.i2l, 1) := by decide +kernel
theorem dX9_lot_35 : decode cX9_lot 35 = .ok (.lconst 0, 1) := by decide +kernel
theorem dX9_lot_36 : decode cX9_lot 36 = .ok (.ldc2_w 244, 3) := by decide +kernel
theorem dX9_lot_39 : decode cX9_lot 39 = .ok (.invokestatic 225, 3) := by decide +kernel
theorem dX9_lot_42 : decode cX9_lot 42 = .ok (.ifCond .eq 7, 3) := by decide +kernel
theorem dX9_lot_45 : decode cX9_lot 45 = .ok (.iconst 1, 1) := by decide +kernel
theorem dX9_lot_46 : decode cX9_lot 46 = .ok (.goto 4, 3) := by decide +kernel
theorem dX9_lot_49 : decode cX9_lot 49 = .ok (.iconst 0, 1) := by decide +kernel
theorem dX9_lot_50 : decode cX9_lot 50 = .ok (.istore 5, 2) := by decide +kernel
theorem dX9_lot_52 : decode cX9_lot 52 = .ok (.iload 5, 2) := by decide +kernel
theorem dX9_lot_54 : decode cX9_lot 54 = .ok (.ifCond .eq 17, 3) := by decide +kernel
theorem dX9_lot_57 : decode cX9_lot 57 = .ok (.aload_n 0, 1) := by decide +kernel
theorem dX9_lot_58 : decode cX9_lot 58 = .ok (.iload_n 1, 1) := by decide +kernel
theorem dX9_lot_59 : decode cX9_lot 59 = .ok (.iconst 2, 1) := by decide +kernel
theorem dX9_lot_60 : decode cX9_lot 60 = .ok (.iload 4, 2) := by decide +kernel
theorem dX9_lot_62 : decode cX9_lot 62 = .ok (.i2l, 1) := by decide +kernel
theorem dX9_lot_63 : decode cX9_lot 63 = .ok (.iload_n 2, 1) := by decide +kernel
theorem dX9_lot_64 : decode cX9_lot 64 = .ok (.iload_n 3, 1) := by decide +kernel
theorem dX9_lot_65 : decode cX9_lot 65 = .ok (.invokevirtual 238, 3) := by decide +kernel
theorem dX9_lot_68 : decode cX9_lot 68 = .ok (.goto 5, 3) := by decide +kernel
theorem dX9_lot_71 : decode cX9_lot 71 = .ok (.bipush (-2), 2) := by decide +kernel
theorem dX9_lot_73 : decode cX9_lot 73 = .ok (.ireturn, 1) := by decide +kernel
theorem dX9_empty_0 : decode cX9_empty 0 = .ok (.iload_n 1, 1) := by decide +kernel
theorem dX9_empty_1 : decode cX9_empty 1 = .ok (.i2l, 1) := by decide +kernel
theorem dX9_empty_2 : decode cX9_empty 2 = .ok (.invokestatic 234, 3) := by decide +kernel
theorem dX9_empty_5 : decode cX9_empty 5 = .ok (.ifCond .eq 15, 3) := by decide +kernel
theorem dX9_empty_8 : decode cX9_empty 8 = .ok (.aload_n 0, 1) := by decide +kernel
theorem dX9_empty_9 : decode cX9_empty 9 = .ok (.iload_n 1, 1) := by decide +kernel
theorem dX9_empty_10 : decode cX9_empty 10 = .ok (.iconst 0, 1) := by decide +kernel
theorem dX9_empty_11 : decode cX9_empty 11 = .ok (.lconst 0, 1) := by decide +kernel
theorem dX9_empty_12 : decode cX9_empty 12 = .ok (.iconst 0, 1) := by decide +kernel
theorem dX9_empty_13 : decode cX9_empty 13 = .ok (.iconst 0, 1) := by decide +kernel
theorem dX9_empty_14 : decode cX9_empty 14 = .ok (.invokevirtual 238, 3) := by decide +kernel
theorem dX9_empty_17 : decode cX9_empty 17 = .ok (.goto 5, 3) := by decide +kernel
theorem dX9_empty_20 : decode cX9_empty 20 = .ok (.bipush (-2), 2) := by decide +kernel
theorem dX9_empty_22 : decode cX9_empty 22 = .ok (.ireturn, 1) := by decide +kernel
theorem dX9_holds_0 : decode cX9_holds 0 = .ok (.iload_n 1, 1) := by decide +kernel
theorem dX9_holds_1 : decode cX9_holds 1 = .ok (.i2l, 1) := by decide +kernel
theorem dX9_holds_2 : decode cX9_holds 2 = .ok (.invokestatic 234, 3) := by decide +kernel
theorem dX9_holds_5 : decode cX9_holds 5 = .ok (.ifCond .eq 12, 3) := by decide +kernel
theorem dX9_holds_8 : decode cX9_holds 8 = .ok (.aload_n 0, 1) := by decide +kernel
theorem dX9_holds_9 : decode cX9_holds 9 = .ok (.getfield 7, 3) := by decide +kernel
theorem dX9_holds_12 : decode cX9_holds 12 = .ok (.iload_n 1, 1) := by decide +kernel
theorem dX9_holds_13 : decode cX9_holds 13 = .ok (.iaload, 1) := by decide +kernel
theorem dX9_holds_14 : decode cX9_holds 14 = .ok (.goto 5, 3) := by decide +kernel
theorem dX9_holds_17 : decode cX9_holds 17 = .ok (.bipush (-2), 2) := by decide +kernel
theorem dX9_holds_19 : decode cX9_holds 19 = .ok (.ireturn, 1) := by decide +kernel
theorem dX9_value_0 : decode cX9_value 0 = .ok (.iload_n 1, 1) := by decide +kernel
theorem dX9_value_1 : decode cX9_value 1 = .ok (.i2l, 1) := by decide +kernel
theorem dX9_value_2 : decode cX9_value 2 = .ok (.invokestatic 234, 3) := by decide +kernel
theorem dX9_value_5 : decode cX9_value 5 = .ok (.ifCond .eq 21, 3) := by decide +kernel
theorem dX9_value_8 : decode cX9_value 8 = .ok (.aload_n 0, 1) := by decide +kernel
theorem dX9_value_9 : decode cX9_value 9 = .ok (.getfield 7, 3) := by decide +kernel
theorem dX9_value_12 : decode cX9_value 12 = .ok (.iload_n 1, 1) := by decide +kernel
theorem dX9_value_13 : decode cX9_value 13 = .ok (.iaload, 1) := by decide +kernel
theorem dX9_value_14 : decode cX9_value 14 = .ok (.ifCond .le 12, 3) := by decide +kernel
theorem dX9_value_17 : decode cX9_value 17 = .ok (.aload_n 0, 1) := by decide +kernel
theorem dX9_value_18 : decode cX9_value 18 = .ok (.getfield 13, 3) := by decide +kernel
theorem dX9_value_21 : decode cX9_value 21 = .ok (.iload_n 1, 1) := by decide +kernel
theorem dX9_value_22 : decode cX9_value 22 = .ok (.laload, 1) := by decide +kernel
theorem dX9_value_23 : decode cX9_value 23 = .ok (.goto 4, 3) := by decide +kernel
theorem dX9_value_26 : decode cX9_value 26 = .ok (.lconst 0, 1) := by decide +kernel
theorem dX9_value_27 : decode cX9_value 27 = .ok (.lreturn, 1) := by decide +kernel
theorem dX9_cell_0 : decode cX9_cell 0 = .ok (.iload_n 1, 1) := by decide +kernel
theorem dX9_cell_1 : decode cX9_cell 1 = .ok (.i2l, 1) := by decide +kernel
theorem dX9_cell_2 : decode cX9_cell 2 = .ok (.invokestatic 234, 3) := by decide +kernel
theorem dX9_cell_5 : decode cX9_cell 5 = .ok (.ifCond .ne 6, 3) := by decide +kernel
theorem dX9_cell_8 : decode cX9_cell 8 = .ok (.bipush (-2), 2) := by decide +kernel
theorem dX9_cell_10 : decode cX9_cell 10 = .ok (.ireturn, 1) := by decide +kernel
theorem dX9_cell_11 : decode cX9_cell 11 = .ok (.iload_n 2, 1) := by decide +kernel
theorem dX9_cell_12 : decode cX9_cell 12 = .ok (.tableswitch 88 0 3 #[32, 39, 46, 67], 32) := by decide +kernel
theorem dX9_cell_44 : decode cX9_cell 44 = .ok (.aload_n 0, 1) := by decide +kernel
theorem dX9_cell_45 : decode cX9_cell 45 = .ok (.getfield 23, 3) := by decide +kernel
theorem dX9_cell_48 : decode cX9_cell 48 = .ok (.iload_n 1, 1) := by decide +kernel
theorem dX9_cell_49 : decode cX9_cell 49 = .ok (.iaload, 1) := by decide +kernel
theorem dX9_cell_50 : decode cX9_cell 50 = .ok (.ireturn, 1) := by decide +kernel
theorem dX9_cell_51 : decode cX9_cell 51 = .ok (.aload_n 0, 1) := by decide +kernel
theorem dX9_cell_52 : decode cX9_cell 52 = .ok (.getfield 26, 3) := by decide +kernel
theorem dX9_cell_55 : decode cX9_cell 55 = .ok (.iload_n 1, 1) := by decide +kernel
theorem dX9_cell_56 : decode cX9_cell 56 = .ok (.iaload, 1) := by decide +kernel
theorem dX9_cell_57 : decode cX9_cell 57 = .ok (.ireturn, 1) := by decide +kernel
theorem dX9_cell_58 : decode cX9_cell 58 = .ok (.aload_n 0, 1) := by decide +kernel
theorem dX9_cell_59 : decode cX9_cell 59 = .ok (.getfield 7, 3) := by decide +kernel
theorem dX9_cell_62 : decode cX9_cell 62 = .ok (.iload_n 1, 1) := by decide +kernel
theorem dX9_cell_63 : decode cX9_cell 63 = .ok (.iaload, 1) := by decide +kernel
theorem dX9_cell_64 : decode cX9_cell 64 = .ok (.iconst 2, 1) := by decide +kernel
theorem dX9_cell_65 : decode cX9_cell 65 = .ok (.if_icmp .ne 12, 3) := by decide +kernel
theorem dX9_cell_68 : decode cX9_cell 68 = .ok (.aload_n 0, 1) := by decide +kernel
theorem dX9_cell_69 : decode cX9_cell 69 = .ok (.getfield 17, 3) := by decide +kernel
theorem dX9_cell_72 : decode cX9_cell 72 = .ok (.iload_n 1, 1) := by decide +kernel
theorem dX9_cell_73 : decode cX9_cell 73 = .ok (.iaload, 1) := by decide +kernel
theorem dX9_cell_74 : decode cX9_cell 74 = .ok (.goto 4, 3) := by decide +kernel
theorem dX9_cell_77 : decode cX9_cell 77 = .ok (.iconst (-1), 1) := by decide +kernel
theorem dX9_cell_78 : decode cX9_cell 78 = .ok (.ireturn, 1) := by decide +kernel
theorem dX9_cell_79 : decode cX9_cell 79 = .ok (.aload_n 0, 1) := by decide +kernel
theorem dX9_cell_80 : decode cX9_cell 80 = .ok (.getfield 7, 3) := by decide +kernel
theorem dX9_cell_83 : decode cX9_cell 83 = .ok (.iload_n 1, 1) := by decide +kernel
theorem dX9_cell_84 : decode cX9_cell 84 = .ok (.iaload, 1) := by decide +kernel
theorem dX9_cell_85 : decode cX9_cell 85 = .ok (.iconst 2, 1) := by decide +kernel
theorem dX9_cell_86 : decode cX9_cell 86 = .ok (.if_icmp .ne 12, 3) := by decide +kernel
theorem dX9_cell_89 : decode cX9_cell 89 = .ok (.aload_n 0, 1) := by decide +kernel
theorem dX9_cell_90 : decode cX9_cell 90 = .ok (.getfield 20, 3) := by decide +kernel
theorem dX9_cell_93 : decode cX9_cell 93 = .ok (.iload_n 1, 1) := by decide +kernel
theorem dX9_cell_94 : decode cX9_cell 94 = .ok (.iaload, 1) := by decide +kernel
theorem dX9_cell_95 : decode cX9_cell 95 = .ok (.goto 4, 3) := by decide +kernel
theorem dX9_cell_98 : decode cX9_cell 98 = .ok (.iconst (-1), 1) := by decide +kernel
theorem dX9_cell_99 : decode cX9_cell 99 = .ok (.ireturn, 1) := by decide +kernel
theorem dX9_cell_100 : decode cX9_cell 100 = .ok (.bipush (-2), 2) := by decide +kernel
theorem dX9_cell_102 : decode cX9_cell 102 = .ok (.ireturn, 1) := by decide +kernel
theorem dX9_history_0 : decode cX9_history 0 = .ok (.iload_n 1, 1) := by decide +kernel
theorem dX9_history_1 : decode cX9_history 1 = .ok (.i2l, 1) := by decide +kernel
theorem dX9_history_2 : decode cX9_history 2 = .ok (.invokestatic 234, 3) := by decide +kernel
theorem dX9_history_5 : decode cX9_history 5 = .ok (.ifCond .ne 6, 3) := by decide +kernel
theorem dX9_history_8 : decode cX9_history 8 = .ok (.bipush (-2), 2) := by decide +kernel
theorem dX9_history_10 : decode cX9_history 10 = .ok (.ireturn, 1) := by decide +kernel
theorem dX9_history_11 : decode cX9_history 11 = .ok (.iload_n 2, 1) := by decide +kernel
theorem dX9_history_12 : decode cX9_history 12 = .ok (.i2l, 1) := by decide +kernel
theorem dX9_history_13 : decode cX9_history 13 = .ok (.lconst 0, 1) := by decide +kernel
theorem dX9_history_14 : decode cX9_history 14 = .ok (.ldc2_w 246, 3) := by decide +kernel
theorem dX9_history_17 : decode cX9_history 17 = .ok (.invokestatic 225, 3) := by decide +kernel
theorem dX9_history_20 : decode cX9_history 20 = .ok (.ifCond .eq 27, 3) := by decide +kernel
theorem dX9_history_23 : decode cX9_history 23 = .ok (.iload_n 2, 1) := by decide +kernel
theorem dX9_history_24 : decode cX9_history 24 = .ok (.aload_n 0, 1) := by decide +kernel
theorem dX9_history_25 : decode cX9_history 25 = .ok (.getfield 29, 3) := by decide +kernel
theorem dX9_history_28 : decode cX9_history 28 = .ok (.iload_n 1, 1) := by decide +kernel
theorem dX9_history_29 : decode cX9_history 29 = .ok (.iaload, 1) := by decide +kernel
theorem dX9_history_30 : decode cX9_history 30 = .ok (.if_icmp .ge 17, 3) := by decide +kernel
theorem dX9_history_33 : decode cX9_history 33 = .ok (.aload_n 0, 1) := by decide +kernel
theorem dX9_history_34 : decode cX9_history 34 = .ok (.getfield 32, 3) := by decide +kernel
theorem dX9_history_37 : decode cX9_history 37 = .ok (.bipush 12, 2) := by decide +kernel
theorem dX9_history_39 : decode cX9_history 39 = .ok (.iload_n 1, 1) := by decide +kernel
theorem dX9_history_40 : decode cX9_history 40 = .ok (.imul, 1) := by decide +kernel
theorem dX9_history_41 : decode cX9_history 41 = .ok (.iload_n 2, 1) := by decide +kernel
theorem dX9_history_42 : decode cX9_history 42 = .ok (.iadd, 1) := by decide +kernel
theorem dX9_history_43 : decode cX9_history 43 = .ok (.iaload, 1) := by decide +kernel
theorem dX9_history_44 : decode cX9_history 44 = .ok (.goto 4, 3) := by decide +kernel
theorem dX9_history_47 : decode cX9_history 47 = .ok (.iconst (-1), 1) := by decide +kernel
theorem dX9_history_48 : decode cX9_history 48 = .ok (.ireturn, 1) := by decide +kernel
theorem dX9_stock_0 : decode cX9_stock 0 = .ok (.iload_n 1, 1) := by decide +kernel
theorem dX9_stock_1 : decode cX9_stock 1 = .ok (.i2l, 1) := by decide +kernel
theorem dX9_stock_2 : decode cX9_stock 2 = .ok (.lconst 0, 1) := by decide +kernel
theorem dX9_stock_3 : decode cX9_stock 3 = .ok (.lconst 1, 1) := by decide +kernel
theorem dX9_stock_4 : decode cX9_stock 4 = .ok (.invokestatic 225, 3) := by decide +kernel
theorem dX9_stock_7 : decode cX9_stock 7 = .ok (.ifCond .eq 15, 3) := by decide +kernel
theorem dX9_stock_10 : decode cX9_stock 10 = .ok (.iload_n 2, 1) := by decide +kernel
theorem dX9_stock_11 : decode cX9_stock 11 = .ok (.i2l, 1) := by decide +kernel
theorem dX9_stock_12 : decode cX9_stock 12 = .ok (.lconst 0, 1) := by decide +kernel
theorem dX9_stock_13 : decode cX9_stock 13 = .ok (.ldc2_w 242, 3) := by decide +kernel
theorem dX9_stock_16 : decode cX9_stock 16 = .ok (.invokestatic 225, 3) := by decide +kernel
theorem dX9_stock_19 : decode cX9_stock 19 = .ok (.ifCond .ne 7, 3) := by decide +kernel
theorem dX9_stock_22 : decode cX9_stock 22 = .ok (.ldc2_w 248, 3) := by decide +kernel
theorem dX9_stock_25 : decode cX9_stock 25 = .ok (.lreturn, 1) := by decide +kernel
theorem dX9_stock_26 : decode cX9_stock 26 = .ok (.lconst 0, 1) := by decide +kernel
theorem dX9_stock_27 : decode cX9_stock 27 = .ok (.lstore_n 3, 1) := by decide +kernel
theorem dX9_stock_28 : decode cX9_stock 28 = .ok (.iconst 0, 1) := by decide +kernel
theorem dX9_stock_29 : decode cX9_stock 29 = .ok (.istore 5, 2) := by decide +kernel
theorem dX9_stock_31 : decode cX9_stock 31 = .ok (.iload 5, 2) := by decide +kernel
theorem dX9_stock_33 : decode cX9_stock 33 = .ok (.bipush 40, 2) := by decide +kernel
theorem dX9_stock_35 : decode cX9_stock 35 = .ok (.if_icmp .ge 59, 3) := by decide +kernel
theorem dX9_stock_38 : decode cX9_stock 38 = .ok (.lload_n 3, 1) := by decide +kernel
theorem dX9_stock_39 : decode cX9_stock 39 = .ok (.aload_n 0, 1) := by decide +kernel
theorem dX9_stock_40 : decode cX9_stock 40 = .ok (.getfield 7, 3) := by decide +kernel
theorem dX9_stock_43 : decode cX9_stock 43 = .ok (.iload 5, 2) := by decide +kernel
theorem dX9_stock_45 : decode cX9_stock 45 = .ok (.iaload, 1) := by decide +kernel
theorem dX9_stock_46 : decode cX9_stock 46 = .ok (.iconst 2, 1) := by decide +kernel
theorem dX9_stock_47 : decode cX9_stock 47 = .ok (.if_icmp .ne 38, 3) := by decide +kernel
theorem dX9_stock_50 : decode cX9_stock 50 = .ok (.iload_n 1, 1) := by decide +kernel
theorem dX9_stock_51 : decode cX9_stock 51 = .ok (.ifCond .ne 13, 3) := by decide +kernel
theorem dX9_stock_54 : decode cX9_stock 54 = .ok (.aload_n 0, 1) := by decide +kernel
theorem dX9_stock_55 : decode cX9_stock 55 = .ok (.getfield 17, 3) := by decide +kernel
theorem dX9_stock_58 : decode cX9_stock 58 = .ok (.iload 5, 2) := by decide +kernel
theorem dX9_stock_60 : decode cX9_stock 60 = .ok (.iaload, 1) := by decide +kernel
theorem dX9_stock_61 : decode cX9_stock 61 = .ok (.goto 10, 3) := by decide +kernel
theorem dX9_stock_64 : decode cX9_stock 64 = .ok (.aload_n 0, 1) := by decide +kernel
theorem dX9_stock_65 : decode cX9_stock 65 = .ok (.getfield 20, 3) := by decide +kernel
theorem dX9_stock_68 : decode cX9_stock 68 = .ok (.iload 5, 2) := by decide +kernel
theorem dX9_stock_70 : decode cX9_stock 70 = .ok (.iaload, 1) := by decide +kernel
theorem dX9_stock_71 : decode cX9_stock 71 = .ok (.iload_n 2, 1) := by decide +kernel
theorem dX9_stock_72 : decode cX9_stock 72 = .ok (.if_icmp .ne 13, 3) := by decide +kernel
theorem dX9_stock_75 : decode cX9_stock 75 = .ok (.aload_n 0, 1) := by decide +kernel
theorem dX9_stock_76 : decode cX9_stock 76 = .ok (.getfield 13, 3) := by decide +kernel
theorem dX9_stock_79 : decode cX9_stock 79 = .ok (.iload 5, 2) := by decide +kernel
theorem dX9_stock_81 : decode cX9_stock 81 = .ok (.laload, 1) := by decide +kernel
theorem dX9_stock_82 : decode cX9_stock 82 = .ok (.goto 4, 3) := by decide +kernel
theorem dX9_stock_85 : decode cX9_stock 85 = .ok (.lconst 0, 1) := by decide +kernel
theorem dX9_stock_86 : decode cX9_stock 86 = .ok (.ladd, 1) := by decide +kernel
theorem dX9_stock_87 : decode cX9_stock 87 = .ok (.lstore_n 3, 1) := by decide +kernel
theorem dX9_stock_88 : decode cX9_stock 88 = .ok (.iinc 5 1, 3) := by decide +kernel
theorem dX9_stock_91 : decode cX9_stock 91 = .ok (.goto (-60), 3) := by decide +kernel
theorem dX9_stock_94 : decode cX9_stock 94 = .ok (.lload_n 3, 1) := by decide +kernel
theorem dX9_stock_95 : decode cX9_stock 95 = .ok (.lreturn, 1) := by decide +kernel
theorem dX9_isStep_0 : decode cX9_isStep 0 = .ok (.iload_n 0, 1) := by decide +kernel
theorem dX9_isStep_1 : decode cX9_isStep 1 = .ok (.tableswitch 177 1 19 #[91, 91, 91, 177, 177, 91, 177, 91, 91, 97, 97, 177, 119, 177, 177, 129, 129, 134, 154], 91) := by decide +kernel
theorem dX9_isStep_92 : decode cX9_isStep 92 = .ok (.iload_n 1, 1) := by decide +kernel
theorem dX9_isStep_93 : decode cX9_isStep 93 = .ok (.i2l, 1) := by decide +kernel
theorem dX9_isStep_94 : decode cX9_isStep 94 = .ok (.invokestatic 234, 3) := by decide +kernel
theorem dX9_isStep_97 : decode cX9_isStep 97 = .ok (.ireturn, 1) := by decide +kernel
theorem dX9_isStep_98 : decode cX9_isStep 98 = .ok (.iload_n 1, 1) := by decide +kernel
theorem dX9_isStep_99 : decode cX9_isStep 99 = .ok (.i2l, 1) := by decide +kernel
theorem dX9_isStep_100 : decode cX9_isStep 100 = .ok (.invokestatic 234, 3) := by decide +kernel
theorem dX9_isStep_103 : decode cX9_isStep 103 = .ok (.ifCond .eq 15, 3) := by decide +kernel
theorem dX9_isStep_106 : decode cX9_isStep 106 = .ok (.iload_n 2, 1) := by decide +kernel
theorem dX9_isStep_107 : decode cX9_isStep 107 = .ok (.i2l, 1) := by decide +kernel
theorem dX9_isStep_108 : decode cX9_isStep 108 = .ok (.invokestatic 234, 3) := by decide +kernel
theorem dX9_isStep_111 : decode cX9_isStep 111 = .ok (.ifCond .eq 7, 3) := by decide +kernel
theorem dX9_isStep_114 : decode cX9_isStep 114 = .ok (.iconst 1, 1) := by decide +kernel
theorem dX9_isStep_115 : decode cX9_isStep 115 = .ok (.goto 4, 3) := by decide +kernel
theorem dX9_isStep_118 : decode cX9_isStep 118 = .ok (.iconst 0, 1) := by decide +kernel
theorem dX9_isStep_119 : decode cX9_isStep 119 = .ok (.ireturn, 1) := by decide +kernel
theorem dX9_isStep_120 : decode cX9_isStep 120 = .ok (.iload_n 1, 1) := by decide +kernel
theorem dX9_isStep_121 : decode cX9_isStep 121 = .ok (.i2l, 1) := by decide +kernel
theorem dX9_isStep_122 : decode cX9_isStep 122 = .ok (.lconst 0, 1) := by decide +kernel
theorem dX9_isStep_123 : decode cX9_isStep 123 = .ok (.ldc2_w 250, 3) := by decide +kernel
theorem dX9_isStep_126 : decode cX9_isStep 126 = .ok (.invokestatic 225, 3) := by decide +kernel
theorem dX9_isStep_129 : decode cX9_isStep 129 = .ok (.ireturn, 1) := by decide +kernel
theorem dX9_isStep_130 : decode cX9_isStep 130 = .ok (.iload_n 1, 1) := by decide +kernel
theorem dX9_isStep_131 : decode cX9_isStep 131 = .ok (.invokestatic 252, 3) := by decide +kernel
theorem dX9_isStep_134 : decode cX9_isStep 134 = .ok (.ireturn, 1) := by decide +kernel
theorem dX9_isStep_135 : decode cX9_isStep 135 = .ok (.iload_n 1, 1) := by decide +kernel
theorem dX9_isStep_136 : decode cX9_isStep 136 = .ok (.invokestatic 252, 3) := by decide +kernel
theorem dX9_isStep_139 : decode cX9_isStep 139 = .ok (.ifCond .eq 14, 3) := by decide +kernel
theorem dX9_isStep_142 : decode cX9_isStep 142 = .ok (.iload_n 2, 1) := by decide +kernel
theorem dX9_isStep_143 : decode cX9_isStep 143 = .ok (.invokestatic 252, 3) := by decide +kernel
theorem dX9_isStep_146 : decode cX9_isStep 146 = .ok (.ifCond .eq 7, 3) := by decide +kernel
theorem dX9_isStep_149 : decode cX9_isStep 149 = .ok (.iconst 1, 1) := by decide +kernel
theorem dX9_isStep_150 : decode cX9_isStep 150 = .ok (.goto 4, 3) := by decide +kernel
theorem dX9_isStep_153 : decode cX9_isStep 153 = .ok (.iconst 0, 1) := by decide +kernel
theorem dX9_isStep_154 : decode cX9_isStep 154 = .ok (.ireturn, 1) := by decide +kernel
theorem dX9_isStep_155 : decode cX9_isStep 155 = .ok (.iload_n 1, 1) := by decide +kernel
theorem dX9_isStep_156 : decode cX9_isStep 156 = .ok (.ifCond .eq 16, 3) := by decide +kernel
theorem dX9_isStep_159 : decode cX9_isStep 159 = .ok (.iload_n 1, 1) := by decide +kernel
theorem dX9_isStep_160 : decode cX9_isStep 160 = .ok (.iconst 1, 1) := by decide +kernel
theorem dX9_isStep_161 : decode cX9_isStep 161 = .ok (.if_icmp .ne 15, 3) := by decide +kernel
theorem dX9_isStep_164 : decode cX9_isStep 164 = .ok (.iload_n 2, 1) := by decide +kernel
theorem dX9_isStep_165 : decode cX9_isStep 165 = .ok (.i2l, 1) := by decide +kernel
theorem dX9_isStep_166 : decode cX9_isStep 166 = .ok (.invokestatic 234, 3) := by decide +kernel
theorem dX9_isStep_169 : decode cX9_isStep 169 = .ok (.ifCond .eq 7, 3) := by decide +kernel
theorem dX9_isStep_172 : decode cX9_isStep 172 = .ok (.iconst 1, 1) := by decide +kernel
theorem dX9_isStep_173 : decode cX9_isStep 173 = .ok (.goto 4, 3) := by decide +kernel
theorem dX9_isStep_176 : decode cX9_isStep 176 = .ok (.iconst 0, 1) := by decide +kernel
theorem dX9_isStep_177 : decode cX9_isStep 177 = .ok (.ireturn, 1) := by decide +kernel
theorem dX9_isStep_178 : decode cX9_isStep 178 = .ok (.iload_n 0, 1) := by decide +kernel
theorem dX9_isStep_179 : decode cX9_isStep 179 = .ok (.i2l, 1) := by decide +kernel
theorem dX9_isStep_180 : decode cX9_isStep 180 = .ok (.lconst 0, 1) := by decide +kernel
theorem dX9_isStep_181 : decode cX9_isStep 181 = .ok (.ldc2_w 229, 3) := by decide +kernel
theorem dX9_isStep_184 : decode cX9_isStep 184 = .ok (.invokestatic 225, 3) := by decide +kernel
theorem dX9_isStep_187 : decode cX9_isStep 187 = .ok (.ireturn, 1) := by decide +kernel
theorem dX9_step_0 : decode cX9_step 0 = .ok (.iload_n 1, 1) := by decide +kernel
theorem dX9_step_1 : decode cX9_step 1 = .ok (.invokestatic 252, 3) := by decide +kernel
theorem dX9_step_4 : decode cX9_step 4 = .ok (.ifCond .eq 13, 3) := by decide +kernel
theorem dX9_step_7 : decode cX9_step 7 = .ok (.iload_n 2, 1) := by decide +kernel
theorem dX9_step_8 : decode cX9_step 8 = .ok (.iload_n 3, 1) := by decide +kernel
theorem dX9_step_9 : decode cX9_step 9 = .ok (.iload 4, 2) := by decide +kernel
theorem dX9_step_11 : decode cX9_step 11 = .ok (.invokestatic 256, 3) := by decide +kernel
theorem dX9_step_14 : decode cX9_step 14 = .ok (.ifCond .ne 6, 3) := by decide +kernel
theorem dX9_step_17 : decode cX9_step 17 = .ok (.bipush (-2), 2) := by decide +kernel
theorem dX9_step_19 : decode cX9_step 19 = .ok (.ireturn, 1) := by decide +kernel
theorem dX9_step_20 : decode cX9_step 20 = .ok (.aload_n 0, 1) := by decide +kernel
theorem dX9_step_21 : decode cX9_step 21 = .ok (.getfield 35, 3) := by decide +kernel
theorem dX9_step_24 : decode cX9_step 24 = .ok (.iload_n 1, 1) := by decide +kernel
theorem dX9_step_25 : decode cX9_step 25 = .ok (.iaload, 1) := by decide +kernel
theorem dX9_step_26 : decode cX9_step 26 = .ok (.bipush 24, 2) := by decide +kernel
theorem dX9_step_28 : decode cX9_step 28 = .ok (.if_icmp .ne 6, 3) := by decide +kernel
theorem dX9_step_31 : decode cX9_step 31 = .ok (.bipush (-3), 2) := by decide +kernel
theorem dX9_step_33 : decode cX9_step 33 = .ok (.ireturn, 1) := by decide +kernel
theorem dX9_step_34 : decode cX9_step 34 = .ok (.bipush 24, 2) := by decide +kernel
theorem dX9_step_36 : decode cX9_step 36 = .ok (.iload_n 1, 1) := by decide +kernel
theorem dX9_step_37 : decode cX9_step 37 = .ok (.imul, 1) := by decide +kernel
theorem dX9_step_38 : decode cX9_step 38 = .ok (.aload_n 0, 1) := by decide +kernel
theorem dX9_step_39 : decode cX9_step 39 = .ok (.getfield 35, 3) := by decide +kernel
theorem dX9_step_42 : decode cX9_step 42 = .ok (.iload_n 1, 1) := by decide +kernel
theorem dX9_step_43 : decode cX9_step 43 = .ok (.iaload, 1) := by decide +kernel
theorem dX9_step_44 : decode cX9_step 44 = .ok (.iadd, 1) := by decide +kernel
theorem dX9_step_45 : decode cX9_step 45 = .ok (.istore 5, 2) := by decide +kernel
theorem dX9_step_47 : decode cX9_step 47 = .ok (.aload_n 0, 1) := by decide +kernel
theorem dX9_step_48 : decode cX9_step 48 = .ok (.getfield 38, 3) := by decide +kernel
theorem dX9_step_51 : decode cX9_step 51 = .ok (.iload 5, 2) := by decide +kernel
theorem dX9_step_53 : decode cX9_step 53 = .ok (.iload_n 2, 1) := by decide +kernel
theorem dX9_step_54 : decode cX9_step 54 = .ok (.iastore, 1) := by decide +kernel
theorem dX9_step_55 : decode cX9_step 55 = .ok (.aload_n 0, 1) := by decide +kernel
theorem dX9_step_56 : decode cX9_step 56 = .ok (.getfield 41, 3) := by decide +kernel
theorem dX9_step_59 : decode cX9_step 59 = .ok (.iload 5, 2) := by decide +kernel
theorem dX9_step_61 : decode cX9_step 61 = .ok (.iload_n 3, 1) := by decide +kernel
theorem dX9_step_62 : decode cX9_step 62 = .ok (.iastore, 1) := by decide +kernel
theorem dX9_step_63 : decode cX9_step 63 = .ok (.aload_n 0, 1) := by decide +kernel
theorem dX9_step_64 : decode cX9_step 64 = .ok (.getfield 44, 3) := by decide +kernel
theorem dX9_step_67 : decode cX9_step 67 = .ok (.iload 5, 2) := by decide +kernel
theorem dX9_step_69 : decode cX9_step 69 = .ok (.iload 4, 2) := by decide +kernel
theorem dX9_step_71 : decode cX9_step 71 = .ok (.iastore, 1) := by decide +kernel
theorem dX9_step_72 : decode cX9_step 72 = .ok (.aload_n 0, 1) := by decide +kernel
theorem dX9_step_73 : decode cX9_step 73 = .ok (.getfield 35, 3) := by decide +kernel
theorem dX9_step_76 : decode cX9_step 76 = .ok (.iload_n 1, 1) := by decide +kernel
theorem dX9_step_77 : decode cX9_step 77 = .ok (.dup2, 1) := by decide +kernel
theorem dX9_step_78 : decode cX9_step 78 = .ok (.iaload, 1) := by decide +kernel
theorem dX9_step_79 : decode cX9_step 79 = .ok (.iconst 1, 1) := by decide +kernel
theorem dX9_step_80 : decode cX9_step 80 = .ok (.iadd, 1) := by decide +kernel
theorem dX9_step_81 : decode cX9_step 81 = .ok (.iastore, 1) := by decide +kernel
theorem dX9_step_82 : decode cX9_step 82 = .ok (.aload_n 0, 1) := by decide +kernel
theorem dX9_step_83 : decode cX9_step 83 = .ok (.getfield 35, 3) := by decide +kernel
theorem dX9_step_86 : decode cX9_step 86 = .ok (.iload_n 1, 1) := by decide +kernel
theorem dX9_step_87 : decode cX9_step 87 = .ok (.iaload, 1) := by decide +kernel
theorem dX9_step_88 : decode cX9_step 88 = .ok (.ireturn, 1) := by decide +kernel
theorem dX9_drop_0 : decode cX9_drop 0 = .ok (.iload_n 1, 1) := by decide +kernel
theorem dX9_drop_1 : decode cX9_drop 1 = .ok (.invokestatic 252, 3) := by decide +kernel
theorem dX9_drop_4 : decode cX9_drop 4 = .ok (.ifCond .ne 6, 3) := by decide +kernel
theorem dX9_drop_7 : decode cX9_drop 7 = .ok (.bipush (-2), 2) := by decide +kernel
theorem dX9_drop_9 : decode cX9_drop 9 = .ok (.ireturn, 1) := by decide +kernel
theorem dX9_drop_10 : decode cX9_drop 10 = .ok (.aload_n 0, 1) := by decide +kernel
theorem dX9_drop_11 : decode cX9_drop 11 = .ok (.getfield 35, 3) := by decide +kernel
theorem dX9_drop_14 : decode cX9_drop 14 = .ok (.iload_n 1, 1) := by decide +kernel
theorem dX9_drop_15 : decode cX9_drop 15 = .ok (.iaload, 1) := by decide +kernel
theorem dX9_drop_16 : decode cX9_drop 16 = .ok (.istore_n 2, 1) := by decide +kernel
theorem dX9_drop_17 : decode cX9_drop 17 = .ok (.aload_n 0, 1) := by decide +kernel
theorem dX9_drop_18 : decode cX9_drop 18 = .ok (.getfield 35, 3) := by decide +kernel
theorem dX9_drop_21 : decode cX9_drop 21 = .ok (.iload_n 1, 1) := by decide +kernel
theorem dX9_drop_22 : decode cX9_drop 22 = .ok (.iconst 0, 1) := by decide +kernel
theorem dX9_drop_23 : decode cX9_drop 23 = .ok (.iastore, 1) := by decide +kernel
theorem dX9_drop_24 : decode cX9_drop 24 = .ok (.iload_n 2, 1) := by decide +kernel
theorem dX9_drop_25 : decode cX9_drop 25 = .ok (.ireturn, 1) := by decide +kernel
theorem dX9_clash_0 : decode cX9_clash 0 = .ok (.iload_n 1, 1) := by decide +kernel
theorem dX9_clash_1 : decode cX9_clash 1 = .ok (.invokestatic 252, 3) := by decide +kernel
theorem dX9_clash_4 : decode cX9_clash 4 = .ok (.ifCond .eq 15, 3) := by decide +kernel
theorem dX9_clash_7 : decode cX9_clash 7 = .ok (.iload_n 2, 1) := by decide +kernel
theorem dX9_clash_8 : decode cX9_clash 8 = .ok (.i2l, 1) := by decide +kernel
theorem dX9_clash_9 : decode cX9_clash 9 = .ok (.lconst 0, 1) := by decide +kernel
theorem dX9_clash_10 : decode cX9_clash 10 = .ok (.ldc2_w 260, 3) := by decide +kernel
theorem dX9_clash_13 : decode cX9_clash 13 = .ok (.invokestatic 225, 3) := by decide +kernel
theorem dX9_clash_16 : decode cX9_clash 16 = .ok (.ifCond .ne 6, 3) := by decide +kernel
theorem dX9_clash_19 : decode cX9_clash 19 = .ok (.bipush (-2), 2) := by decide +kernel
theorem dX9_clash_21 : decode cX9_clash 21 = .ok (.ireturn, 1) := by decide +kernel
theorem dX9_clash_22 : decode cX9_clash 22 = .ok (.aload_n 0, 1) := by decide +kernel
theorem dX9_clash_23 : decode cX9_clash 23 = .ok (.getfield 47, 3) := by decide +kernel
theorem dX9_clash_26 : decode cX9_clash 26 = .ok (.iload_n 1, 1) := by decide +kernel
theorem dX9_clash_27 : decode cX9_clash 27 = .ok (.iaload, 1) := by decide +kernel
theorem dX9_clash_28 : decode cX9_clash 28 = .ok (.istore_n 3, 1) := by decide +kernel
theorem dX9_clash_29 : decode cX9_clash 29 = .ok (.aload_n 0, 1) := by decide +kernel
theorem dX9_clash_30 : decode cX9_clash 30 = .ok (.getfield 47, 3) := by decide +kernel
theorem dX9_clash_33 : decode cX9_clash 33 = .ok (.iload_n 1, 1) := by decide +kernel
theorem dX9_clash_34 : decode cX9_clash 34 = .ok (.iload_n 2, 1) := by decide +kernel
theorem dX9_clash_35 : decode cX9_clash 35 = .ok (.iastore, 1) := by decide +kernel
theorem dX9_clash_36 : decode cX9_clash 36 = .ok (.iload_n 3, 1) := by decide +kernel
theorem dX9_clash_37 : decode cX9_clash 37 = .ok (.ireturn, 1) := by decide +kernel
theorem dX9_rule_0 : decode cX9_rule 0 = .ok (.iload_n 1, 1) := by decide +kernel
theorem dX9_rule_1 : decode cX9_rule 1 = .ok (.i2l, 1) := by decide +kernel
theorem dX9_rule_2 : decode cX9_rule 2 = .ok (.lconst 0, 1) := by decide +kernel
theorem dX9_rule_3 : decode cX9_rule 3 = .ok (.ldc2_w 262, 3) := by decide +kernel
theorem dX9_rule_6 : decode cX9_rule 6 = .ok (.invokestatic 225, 3) := by decide +kernel
theorem dX9_rule_9 : decode cX9_rule 9 = .ok (.ifCond .eq 48, 3) := by decide +kernel
theorem dX9_rule_12 : decode cX9_rule 12 = .ok (.iload_n 1, 1) := by decide +kernel
theorem dX9_rule_13 : decode cX9_rule 13 = .ok (.iconst 2, 1) := by decide +kernel
theorem dX9_rule_14 : decode cX9_rule 14 = .ok (.if_icmp .ge 14, 3) := by decide +kernel
theorem dX9_rule_17 : decode cX9_rule 17 = .ok (.iload_n 2, 1) := by decide +kernel
theorem dX9_rule_18 : decode cX9_rule 18 = .ok (.i2l, 1) := by decide +kernel
theorem dX9_rule_19 : decode cX9_rule 19 = .ok (.invokestatic 234, 3) := by decide +kernel
theorem dX9_rule_22 : decode cX9_rule 22 = .ok (.ifCond .eq 35, 3) := by decide +kernel
theorem dX9_rule_25 : decode cX9_rule 25 = .ok (.goto 15, 3) := by decide +kernel
theorem dX9_rule_28 : decode cX9_rule 28 = .ok (.iload_n 2, 1) := by decide +kernel
theorem dX9_rule_29 : decode cX9_rule 29 = .ok (.i2l, 1) := by decide +kernel
theorem dX9_rule_30 : decode cX9_rule 30 = .ok (.lconst 0, 1) := by decide +kernel
theorem dX9_rule_31 : decode cX9_rule 31 = .ok (.ldc2_w 242, 3) := by decide +kernel
theorem dX9_rule_34 : decode cX9_rule 34 = .ok (.invokestatic 225, 3) := by decide +kernel
theorem dX9_rule_37 : decode cX9_rule 37 = .ok (.ifCond .eq 20, 3) := by decide +kernel
theorem dX9_rule_40 : decode cX9_rule 40 = .ok (.iload_n 1, 1) := by decide +kernel
theorem dX9_rule_41 : decode cX9_rule 41 = .ok (.iconst 1, 1) := by decide +kernel
theorem dX9_rule_42 : decode cX9_rule 42 = .ok (.if_icmp .ne 11, 3) := by decide +kernel
theorem dX9_rule_45 : decode cX9_rule 45 = .ok (.iload_n 3, 1) := by decide +kernel
theorem dX9_rule_46 : decode cX9_rule 46 = .ok (.i2l, 1) := by decide +kernel
theorem dX9_rule_47 : decode cX9_rule 47 = .ok (.invokestatic 234, 3) := by decide +kernel
theorem dX9_rule_50 : decode cX9_rule 50 = .ok (.ifCond .eq 7, 3) := by decide +kernel
theorem dX9_rule_53 : decode cX9_rule 53 = .ok (.iconst 1, 1) := by decide +kernel
theorem dX9_rule_54 : decode cX9_rule 54 = .ok (.goto 4, 3) := by decide +kernel
theorem dX9_rule_57 : decode cX9_rule 57 = .ok (.iconst 0, 1) := by decide +kernel
theorem dX9_rule_58 : decode cX9_rule 58 = .ok (.istore 6, 2) := by decide +kernel
theorem dX9_rule_60 : decode cX9_rule 60 = .ok (.iload 6, 2) := by decide +kernel
theorem dX9_rule_62 : decode cX9_rule 62 = .ok (.ifCond .ne 6, 3) := by decide +kernel
theorem dX9_rule_65 : decode cX9_rule 65 = .ok (.bipush (-2), 2) := by decide +kernel
theorem dX9_rule_67 : decode cX9_rule 67 = .ok (.ireturn, 1) := by decide +kernel
theorem dX9_rule_68 : decode cX9_rule 68 = .ok (.aload_n 0, 1) := by decide +kernel
theorem dX9_rule_69 : decode cX9_rule 69 = .ok (.getfield 264, 3) := by decide +kernel
theorem dX9_rule_72 : decode cX9_rule 72 = .ok (.bipush 10, 2) := by decide +kernel
theorem dX9_rule_74 : decode cX9_rule 74 = .ok (.if_icmp .ne 6, 3) := by decide +kernel
theorem dX9_rule_77 : decode cX9_rule 77 = .ok (.bipush (-3), 2) := by decide +kernel
theorem dX9_rule_79 : decode cX9_rule 79 = .ok (.ireturn, 1) := by decide +kernel
theorem dX9_rule_80 : decode cX9_rule 80 = .ok (.aload_n 0, 1) := by decide +kernel
theorem dX9_rule_81 : decode cX9_rule 81 = .ok (.getfield 50, 3) := by decide +kernel
theorem dX9_rule_84 : decode cX9_rule 84 = .ok (.aload_n 0, 1) := by decide +kernel
theorem dX9_rule_85 : decode cX9_rule 85 = .ok (.getfield 264, 3) := by decide +kernel
