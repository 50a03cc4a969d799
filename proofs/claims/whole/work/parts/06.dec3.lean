theorem dX9_rule_88 : decode cX9_rule 88 = .ok (.iload_n 1, 1) := by decide +kernel
theorem dX9_rule_89 : decode cX9_rule 89 = .ok (.iastore, 1) := by decide +kernel
theorem dX9_rule_90 : decode cX9_rule 90 = .ok (.aload_n 0, 1) := by decide +kernel
theorem dX9_rule_91 : decode cX9_rule 91 = .ok (.getfield 53, 3) := by decide +kernel
theorem dX9_rule_94 : decode cX9_rule 94 = .ok (.aload_n 0, 1) := by decide +kernel
theorem dX9_rule_95 : decode cX9_rule 95 = .ok (.getfield 264, 3) := by decide +kernel
theorem dX9_rule_98 : decode cX9_rule 98 = .ok (.iload_n 2, 1) := by decide +kernel
theorem dX9_rule_99 : decode cX9_rule 99 = .ok (.iastore, 1) := by decide +kernel
theorem dX9_rule_100 : decode cX9_rule 100 = .ok (.aload_n 0, 1) := by decide +kernel
theorem dX9_rule_101 : decode cX9_rule 101 = .ok (.getfield 56, 3) := by decide +kernel
theorem dX9_rule_104 : decode cX9_rule 104 = .ok (.aload_n 0, 1) := by decide +kernel
theorem dX9_rule_105 : decode cX9_rule 105 = .ok (.getfield 264, 3) := by decide +kernel
theorem dX9_rule_108 : decode cX9_rule 108 = .ok (.iload_n 3, 1) := by decide +kernel
theorem dX9_rule_109 : decode cX9_rule 109 = .ok (.iastore, 1) := by decide +kernel
theorem dX9_rule_110 : decode cX9_rule 110 = .ok (.aload_n 0, 1) := by decide +kernel
theorem dX9_rule_111 : decode cX9_rule 111 = .ok (.getfield 59, 3) := by decide +kernel
theorem dX9_rule_114 : decode cX9_rule 114 = .ok (.aload_n 0, 1) := by decide +kernel
theorem dX9_rule_115 : decode cX9_rule 115 = .ok (.getfield 264, 3) := by decide +kernel
theorem dX9_rule_118 : decode cX9_rule 118 = .ok (.lload 4, 2) := by decide +kernel
theorem dX9_rule_120 : decode cX9_rule 120 = .ok (.lastore, 1) := by decide +kernel
theorem dX9_rule_121 : decode cX9_rule 121 = .ok (.aload_n 0, 1) := by decide +kernel
theorem dX9_rule_122 : decode cX9_rule 122 = .ok (.dup, 1) := by decide +kernel
theorem dX9_rule_123 : decode cX9_rule 123 = .ok (.getfield 264, 3) := by decide +kernel
theorem dX9_rule_126 : decode cX9_rule 126 = .ok (.iconst 1, 1) := by decide +kernel
theorem dX9_rule_127 : decode cX9_rule 127 = .ok (.iadd, 1) := by decide +kernel
theorem dX9_rule_128 : decode cX9_rule 128 = .ok (.putfield 264, 3) := by decide +kernel
theorem dX9_rule_131 : decode cX9_rule 131 = .ok (.aload_n 0, 1) := by decide +kernel
theorem dX9_rule_132 : decode cX9_rule 132 = .ok (.getfield 264, 3) := by decide +kernel
theorem dX9_rule_135 : decode cX9_rule 135 = .ok (.iconst 1, 1) := by decide +kernel
theorem dX9_rule_136 : decode cX9_rule 136 = .ok (.isub, 1) := by decide +kernel
theorem dX9_rule_137 : decode cX9_rule 137 = .ok (.ireturn, 1) := by decide +kernel
theorem dX9_look_0 : decode cX9_look 0 = .ok (.bipush 40, 2) := by decide +kernel
theorem dX9_look_2 : decode cX9_look 2 = .ok (.aload_n 0, 1) := by decide +kernel
theorem dX9_look_3 : decode cX9_look 3 = .ok (.getfield 267, 3) := by decide +kernel
theorem dX9_look_6 : decode cX9_look 6 = .ok (.imul, 1) := by decide +kernel
theorem dX9_look_7 : decode cX9_look 7 = .ok (.iload_n 1, 1) := by decide +kernel
theorem dX9_look_8 : decode cX9_look 8 = .ok (.iadd, 1) := by decide +kernel
theorem dX9_look_9 : decode cX9_look 9 = .ok (.istore_n 2, 1) := by decide +kernel
theorem dX9_look_10 : decode cX9_look 10 = .ok (.aload_n 0, 1) := by decide +kernel
theorem dX9_look_11 : decode cX9_look 11 = .ok (.getfield 145, 3) := by decide +kernel
theorem dX9_look_14 : decode cX9_look 14 = .ok (.iload_n 2, 1) := by decide +kernel
theorem dX9_look_15 : decode cX9_look 15 = .ok (.baload, 1) := by decide +kernel
theorem dX9_look_16 : decode cX9_look 16 = .ok (.ifCond .ne 22, 3) := by decide +kernel
theorem dX9_look_19 : decode cX9_look 19 = .ok (.aload_n 0, 1) := by decide +kernel
theorem dX9_look_20 : decode cX9_look 20 = .ok (.getfield 160, 3) := by decide +kernel
theorem dX9_look_23 : decode cX9_look 23 = .ok (.iload_n 2, 1) := by decide +kernel
theorem dX9_look_24 : decode cX9_look 24 = .ok (.iconst 1, 1) := by decide +kernel
theorem dX9_look_25 : decode cX9_look 25 = .ok (.bastore, 1) := by decide +kernel
theorem dX9_look_26 : decode cX9_look 26 = .ok (.aload_n 0, 1) := by decide +kernel
theorem dX9_look_27 : decode cX9_look 27 = .ok (.getfield 163, 3) := by decide +kernel
theorem dX9_look_30 : decode cX9_look 30 = .ok (.iload_n 2, 1) := by decide +kernel
theorem dX9_look_31 : decode cX9_look 31 = .ok (.aload_n 0, 1) := by decide +kernel
theorem dX9_look_32 : decode cX9_look 32 = .ok (.getfield 23, 3) := by decide +kernel
theorem dX9_look_35 : decode cX9_look 35 = .ok (.iload_n 1, 1) := by decide +kernel
theorem dX9_look_36 : decode cX9_look 36 = .ok (.iaload, 1) := by decide +kernel
theorem dX9_look_37 : decode cX9_look 37 = .ok (.iastore, 1) := by decide +kernel
theorem dX9_look_38 : decode cX9_look 38 = .ok (.return_, 1) := by decide +kernel
theorem dX9_holdsNow_0 : decode cX9_holdsNow 0 = .ok (.bipush 40, 2) := by decide +kernel
theorem dX9_holdsNow_2 : decode cX9_holdsNow 2 = .ok (.aload_n 0, 1) := by decide +kernel
theorem dX9_holdsNow_3 : decode cX9_holdsNow 3 = .ok (.getfield 267, 3) := by decide +kernel
theorem dX9_holdsNow_6 : decode cX9_holdsNow 6 = .ok (.imul, 1) := by decide +kernel
theorem dX9_holdsNow_7 : decode cX9_holdsNow 7 = .ok (.iload_n 1, 1) := by decide +kernel
theorem dX9_holdsNow_8 : decode cX9_holdsNow 8 = .ok (.iadd, 1) := by decide +kernel
theorem dX9_holdsNow_9 : decode cX9_holdsNow 9 = .ok (.istore_n 2, 1) := by decide +kernel
theorem dX9_holdsNow_10 : decode cX9_holdsNow 10 = .ok (.aload_n 0, 1) := by decide +kernel
theorem dX9_holdsNow_11 : decode cX9_holdsNow 11 = .ok (.getfield 145, 3) := by decide +kernel
theorem dX9_holdsNow_14 : decode cX9_holdsNow 14 = .ok (.iload_n 2, 1) := by decide +kernel
theorem dX9_holdsNow_15 : decode cX9_holdsNow 15 = .ok (.baload, 1) := by decide +kernel
theorem dX9_holdsNow_16 : decode cX9_holdsNow 16 = .ok (.ifCond .eq 12, 3) := by decide +kernel
theorem dX9_holdsNow_19 : decode cX9_holdsNow 19 = .ok (.aload_n 0, 1) := by decide +kernel
theorem dX9_holdsNow_20 : decode cX9_holdsNow 20 = .ok (.getfield 148, 3) := by decide +kernel
theorem dX9_holdsNow_23 : decode cX9_holdsNow 23 = .ok (.iload_n 2, 1) := by decide +kernel
theorem dX9_holdsNow_24 : decode cX9_holdsNow 24 = .ok (.iaload, 1) := by decide +kernel
theorem dX9_holdsNow_25 : decode cX9_holdsNow 25 = .ok (.goto 9, 3) := by decide +kernel
theorem dX9_holdsNow_28 : decode cX9_holdsNow 28 = .ok (.aload_n 0, 1) := by decide +kernel
theorem dX9_holdsNow_29 : decode cX9_holdsNow 29 = .ok (.getfield 7, 3) := by decide +kernel
theorem dX9_holdsNow_32 : decode cX9_holdsNow 32 = .ok (.iload_n 1, 1) := by decide +kernel
theorem dX9_holdsNow_33 : decode cX9_holdsNow 33 = .ok (.iaload, 1) := by decide +kernel
theorem dX9_holdsNow_34 : decode cX9_holdsNow 34 = .ok (.ireturn, 1) := by decide +kernel
theorem dX9_numberNow_0 : decode cX9_numberNow 0 = .ok (.bipush 40, 2) := by decide +kernel
theorem dX9_numberNow_2 : decode cX9_numberNow 2 = .ok (.aload_n 0, 1) := by decide +kernel
theorem dX9_numberNow_3 : decode cX9_numberNow 3 = .ok (.getfield 267, 3) := by decide +kernel
theorem dX9_numberNow_6 : decode cX9_numberNow 6 = .ok (.imul, 1) := by decide +kernel
theorem dX9_numberNow_7 : decode cX9_numberNow 7 = .ok (.iload_n 1, 1) := by decide +kernel
theorem dX9_numberNow_8 : decode cX9_numberNow 8 = .ok (.iadd, 1) := by decide +kernel
theorem dX9_numberNow_9 : decode cX9_numberNow 9 = .ok (.istore_n 2, 1) := by decide +kernel
theorem dX9_numberNow_10 : decode cX9_numberNow 10 = .ok (.aload_n 0, 1) := by decide +kernel
theorem dX9_numberNow_11 : decode cX9_numberNow 11 = .ok (.getfield 145, 3) := by decide +kernel
theorem dX9_numberNow_14 : decode cX9_numberNow 14 = .ok (.iload_n 2, 1) := by decide +kernel
theorem dX9_numberNow_15 : decode cX9_numberNow 15 = .ok (.baload, 1) := by decide +kernel
theorem dX9_numberNow_16 : decode cX9_numberNow 16 = .ok (.ifCond .eq 12, 3) := by decide +kernel
theorem dX9_numberNow_19 : decode cX9_numberNow 19 = .ok (.aload_n 0, 1) := by decide +kernel
theorem dX9_numberNow_20 : decode cX9_numberNow 20 = .ok (.getfield 151, 3) := by decide +kernel
theorem dX9_numberNow_23 : decode cX9_numberNow 23 = .ok (.iload_n 2, 1) := by decide +kernel
theorem dX9_numberNow_24 : decode cX9_numberNow 24 = .ok (.laload, 1) := by decide +kernel
theorem dX9_numberNow_25 : decode cX9_numberNow 25 = .ok (.goto 9, 3) := by decide +kernel
theorem dX9_numberNow_28 : decode cX9_numberNow 28 = .ok (.aload_n 0, 1) := by decide +kernel
theorem dX9_numberNow_29 : decode cX9_numberNow 29 = .ok (.getfield 13, 3) := by decide +kernel
theorem dX9_numberNow_32 : decode cX9_numberNow 32 = .ok (.iload_n 1, 1) := by decide +kernel
theorem dX9_numberNow_33 : decode cX9_numberNow 33 = .ok (.laload, 1) := by decide +kernel
theorem dX9_numberNow_34 : decode cX9_numberNow 34 = .ok (.lreturn, 1) := by decide +kernel
theorem dX9_kindNow_0 : decode cX9_kindNow 0 = .ok (.bipush 40, 2) := by decide +kernel
theorem dX9_kindNow_2 : decode cX9_kindNow 2 = .ok (.aload_n 0, 1) := by decide +kernel
theorem dX9_kindNow_3 : decode cX9_kindNow 3 = .ok (.getfield 267, 3) := by decide +kernel
theorem dX9_kindNow_6 : decode cX9_kindNow 6 = .ok (.imul, 1) := by decide +kernel
theorem dX9_kindNow_7 : decode cX9_kindNow 7 = .ok (.iload_n 1, 1) := by decide +kernel
theorem dX9_kindNow_8 : decode cX9_kindNow 8 = .ok (.iadd, 1) := by decide +kernel
theorem dX9_kindNow_9 : decode cX9_kindNow 9 = .ok (.istore_n 2, 1) := by decide +kernel
theorem dX9_kindNow_10 : decode cX9_kindNow 10 = .ok (.aload_n 0, 1) := by decide +kernel
theorem dX9_kindNow_11 : decode cX9_kindNow 11 = .ok (.getfield 145, 3) := by decide +kernel
theorem dX9_kindNow_14 : decode cX9_kindNow 14 = .ok (.iload_n 2, 1) := by decide +kernel
theorem dX9_kindNow_15 : decode cX9_kindNow 15 = .ok (.baload, 1) := by decide +kernel
theorem dX9_kindNow_16 : decode cX9_kindNow 16 = .ok (.ifCond .eq 12, 3) := by decide +kernel
theorem dX9_kindNow_19 : decode cX9_kindNow 19 = .ok (.aload_n 0, 1) := by decide +kernel
theorem dX9_kindNow_20 : decode cX9_kindNow 20 = .ok (.getfield 154, 3) := by decide +kernel
theorem dX9_kindNow_23 : decode cX9_kindNow 23 = .ok (.iload_n 2, 1) := by decide +kernel
theorem dX9_kindNow_24 : decode cX9_kindNow 24 = .ok (.iaload, 1) := by decide +kernel
theorem dX9_kindNow_25 : decode cX9_kindNow 25 = .ok (.goto 9, 3) := by decide +kernel
theorem dX9_kindNow_28 : decode cX9_kindNow 28 = .ok (.aload_n 0, 1) := by decide +kernel
theorem dX9_kindNow_29 : decode cX9_kindNow 29 = .ok (.getfield 17, 3) := by decide +kernel
theorem dX9_kindNow_32 : decode cX9_kindNow 32 = .ok (.iload_n 1, 1) := by decide +kernel
theorem dX9_kindNow_33 : decode cX9_kindNow 33 = .ok (.iaload, 1) := by decide +kernel
theorem dX9_kindNow_34 : decode cX9_kindNow 34 = .ok (.ireturn, 1) := by decide +kernel
theorem dX9_growerNow_0 : decode cX9_growerNow 0 = .ok (.bipush 40, 2) := by decide +kernel
theorem dX9_growerNow_2 : decode cX9_growerNow 2 = .ok (.aload_n 0, 1) := by decide +kernel
theorem dX9_growerNow_3 : decode cX9_growerNow 3 = .ok (.getfield 267, 3) := by decide +kernel
theorem dX9_growerNow_6 : decode cX9_growerNow 6 = .ok (.imul, 1) := by decide +kernel
theorem dX9_growerNow_7 : decode cX9_growerNow 7 = .ok (.iload_n 1, 1) := by decide +kernel
theorem dX9_growerNow_8 : decode cX9_growerNow 8 = .ok (.iadd, 1) := by decide +kernel
theorem dX9_growerNow_9 : decode cX9_growerNow 9 = .ok (.istore_n 2, 1) := by decide +kernel
theorem dX9_growerNow_10 : decode cX9_growerNow 10 = .ok (.aload_n 0, 1) := by decide +kernel
theorem dX9_growerNow_11 : decode cX9_growerNow 11 = .ok (.getfield 145, 3) := by decide +kernel
theorem dX9_growerNow_14 : decode cX9_growerNow 14 = .ok (.iload_n 2, 1) := by decide +kernel
theorem dX9_growerNow_15 : decode cX9_growerNow 15 = .ok (.baload, 1) := by decide +kernel
theorem dX9_growerNow_16 : decode cX9_growerNow 16 = .ok (.ifCond .eq 12, 3) := by decide +kernel
theorem dX9_growerNow_19 : decode cX9_growerNow 19 = .ok (.aload_n 0, 1) := by decide +kernel
theorem dX9_growerNow_20 : decode cX9_growerNow 20 = .ok (.getfield 157, 3) := by decide +kernel
theorem dX9_growerNow_23 : decode cX9_growerNow 23 = .ok (.iload_n 2, 1) := by decide +kernel
theorem dX9_growerNow_24 : decode cX9_growerNow 24 = .ok (.iaload, 1) := by decide +kernel
theorem dX9_growerNow_25 : decode cX9_growerNow 25 = .ok (.goto 9, 3) := by decide +kernel
theorem dX9_growerNow_28 : decode cX9_growerNow 28 = .ok (.aload_n 0, 1) := by decide +kernel
theorem dX9_growerNow_29 : decode cX9_growerNow 29 = .ok (.getfield 20, 3) := by decide +kernel
theorem dX9_growerNow_32 : decode cX9_growerNow 32 = .ok (.iload_n 1, 1) := by decide +kernel
theorem dX9_growerNow_33 : decode cX9_growerNow 33 = .ok (.iaload, 1) := by decide +kernel
theorem dX9_growerNow_34 : decode cX9_growerNow 34 = .ok (.ireturn, 1) := by decide +kernel
theorem dX9_write_0 : decode cX9_write 0 = .ok (.bipush 40, 2) := by decide +kernel
theorem dX9_write_2 : decode cX9_write 2 = .ok (.aload_n 0, 1) := by decide +kernel
theorem dX9_write_3 : decode cX9_write 3 = .ok (.getfield 267, 3) := by decide +kernel
theorem dX9_write_6 : decode cX9_write 6 = .ok (.imul, 1) := by decide +kernel
theorem dX9_write_7 : decode cX9_write 7 = .ok (.iload_n 1, 1) := by decide +kernel
theorem dX9_write_8 : decode cX9_write 8 = .ok (.iadd, 1) := by decide +kernel
theorem dX9_write_9 : decode cX9_write 9 = .ok (.istore 7, 2) := by decide +kernel
theorem dX9_write_11 : decode cX9_write 11 = .ok (.aload_n 0, 1) := by decide +kernel
theorem dX9_write_12 : decode cX9_write 12 = .ok (.getfield 145, 3) := by decide +kernel
theorem dX9_write_15 : decode cX9_write 15 = .ok (.iload 7, 2) := by decide +kernel
theorem dX9_write_17 : decode cX9_write 17 = .ok (.iconst 1, 1) := by decide +kernel
theorem dX9_write_18 : decode cX9_write 18 = .ok (.bastore, 1) := by decide +kernel
theorem dX9_write_19 : decode cX9_write 19 = .ok (.aload_n 0, 1) := by decide +kernel
theorem dX9_write_20 : decode cX9_write 20 = .ok (.getfield 148, 3) := by decide +kernel
theorem dX9_write_23 : decode cX9_write 23 = .ok (.iload 7, 2) := by decide +kernel
theorem dX9_write_25 : decode cX9_write 25 = .ok (.iload_n 2, 1) := by decide +kernel
theorem dX9_write_26 : decode cX9_write 26 = .ok (.iastore, 1) := by decide +kernel
theorem dX9_write_27 : decode cX9_write 27 = .ok (.aload_n 0, 1) := by decide +kernel
theorem dX9_write_28 : decode cX9_write 28 = .ok (.getfield 151, 3) := by decide +kernel
theorem dX9_write_31 : decode cX9_write 31 = .ok (.iload 7, 2) := by decide +kernel
theorem dX9_write_33 : decode cX9_write 33 = .ok (.lload_n 3, 1) := by decide +kernel
theorem dX9_write_34 : decode cX9_write 34 = .ok (.lastore, 1) := by decide +kernel
theorem dX9_write_35 : decode cX9_write 35 = .ok (.aload_n 0, 1) := by decide +kernel
theorem dX9_write_36 : decode cX9_write 36 = .ok (.getfield 154, 3) := by decide +kernel
theorem dX9_write_39 : decode cX9_write 39 = .ok (.iload 7, 2) := by decide +kernel
theorem dX9_write_41 : decode cX9_write 41 = .ok (.iload 5, 2) := by decide +kernel
theorem dX9_write_43 : decode cX9_write 43 = .ok (.iastore, 1) := by decide +kernel
theorem dX9_write_44 : decode cX9_write 44 = .ok (.aload_n 0, 1) := by decide +kernel
theorem dX9_write_45 : decode cX9_write 45 = .ok (.getfield 157, 3) := by decide +kernel
theorem dX9_write_48 : decode cX9_write 48 = .ok (.iload 7, 2) := by decide +kernel
theorem dX9_write_50 : decode cX9_write 50 = .ok (.iload 6, 2) := by decide +kernel
theorem dX9_write_52 : decode cX9_write 52 = .ok (.iastore, 1) := by decide +kernel
theorem dX9_write_53 : decode cX9_write 53 = .ok (.return_, 1) := by decide +kernel
theorem dX9_is_0 : decode cX9_is 0 = .ok (.aload_n 0, 1) := by decide +kernel
theorem dX9_is_1 : decode cX9_is 1 = .ok (.iload_n 1, 1) := by decide +kernel
theorem dX9_is_2 : decode cX9_is 2 = .ok (.invokevirtual 270, 3) := by decide +kernel
theorem dX9_is_5 : decode cX9_is 5 = .ok (.aload_n 0, 1) := by decide +kernel
theorem dX9_is_6 : decode cX9_is 6 = .ok (.iload_n 1, 1) := by decide +kernel
theorem dX9_is_7 : decode cX9_is 7 = .ok (.invokevirtual 274, 3) := by decide +kernel
theorem dX9_is_10 : decode cX9_is 10 = .ok (.istore_n 3, 1) := by decide +kernel
theorem dX9_is_11 : decode cX9_is 11 = .ok (.aload_n 0, 1) := by decide +kernel
theorem dX9_is_12 : decode cX9_is 12 = .ok (.iload_n 3, 1) := by decide +kernel
theorem dX9_is_13 : decode cX9_is 13 = .ok (.ifCond .ne 7, 3) := by decide +kernel
theorem dX9_is_16 : decode cX9_is 16 = .ok (.iconst 1, 1) := by decide +kernel
theorem dX9_is_17 : decode cX9_is 17 = .ok (.goto 13, 3) := by decide +kernel
theorem dX9_is_20 : decode cX9_is 20 = .ok (.iload_n 3, 1) := by decide +kernel
theorem dX9_is_21 : decode cX9_is 21 = .ok (.iload_n 2, 1) := by decide +kernel
theorem dX9_is_22 : decode cX9_is 22 = .ok (.if_icmp .ne 7, 3) := by decide +kernel
theorem dX9_is_25 : decode cX9_is 25 = .ok (.iconst 0, 1) := by decide +kernel
theorem dX9_is_26 : decode cX9_is 26 = .ok (.goto 4, 3) := by decide +kernel
theorem dX9_is_29 : decode cX9_is 29 = .ok (.iconst 3, 1) := by decide +kernel
theorem dX9_is_30 : decode cX9_is 30 = .ok (.putfield 278, 3) := by decide +kernel
theorem dX9_is_33 : decode cX9_is 33 = .ok (.aload_n 0, 1) := by decide +kernel
theorem dX9_is_34 : decode cX9_is 34 = .ok (.getfield 278, 3) := by decide +kernel
theorem dX9_is_37 : decode cX9_is 37 = .ok (.ifCond .ne 7, 3) := by decide +kernel
theorem dX9_is_40 : decode cX9_is 40 = .ok (.iconst 1, 1) := by decide +kernel
theorem dX9_is_41 : decode cX9_is 41 = .ok (.goto 4, 3) := by decide +kernel
theorem dX9_is_44 : decode cX9_is 44 = .ok (.iconst 0, 1) := by decide +kernel
theorem dX9_is_45 : decode cX9_is 45 = .ok (.ireturn, 1) := by decide +kernel
theorem dX9_addsUp_0 : decode cX9_addsUp 0 = .ok (.lload_n 2, 1) := by decide +kernel
theorem dX9_addsUp_1 : decode cX9_addsUp 1 = .ok (.lconst 0, 1) := by decide +kernel
theorem dX9_addsUp_2 : decode cX9_addsUp 2 = .ok (.lcmp, 1) := by decide +kernel
theorem dX9_addsUp_3 : decode cX9_addsUp 3 = .ok (.ifCond .lt 21, 3) := by decide +kernel
theorem dX9_addsUp_6 : decode cX9_addsUp 6 = .ok (.lload_n 0, 1) := by decide +kernel
theorem dX9_addsUp_7 : decode cX9_addsUp 7 = .ok (.ldc2_w 281, 3) := by decide +kernel
theorem dX9_addsUp_10 : decode cX9_addsUp 10 = .ok (.lload_n 2, 1) := by decide +kernel
theorem dX9_addsUp_11 : decode cX9_addsUp 11 = .ok (.lsub, 1) := by decide +kernel
theorem dX9_addsUp_12 : decode cX9_addsUp 12 = .ok (.lcmp, 1) := by decide +kernel
theorem dX9_addsUp_13 : decode cX9_addsUp 13 = .ok (.ifCond .gt 7, 3) := by decide +kernel
theorem dX9_addsUp_16 : decode cX9_addsUp 16 = .ok (.iconst 1, 1) := by decide +kernel
theorem dX9_addsUp_17 : decode cX9_addsUp 17 = .ok (.goto 22, 3) := by decide +kernel
theorem dX9_addsUp_20 : decode cX9_addsUp 20 = .ok (.iconst 0, 1) := by decide +kernel
theorem dX9_addsUp_21 : decode cX9_addsUp 21 = .ok (.goto 18, 3) := by decide +kernel
theorem dX9_addsUp_24 : decode cX9_addsUp 24 = .ok (.lload_n 0, 1) := by decide +kernel
theorem dX9_addsUp_25 : decode cX9_addsUp 25 = .ok (.ldc2_w 283, 3) := by decide +kernel
theorem dX9_addsUp_28 : decode cX9_addsUp 28 = .ok (.lload_n 2, 1) := by decide +kernel
theorem dX9_addsUp_29 : decode cX9_addsUp 29 = .ok (.lsub, 1) := by decide +kernel
theorem dX9_addsUp_30 : decode cX9_addsUp 30 = .ok (.lcmp, 1) := by decide +kernel
theorem dX9_addsUp_31 : decode cX9_addsUp 31 = .ok (.ifCond .lt 7, 3) := by decide +kernel
theorem dX9_addsUp_34 : decode cX9_addsUp 34 = .ok (.iconst 1, 1) := by decide +kernel
theorem dX9_addsUp_35 : decode cX9_addsUp 35 = .ok (.goto 4, 3) := by decide +kernel
theorem dX9_addsUp_38 : decode cX9_addsUp 38 = .ok (.iconst 0, 1) := by decide +kernel
theorem dX9_addsUp_39 : decode cX9_addsUp 39 = .ok (.ireturn, 1) := by decide +kernel
theorem dX9_timesUp_0 : decode cX9_timesUp 0 = .ok (.lload_n 0, 1) := by decide +kernel
theorem dX9_timesUp_1 : decode cX9_timesUp 1 = .ok (.lconst 0, 1) := by decide +kernel
theorem dX9_timesUp_2 : decode cX9_timesUp 2 = .ok (.lcmp, 1) := by decide +kernel
theorem dX9_timesUp_3 : decode cX9_timesUp 3 = .ok (.ifCond .eq 9, 3) := by decide +kernel
theorem dX9_timesUp_6 : decode cX9_timesUp 6 = .ok (.lload_n 2, 1) := by decide +kernel
theorem dX9_timesUp_7 : decode cX9_timesUp 7 = .ok (.lconst 0, 1) := by decide +kernel
theorem dX9_timesUp_8 : decode cX9_timesUp 8 = .ok (.lcmp, 1) := by decide +kernel
theorem dX9_timesUp_9 : decode cX9_timesUp 9 = .ok (.ifCond .ne 5, 3) := by decide +kernel
theorem dX9_timesUp_12 : decode cX9_timesUp 12 = .ok (.iconst 1, 1) := by decide +kernel
theorem dX9_timesUp_13 : decode cX9_timesUp 13 = .ok (.ireturn, 1) := by decide +kernel
theorem dX9_timesUp_14 : decode cX9_timesUp 14 = .ok (.lload_n 0, 1) := by decide +kernel
theorem dX9_timesUp_15 : decode cX9_timesUp 15 = .ok (.ldc2_w 283, 3) := by decide +kernel
theorem dX9_timesUp_18 : decode cX9_timesUp 18 = .ok (.lcmp, 1) := by decide +kernel
theorem dX9_timesUp_19 : decode cX9_timesUp 19 = .ok (.ifCond .ne 11, 3) := by decide +kernel
theorem dX9_timesUp_22 : decode cX9_timesUp 22 = .ok (.lload_n 2, 1) := by decide +kernel
theorem dX9_timesUp_23 : decode cX9_timesUp 23 = .ok (.ldc2_w 285, 3) := by decide +kernel
theorem dX9_timesUp_26 : decode cX9_timesUp 26 = .ok (.lcmp, 1) := by decide +kernel
theorem dX9_timesUp_27 : decode cX9_timesUp 27 = .ok (.ifCond .eq 19, 3) := by decide +kernel
theorem dX9_timesUp_30 : decode cX9_timesUp 30 = .ok (.lload_n 2, 1) := by decide +kernel
theorem dX9_timesUp_31 : decode cX9_timesUp 31 = .ok (.ldc2_w 283, 3) := by decide +kernel
theorem dX9_timesUp_34 : decode cX9_timesUp 34 = .ok (.lcmp, 1) := by decide +kernel
theorem dX9_timesUp_35 : decode cX9_timesUp 35 = .ok (.ifCond .ne 13, 3) := by decide +kernel
theorem dX9_timesUp_38 : decode cX9_timesUp 38 = .ok (.lload_n 0, 1) := by decide +kernel
theorem dX9_timesUp_39 : decode cX9_timesUp 39 = .ok (.ldc2_w 285, 3) := by decide +kernel
theorem dX9_timesUp_42 : decode cX9_timesUp 42 = .ok (.lcmp, 1) := by decide +kernel
theorem dX9_timesUp_43 : decode cX9_timesUp 43 = .ok (.ifCond .ne 5, 3) := by decide +kernel
theorem dX9_timesUp_46 : decode cX9_timesUp 46 = .ok (.iconst 0, 1) := by decide +kernel
theorem dX9_timesUp_47 : decode cX9_timesUp 47 = .ok (.ireturn, 1) := by decide +kernel
theorem dX9_timesUp_48 : decode cX9_timesUp 48 = .ok (.lload_n 0, 1) := by decide +kernel
theorem dX9_timesUp_49 : decode cX9_timesUp 49 = .ok (.lload_n 2, 1) := by decide +kernel
theorem dX9_timesUp_50 : decode cX9_timesUp 50 = .ok (.lmul, 1) := by decide +kernel
theorem dX9_timesUp_51 : decode cX9_timesUp 51 = .ok (.lload_n 2, 1) := by decide +kernel
theorem dX9_timesUp_52 : decode cX9_timesUp 52 = .ok (.ldiv, 1) := by decide +kernel
theorem dX9_timesUp_53 : decode cX9_timesUp 53 = .ok (.lload_n 0, 1) := by decide +kernel
theorem dX9_timesUp_54 : decode cX9_timesUp 54 = .ok (.lcmp, 1) := by decide +kernel
theorem dX9_timesUp_55 : decode cX9_timesUp 55 = .ok (.ifCond .ne 7, 3) := by decide +kernel
theorem dX9_timesUp_58 : decode cX9_timesUp 58 = .ok (.iconst 1, 1) := by decide +kernel
theorem dX9_timesUp_59 : decode cX9_timesUp 59 = .ok (.goto 4, 3) := by decide +kernel
theorem dX9_timesUp_62 : decode cX9_timesUp 62 = .ok (.iconst 0, 1) := by decide +kernel
theorem dX9_timesUp_63 : decode cX9_timesUp 63 = .ok (.ireturn, 1) := by decide +kernel
theorem dX9_picture_0 : decode cX9_picture 0 = .ok (.iconst 0, 1) := by decide +kernel
theorem dX9_picture_1 : decode cX9_picture 1 = .ok (.istore_n 2, 1) := by decide +kernel
theorem dX9_picture_2 : decode cX9_picture 2 = .ok (.iload_n 2, 1) := by decide +kernel
theorem dX9_picture_3 : decode cX9_picture 3 = .ok (.bipush 40, 2) := by decide +kernel
theorem dX9_picture_5 : decode cX9_picture 5 = .ok (.if_icmp .ge 134, 3) := by decide +kernel
theorem dX9_picture_8 : decode cX9_picture 8 = .ok (.aload_n 0, 1) := by decide +kernel
theorem dX9_picture_9 : decode cX9_picture 9 = .ok (.getfield 205, 3) := by decide +kernel
theorem dX9_picture_12 : decode cX9_picture 12 = .ok (.bipush 40, 2) := by decide +kernel
theorem dX9_picture_14 : decode cX9_picture 14 = .ok (.iload_n 1, 1) := by decide +kernel
theorem dX9_picture_15 : decode cX9_picture 15 = .ok (.imul, 1) := by decide +kernel
theorem dX9_picture_16 : decode cX9_picture 16 = .ok (.iload_n 2, 1) := by decide +kernel
theorem dX9_picture_17 : decode cX9_picture 17 = .ok (.iadd, 1) := by decide +kernel
theorem dX9_picture_18 : decode cX9_picture 18 = .ok (.aload_n 0, 1) := by decide +kernel
theorem dX9_picture_19 : decode cX9_picture 19 = .ok (.getfield 145, 3) := by decide +kernel
theorem dX9_picture_22 : decode cX9_picture 22 = .ok (.bipush 40, 2) := by decide +kernel
theorem dX9_picture_24 : decode cX9_picture 24 = .ok (.aload_n 0, 1) := by decide +kernel
theorem dX9_picture_25 : decode cX9_picture 25 = .ok (.getfield 267, 3) := by decide +kernel
theorem dX9_picture_28 : decode cX9_picture 28 = .ok (.imul, 1) := by decide +kernel
theorem dX9_picture_29 : decode cX9_picture 29 = .ok (.iload_n 2, 1) := by decide +kernel
theorem dX9_picture_30 : decode cX9_picture 30 = .ok (.iadd, 1) := by decide +kernel
theorem dX9_picture_31 : decode cX9_picture 31 = .ok (.baload, 1) := by decide +kernel
theorem dX9_picture_32 : decode cX9_picture 32 = .ok (.bastore, 1) := by decide +kernel
theorem dX9_picture_33 : decode cX9_picture 33 = .ok (.aload_n 0, 1) := by decide +kernel
theorem dX9_picture_34 : decode cX9_picture 34 = .ok (.getfield 208, 3) := by decide +kernel
theorem dX9_picture_37 : decode cX9_picture 37 = .ok (.bipush 40, 2) := by decide +kernel
theorem dX9_picture_39 : decode cX9_picture 39 = .ok (.iload_n 1, 1) := by decide +kernel
theorem dX9_picture_40 : decode cX9_picture 40 = .ok (.imul, 1) := by decide +kernel
theorem dX9_picture_41 : decode cX9_picture 41 = .ok (.iload_n 2, 1) := by decide +kernel
theorem dX9_picture_42 : decode cX9_picture 42 = .ok (.iadd, 1) := by decide +kernel
theorem dX9_picture_43 : decode cX9_picture 43 = .ok (.aload_n 0, 1) := by decide +kernel
theorem dX9_picture_44 : decode cX9_picture 44 = .ok (.getfield 148, 3) := by decide +kernel
theorem dX9_picture_47 : decode cX9_picture 47 = .ok (.bipush 40, 2) := by decide +kernel
theorem dX9_picture_49 : decode cX9_picture 49 = .ok (.aload_n 0, 1) := by decide +kernel
theorem dX9_picture_50 : decode cX9_picture 50 = .ok (.getfield 267, 3) := by decide +kernel
theorem dX9_picture_53 : decode cX9_picture 53 = .ok (.imul, 1) := by decide +kernel
theorem dX9_picture_54 : decode cX9_picture 54 = .ok (.iload_n 2, 1) := by decide +kernel
theorem dX9_picture_55 : decode cX9_picture 55 = .ok (.iadd, 1) := by decide +kernel
theorem dX9_picture_56 : decode cX9_picture 56 = .ok (.iaload, 1) := by decide +kernel
theorem dX9_picture_57 : decode cX9_picture 57 = .ok (.iastore, 1) := by decide +kernel
theorem dX9_picture_58 : decode cX9_picture 58 = .ok (.aload_n 0, 1) := by decide +kernel
theorem dX9_picture_59 : decode cX9_picture 59 = .ok (.getfield 211, 3) := by decide +kernel
theorem dX9_picture_62 : decode cX9_picture 62 = .ok (.bipush 40, 2) := by decide +kernel
theorem dX9_picture_64 : decode cX9_picture 64 = .ok (.iload_n 1, 1) := by decide +kernel
theorem dX9_picture_65 : decode cX9_picture 65 = .ok (.imul, 1) := by decide +kernel
theorem dX9_picture_66 : decode cX9_picture 66 = .ok (.iload_n 2, 1) := by decide +kernel
theorem dX9_picture_67 : decode cX9_picture 67 = .ok (.iadd, 1) := by decide +kernel
theorem dX9_picture_68 : decode cX9_picture 68 = .ok (.aload_n 0, 1) := by decide +kernel
theorem dX9_picture_69 : decode cX9_picture 69 = .ok (.getfield 151, 3) := by decide +kernel
theorem dX9_picture_72 : decode cX9_picture 72 = .ok (.bipush 40, 2) := by decide +kernel
theorem dX9_picture_74 : decode cX9_picture 74 = .ok (.aload_n 0, 1) := by decide +kernel
theorem dX9_picture_75 : decode cX9_picture 75 = .ok (.getfield 267, 3) := by decide +kernel
theorem dX9_picture_78 : decode cX9_picture 78 = .ok (.imul, 1) := by decide +kernel
theorem dX9_picture_79 : decode cX9_picture 79 = .ok (.iload_n 2, 1) := by decide +kernel
theorem dX9_picture_80 : decode cX9_picture 80 = .ok (.iadd, 1) := by decide +kernel
theorem dX9_picture_81 : decode cX9_picture 81 = .ok (.laload, 1) := by decide +kernel
theorem dX9_picture_82 : decode cX9_picture 82 = .ok (.lastore, 1) := by decide +kernel
theorem dX9_picture_83 : decode cX9_picture 83 = .ok (.aload_n 0, 1) := by decide +kernel
theorem dX9_picture_84 : decode cX9_picture 84 = .ok (.getfield 214, 3) := by decide +kernel
theorem dX9_picture_87 : decode cX9_picture 87 = .ok (.bipush 40, 2) := by decide +kernel
theorem dX9_picture_89 : decode cX9_picture 89 = .ok (.iload_n 1, 1) := by decide +kernel
theorem dX9_picture_90 : decode cX9_picture 90 = .ok (.imul, 1) := by decide +kernel
theorem dX9_picture_91 : decode cX9_picture 91 = .ok (.iload_n 2, 1) := by decide +kernel
theorem dX9_picture_92 : decode cX9_picture 92 = .ok (.iadd, 1) := by decide +kernel
theorem dX9_picture_93 : decode cX9_picture 93 = .ok (.aload_n 0, 1) := by decide +kernel
theorem dX9_picture_94 : decode cX9_picture 94 = .ok (.getfield 154, 3) := by decide +kernel
theorem dX9_picture_97 : decode cX9_picture 97 = .ok (.bipush 40, 2) := by decide +kernel
theorem dX9_picture_99 : decode cX9_picture 99 = .ok (.aload_n 0, 1) := by decide +kernel
theorem dX9_picture_100 : decode cX9_picture 100 = .ok (.getfield 267, 3) := by decide +kernel
theorem dX9_picture_103 : decode cX9_picture 103 = .ok (.imul, 1) := by decide +kernel
theorem dX9_picture_104 : decode cX9_picture 104 = .ok (.iload_n 2, 1) := by decide +kernel
theorem dX9_picture_105 : decode cX9_picture 105 = .ok (.iadd, 1) := by decide +kernel
theorem dX9_picture_106 : decode cX9_picture 106 = .ok (.iaload, 1) := by decide +kernel
theorem dX9_picture_107 : decode cX9_picture 107 = .ok (.iastore, 1) := by decide +kernel
theorem dX9_picture_108 : decode cX9_picture 108 = .ok (.aload_n 0, 1) := by decide +kernel
theorem dX9_picture_109 : decode cX9_picture 109 = .ok (.getfield 217, 3) := by decide +kernel
theorem dX9_picture_112 : decode cX9_picture 112 = .ok (.bipush 40, 2) := by decide +kernel
theorem dX9_picture_114 : decode cX9_picture 114 = .ok (.iload_n 1, 1) := by decide +kernel
theorem dX9_picture_115 : decode cX9_picture 115 = .ok (.imul, 1) := by decide +kernel
theorem dX9_picture_116 : decode cX9_picture 116 = .ok (.iload_n 2, 1) := by decide +kernel
theorem dX9_picture_117 : decode cX9_picture 117 = .ok (.iadd, 1) := by decide +kernel
theorem dX9_picture_118 : decode cX9_picture 118 = .ok (.aload_n 0, 1) := by decide +kernel
theorem dX9_picture_119 : decode cX9_picture 119 = .ok (.getfield 157, 3) := by decide +kernel
theorem dX9_picture_122 : decode cX9_picture 122 = .ok (.bipush 40, 2) := by decide +kernel
theorem dX9_picture_124 : decode cX9_picture 124 = .ok (.aload_n 0, 1) := by decide +kernel
theorem dX9_picture_125 : decode cX9_picture 125 = .ok (.getfield 267, 3) := by decide +kernel
theorem dX9_picture_128 : decode cX9_picture 128 = .ok (.imul, 1) := by decide +kernel
theorem dX9_picture_129 : decode cX9_picture 129 = .ok (.iload_n 2, 1) := by decide +kernel
theorem dX9_picture_130 : decode cX9_picture 130 = .ok (.iadd, 1) := by decide +kernel
theorem dX9_picture_131 : decode cX9_picture 131 = .ok (.iaload, 1) := by decide +kernel
theorem dX9_picture_132 : decode cX9_picture 132 = .ok (.iastore, 1) := by decide +kernel
theorem dX9_picture_133 : decode cX9_picture 133 = .ok (.iinc 2 1, 3) := by decide +kernel
theorem dX9_picture_136 : decode cX9_picture 136 = .ok (.goto (-134), 3) := by decide +kernel
theorem dX9_picture_139 : decode cX9_picture 139 = .ok (.return_, 1) := by decide +kernel
theorem dX9_enter_0 : decode cX9_enter 0 = .ok (.aload_n 0, 1) := by decide +kernel
theorem dX9_enter_1 : decode cX9_enter 1 = .ok (.getfield 184, 3) := by decide +kernel
theorem dX9_enter_4 : decode cX9_enter 4 = .ok (.aload_n 0, 1) := by decide +kernel
theorem dX9_enter_5 : decode cX9_enter 5 = .ok (.getfield 267, 3) := by decide +kernel
theorem dX9_enter_8 : decode cX9_enter 8 = .ok (.iaload, 1) := by decide +kernel
theorem dX9_enter_9 : decode cX9_enter 9 = .ok (.istore_n 3, 1) := by decide +kernel
theorem dX9_enter_10 : decode cX9_enter 10 = .ok (.aload_n 0, 1) := by decide +kernel
theorem dX9_enter_11 : decode cX9_enter 11 = .ok (.getfield 187, 3) := by decide +kernel
theorem dX9_enter_14 : decode cX9_enter 14 = .ok (.bipush 6, 2) := by decide +kernel
theorem dX9_enter_16 : decode cX9_enter 16 = .ok (.aload_n 0, 1) := by decide +kernel
theorem dX9_enter_17 : decode cX9_enter 17 = .ok (.getfield 267, 3) := by decide +kernel
theorem dX9_enter_20 : decode cX9_enter 20 = .ok (.imul, 1) := by decide +kernel
theorem dX9_enter_21 : decode cX9_enter 21 = .ok (.iload_n 3, 1) := by decide +kernel
theorem dX9_enter_22 : decode cX9_enter 22 = .ok (.iadd, 1) := by decide +kernel
theorem dX9_enter_23 : decode cX9_enter 23 = .ok (.iload_n 1, 1) := by decide +kernel
theorem dX9_enter_24 : decode cX9_enter 24 = .ok (.iastore, 1) := by decide +kernel
theorem dX9_enter_25 : decode cX9_enter 25 = .ok (.aload_n 0, 1) := by decide +kernel
theorem dX9_enter_26 : decode cX9_enter 26 = .ok (.getfield 190, 3) := by decide +kernel
theorem dX9_enter_29 : decode cX9_enter 29 = .ok (.bipush 6, 2) := by decide +kernel
theorem dX9_enter_31 : decode cX9_enter 31 = .ok (.aload_n 0, 1) := by decide +kernel
theorem dX9_enter_32 : decode cX9_enter 32 = .ok (.getfield 267, 3) := by decide +kernel
theorem dX9_enter_35 : decode cX9_enter 35 = .ok (.imul, 1) := by decide +kernel
theorem dX9_enter_36 : decode cX9_enter 36 = .ok (.iload_n 3, 1) := by decide +kernel
theorem dX9_enter_37 : decode cX9_enter 37 = .ok (.iadd, 1) := by decide +kernel
theorem dX9_enter_38 : decode cX9_enter 38 = .ok (.iconst 0, 1) := by decide +kernel
theorem dX9_enter_39 : decode cX9_enter 39 = .ok (.iastore, 1) := by decide +kernel
theorem dX9_enter_40 : decode cX9_enter 40 = .ok (.aload_n 0, 1) := by decide +kernel
theorem dX9_enter_41 : decode cX9_enter 41 = .ok (.getfield 193, 3) := by decide +kernel
theorem dX9_enter_44 : decode cX9_enter 44 = .ok (.bipush 6, 2) := by decide +kernel
theorem dX9_enter_46 : decode cX9_enter 46 = .ok (.aload_n 0, 1) := by decide +kernel
theorem dX9_enter_47 : decode cX9_enter 47 = .ok (.getfield 267, 3) := by decide +kernel
theorem dX9_enter_50 : decode cX9_enter 50 = .ok (.imul, 1) := by decide +kernel
theorem dX9_enter_51 : decode cX9_enter 51 = .ok (.iload_n 3, 1) := by decide +kernel
theorem dX9_enter_52 : decode cX9_enter 52 = .ok (.iadd, 1) := by decide +kernel
theorem dX9_enter_53 : decode cX9_enter 53 = .ok (.iload_n 2, 1) := by decide +kernel
theorem dX9_enter_54 : decode cX9_enter 54 = .ok (.iastore, 1) := by decide +kernel
theorem dX9_enter_55 : decode cX9_enter 55 = .ok (.aload_n 0, 1) := by decide +kernel
theorem dX9_enter_56 : decode cX9_enter 56 = .ok (.getfield 196, 3) := by decide +kernel
theorem dX9_enter_59 : decode cX9_enter 59 = .ok (.bipush 6, 2) := by decide +kernel
theorem dX9_enter_61 : decode cX9_enter 61 = .ok (.aload_n 0, 1) := by decide +kernel
theorem dX9_enter_62 : decode cX9_enter 62 = .ok (.getfield 267, 3) := by decide +kernel
theorem dX9_enter_65 : decode cX9_enter 65 = .ok (.imul, 1) := by decide +kernel
theorem dX9_enter_66 : decode cX9_enter 66 = .ok (.iload_n 3, 1) := by decide +kernel
theorem dX9_enter_67 : decode cX9_enter 67 = .ok (.iadd, 1) := by decide +kernel
theorem dX9_enter_68 : decode cX9_enter 68 = .ok (.aload_n 0, 1) := by decide +kernel
theorem dX9_enter_69 : decode cX9_enter 69 = .ok (.getfield 287, 3) := by decide +kernel
theorem dX9_enter_72 : decode cX9_enter 72 = .ok (.lastore, 1) := by decide +kernel
theorem dX9_enter_73 : decode cX9_enter 73 = .ok (.aload_n 0, 1) := by decide +kernel
theorem dX9_enter_74 : decode cX9_enter 74 = .ok (.getfield 199, 3) := by decide +kernel
theorem dX9_enter_77 : decode cX9_enter 77 = .ok (.bipush 6, 2) := by decide +kernel
theorem dX9_enter_79 : decode cX9_enter 79 = .ok (.aload_n 0, 1) := by decide +kernel
theorem dX9_enter_80 : decode cX9_enter 80 = .ok (.getfield 267, 3) := by decide +kernel
theorem dX9_enter_83 : decode cX9_enter 83 = .ok (.imul, 1) := by decide +kernel
theorem dX9_enter_84 : decode cX9_enter 84 = .ok (.iload_n 3, 1) := by decide +kernel
theorem dX9_enter_85 : decode cX9_enter 85 = .ok (.iadd, 1) := by decide +kernel
theorem dX9_enter_86 : decode cX9_enter 86 = .ok (.aload_n 0, 1) := by decide +kernel
theorem dX9_enter_87 : decode cX9_enter 87 = .ok (.getfield 166, 3) := by decide +kernel
theorem dX9_enter_90 : decode cX9_enter 90 = .ok (.aload_n 0, 1) := by decide +kernel
theorem dX9_enter_91 : decode cX9_enter 91 = .ok (.getfield 267, 3) := by decide +kernel
theorem dX9_enter_94 : decode cX9_enter 94 = .ok (.iaload, 1) := by decide +kernel
theorem dX9_enter_95 : decode cX9_enter 95 = .ok (.iastore, 1) := by decide +kernel
theorem dX9_enter_96 : decode cX9_enter 96 = .ok (.aload_n 0, 1) := by decide +kernel
theorem dX9_enter_97 : decode cX9_enter 97 = .ok (.getfield 202, 3) := by decide +kernel
theorem dX9_enter_100 : decode cX9_enter 100 = .ok (.bipush 6, 2) := by decide +kernel
theorem dX9_enter_102 : decode cX9_enter 102 = .ok (.aload_n 0, 1) := by decide +kernel
theorem dX9_enter_103 : decode cX9_enter 103 = .ok (.getfield 267, 3) := by decide +kernel
theorem dX9_enter_106 : decode cX9_enter 106 = .ok (.imul, 1) := by decide +kernel
theorem dX9_enter_107 : decode cX9_enter 107 = .ok (.iload_n 3, 1) := by decide +kernel
theorem dX9_enter_108 : decode cX9_enter 108 = .ok (.iadd, 1) := by decide +kernel
theorem dX9_enter_109 : decode cX9_enter 109 = .ok (.aload_n 0, 1) := by decide +kernel
theorem dX9_enter_110 : decode cX9_enter 110 = .ok (.getfield 172, 3) := by decide +kernel
theorem dX9_enter_113 : decode cX9_enter 113 = .ok (.aload_n 0, 1) := by decide +kernel
theorem dX9_enter_114 : decode cX9_enter 114 = .ok (.getfield 267, 3) := by decide +kernel
theorem dX9_enter_117 : decode cX9_enter 117 = .ok (.iaload, 1) := by decide +kernel
theorem dX9_enter_118 : decode cX9_enter 118 = .ok (.iastore, 1) := by decide +kernel
theorem dX9_enter_119 : decode cX9_enter 119 = .ok (.iload_n 2, 1) := by decide +kernel
theorem dX9_enter_120 : decode cX9_enter 120 = .ok (.ifCond .le 8, 3) := by decide +kernel
theorem dX9_enter_123 : decode cX9_enter 123 = .ok (.aload_n 0, 1) := by decide +kernel
theorem dX9_enter_124 : decode cX9_enter 124 = .ok (.iload_n 3, 1) := by decide +kernel
theorem dX9_enter_125 : decode cX9_enter 125 = .ok (.invokevirtual 291, 3) := by decide +kernel
theorem dX9_enter_128 : decode cX9_enter 128 = .ok (.aload_n 0, 1) := by decide +kernel
theorem dX9_enter_129 : decode cX9_enter 129 = .ok (.getfield 184, 3) := by decide +kernel
theorem dX9_enter_132 : decode cX9_enter 132 = .ok (.aload_n 0, 1) := by decide +kernel
theorem dX9_enter_133 : decode cX9_enter 133 = .ok (.getfield 267, 3) := by decide +kernel
theorem dX9_enter_136 : decode cX9_enter 136 = .ok (.dup2, 1) := by decide +kernel
theorem dX9_enter_137 : decode cX9_enter 137 = .ok (.iaload, 1) := by decide +kernel
theorem dX9_enter_138 : decode cX9_enter 138 = .ok (.iconst 1, 1) := by decide +kernel
theorem dX9_enter_139 : decode cX9_enter 139 = .ok (.iadd, 1) := by decide +kernel
theorem dX9_enter_140 : decode cX9_enter 140 = .ok (.iastore, 1) := by decide +kernel
theorem dX9_enter_141 : decode cX9_enter 141 = .ok (.return_, 1) := by decide +kernel
theorem dX9_undo_0 : decode cX9_undo 0 = .ok (.aload_n 0, 1) := by decide +kernel
theorem dX9_undo_1 : decode cX9_undo 1 = .ok (.getfield 184, 3) := by decide +kernel
theorem dX9_undo_4 : decode cX9_undo 4 = .ok (.aload_n 0, 1) := by decide +kernel
theorem dX9_undo_5 : decode cX9_undo 5 = .ok (.getfield 267, 3) := by decide +kernel
theorem dX9_undo_8 : decode cX9_undo 8 = .ok (.dup2, 1) := by decide +kernel
theorem dX9_undo_9 : decode cX9_undo 9 = .ok (.iaload, 1) := by decide +kernel
theorem dX9_undo_10 : decode cX9_undo 10 = .ok (.iconst 1, 1) := by decide +kernel
theorem dX9_undo_11 : decode cX9_undo 11 = .ok (.isub, 1) := by decide +kernel
theorem dX9_undo_12 : decode cX9_undo 12 = .ok (.iastore, 1) := by decide +kernel
theorem dX9_undo_13 : decode cX9_undo 13 = .ok (.aload_n 0, 1) := by decide +kernel
theorem dX9_undo_14 : decode cX9_undo 14 = .ok (.getfield 184, 3) := by decide +kernel
theorem dX9_undo_17 : decode cX9_undo 17 = .ok (.aload_n 0, 1) := by decide +kernel
theorem dX9_undo_18 : decode cX9_undo 18 = .ok (.getfield 267, 3) := by decide +kernel
theorem dX9_undo_21 : decode cX9_undo 21 = .ok (.iaload, 1) := by decide +kernel
theorem dX9_undo_22 : decode cX9_undo 22 = .ok (.istore_n 1, 1) := by decide +kernel
theorem dX9_undo_23 : decode cX9_undo 23 = .ok (.iconst 0, 1) := by decide +kernel
theorem dX9_undo_24 : decode cX9_undo 24 = .ok (.istore_n 2, 1) := by decide +kernel
theorem dX9_undo_25 : decode cX9_undo 25 = .ok (.iload_n 2, 1) := by decide +kernel
theorem dX9_undo_26 : decode cX9_undo 26 = .ok (.bipush 40, 2) := by decide +kernel
theorem dX9_undo_28 : decode cX9_undo 28 = .ok (.if_icmp .ge 134, 3) := by decide +kernel
theorem dX9_undo_31 : decode cX9_undo 31 = .ok (.aload_n 0, 1) := by decide +kernel
theorem dX9_undo_32 : decode cX9_undo 32 = .ok (.getfield 145, 3) := by decide +kernel
theorem dX9_undo_35 : decode cX9_undo 35 = .ok (.bipush 40, 2) := by decide +kernel
theorem dX9_undo_37 : decode cX9_undo 37 = .ok (.aload_n 0, 1) := by decide +kernel
theorem dX9_undo_38 : decode cX9_undo 38 = .ok (.getfield 267, 3) := by decide +kernel
theorem dX9_undo_41 : decode cX9_undo 41 = .ok (.imul, 1) := by decide +kernel
theorem dX9_undo_42 : decode cX9_undo 42 = .ok (.iload_n 2, 1) := by decide +kernel
theorem dX9_undo_43 : decode cX9_undo 43 = .ok (.iadd, 1) := by decide +kernel
theorem dX9_undo_44 : decode cX9_undo 44 = .ok (.aload_n 0, 1) := by decide +kernel
theorem dX9_undo_45 : decode cX9_undo 45 = .ok (.getfield 205, 3) := by decide +kernel
theorem dX9_undo_48 : decode cX9_undo 48 = .ok (.bipush 40, 2) := by decide +kernel
theorem dX9_undo_50 : decode cX9_undo 50 = .ok (.iload_n 1, 1) := by decide +kernel
theorem dX9_undo_51 : decode cX9_undo 51 = .ok (.imul, 1) := by decide +kernel
theorem dX9_undo_52 : decode cX9_undo 52 = .ok (.iload_n 2, 1) := by decide +kernel
theorem dX9_undo_53 : decode cX9_undo 53 = .ok (.iadd, 1) := by decide +kernel
theorem dX9_undo_54 : decode cX9_undo 54 = .ok (.baload, 1) := by decide +kernel
theorem dX9_undo_55 : decode cX9_undo 55 = .ok (.bastore, 1) := by decide +kernel
theorem dX9_undo_56 : decode cX9_undo 56 = .ok (.aload_n 0, 1) := by decide +kernel
theorem dX9_undo_57 : decode cX9_undo 57 = .ok (.getfield 148, 3) := by decide +kernel
theorem dX9_undo_60 : decode cX9_undo 60 = .ok (.bipush 40, 2) := by decide +kernel
theorem dX9_undo_62 : decode cX9_undo 62 = .ok (.aload_n 0, 1) := by decide +kernel
theorem dX9_undo_63 : decode cX9_undo 63 = .ok (.getfield 267, 3) := by decide +kernel
theorem dX9_undo_66 : decode cX9_undo 66 = .ok (.imul, 1) := by decide +kernel
theorem dX9_undo_67 : decode cX9_undo 67 = .ok (.iload_n 2, 1) := by decide +kernel
theorem dX9_undo_68 : decode cX9_undo 68 = .ok (.iadd, 1) := by decide +kernel
theorem dX9_undo_69 : decode cX9_undo 69 = .ok (.aload_n 0, 1) := by decide +kernel
theorem dX9_undo_70 : decode cX9_undo 70 = .ok (.getfield 208, 3) := by decide +kernel
theorem dX9_undo_73 : decode cX9_undo 73 = .ok (.bipush 40, 2) := by decide +kernel
theorem dX9_undo_75 : decode cX9_undo 75 = .ok (.iload_n 1, 1) := by decide +kernel
theorem dX9_undo_76 : decode cX9_undo 76 = .ok (.imul, 1) := by decide +kernel
theorem dX9_undo_77 : decode cX9_undo 77 = .ok (.iload_n 2, 1) := by decide +kernel
theorem dX9_undo_78 : decode cX9_undo 78 = .ok (.iadd, 1) := by decide +kernel
theorem dX9_undo_79 : decode cX9_undo 79 = .ok (.iaload, 1) := by decide +kernel
theorem dX9_undo_80 : decode cX9_undo 80 = .ok (.iastore, 1) := by decide +kernel
theorem dX9_undo_81 : decode cX9_undo 81 = .ok (.aload_n 0, 1) := by decide +kernel
theorem dX9_undo_82 : decode cX9_undo 82 = .ok (.getfield 151, 3) := by decide +kernel
theorem dX9_undo_85 : decode cX9_undo 85 = .ok (.bipush 40, 2) := by decide +kernel
theorem dX9_undo_87 : decode cX9_undo 87 = .ok (.aload_n 0, 1) := by decide +kernel
theorem dX9_undo_88 : decode cX9_undo 88 = .ok (.getfield 267, 3) := by decide +kernel
theorem dX9_undo_91 : decode cX9_undo 91 = .ok (.imul, 1) := by decide +kernel
theorem dX9_undo_92 : decode cX9_undo 92 = .ok (.iload_n 2, 1) := by decide +kernel
theorem dX9_undo_93 : decode cX9_undo 93 = .ok (.iadd, 1) := by decide +kernel
theorem dX9_undo_94 : decode cX9_undo 94 = .ok (.aload_n 0, 1) := by decide +kernel
theorem dX9_undo_95 : decode cX9_undo 95 = .ok (.getfield 211, 3) := by decide +kernel
theorem dX9_undo_98 : decode cX9_undo 98 = .ok (.bipush 40, 2) := by decide +kernel
theorem dX9_undo_100 : decode cX9_undo 100 = .ok (.iload_n 1, 1) := by decide +kernel
theorem dX9_undo_101 : decode cX9_undo 101 = .ok (.imul, 1) := by decide +kernel
theorem dX9_undo_102 : decode cX9_undo 102 = .ok (.iload_n 2, 1) := by decide +kernel
theorem dX9_undo_103 : decode cX9_undo 103 = .ok (.iadd, 1) := by decide +kernel
theorem dX9_undo_104 : decode cX9_undo 104 = .ok (.laload, 1) := by decide +kernel
theorem dX9_undo_105 : decode cX9_undo 105 = .ok (.lastore, 1) := by decide +kernel
theorem dX9_undo_106 : decode cX9_undo 106 = .ok (.aload_n 0, 1) := by decide +kernel
theorem dX9_undo_107 : decode cX9_undo 107 = .ok (.getfield 154, 3) := by decide +kernel
theorem dX9_undo_110 : decode cX9_undo 110 = .ok (.bipush 40, 2) := by decide +kernel
theorem dX9_undo_112 : decode cX9_undo 112 = .ok (.aload_n 0, 1) := by decide +kernel
theorem dX9_undo_113 : decode cX9_undo 113 = .ok (.getfield 267, 3) := by decide +kernel
theorem dX9_undo_116 : decode cX9_undo 116 = .ok (.imul, 1) := by decide +kernel
theorem dX9_undo_117 : decode cX9_undo 117 = .ok (.iload_n 2, 1) := by decide +kernel
theorem dX9_undo_118 : decode cX9_undo 118 = .ok (.iadd, 1) := by decide +kernel
theorem dX9_undo_119 : decode cX9_undo 119 = .ok (.aload_n 0, 1) := by decide +kernel
theorem dX9_undo_120 : decode cX9_undo 120 = .ok (.getfield 214, 3) := by decide +kernel
theorem dX9_undo_123 : decode cX9_undo 123 = .ok (.bipush 40, 2) := by decide +kernel
theorem dX9_undo_125 : decode cX9_undo 125 = .ok (.iload_n 1, 1) := by decide +kernel
theorem dX9_undo_126 : decode cX9_undo 126 = .ok (.imul, 1) := by decide +kernel
theorem dX9_undo_127 : decode cX9_undo 127 = .ok (.iload_n 2, 1) := by decide +kernel
theorem dX9_undo_128 : decode cX9_undo 128 = .ok (.iadd, 1) := by decide +kernel
theorem dX9_undo_129 : decode cX9_undo 129 = .ok (.iaload, 1) := by decide +kernel
theorem dX9_undo_130 : decode cX9_undo 130 = .ok (.iastore, 1) := by decide +kernel
theorem dX9_undo_131 : decode cX9_undo 131 = .ok (.aload_n 0, 1) := by decide +kernel
theorem dX9_undo_132 : decode cX9_undo 132 = .ok (.getfield 157, 3) := by decide +kernel
theorem dX9_undo_135 : decode cX9_undo 135 = .ok (.bipush 40, 2) := by decide +kernel
theorem dX9_undo_137 : decode cX9_undo 137 = .ok (.aload_n 0, 1) := by decide +kernel
theorem dX9_undo_138 : decode cX9_undo 138 = .ok (.getfield 267, 3) := by decide +kernel
theorem dX9_undo_141 : decode cX9_undo 141 = .ok (.imul, 1) := by decide +kernel
theorem dX9_undo_142 : decode cX9_undo 142 = .ok (.iload_n 2, 1) := by decide +kernel
theorem dX9_undo_143 : decode cX9_undo 143 = .ok (.iadd, 1) := by decide +kernel
theorem dX9_undo_144 : decode cX9_undo 144 = .ok (.aload_n 0, 1) := by decide +kernel
theorem dX9_undo_145 : decode cX9_undo 145 = .ok (.getfield 217, 3) := by decide +kernel
theorem dX9_undo_148 : decode cX9_undo 148 = .ok (.bipush 40, 2) := by decide +kernel
theorem dX9_undo_150 : decode cX9_undo 150 = .ok (.iload_n 1, 1) := by decide +kernel
theorem dX9_undo_151 : decode cX9_undo 151 = .ok (.imul, 1) := by decide +kernel
theorem dX9_undo_152 : decode cX9_undo 152 = .ok (.iload_n 2, 1) := by decide +kernel
theorem dX9_undo_153 : decode cX9_undo 153 = .ok (.iadd, 1) := by decide +kernel
theorem dX9_undo_154 : decode cX9_undo 154 = .ok (.iaload, 1) := by decide +kernel
theorem dX9_undo_155 : decode cX9_undo 155 = .ok (.iastore, 1) := by decide +kernel
theorem dX9_undo_156 : decode cX9_undo 156 = .ok (.iinc 2 1, 3) := by decide +kernel
theorem dX9_undo_159 : decode cX9_undo 159 = .ok (.goto (-134), 3) := by decide +kernel
theorem dX9_undo_162 : decode cX9_undo 162 = .ok (.aload_n 0, 1) := by decide +kernel
theorem dX9_undo_163 : decode cX9_undo 163 = .ok (.getfield 166, 3) := by decide +kernel
theorem dX9_undo_166 : decode cX9_undo 166 = .ok (.aload_n 0, 1) := by decide +kernel
theorem dX9_undo_167 : decode cX9_undo 167 = .ok (.getfield 267, 3) := by decide +kernel
theorem dX9_undo_170 : decode cX9_undo 170 = .ok (.aload_n 0, 1) := by decide +kernel
theorem dX9_undo_171 : decode cX9_undo 171 = .ok (.getfield 199, 3) := by decide +kernel
theorem dX9_undo_174 : decode cX9_undo 174 = .ok (.bipush 6, 2) := by decide +kernel
theorem dX9_undo_176 : decode cX9_undo 176 = .ok (.aload_n 0, 1) := by decide +kernel
theorem dX9_undo_177 : decode cX9_undo 177 = .ok (.getfield 267, 3) := by decide +kernel
theorem dX9_undo_180 : decode cX9_undo 180 = .ok (.imul, 1) := by decide +kernel
theorem dX9_undo_181 : decode cX9_undo 181 = .ok (.iload_n 1, 1) := by decide +kernel
theorem dX9_undo_182 : decode cX9_undo 182 = .ok (.iadd, 1) := by decide +kernel
theorem dX9_undo_183 : decode cX9_undo 183 = .ok (.iaload, 1) := by decide +kernel
theorem dX9_undo_184 : decode cX9_undo 184 = .ok (.iastore, 1) := by decide +kernel
theorem dX9_undo_185 : decode cX9_undo 185 = .ok (.aload_n 0, 1) := by decide +kernel
theorem dX9_undo_186 : decode cX9_undo 186 = .ok (.getfield 172, 3) := by decide +kernel
theorem dX9_undo_189 : decode cX9_undo 189 = .ok (.aload_n 0, 1) := by decide +kernel
theorem dX9_undo_190 : decode cX9_undo 190 = .ok (.getfield 267, 3) := by decide +kernel
theorem dX9_undo_193 : decode cX9_undo 193 = .ok (.aload_n 0, 1) := by decide +kernel
theorem dX9_undo_194 : decode cX9_undo 194 = .ok (.getfield 202, 3) := by decide +kernel
theorem dX9_undo_197 : decode cX9_undo 197 = .ok (.bipush 6, 2) := by decide +kernel
theorem dX9_undo_199 : decode cX9_undo 199 = .ok (.aload_n 0, 1) := by decide +kernel
theorem dX9_undo_200 : decode cX9_undo 200 = .ok (.getfield 267, 3) := by decide +kernel
theorem dX9_undo_203 : decode cX9_undo 203 = .ok (.imul, 1) := by decide +kernel
theorem dX9_undo_204 : decode cX9_undo 204 = .ok (.iload_n 1, 1) := by decide +kernel
theorem dX9_undo_205 : decode cX9_undo 205 = .ok (.iadd, 1) := by decide +kernel
theorem dX9_undo_206 : decode cX9_undo 206 = .ok (.iaload, 1) := by decide +kernel
theorem dX9_undo_207 : decode cX9_undo 207 = .ok (.iastore, 1) := by decide +kernel
theorem dX9_undo_208 : decode cX9_undo 208 = .ok (.return_, 1) := by decide +kernel
theorem dX9_give_0 : decode cX9_give 0 = .ok (.aload_n 0, 1) := by decide +kernel
theorem dX9_give_1 : decode cX9_give 1 = .ok (.iload_n 1, 1) := by decide +kernel
theorem dX9_give_2 : decode cX9_give 2 = .ok (.iconst 2, 1) := by decide +kernel
theorem dX9_give_3 : decode cX9_give 3 = .ok (.invokevirtual 294, 3) := by decide +kernel
theorem dX9_give_6 : decode cX9_give 6 = .ok (.ifCond .eq 12, 3) := by decide +kernel
theorem dX9_give_9 : decode cX9_give 9 = .ok (.aload_n 0, 1) := by decide +kernel
theorem dX9_give_10 : decode cX9_give 10 = .ok (.iload_n 2, 1) := by decide +kernel
theorem dX9_give_11 : decode cX9_give 11 = .ok (.iconst 2, 1) := by decide +kernel
theorem dX9_give_12 : decode cX9_give 12 = .ok (.invokevirtual 294, 3) := by decide +kernel
theorem dX9_give_15 : decode cX9_give 15 = .ok (.ifCond .ne 4, 3) := by decide +kernel
theorem dX9_give_18 : decode cX9_give 18 = .ok (.return_, 1) := by decide +kernel
theorem dX9_give_19 : decode cX9_give 19 = .ok (.aload_n 0, 1) := by decide +kernel
theorem dX9_give_20 : decode cX9_give 20 = .ok (.iload_n 1, 1) := by decide +kernel
theorem dX9_give_21 : decode cX9_give 21 = .ok (.invokevirtual 298, 3) := by decide +kernel
theorem dX9_give_24 : decode cX9_give 24 = .ok (.lstore_n 3, 1) := by decide +kernel
theorem dX9_give_25 : decode cX9_give 25 = .ok (.aload_n 0, 1) := by decide +kernel
theorem dX9_give_26 : decode cX9_give 26 = .ok (.iload_n 2, 1) := by decide +kernel
theorem dX9_give_27 : decode cX9_give 27 = .ok (.invokevirtual 298, 3) := by decide +kernel
theorem dX9_give_30 : decode cX9_give 30 = .ok (.lstore 5, 2) := by decide +kernel
theorem dX9_give_32 : decode cX9_give 32 = .ok (.aload_n 0, 1) := by decide +kernel
theorem dX9_give_33 : decode cX9_give 33 = .ok (.iload_n 1, 1) := by decide +kernel
theorem dX9_give_34 : decode cX9_give 34 = .ok (.invokevirtual 302, 3) := by decide +kernel
theorem dX9_give_37 : decode cX9_give 37 = .ok (.aload_n 0, 1) := by decide +kernel
theorem dX9_give_38 : decode cX9_give 38 = .ok (.iload_n 2, 1) := by decide +kernel
theorem dX9_give_39 : decode cX9_give 39 = .ok (.invokevirtual 302, 3) := by decide +kernel
theorem dX9_give_42 : decode cX9_give 42 = .ok (.if_icmp .eq 12, 3) := by decide +kernel
theorem dX9_give_45 : decode cX9_give 45 = .ok (.aload_n 0, 1) := by decide +kernel
theorem dX9_give_46 : decode cX9_give 46 = .ok (.bipush 7, 2) := by decide +kernel
theorem dX9_give_48 : decode cX9_give 48 = .ok (.putfield 278, 3) := by decide +kernel
theorem dX9_give_51 : decode cX9_give 51 = .ok (.goto 119, 3) := by decide +kernel
theorem dX9_give_54 : decode cX9_give 54 = .ok (.aload_n 0, 1) := by decide +kernel
theorem dX9_give_55 : decode cX9_give 55 = .ok (.getfield 287, 3) := by decide +kernel
theorem dX9_give_58 : decode cX9_give 58 = .ok (.lconst 0, 1) := by decide +kernel
theorem dX9_give_59 : decode cX9_give 59 = .ok (.lcmp, 1) := by decide +kernel
theorem dX9_give_60 : decode cX9_give 60 = .ok (.ifCond .lt 31, 3) := by decide +kernel
theorem dX9_give_63 : decode cX9_give 63 = .ok (.aload_n 0, 1) := by decide +kernel
theorem dX9_give_64 : decode cX9_give 64 = .ok (.getfield 287, 3) := by decide +kernel
theorem dX9_give_67 : decode cX9_give 67 = .ok (.lload_n 3, 1) := by decide +kernel
theorem dX9_give_68 : decode cX9_give 68 = .ok (.lcmp, 1) := by decide +kernel
theorem dX9_give_69 : decode cX9_give 69 = .ok (.ifCond .gt 22, 3) := by decide +kernel
theorem dX9_give_72 : decode cX9_give 72 = .ok (.iload_n 1, 1) := by decide +kernel
theorem dX9_give_73 : decode cX9_give 73 = .ok (.iload_n 2, 1) := by decide +kernel
theorem dX9_give_74 : decode cX9_give 74 = .ok (.if_icmp .eq 26, 3) := by decide +kernel
theorem dX9_give_77 : decode cX9_give 77 = .ok (.lload 5, 2) := by decide +kernel
theorem dX9_give_79 : decode cX9_give 79 = .ok (.aload_n 0, 1) := by decide +kernel
theorem dX9_give_80 : decode cX9_give 80 = .ok (.getfield 287, 3) := by decide +kernel
theorem dX9_give_83 : decode cX9_give 83 = .ok (.ladd, 1) := by decide +kernel
theorem dX9_give_84 : decode cX9_give 84 = .ok (.ldc2_w 244, 3) := by decide +kernel
theorem dX9_give_87 : decode cX9_give 87 = .ok (.lcmp, 1) := by decide +kernel
theorem dX9_give_88 : decode cX9_give 88 = .ok (.ifCond .le 12, 3) := by decide +kernel
theorem dX9_give_91 : decode cX9_give 91 = .ok (.aload_n 0, 1) := by decide +kernel
theorem dX9_give_92 : decode cX9_give 92 = .ok (.bipush 6, 2) := by decide +kernel
theorem dX9_give_94 : decode cX9_give 94 = .ok (.putfield 278, 3) := by decide +kernel
theorem dX9_give_97 : decode cX9_give 97 = .ok (.goto 73, 3) := by decide +kernel
theorem dX9_give_100 : decode cX9_give 100 = .ok (.iload_n 1, 1) := by decide +kernel
theorem dX9_give_101 : decode cX9_give 101 = .ok (.iload_n 2, 1) := by decide +kernel
theorem dX9_give_102 : decode cX9_give 102 = .ok (.if_icmp .ne 23, 3) := by decide +kernel
theorem dX9_give_105 : decode cX9_give 105 = .ok (.aload_n 0, 1) := by decide +kernel
theorem dX9_give_106 : decode cX9_give 106 = .ok (.iload_n 1, 1) := by decide +kernel
theorem dX9_give_107 : decode cX9_give 107 = .ok (.iconst 2, 1) := by decide +kernel
theorem dX9_give_108 : decode cX9_give 108 = .ok (.lload_n 3, 1) := by decide +kernel
theorem dX9_give_109 : decode cX9_give 109 = .ok (.aload_n 0, 1) := by decide +kernel
theorem dX9_give_110 : decode cX9_give 110 = .ok (.iload_n 1, 1) := by decide +kernel
theorem dX9_give_111 : decode cX9_give 111 = .ok (.invokevirtual 302, 3) := by decide +kernel
theorem dX9_give_114 : decode cX9_give 114 = .ok (.aload_n 0, 1) := by decide +kernel
theorem dX9_give_115 : decode cX9_give 115 = .ok (.iload_n 1, 1) := by decide +kernel
theorem dX9_give_116 : decode cX9_give 116 = .ok (.invokevirtual 305, 3) := by decide +kernel
theorem dX9_give_119 : decode cX9_give 119 = .ok (.invokevirtual 308, 3) := by decide +kernel
theorem dX9_give_122 : decode cX9_give 122 = .ok (.goto 48, 3) := by decide +kernel
theorem dX9_give_125 : decode cX9_give 125 = .ok (.aload_n 0, 1) := by decide +kernel
theorem dX9_give_126 : decode cX9_give 126 = .ok (.iload_n 1, 1) := by decide +kernel
theorem dX9_give_127 : decode cX9_give 127 = .ok (.iconst 2, 1) := by decide +kernel
theorem dX9_give_128 : decode cX9_give 128 = .ok (.lload_n 3, 1) := by decide +kernel
theorem dX9_give_129 : decode cX9_give 129 = .ok (.aload_n 0, 1) := by decide +kernel
theorem dX9_give_130 : decode cX9_give 130 = .ok (.getfield 287, 3) := by decide +kernel
theorem dX9_give_133 : decode cX9_give 133 = .ok (.lsub, 1) := by decide +kernel
theorem dX9_give_134 : decode cX9_give 134 = .ok (.aload_n 0, 1) := by decide +kernel
theorem dX9_give_135 : decode cX9_give 135 = .ok (.iload_n 1, 1) := by decide +kernel
theorem dX9_give_136 : decode cX9_give 136 = .ok (.invokevirtual 302, 3) := by decide +kernel
theorem dX9_give_139 : decode cX9_give 139 = .ok (.aload_n 0, 1) := by decide +kernel
theorem dX9_give_140 : decode cX9_give 140 = .ok (.iload_n 1, 1) := by decide +kernel
theorem dX9_give_141 : decode cX9_give 141 = .ok (.invokevirtual 305, 3) := by decide +kernel
theorem dX9_give_144 : decode cX9_give 144 = .ok (.invokevirtual 308, 3) := by decide +kernel
theorem dX9_give_147 : decode cX9_give 147 = .ok (.aload_n 0, 1) := by decide +kernel
theorem dX9_give_148 : decode cX9_give 148 = .ok (.iload_n 2, 1) := by decide +kernel
theorem dX9_give_149 : decode cX9_give 149 = .ok (.iconst 2, 1) := by decide +kernel
theorem dX9_give_150 : decode cX9_give 150 = .ok (.lload 5, 2) := by decide +kernel
theorem dX9_give_152 : decode cX9_give 152 = .ok (.aload_n 0, 1) := by decide +kernel
theorem dX9_give_153 : decode cX9_give 153 = .ok (.getfield 287, 3) := by decide +kernel
theorem dX9_give_156 : decode cX9_give 156 = .ok (.ladd, 1) := by decide +kernel
theorem dX9_give_157 : decode cX9_give 157 = .ok (.aload_n 0, 1) := by decide +kernel
theorem dX9_give_158 : decode cX9_give 158 = .ok (.iload_n 2, 1) := by decide +kernel
theorem dX9_give_159 : decode cX9_give 159 = .ok (.invokevirtual 302, 3) := by decide +kernel
theorem dX9_give_162 : decode cX9_give 162 = .ok (.aload_n 0, 1) := by decide +kernel
theorem dX9_give_163 : decode cX9_give 163 = .ok (.iload_n 2, 1) := by decide +kernel
theorem dX9_give_164 : decode cX9_give 164 = .ok (.invokevirtual 305, 3) := by decide +kernel
theorem dX9_give_167 : decode cX9_give 167 = .ok (.invokevirtual 308, 3) := by decide +kernel
theorem dX9_give_170 : decode cX9_give 170 = .ok (.return_, 1) := by decide +kernel
theorem dX9_swap_0 : decode cX9_swap 0 = .ok (.aload_n 0, 1) := by decide +kernel
theorem dX9_swap_1 : decode cX9_swap 1 = .ok (.iload_n 1, 1) := by decide +kernel
theorem dX9_swap_2 : decode cX9_swap 2 = .ok (.invokevirtual 270, 3) := by decide +kernel
theorem dX9_swap_5 : decode cX9_swap 5 = .ok (.aload_n 0, 1) := by decide +kernel
theorem dX9_swap_6 : decode cX9_swap 6 = .ok (.iload_n 2, 1) := by decide +kernel
theorem dX9_swap_7 : decode cX9_swap 7 = .ok (.invokevirtual 270, 3) := by decide +kernel
theorem dX9_swap_10 : decode cX9_swap 10 = .ok (.aload_n 0, 1) := by decide +kernel
theorem dX9_swap_11 : decode cX9_swap 11 = .ok (.iload_n 1, 1) := by decide +kernel
theorem dX9_swap_12 : decode cX9_swap 12 = .ok (.invokevirtual 274, 3) := by decide +kernel
theorem dX9_swap_15 : decode cX9_swap 15 = .ok (.istore_n 3, 1) := by decide +kernel
theorem dX9_swap_16 : decode cX9_swap 16 = .ok (.aload_n 0, 1) := by decide +kernel
theorem dX9_swap_17 : decode cX9_swap 17 = .ok (.iload_n 1, 1) := by decide +kernel
theorem dX9_swap_18 : decode cX9_swap 18 = .ok (.invokevirtual 298, 3) := by decide +kernel
theorem dX9_swap_21 : decode cX9_swap 21 = .ok (.lstore 4, 2) := by decide +kernel
theorem dX9_swap_23 : decode cX9_swap 23 = .ok (.aload_n 0, 1) := by decide +kernel
theorem dX9_swap_24 : decode cX9_swap 24 = .ok (.iload_n 1, 1) := by decide +kernel
theorem dX9_swap_25 : decode cX9_swap 25 = .ok (.invokevirtual 302, 3) := by decide +kernel
theorem dX9_swap_28 : decode cX9_swap 28 = .ok (.istore 6, 2) := by decide +kernel
theorem dX9_swap_30 : decode cX9_swap 30 = .ok (.aload_n 0, 1) := by decide +kernel
theorem dX9_swap_31 : decode cX9_swap 31 = .ok (.iload_n 1, 1) := by decide +kernel
theorem dX9_swap_32 : decode cX9_swap 32 = .ok (.invokevirtual 305, 3) := by decide +kernel
theorem dX9_swap_35 : decode cX9_swap 35 = .ok (.istore 7, 2) := by decide +kernel
theorem dX9_swap_37 : decode cX9_swap 37 = .ok (.aload_n 0, 1) := by decide +kernel
theorem dX9_swap_38 : decode cX9_swap 38 = .ok (.iload_n 1, 1) := by decide +kernel
theorem dX9_swap_39 : decode cX9_swap 39 = .ok (.aload_n 0, 1) := by decide +kernel
theorem dX9_swap_40 : decode cX9_swap 40 = .ok (.iload_n 2, 1) := by decide +kernel
theorem dX9_swap_41 : decode cX9_swap 41 = .ok (.invokevirtual 274, 3) := by decide +kernel
theorem dX9_swap_44 : decode cX9_swap 44 = .ok (.aload_n 0, 1) := by decide +kernel
theorem dX9_swap_45 : decode cX9_swap 45 = .ok (.iload_n 2, 1) := by decide +kernel
theorem dX9_swap_46 : decode cX9_swap 46 = .ok (.invokevirtual 298, 3) := by decide +kernel
theorem dX9_swap_49 : decode cX9_swap 49 = .ok (.aload_n 0, 1) := by decide +kernel
theorem dX9_swap_50 : decode cX9_swap 50 = .ok (.iload_n 2, 1) := by decide +kernel
theorem dX9_swap_51 : decode cX9_swap 51 = .ok (.invokevirtual 302, 3) := by decide +kernel
theorem dX9_swap_54 : decode cX9_swap 54 = .ok (.aload_n 0, 1) := by decide +kernel
theorem dX9_swap_55 : decode cX9_swap 55 = .ok (.iload_n 2, 1) := by decide +kernel
theorem dX9_swap_56 : decode cX9_swap 56 = .ok (.invokevirtual 305, 3) := by decide +kernel
theorem dX9_swap_59 : decode cX9_swap 59 = .ok (.invokevirtual 308, 3) := by decide +kernel
theorem dX9_swap_62 : decode cX9_swap 62 = .ok (.aload_n 0, 1) := by decide +kernel
theorem dX9_swap_63 : decode cX9_swap 63 = .ok (.iload_n 2, 1) := by decide +kernel
theorem dX9_swap_64 : decode cX9_swap 64 = .ok (.iload_n 3, 1) := by decide +kernel
theorem dX9_swap_65 : decode cX9_swap 65 = .ok (.lload 4, 2) := by decide +kernel
theorem dX9_swap_67 : decode cX9_swap 67 = .ok (.iload 6, 2) := by decide +kernel
theorem dX9_swap_69 : decode cX9_swap 69 = .ok (.iload 7, 2) := by decide +kernel
theorem dX9_swap_71 : decode cX9_swap 71 = .ok (.invokevirtual 308, 3) := by decide +kernel
theorem dX9_swap_74 : decode cX9_swap 74 = .ok (.return_, 1) := by decide +kernel
theorem dX9_part_0 : decode cX9_part 0 = .ok (.aload_n 0, 1) := by decide +kernel
theorem dX9_part_1 : decode cX9_part 1 = .ok (.iload_n 1, 1) := by decide +kernel
theorem dX9_part_2 : decode cX9_part 2 = .ok (.iconst 1, 1) := by decide +kernel
theorem dX9_part_3 : decode cX9_part 3 = .ok (.invokevirtual 294, 3) := by decide +kernel
theorem dX9_part_6 : decode cX9_part 6 = .ok (.ifCond .ne 4, 3) := by decide +kernel
theorem dX9_part_9 : decode cX9_part 9 = .ok (.return_, 1) := by decide +kernel
theorem dX9_part_10 : decode cX9_part 10 = .ok (.aload_n 0, 1) := by decide +kernel
theorem dX9_part_11 : decode cX9_part 11 = .ok (.iload_n 1, 1) := by decide +kernel
theorem dX9_part_12 : decode cX9_part 12 = .ok (.invokevirtual 298, 3) := by decide +kernel
theorem dX9_part_15 : decode cX9_part 15 = .ok (.lstore_n 2, 1) := by decide +kernel
theorem dX9_part_16 : decode cX9_part 16 = .ok (.lload_n 2, 1) := by decide +kernel
theorem dX9_part_17 : decode cX9_part 17 = .ok (.lconst 0, 1) := by decide +kernel
theorem dX9_part_18 : decode cX9_part 18 = .ok (.lcmp, 1) := by decide +kernel
theorem dX9_part_19 : decode cX9_part 19 = .ok (.ifCond .ne 11, 3) := by decide +kernel
theorem dX9_part_22 : decode cX9_part 22 = .ok (.aload_n 0, 1) := by decide +kernel
theorem dX9_part_23 : decode cX9_part 23 = .ok (.iconst 4, 1) := by decide +kernel
theorem dX9_part_24 : decode cX9_part 24 = .ok (.putfield 278, 3) := by decide +kernel
theorem dX9_part_27 : decode cX9_part 27 = .ok (.goto 40, 3) := by decide +kernel
theorem dX9_part_30 : decode cX9_part 30 = .ok (.aload_n 0, 1) := by decide +kernel
theorem dX9_part_31 : decode cX9_part 31 = .ok (.getfield 287, 3) := by decide +kernel
theorem dX9_part_34 : decode cX9_part 34 = .ok (.ldc2_w 283, 3) := by decide +kernel
theorem dX9_part_37 : decode cX9_part 37 = .ok (.lcmp, 1) := by decide +kernel
theorem dX9_part_38 : decode cX9_part 38 = .ok (.ifCond .ne 19, 3) := by decide +kernel
theorem dX9_part_41 : decode cX9_part 41 = .ok (.lload_n 2, 1) := by decide +kernel
theorem dX9_part_42 : decode cX9_part 42 = .ok (.ldc2_w 285, 3) := by decide +kernel
theorem dX9_part_45 : decode cX9_part 45 = .ok (.lcmp, 1) := by decide +kernel
theorem dX9_part_46 : decode cX9_part 46 = .ok (.ifCond .ne 11, 3) := by decide +kernel
theorem dX9_part_49 : decode cX9_part 49 = .ok (.aload_n 0, 1) := by decide +kernel
theorem dX9_part_50 : decode cX9_part 50 = .ok (.iconst 5, 1) := by decide +kernel
theorem dX9_part_51 : decode cX9_part 51 = .ok (.putfield 278, 3) := by decide +kernel
theorem dX9_part_54 : decode cX9_part 54 = .ok (.goto 13, 3) := by decide +kernel
theorem dX9_part_57 : decode cX9_part 57 = .ok (.aload_n 0, 1) := by decide +kernel
theorem dX9_part_58 : decode cX9_part 58 = .ok (.aload_n 0, 1) := by decide +kernel
theorem dX9_part_59 : decode cX9_part 59 = .ok (.getfield 287, 3) := by decide +kernel
theorem dX9_part_62 : decode cX9_part 62 = .ok (.lload_n 2, 1) := by decide +kernel
theorem dX9_part_63 : decode cX9_part 63 = .ok (.ldiv, 1) := by decide +kernel
theorem dX9_part_64 : decode cX9_part 64 = .ok (.putfield 287, 3) := by decide +kernel
theorem dX9_part_67 : decode cX9_part 67 = .ok (.return_, 1) := by decide +kernel
theorem dX9_plus_0 : decode cX9_plus 0 = .ok (.aload_n 0, 1) := by decide +kernel
theorem dX9_plus_1 : decode cX9_plus 1 = .ok (.getfield 287, 3) := by decide +kernel
theorem dX9_plus_4 : decode cX9_plus 4 = .ok (.lload_n 1, 1) := by decide +kernel
theorem dX9_plus_5 : decode cX9_plus 5 = .ok (.invokestatic 312, 3) := by decide +kernel
theorem dX9_plus_8 : decode cX9_plus 8 = .ok (.ifCond .eq 16, 3) := by decide +kernel
theorem dX9_plus_11 : decode cX9_plus 11 = .ok (.aload_n 0, 1) := by decide +kernel
theorem dX9_plus_12 : decode cX9_plus 12 = .ok (.aload_n 0, 1) := by decide +kernel
theorem dX9_plus_13 : decode cX9_plus 13 = .ok (.getfield 287, 3) := by decide +kernel
theorem dX9_plus_16 : decode cX9_plus 16 = .ok (.lload_n 1, 1) := by decide +kernel
theorem dX9_plus_17 : decode cX9_plus 17 = .ok (.ladd, 1) := by decide +kernel
theorem dX9_plus_18 : decode cX9_plus 18 = .ok (.putfield 287, 3) := by decide +kernel
theorem dX9_plus_21 : decode cX9_plus 21 = .ok (.goto 8, 3) := by decide +kernel
theorem dX9_plus_24 : decode cX9_plus 24 = .ok (.aload_n 0, 1) := by decide +kernel
theorem dX9_plus_25 : decode cX9_plus 25 = .ok (.iconst 5, 1) := by decide +kernel
theorem dX9_plus_26 : decode cX9_plus 26 = .ok (.putfield 278, 3) := by decide +kernel
theorem dX9_plus_29 : decode cX9_plus 29 = .ok (.return_, 1) := by decide +kernel
theorem dX9_act_0 : decode cX9_act 0 = .ok (.iload_n 1, 1) := by decide +kernel
theorem dX9_act_1 : decode cX9_act 1 = .ok (.tableswitch 452 0 15 #[79, 88, 116, 131, 152, 161, 195, 203, 250, 284, 312, 321, 330, 386, 430, 444], 79) := by decide +kernel
theorem dX9_act_80 : decode cX9_act 80 = .ok (.aload_n 0, 1) := by decide +kernel
theorem dX9_act_81 : decode cX9_act 81 = .ok (.iload_n 2, 1) := by decide +kernel
theorem dX9_act_82 : decode cX9_act 82 = .ok (.i2l, 1) := by decide +kernel
theorem dX9_act_83 : decode cX9_act 83 = .ok (.putfield 287, 3) := by decide +kernel
theorem dX9_act_86 : decode cX9_act 86 = .ok (.goto 426, 3) := by decide +kernel
theorem dX9_act_89 : decode cX9_act 89 = .ok (.aload_n 0, 1) := by decide +kernel
theorem dX9_act_90 : decode cX9_act 90 = .ok (.aload_n 0, 1) := by decide +kernel
theorem dX9_act_91 : decode cX9_act 91 = .ok (.iload_n 2, 1) := by decide +kernel
theorem dX9_act_92 : decode cX9_act 92 = .ok (.iconst 1, 1) := by decide +kernel
theorem dX9_act_93 : decode cX9_act 93 = .ok (.invokevirtual 294, 3) := by decide +kernel
theorem dX9_act_96 : decode cX9_act 96 = .ok (.ifCond .eq 11, 3) := by decide +kernel
theorem dX9_act_99 : decode cX9_act 99 = .ok (.aload_n 0, 1) := by decide +kernel
theorem dX9_act_100 : decode cX9_act 100 = .ok (.iload_n 2, 1) := by decide +kernel
theorem dX9_act_101 : decode cX9_act 101 = .ok (.invokevirtual 298, 3) := by decide +kernel
theorem dX9_act_104 : decode cX9_act 104 = .ok (.goto 7, 3) := by decide +kernel
theorem dX9_act_107 : decode cX9_act 107 = .ok (.aload_n 0, 1) := by decide +kernel
theorem dX9_act_108 : decode cX9_act 108 = .ok (.getfield 287, 3) := by decide +kernel
theorem dX9_act_111 : decode cX9_act 111 = .ok (.putfield 287, 3) := by decide +kernel
theorem dX9_act_114 : decode cX9_act 114 = .ok (.goto 398, 3) := by decide +kernel
theorem dX9_act_117 : decode cX9_act 117 = .ok (.aload_n 0, 1) := by decide +kernel
theorem dX9_act_118 : decode cX9_act 118 = .ok (.iload_n 2, 1) := by decide +kernel
theorem dX9_act_119 : decode cX9_act 119 = .ok (.iconst 1, 1) := by decide +kernel
theorem dX9_act_120 : decode cX9_act 120 = .ok (.aload_n 0, 1) := by decide +kernel
theorem dX9_act_121 : decode cX9_act 121 = .ok (.getfield 287, 3) := by decide +kernel
theorem dX9_act_124 : decode cX9_act 124 = .ok (.iconst 0, 1) := by decide +kernel
theorem dX9_act_125 : decode cX9_act 125 = .ok (.iconst 0, 1) := by decide +kernel
theorem dX9_act_126 : decode cX9_act 126 = .ok (.invokevirtual 308, 3) := by decide +kernel
theorem dX9_act_129 : decode cX9_act 129 = .ok (.goto 383, 3) := by decide +kernel
theorem dX9_act_132 : decode cX9_act 132 = .ok (.aload_n 0, 1) := by decide +kernel
theorem dX9_act_133 : decode cX9_act 133 = .ok (.iload_n 2, 1) := by decide +kernel
theorem dX9_act_134 : decode cX9_act 134 = .ok (.iconst 1, 1) := by decide +kernel
theorem dX9_act_135 : decode cX9_act 135 = .ok (.invokevirtual 294, 3) := by decide +kernel
theorem dX9_act_138 : decode cX9_act 138 = .ok (.ifCond .eq 374, 3) := by decide +kernel
theorem dX9_act_141 : decode cX9_act 141 = .ok (.aload_n 0, 1) := by decide +kernel
theorem dX9_act_142 : decode cX9_act 142 = .ok (.aload_n 0, 1) := by decide +kernel
theorem dX9_act_143 : decode cX9_act 143 = .ok (.iload_n 2, 1) := by decide +kernel
theorem dX9_act_144 : decode cX9_act 144 = .ok (.invokevirtual 298, 3) := by decide +kernel
theorem dX9_act_147 : decode cX9_act 147 = .ok (.invokevirtual 316, 3) := by decide +kernel
theorem dX9_act_150 : decode cX9_act 150 = .ok (.goto 362, 3) := by decide +kernel
theorem dX9_act_153 : decode cX9_act 153 = .ok (.aload_n 0, 1) := by decide +kernel
theorem dX9_act_154 : decode cX9_act 154 = .ok (.iload_n 2, 1) := by decide +kernel
theorem dX9_act_155 : decode cX9_act 155 = .ok (.i2l, 1) := by decide +kernel
theorem dX9_act_156 : decode cX9_act 156 = .ok (.invokevirtual 316, 3) := by decide +kernel
theorem dX9_act_159 : decode cX9_act 159 = .ok (.goto 353, 3) := by decide +kernel
theorem dX9_act_162 : decode cX9_act 162 = .ok (.aload_n 0, 1) := by decide +kernel
theorem dX9_act_163 : decode cX9_act 163 = .ok (.getfield 287, 3) := by decide +kernel
theorem dX9_act_166 : decode cX9_act 166 = .ok (.iload_n 2, 1) := by decide +kernel
theorem dX9_act_167 : decode cX9_act 167 = .ok (.i2l, 1) := by decide +kernel
theorem dX9_act_168 : decode cX9_act 168 = .ok (.invokestatic 320, 3) := by decide +kernel
theorem dX9_act_171 : decode cX9_act 171 = .ok (.ifCond .eq 17, 3) := by decide +kernel
theorem dX9_act_174 : decode cX9_act 174 = .ok (.aload_n 0, 1) := by decide +kernel
theorem dX9_act_175 : decode cX9_act 175 = .ok (.aload_n 0, 1) := by decide +kernel
theorem dX9_act_176 : decode cX9_act 176 = .ok (.getfield 287, 3) := by decide +kernel
theorem dX9_act_179 : decode cX9_act 179 = .ok (.iload_n 2, 1) := by decide +kernel
theorem dX9_act_180 : decode cX9_act 180 = .ok (.i2l, 1) := by decide +kernel
theorem dX9_act_181 : decode cX9_act 181 = .ok (.lmul, 1) := by decide +kernel
theorem dX9_act_182 : decode cX9_act 182 = .ok (.putfield 287, 3) := by decide +kernel
theorem dX9_act_185 : decode cX9_act 185 = .ok (.goto 327, 3) := by decide +kernel
theorem dX9_act_188 : decode cX9_act 188 = .ok (.aload_n 0, 1) := by decide +kernel
theorem dX9_act_189 : decode cX9_act 189 = .ok (.iconst 5, 1) := by decide +kernel
theorem dX9_act_190 : decode cX9_act 190 = .ok (.putfield 278, 3) := by decide +kernel
theorem dX9_act_193 : decode cX9_act 193 = .ok (.goto 319, 3) := by decide +kernel
theorem dX9_act_196 : decode cX9_act 196 = .ok (.aload_n 0, 1) := by decide +kernel
theorem dX9_act_197 : decode cX9_act 197 = .ok (.iload_n 2, 1) := by decide +kernel
theorem dX9_act_198 : decode cX9_act 198 = .ok (.invokevirtual 323, 3) := by decide +kernel
theorem dX9_act_201 : decode cX9_act 201 = .ok (.goto 311, 3) := by decide +kernel
theorem dX9_act_204 : decode cX9_act 204 = .ok (.aload_n 0, 1) := by decide +kernel
theorem dX9_act_205 : decode cX9_act 205 = .ok (.getfield 287, 3) := by decide +kernel
theorem dX9_act_208 : decode cX9_act 208 = .ok (.invokestatic 234, 3) := by decide +kernel
theorem dX9_act_211 : decode cX9_act 211 = .ok (.ifCond .ne 11, 3) := by decide +kernel
theorem dX9_act_214 : decode cX9_act 214 = .ok (.aload_n 0, 1) := by decide +kernel
theorem dX9_act_215 : decode cX9_act 215 = .ok (.iconst 2, 1) := by decide +kernel
theorem dX9_act_216 : decode cX9_act 216 = .ok (.putfield 278, 3) := by decide +kernel
theorem dX9_act_219 : decode cX9_act 219 = .ok (.goto 293, 3) := by decide +kernel
theorem dX9_act_222 : decode cX9_act 222 = .ok (.aload_n 0, 1) := by decide +kernel
theorem dX9_act_223 : decode cX9_act 223 = .ok (.aload_n 0, 1) := by decide +kernel
theorem dX9_act_224 : decode cX9_act 224 = .ok (.getfield 287, 3) := by decide +kernel
theorem dX9_act_227 : decode cX9_act 227 = .ok (.l2i, 1) := by decide +kernel
theorem dX9_act_228 : decode cX9_act 228 = .ok (.iconst 1, 1) := by decide +kernel
theorem dX9_act_229 : decode cX9_act 229 = .ok (.invokevirtual 294, 3) := by decide +kernel
theorem dX9_act_232 : decode cX9_act 232 = .ok (.ifCond .eq 280, 3) := by decide +kernel
theorem dX9_act_235 : decode cX9_act 235 = .ok (.aload_n 0, 1) := by decide +kernel
theorem dX9_act_236 : decode cX9_act 236 = .ok (.aload_n 0, 1) := by decide +kernel
theorem dX9_act_237 : decode cX9_act 237 = .ok (.aload_n 0, 1) := by decide +kernel
theorem dX9_act_238 : decode cX9_act 238 = .ok (.getfield 287, 3) := by decide +kernel
theorem dX9_act_241 : decode cX9_act 241 = .ok (.l2i, 1) := by decide +kernel
theorem dX9_act_242 : decode cX9_act 242 = .ok (.invokevirtual 298, 3) := by decide +kernel
theorem dX9_act_245 : decode cX9_act 245 = .ok (.putfield 287, 3) := by decide +kernel
theorem dX9_act_248 : decode cX9_act 248 = .ok (.goto 264, 3) := by decide +kernel
theorem dX9_act_251 : decode cX9_act 251 = .ok (.aload_n 0, 1) := by decide +kernel
theorem dX9_act_252 : decode cX9_act 252 = .ok (.iload_n 2, 1) := by decide +kernel
theorem dX9_act_253 : decode cX9_act 253 = .ok (.iconst 1, 1) := by decide +kernel
theorem dX9_act_254 : decode cX9_act 254 = .ok (.invokevirtual 294, 3) := by decide +kernel
theorem dX9_act_257 : decode cX9_act 257 = .ok (.ifCond .eq 255, 3) := by decide +kernel
theorem dX9_act_260 : decode cX9_act 260 = .ok (.aload_n 0, 1) := by decide +kernel
theorem dX9_act_261 : decode cX9_act 261 = .ok (.aload_n 0, 1) := by decide +kernel
theorem dX9_act_262 : decode cX9_act 262 = .ok (.getfield 287, 3) := by decide +kernel
theorem dX9_act_265 : decode cX9_act 265 = .ok (.aload_n 0, 1) := by decide +kernel
theorem dX9_act_266 : decode cX9_act 266 = .ok (.iload_n 2, 1) := by decide +kernel
theorem dX9_act_267 : decode cX9_act 267 = .ok (.invokevirtual 298, 3) := by decide +kernel
theorem dX9_act_270 : decode cX9_act 270 = .ok (.lcmp, 1) := by decide +kernel
theorem dX9_act_271 : decode cX9_act 271 = .ok (.ifCond .ge 7, 3) := by decide +kernel
theorem dX9_act_274 : decode cX9_act 274 = .ok (.lconst 1, 1) := by decide +kernel
theorem dX9_act_275 : decode cX9_act 275 = .ok (.goto 4, 3) := by decide +kernel
theorem dX9_act_278 : decode cX9_act 278 = .ok (.lconst 0, 1) := by decide +kernel
theorem dX9_act_279 : decode cX9_act 279 = .ok (.putfield 287, 3) := by decide +kernel
theorem dX9_act_282 : decode cX9_act 282 = .ok (.goto 230, 3) := by decide +kernel
theorem dX9_act_285 : decode cX9_act 285 = .ok (.aload_n 0, 1) := by decide +kernel
theorem dX9_act_286 : decode cX9_act 286 = .ok (.aload_n 0, 1) := by decide +kernel
theorem dX9_act_287 : decode cX9_act 287 = .ok (.iload_n 2, 1) := by decide +kernel
theorem dX9_act_288 : decode cX9_act 288 = .ok (.iconst 2, 1) := by decide +kernel
theorem dX9_act_289 : decode cX9_act 289 = .ok (.invokevirtual 294, 3) := by decide +kernel
theorem dX9_act_292 : decode cX9_act 292 = .ok (.ifCond .eq 11, 3) := by decide +kernel
theorem dX9_act_295 : decode cX9_act 295 = .ok (.aload_n 0, 1) := by decide +kernel
theorem dX9_act_296 : decode cX9_act 296 = .ok (.iload_n 2, 1) := by decide +kernel
theorem dX9_act_297 : decode cX9_act 297 = .ok (.invokevirtual 298, 3) := by decide +kernel
theorem dX9_act_300 : decode cX9_act 300 = .ok (.goto 7, 3) := by decide +kernel
theorem dX9_act_303 : decode cX9_act 303 = .ok (.aload_n 0, 1) := by decide +kernel
theorem dX9_act_304 : decode cX9_act 304 = .ok (.getfield 287, 3) := by decide +kernel
theorem dX9_act_307 : decode cX9_act 307 = .ok (.putfield 287, 3) := by decide +kernel
theorem dX9_act_310 : decode cX9_act 310 = .ok (.goto 202, 3) := by decide +kernel
theorem dX9_act_313 : decode cX9_act 313 = .ok (.aload_n 0, 1) := by decide +kernel
theorem dX9_act_314 : decode cX9_act 314 = .ok (.iload_n 2, 1) := by decide +kernel
theorem dX9_act_315 : decode cX9_act 315 = .ok (.iload_n 3, 1) := by decide +kernel
theorem dX9_act_316 : decode cX9_act 316 = .ok (.invokevirtual 326, 3) := by decide +kernel
theorem dX9_act_319 : decode cX9_act 319 = .ok (.goto 193, 3) := by decide +kernel
theorem dX9_act_322 : decode cX9_act 322 = .ok (.aload_n 0, 1) := by decide +kernel
theorem dX9_act_323 : decode cX9_act 323 = .ok (.iload_n 2, 1) := by decide +kernel
theorem dX9_act_324 : decode cX9_act 324 = .ok (.iload_n 3, 1) := by decide +kernel
theorem dX9_act_325 : decode cX9_act 325 = .ok (.invokevirtual 330, 3) := by decide +kernel
theorem dX9_act_328 : decode cX9_act 328 = .ok (.goto 184, 3) := by decide +kernel
theorem dX9_act_331 : decode cX9_act 331 = .ok (.aload_n 0, 1) := by decide +kernel
theorem dX9_act_332 : decode cX9_act 332 = .ok (.getfield 166, 3) := by decide +kernel
theorem dX9_act_335 : decode cX9_act 335 = .ok (.aload_n 0, 1) := by decide +kernel
theorem dX9_act_336 : decode cX9_act 336 = .ok (.getfield 267, 3) := by decide +kernel
theorem dX9_act_339 : decode cX9_act 339 = .ok (.iaload, 1) := by decide +kernel
theorem dX9_act_340 : decode cX9_act 340 = .ok (.bipush 8, 2) := by decide +kernel
theorem dX9_act_342 : decode cX9_act 342 = .ok (.if_icmp .ge 29, 3) := by decide +kernel
theorem dX9_act_345 : decode cX9_act 345 = .ok (.aload_n 0, 1) := by decide +kernel
theorem dX9_act_346 : decode cX9_act 346 = .ok (.getfield 169, 3) := by decide +kernel
theorem dX9_act_349 : decode cX9_act 349 = .ok (.bipush 8, 2) := by decide +kernel
theorem dX9_act_351 : decode cX9_act 351 = .ok (.aload_n 0, 1) := by decide +kernel
theorem dX9_act_352 : decode cX9_act 352 = .ok (.getfield 267, 3) := by decide +kernel
theorem dX9_act_355 : decode cX9_act 355 = .ok (.imul, 1) := by decide +kernel
theorem dX9_act_356 : decode cX9_act 356 = .ok (.aload_n 0, 1) := by decide +kernel
theorem dX9_act_357 : decode cX9_act 357 = .ok (.getfield 166, 3) := by decide +kernel
theorem dX9_act_360 : decode cX9_act 360 = .ok (.aload_n 0, 1) := by decide +kernel
theorem dX9_act_361 : decode cX9_act 361 = .ok (.getfield 267, 3) := by decide +kernel
theorem dX9_act_364 : decode cX9_act 364 = .ok (.iaload, 1) := by decide +kernel
theorem dX9_act_365 : decode cX9_act 365 = .ok (.iadd, 1) := by decide +kernel
theorem dX9_act_366 : decode cX9_act 366 = .ok (.aload_n 0, 1) := by decide +kernel
theorem dX9_act_367 : decode cX9_act 367 = .ok (.getfield 287, 3) := by decide +kernel
theorem dX9_act_370 : decode cX9_act 370 = .ok (.lastore, 1) := by decide +kernel
theorem dX9_act_371 : decode cX9_act 371 = .ok (.aload_n 0, 1) := by decide +kernel
theorem dX9_act_372 : decode cX9_act 372 = .ok (.getfield 166, 3) := by decide +kernel
theorem dX9_act_375 : decode cX9_act 375 = .ok (.aload_n 0, 1) := by decide +kernel
theorem dX9_act_376 : decode cX9_act 376 = .ok (.getfield 267, 3) := by decide +kernel
theorem dX9_act_379 : decode cX9_act 379 = .ok (.dup2, 1) := by decide +kernel
theorem dX9_act_380 : decode cX9_act 380 = .ok (.iaload, 1) := by decide +kernel
theorem dX9_act_381 : decode cX9_act 381 = .ok (.iconst 1, 1) := by decide +kernel
theorem dX9_act_382 : decode cX9_act 382 = .ok (.iadd, 1) := by decide +kernel
theorem dX9_act_383 : decode cX9_act 383 = .ok (.iastore, 1) := by decide +kernel
theorem dX9_act_384 : decode cX9_act 384 = .ok (.goto 128, 3) := by decide +kernel
theorem dX9_act_387 : decode cX9_act 387 = .ok (.aload_n 0, 1) := by decide +kernel
theorem dX9_act_388 : decode cX9_act 388 = .ok (.getfield 190, 3) := by decide +kernel
theorem dX9_act_391 : decode cX9_act 391 = .ok (.bipush 6, 2) := by decide +kernel
theorem dX9_act_393 : decode cX9_act 393 = .ok (.aload_n 0, 1) := by decide +kernel
theorem dX9_act_394 : decode cX9_act 394 = .ok (.getfield 267, 3) := by decide +kernel
theorem dX9_act_397 : decode cX9_act 397 = .ok (.imul, 1) := by decide +kernel
theorem dX9_act_398 : decode cX9_act 398 = .ok (.aload_n 0, 1) := by decide +kernel
theorem dX9_act_399 : decode cX9_act 399 = .ok (.getfield 184, 3) := by decide +kernel
theorem dX9_act_402 : decode cX9_act 402 = .ok (.aload_n 0, 1) := by decide +kernel
theorem dX9_act_403 : decode cX9_act 403 = .ok (.getfield 267, 3) := by decide +kernel
theorem dX9_act_406 : decode cX9_act 406 = .ok (.iaload, 1) := by decide +kernel
theorem dX9_act_407 : decode cX9_act 407 = .ok (.iadd, 1) := by decide +kernel
theorem dX9_act_408 : decode cX9_act 408 = .ok (.iconst 1, 1) := by decide +kernel
theorem dX9_act_409 : decode cX9_act 409 = .ok (.isub, 1) := by decide +kernel
theorem dX9_act_410 : decode cX9_act 410 = .ok (.dup2, 1) := by decide +kernel
theorem dX9_act_411 : decode cX9_act 411 = .ok (.iaload, 1) := by decide +kernel
theorem dX9_act_412 : decode cX9_act 412 = .ok (.aload_n 0, 1) := by decide +kernel
theorem dX9_act_413 : decode cX9_act 413 = .ok (.getfield 287, 3) := by decide +kernel
theorem dX9_act_416 : decode cX9_act 416 = .ok (.lconst 0, 1) := by decide +kernel
theorem dX9_act_417 : decode cX9_act 417 = .ok (.lcmp, 1) := by decide +kernel
theorem dX9_act_418 : decode cX9_act 418 = .ok (.ifCond .ne 7, 3) := by decide +kernel
theorem dX9_act_421 : decode cX9_act 421 = .ok (.iload_n 2, 1) := by decide +kernel
theorem dX9_act_422 : decode cX9_act 422 = .ok (.goto 4, 3) := by decide +kernel
theorem dX9_act_425 : decode cX9_act 425 = .ok (.iconst 0, 1) := by decide +kernel
theorem dX9_act_426 : decode cX9_act 426 = .ok (.iadd, 1) := by decide +kernel
theorem dX9_act_427 : decode cX9_act 427 = .ok (.iastore, 1) := by decide +kernel
theorem dX9_act_428 : decode cX9_act 428 = .ok (.goto 84, 3) := by decide +kernel
theorem dX9_act_431 : decode cX9_act 431 = .ok (.aload_n 0, 1) := by decide +kernel
theorem dX9_act_432 : decode cX9_act 432 = .ok (.bipush 8, 2) := by decide +kernel
theorem dX9_act_434 : decode cX9_act 434 = .ok (.putfield 278, 3) := by decide +kernel
theorem dX9_act_437 : decode cX9_act 437 = .ok (.aload_n 0, 1) := by decide +kernel
theorem dX9_act_438 : decode cX9_act 438 = .ok (.iload_n 2, 1) := by decide +kernel
theorem dX9_act_439 : decode cX9_act 439 = .ok (.putfield 333, 3) := by decide +kernel
theorem dX9_act_442 : decode cX9_act 442 = .ok (.goto 70, 3) := by decide +kernel
theorem dX9_act_445 : decode cX9_act 445 = .ok (.aload_n 0, 1) := by decide +kernel
theorem dX9_act_446 : decode cX9_act 446 = .ok (.iconst (-1), 1) := by decide +kernel
theorem dX9_act_447 : decode cX9_act 447 = .ok (.putfield 278, 3) := by decide +kernel
theorem dX9_act_450 : decode cX9_act 450 = .ok (.goto 62, 3) := by decide +kernel
theorem dX9_act_453 : decode cX9_act 453 = .ok (.bipush 40, 2) := by decide +kernel
theorem dX9_act_455 : decode cX9_act 455 = .ok (.aload_n 0, 1) := by decide +kernel
theorem dX9_act_456 : decode cX9_act 456 = .ok (.getfield 267, 3) := by decide +kernel
theorem dX9_act_459 : decode cX9_act 459 = .ok (.imul, 1) := by decide +kernel
theorem dX9_act_460 : decode cX9_act 460 = .ok (.aload_n 0, 1) := by decide +kernel
theorem dX9_act_461 : decode cX9_act 461 = .ok (.getfield 172, 3) := by decide +kernel
theorem dX9_act_464 : decode cX9_act 464 = .ok (.aload_n 0, 1) := by decide +kernel
theorem dX9_act_465 : decode cX9_act 465 = .ok (.getfield 267, 3) := by decide +kernel
theorem dX9_act_468 : decode cX9_act 468 = .ok (.iaload, 1) := by decide +kernel
theorem dX9_act_469 : decode cX9_act 469 = .ok (.iadd, 1) := by decide +kernel
theorem dX9_act_470 : decode cX9_act 470 = .ok (.istore 4, 2) := by decide +kernel
theorem dX9_act_472 : decode cX9_act 472 = .ok (.aload_n 0, 1) := by decide +kernel
theorem dX9_act_473 : decode cX9_act 473 = .ok (.getfield 175, 3) := by decide +kernel
theorem dX9_act_476 : decode cX9_act 476 = .ok (.iload 4, 2) := by decide +kernel
theorem dX9_act_478 : decode cX9_act 478 = .ok (.iload_n 2, 1) := by decide +kernel
theorem dX9_act_479 : decode cX9_act 479 = .ok (.iastore, 1) := by decide +kernel
theorem dX9_act_480 : decode cX9_act 480 = .ok (.aload_n 0, 1) := by decide +kernel
theorem dX9_act_481 : decode cX9_act 481 = .ok (.getfield 178, 3) := by decide +kernel
theorem dX9_act_484 : decode cX9_act 484 = .ok (.iload 4, 2) := by decide +kernel
theorem dX9_act_486 : decode cX9_act 486 = .ok (.iload_n 3, 1) := by decide +kernel
theorem dX9_act_487 : decode cX9_act 487 = .ok (.iastore, 1) := by decide +kernel
theorem dX9_act_488 : decode cX9_act 488 = .ok (.aload_n 0, 1) := by decide +kernel
theorem dX9_act_489 : decode cX9_act 489 = .ok (.getfield 181, 3) := by decide +kernel
theorem dX9_act_492 : decode cX9_act 492 = .ok (.iload 4, 2) := by decide +kernel
theorem dX9_act_494 : decode cX9_act 494 = .ok (.aload_n 0, 1) := by decide +kernel
theorem dX9_act_495 : decode cX9_act 495 = .ok (.getfield 287, 3) := by decide +kernel
theorem dX9_act_498 : decode cX9_act 498 = .ok (.lastore, 1) := by decide +kernel
theorem dX9_act_499 : decode cX9_act 499 = .ok (.aload_n 0, 1) := by decide +kernel
theorem dX9_act_500 : decode cX9_act 500 = .ok (.getfield 172, 3) := by decide +kernel
theorem dX9_act_503 : decode cX9_act 503 = .ok (.aload_n 0, 1) := by decide +kernel
theorem dX9_act_504 : decode cX9_act 504 = .ok (.getfield 267, 3) := by decide +kernel
theorem dX9_act_507 : decode cX9_act 507 = .ok (.dup2, 1) := by decide +kernel
theorem dX9_act_508 : decode cX9_act 508 = .ok (.iaload, 1) := by decide +kernel
theorem dX9_act_509 : decode cX9_act 509 = .ok (.iconst 1, 1) := by decide +kernel
theorem dX9_act_510 : decode cX9_act 510 = .ok (.iadd, 1) := by decide +kernel
theorem dX9_act_511 : decode cX9_act 511 = .ok (.iastore, 1) := by decide +kernel
theorem dX9_act_512 : decode cX9_act 512 = .ok (.return_, 1) := by decide +kernel
theorem dX9_goStep_0 : decode cX9_goStep 0 = .ok (.bipush 24, 2) := by decide +kernel
theorem dX9_goStep_2 : decode cX9_goStep 2 = .ok (.aload_n 0, 1) := by decide +kernel
theorem dX9_goStep_3 : decode cX9_goStep 3 = .ok (.getfield 187, 3) := by decide +kernel
theorem dX9_goStep_6 : decode cX9_goStep 6 = .ok (.iload_n 1, 1) := by decide +kernel
theorem dX9_goStep_7 : decode cX9_goStep 7 = .ok (.iaload, 1) := by decide +kernel
theorem dX9_goStep_8 : decode cX9_goStep 8 = .ok (.imul, 1) := by decide +kernel
theorem dX9_goStep_9 : decode cX9_goStep 9 = .ok (.aload_n 0, 1) := by decide +kernel
theorem dX9_goStep_10 : decode cX9_goStep 10 = .ok (.getfield 190, 3) := by decide +kernel
theorem dX9_goStep_13 : decode cX9_goStep 13 = .ok (.iload_n 1, 1) := by decide +kernel
theorem dX9_goStep_14 : decode cX9_goStep 14 = .ok (.iaload, 1) := by decide +kernel
theorem dX9_goStep_15 : decode cX9_goStep 15 = .ok (.iadd, 1) := by decide +kernel
theorem dX9_goStep_16 : decode cX9_goStep 16 = .ok (.istore_n 2, 1) := by decide +kernel
theorem dX9_goStep_17 : decode cX9_goStep 17 = .ok (.aload_n 0, 1) := by decide +kernel
theorem dX9_goStep_18 : decode cX9_goStep 18 = .ok (.getfield 38, 3) := by decide +kernel
theorem dX9_goStep_21 : decode cX9_goStep 21 = .ok (.iload_n 2, 1) := by decide +kernel
theorem dX9_goStep_22 : decode cX9_goStep 22 = .ok (.iaload, 1) := by decide +kernel
theorem dX9_goStep_23 : decode cX9_goStep 23 = .ok (.istore_n 3, 1) := by decide +kernel
theorem dX9_goStep_24 : decode cX9_goStep 24 = .ok (.aload_n 0, 1) := by decide +kernel
theorem dX9_goStep_25 : decode cX9_goStep 25 = .ok (.dup, 1) := by decide +kernel
theorem dX9_goStep_26 : decode cX9_goStep 26 = .ok (.getfield 336, 3) := by decide +kernel
theorem dX9_goStep_29 : decode cX9_goStep 29 = .ok (.iconst 1, 1) := by decide +kernel
theorem dX9_goStep_30 : decode cX9_goStep 30 = .ok (.iadd, 1) := by decide +kernel
theorem dX9_goStep_31 : decode cX9_goStep 31 = .ok (.putfield 336, 3) := by decide +kernel
theorem dX9_goStep_34 : decode cX9_goStep 34 = .ok (.iload_n 3, 1) := by decide +kernel
theorem dX9_goStep_35 : decode cX9_goStep 35 = .ok (.bipush 16, 2) := by decide +kernel
theorem dX9_goStep_37 : decode cX9_goStep 37 = .ok (.if_icmp .lt 9, 3) := by decide +kernel
theorem dX9_goStep_40 : decode cX9_goStep 40 = .ok (.iload_n 3, 1) := by decide +kernel
theorem dX9_goStep_41 : decode cX9_goStep 41 = .ok (.bipush 19, 2) := by decide +kernel
theorem dX9_goStep_43 : decode cX9_goStep 43 = .ok (.if_icmp .ne 38, 3) := by decide +kernel
theorem dX9_goStep_46 : decode cX9_goStep 46 = .ok (.aload_n 0, 1) := by decide +kernel
theorem dX9_goStep_47 : decode cX9_goStep 47 = .ok (.iload_n 3, 1) := by decide +kernel
theorem dX9_goStep_48 : decode cX9_goStep 48 = .ok (.aload_n 0, 1) := by decide +kernel
theorem dX9_goStep_49 : decode cX9_goStep 49 = .ok (.getfield 41, 3) := by decide +kernel
theorem dX9_goStep_52 : decode cX9_goStep 52 = .ok (.iload_n 2, 1) := by decide +kernel
theorem dX9_goStep_53 : decode cX9_goStep 53 = .ok (.iaload, 1) := by decide +kernel
theorem dX9_goStep_54 : decode cX9_goStep 54 = .ok (.aload_n 0, 1) := by decide +kernel
theorem dX9_goStep_55 : decode cX9_goStep 55 = .ok (.getfield 44, 3) := by decide +kernel
theorem dX9_goStep_58 : decode cX9_goStep 58 = .ok (.iload_n 2, 1) := by decide +kernel
theorem dX9_goStep_59 : decode cX9_goStep 59 = .ok (.iaload, 1) := by decide +kernel
theorem dX9_goStep_60 : decode cX9_goStep 60 = .ok (.invokevirtual 339, 3) := by decide +kernel
theorem dX9_goStep_63 : decode cX9_goStep 63 = .ok (.aload_n 0, 1) := by decide +kernel
theorem dX9_goStep_64 : decode cX9_goStep 64 = .ok (.getfield 278, 3) := by decide +kernel
theorem dX9_goStep_67 : decode cX9_goStep 67 = .ok (.ifCond .ne 13, 3) := by decide +kernel
theorem dX9_goStep_70 : decode cX9_goStep 70 = .ok (.aload_n 0, 1) := by decide +kernel
theorem dX9_goStep_71 : decode cX9_goStep 71 = .ok (.getfield 190, 3) := by decide +kernel
theorem dX9_goStep_74 : decode cX9_goStep 74 = .ok (.iload_n 1, 1) := by decide +kernel
theorem dX9_goStep_75 : decode cX9_goStep 75 = .ok (.dup2, 1) := by decide +kernel
theorem dX9_goStep_76 : decode cX9_goStep 76 = .ok (.iaload, 1) := by decide +kernel
theorem dX9_goStep_77 : decode cX9_goStep 77 = .ok (.iconst 1, 1) := by decide +kernel
theorem dX9_goStep_78 : decode cX9_goStep 78 = .ok (.iadd, 1) := by decide +kernel
theorem dX9_goStep_79 : decode cX9_goStep 79 = .ok (.iastore, 1) := by decide +kernel
theorem dX9_goStep_80 : decode cX9_goStep 80 = .ok (.return_, 1) := by decide +kernel
theorem dX9_goStep_81 : decode cX9_goStep 81 = .ok (.aload_n 0, 1) := by decide +kernel
theorem dX9_goStep_82 : decode cX9_goStep 82 = .ok (.getfield 184, 3) := by decide +kernel
theorem dX9_goStep_85 : decode cX9_goStep 85 = .ok (.aload_n 0, 1) := by decide +kernel
theorem dX9_goStep_86 : decode cX9_goStep 86 = .ok (.getfield 267, 3) := by decide +kernel
theorem dX9_goStep_89 : decode cX9_goStep 89 = .ok (.iaload, 1) := by decide +kernel
theorem dX9_goStep_90 : decode cX9_goStep 90 = .ok (.bipush 6, 2) := by decide +kernel
theorem dX9_goStep_92 : decode cX9_goStep 92 = .ok (.if_icmp .ne 38, 3) := by decide +kernel
theorem dX9_goStep_95 : decode cX9_goStep 95 = .ok (.aload_n 0, 1) := by decide +kernel
theorem dX9_goStep_96 : decode cX9_goStep 96 = .ok (.bipush 9, 2) := by decide +kernel
theorem dX9_goStep_98 : decode cX9_goStep 98 = .ok (.putfield 278, 3) := by decide +kernel
theorem dX9_goStep_101 : decode cX9_goStep 101 = .ok (.iload_n 3, 1) := by decide +kernel
theorem dX9_goStep_102 : decode cX9_goStep 102 = .ok (.bipush 17, 2) := by decide +kernel
theorem dX9_goStep_104 : decode cX9_goStep 104 = .ok (.if_icmp .ne 25, 3) := by decide +kernel
theorem dX9_goStep_107 : decode cX9_goStep 107 = .ok (.aload_n 0, 1) := by decide +kernel
theorem dX9_goStep_108 : decode cX9_goStep 108 = .ok (.iconst 0, 1) := by decide +kernel
theorem dX9_goStep_109 : decode cX9_goStep 109 = .ok (.putfield 278, 3) := by decide +kernel
theorem dX9_goStep_112 : decode cX9_goStep 112 = .ok (.aload_n 0, 1) := by decide +kernel
theorem dX9_goStep_113 : decode cX9_goStep 113 = .ok (.ldc2_w 343, 3) := by decide +kernel
theorem dX9_goStep_116 : decode cX9_goStep 116 = .ok (.putfield 287, 3) := by decide +kernel
theorem dX9_goStep_119 : decode cX9_goStep 119 = .ok (.aload_n 0, 1) := by decide +kernel
theorem dX9_goStep_120 : decode cX9_goStep 120 = .ok (.getfield 190, 3) := by decide +kernel
theorem dX9_goStep_123 : decode cX9_goStep 123 = .ok (.iload_n 1, 1) := by decide +kernel
theorem dX9_goStep_124 : decode cX9_goStep 124 = .ok (.dup2, 1) := by decide +kernel
theorem dX9_goStep_125 : decode cX9_goStep 125 = .ok (.iaload, 1) := by decide +kernel
theorem dX9_goStep_126 : decode cX9_goStep 126 = .ok (.iconst 1, 1) := by decide +kernel
theorem dX9_goStep_127 : decode cX9_goStep 127 = .ok (.iadd, 1) := by decide +kernel
theorem dX9_goStep_128 : decode cX9_goStep 128 = .ok (.iastore, 1) := by decide +kernel
theorem dX9_goStep_129 : decode cX9_goStep 129 = .ok (.return_, 1) := by decide +kernel
theorem dX9_goStep_130 : decode cX9_goStep 130 = .ok (.aload_n 0, 1) := by decide +kernel
theorem dX9_goStep_131 : decode cX9_goStep 131 = .ok (.aload_n 0, 1) := by decide +kernel
theorem dX9_goStep_132 : decode cX9_goStep 132 = .ok (.getfield 41, 3) := by decide +kernel
theorem dX9_goStep_135 : decode cX9_goStep 135 = .ok (.iload_n 2, 1) := by decide +kernel
theorem dX9_goStep_136 : decode cX9_goStep 136 = .ok (.iaload, 1) := by decide +kernel
theorem dX9_goStep_137 : decode cX9_goStep 137 = .ok (.iload_n 3, 1) := by decide +kernel
theorem dX9_goStep_138 : decode cX9_goStep 138 = .ok (.bipush 16, 2) := by decide +kernel
theorem dX9_goStep_140 : decode cX9_goStep 140 = .ok (.isub, 1) := by decide +kernel
theorem dX9_goStep_141 : decode cX9_goStep 141 = .ok (.invokevirtual 345, 3) := by decide +kernel
theorem dX9_goStep_144 : decode cX9_goStep 144 = .ok (.return_, 1) := by decide +kernel
theorem dX9_isTaken_0 : decode cX9_isTaken 0 = .ok (.aload_n 0, 1) := by decide +kernel
theorem dX9_isTaken_1 : decode cX9_isTaken 1 = .ok (.getfield 184, 3) := by decide +kernel
theorem dX9_isTaken_4 : decode cX9_isTaken 4 = .ok (.aload_n 0, 1) := by decide +kernel
theorem dX9_isTaken_5 : decode cX9_isTaken 5 = .ok (.getfield 267, 3) := by decide +kernel
theorem dX9_isTaken_8 : decode cX9_isTaken 8 = .ok (.iaload, 1) := by decide +kernel
theorem dX9_isTaken_9 : decode cX9_isTaken 9 = .ok (.iconst 1, 1) := by decide +kernel
theorem dX9_isTaken_10 : decode cX9_isTaken 10 = .ok (.isub, 1) := by decide +kernel
theorem dX9_isTaken_11 : decode cX9_isTaken 11 = .ok (.istore_n 1, 1) := by decide +kernel
theorem dX9_isTaken_12 : decode cX9_isTaken 12 = .ok (.iload_n 1, 1) := by decide +kernel
theorem dX9_isTaken_13 : decode cX9_isTaken 13 = .ok (.ifCond .le 202, 3) := by decide +kernel
theorem dX9_isTaken_16 : decode cX9_isTaken 16 = .ok (.aload_n 0, 1) := by decide +kernel
theorem dX9_isTaken_17 : decode cX9_isTaken 17 = .ok (.getfield 193, 3) := by decide +kernel
theorem dX9_isTaken_20 : decode cX9_isTaken 20 = .ok (.bipush 6, 2) := by decide +kernel
theorem dX9_isTaken_22 : decode cX9_isTaken 22 = .ok (.aload_n 0, 1) := by decide +kernel
theorem dX9_isTaken_23 : decode cX9_isTaken 23 = .ok (.getfield 267, 3) := by decide +kernel
theorem dX9_isTaken_26 : decode cX9_isTaken 26 = .ok (.imul, 1) := by decide +kernel
theorem dX9_isTaken_27 : decode cX9_isTaken 27 = .ok (.iload_n 1, 1) := by decide +kernel
theorem dX9_isTaken_28 : decode cX9_isTaken 28 = .ok (.iadd, 1) := by decide +kernel
theorem dX9_isTaken_29 : decode cX9_isTaken 29 = .ok (.iaload, 1) := by decide +kernel
theorem dX9_isTaken_30 : decode cX9_isTaken 30 = .ok (.istore_n 2, 1) := by decide +kernel
theorem dX9_isTaken_31 : decode cX9_isTaken 31 = .ok (.iload_n 2, 1) := by decide +kernel
theorem dX9_isTaken_32 : decode cX9_isTaken 32 = .ok (.iconst 1, 1) := by decide +kernel
theorem dX9_isTaken_33 : decode cX9_isTaken 33 = .ok (.if_icmp .ne 23, 3) := by decide +kernel
theorem dX9_isTaken_36 : decode cX9_isTaken 36 = .ok (.aload_n 0, 1) := by decide +kernel
theorem dX9_isTaken_37 : decode cX9_isTaken 37 = .ok (.getfield 278, 3) := by decide +kernel
theorem dX9_isTaken_40 : decode cX9_isTaken 40 = .ok (.ifCond .le 16, 3) := by decide +kernel
theorem dX9_isTaken_43 : decode cX9_isTaken 43 = .ok (.aload_n 0, 1) := by decide +kernel
theorem dX9_isTaken_44 : decode cX9_isTaken 44 = .ok (.getfield 278, 3) := by decide +kernel
theorem dX9_isTaken_47 : decode cX9_isTaken 47 = .ok (.bipush 10, 2) := by decide +kernel
theorem dX9_isTaken_49 : decode cX9_isTaken 49 = .ok (.if_icmp .eq 7, 3) := by decide +kernel
theorem dX9_isTaken_52 : decode cX9_isTaken 52 = .ok (.iconst 1, 1) := by decide +kernel
theorem dX9_isTaken_53 : decode cX9_isTaken 53 = .ok (.goto 4, 3) := by decide +kernel
theorem dX9_isTaken_56 : decode cX9_isTaken 56 = .ok (.iconst 0, 1) := by decide +kernel
theorem dX9_isTaken_57 : decode cX9_isTaken 57 = .ok (.istore_n 3, 1) := by decide +kernel
theorem dX9_isTaken_58 : decode cX9_isTaken 58 = .ok (.iload_n 2, 1) := by decide +kernel
theorem dX9_isTaken_59 : decode cX9_isTaken 59 = .ok (.iconst 2, 1) := by decide +kernel
theorem dX9_isTaken_60 : decode cX9_isTaken 60 = .ok (.if_icmp .ne 24, 3) := by decide +kernel
theorem dX9_isTaken_63 : decode cX9_isTaken 63 = .ok (.aload_n 0, 1) := by decide +kernel
theorem dX9_isTaken_64 : decode cX9_isTaken 64 = .ok (.getfield 278, 3) := by decide +kernel
theorem dX9_isTaken_67 : decode cX9_isTaken 67 = .ok (.iconst (-1), 1) := by decide +kernel
theorem dX9_isTaken_68 : decode cX9_isTaken 68 = .ok (.if_icmp .eq 12, 3) := by decide +kernel
theorem dX9_isTaken_71 : decode cX9_isTaken 71 = .ok (.aload_n 0, 1) := by decide +kernel
theorem dX9_isTaken_72 : decode cX9_isTaken 72 = .ok (.getfield 278, 3) := by decide +kernel
theorem dX9_isTaken_75 : decode cX9_isTaken 75 = .ok (.bipush 8, 2) := by decide +kernel
theorem dX9_isTaken_77 : decode cX9_isTaken 77 = .ok (.if_icmp .ne 7, 3) := by decide +kernel
theorem dX9_isTaken_80 : decode cX9_isTaken 80 = .ok (.iconst 1, 1) := by decide +kernel
theorem dX9_isTaken_81 : decode cX9_isTaken 81 = .ok (.goto 4, 3) := by decide +kernel
theorem dX9_isTaken_84 : decode cX9_isTaken 84 = .ok (.iconst 0, 1) := by decide +kernel
theorem dX9_isTaken_85 : decode cX9_isTaken 85 = .ok (.istore 4, 2) := by decide +kernel
theorem dX9_isTaken_87 : decode cX9_isTaken 87 = .ok (.iload_n 3, 1) := by decide +kernel
theorem dX9_isTaken_88 : decode cX9_isTaken 88 = .ok (.ifCond .ne 8, 3) := by decide +kernel
theorem dX9_isTaken_91 : decode cX9_isTaken 91 = .ok (.iload 4, 2) := by decide +kernel
theorem dX9_isTaken_93 : decode cX9_isTaken 93 = .ok (.ifCond .eq 116, 3) := by decide +kernel
theorem dX9_isTaken_96 : decode cX9_isTaken 96 = .ok (.aload_n 0, 1) := by decide +kernel
theorem dX9_isTaken_97 : decode cX9_isTaken 97 = .ok (.getfield 184, 3) := by decide +kernel
theorem dX9_isTaken_100 : decode cX9_isTaken 100 = .ok (.aload_n 0, 1) := by decide +kernel
theorem dX9_isTaken_101 : decode cX9_isTaken 101 = .ok (.getfield 267, 3) := by decide +kernel
theorem dX9_isTaken_104 : decode cX9_isTaken 104 = .ok (.iload_n 1, 1) := by decide +kernel
theorem dX9_isTaken_105 : decode cX9_isTaken 105 = .ok (.iconst 1, 1) := by decide +kernel
theorem dX9_isTaken_106 : decode cX9_isTaken 106 = .ok (.iadd, 1) := by decide +kernel
theorem dX9_isTaken_107 : decode cX9_isTaken 107 = .ok (.iastore, 1) := by decide +kernel
theorem dX9_isTaken_108 : decode cX9_isTaken 108 = .ok (.aload_n 0, 1) := by decide +kernel
theorem dX9_isTaken_109 : decode cX9_isTaken 109 = .ok (.invokevirtual 348, 3) := by decide +kernel
theorem dX9_isTaken_112 : decode cX9_isTaken 112 = .ok (.bipush 6, 2) := by decide +kernel
theorem dX9_isTaken_114 : decode cX9_isTaken 114 = .ok (.aload_n 0, 1) := by decide +kernel
theorem dX9_isTaken_115 : decode cX9_isTaken 115 = .ok (.getfield 267, 3) := by decide +kernel
theorem dX9_isTaken_118 : decode cX9_isTaken 118 = .ok (.imul, 1) := by decide +kernel
theorem dX9_isTaken_119 : decode cX9_isTaken 119 = .ok (.iload_n 1, 1) := by decide +kernel
theorem dX9_isTaken_120 : decode cX9_isTaken 120 = .ok (.iadd, 1) := by decide +kernel
theorem dX9_isTaken_121 : decode cX9_isTaken 121 = .ok (.iconst 1, 1) := by decide +kernel
theorem dX9_isTaken_122 : decode cX9_isTaken 122 = .ok (.isub, 1) := by decide +kernel
theorem dX9_isTaken_123 : decode cX9_isTaken 123 = .ok (.istore 5, 2) := by decide +kernel
theorem dX9_isTaken_125 : decode cX9_isTaken 125 = .ok (.iload_n 3, 1) := by decide +kernel
theorem dX9_isTaken_126 : decode cX9_isTaken 126 = .ok (.ifCond .eq 30, 3) := by decide +kernel
theorem dX9_isTaken_129 : decode cX9_isTaken 129 = .ok (.aload_n 0, 1) := by decide +kernel
theorem dX9_isTaken_130 : decode cX9_isTaken 130 = .ok (.ldc2_w 285, 3) := by decide +kernel
theorem dX9_isTaken_133 : decode cX9_isTaken 133 = .ok (.aload_n 0, 1) := by decide +kernel
theorem dX9_isTaken_134 : decode cX9_isTaken 134 = .ok (.getfield 278, 3) := by decide +kernel
theorem dX9_isTaken_137 : decode cX9_isTaken 137 = .ok (.i2l, 1) := by decide +kernel
theorem dX9_isTaken_138 : decode cX9_isTaken 138 = .ok (.lsub, 1) := by decide +kernel
theorem dX9_isTaken_139 : decode cX9_isTaken 139 = .ok (.putfield 287, 3) := by decide +kernel
theorem dX9_isTaken_142 : decode cX9_isTaken 142 = .ok (.aload_n 0, 1) := by decide +kernel
theorem dX9_isTaken_143 : decode cX9_isTaken 143 = .ok (.getfield 190, 3) := by decide +kernel
theorem dX9_isTaken_146 : decode cX9_isTaken 146 = .ok (.iload 5, 2) := by decide +kernel
theorem dX9_isTaken_148 : decode cX9_isTaken 148 = .ok (.dup2, 1) := by decide +kernel
theorem dX9_isTaken_149 : decode cX9_isTaken 149 = .ok (.iaload, 1) := by decide +kernel
theorem dX9_isTaken_150 : decode cX9_isTaken 150 = .ok (.iconst 1, 1) := by decide +kernel
theorem dX9_isTaken_151 : decode cX9_isTaken 151 = .ok (.iadd, 1) := by decide +kernel
theorem dX9_isTaken_152 : decode cX9_isTaken 152 = .ok (.iastore, 1) := by decide +kernel
theorem dX9_isTaken_153 : decode cX9_isTaken 153 = .ok (.goto 49, 3) := by decide +kernel
theorem dX9_isTaken_156 : decode cX9_isTaken 156 = .ok (.aload_n 0, 1) := by decide +kernel
theorem dX9_isTaken_157 : decode cX9_isTaken 157 = .ok (.aload_n 0, 1) := by decide +kernel
theorem dX9_isTaken_158 : decode cX9_isTaken 158 = .ok (.getfield 196, 3) := by decide +kernel
theorem dX9_isTaken_161 : decode cX9_isTaken 161 = .ok (.bipush 6, 2) := by decide +kernel
theorem dX9_isTaken_163 : decode cX9_isTaken 163 = .ok (.aload_n 0, 1) := by decide +kernel
theorem dX9_isTaken_164 : decode cX9_isTaken 164 = .ok (.getfield 267, 3) := by decide +kernel
theorem dX9_isTaken_167 : decode cX9_isTaken 167 = .ok (.imul, 1) := by decide +kernel
theorem dX9_isTaken_168 : decode cX9_isTaken 168 = .ok (.iload_n 1, 1) := by decide +kernel
theorem dX9_isTaken_169 : decode cX9_isTaken 169 = .ok (.iadd, 1) := by decide +kernel
theorem dX9_isTaken_170 : decode cX9_isTaken 170 = .ok (.laload, 1) := by decide +kernel
theorem dX9_isTaken_171 : decode cX9_isTaken 171 = .ok (.putfield 287, 3) := by decide +kernel
theorem dX9_isTaken_174 : decode cX9_isTaken 174 = .ok (.aload_n 0, 1) := by decide +kernel
theorem dX9_isTaken_175 : decode cX9_isTaken 175 = .ok (.aload_n 0, 1) := by decide +kernel
theorem dX9_isTaken_176 : decode cX9_isTaken 176 = .ok (.getfield 44, 3) := by decide +kernel
theorem dX9_isTaken_179 : decode cX9_isTaken 179 = .ok (.bipush 24, 2) := by decide +kernel
theorem dX9_isTaken_181 : decode cX9_isTaken 181 = .ok (.aload_n 0, 1) := by decide +kernel
theorem dX9_isTaken_182 : decode cX9_isTaken 182 = .ok (.getfield 187, 3) := by decide +kernel
theorem dX9_isTaken_185 : decode cX9_isTaken 185 = .ok (.iload 5, 2) := by decide +kernel
theorem dX9_isTaken_187 : decode cX9_isTaken 187 = .ok (.iaload, 1) := by decide +kernel
theorem dX9_isTaken_188 : decode cX9_isTaken 188 = .ok (.imul, 1) := by decide +kernel
theorem dX9_isTaken_189 : decode cX9_isTaken 189 = .ok (.aload_n 0, 1) := by decide +kernel
theorem dX9_isTaken_190 : decode cX9_isTaken 190 = .ok (.getfield 190, 3) := by decide +kernel
theorem dX9_isTaken_193 : decode cX9_isTaken 193 = .ok (.iload 5, 2) := by decide +kernel
theorem dX9_isTaken_195 : decode cX9_isTaken 195 = .ok (.iaload, 1) := by decide +kernel
theorem dX9_isTaken_196 : decode cX9_isTaken 196 = .ok (.iadd, 1) := by decide +kernel
theorem dX9_isTaken_197 : decode cX9_isTaken 197 = .ok (.iaload, 1) := by decide +kernel
theorem dX9_isTaken_198 : decode cX9_isTaken 198 = .ok (.iconst 0, 1) := by decide +kernel
theorem dX9_isTaken_199 : decode cX9_isTaken 199 = .ok (.invokevirtual 345, 3) := by decide +kernel
theorem dX9_isTaken_202 : decode cX9_isTaken 202 = .ok (.aload_n 0, 1) := by decide +kernel
theorem dX9_isTaken_203 : decode cX9_isTaken 203 = .ok (.iconst 0, 1) := by decide +kernel
theorem dX9_isTaken_204 : decode cX9_isTaken 204 = .ok (.putfield 278, 3) := by decide +kernel
theorem dX9_isTaken_207 : decode cX9_isTaken 207 = .ok (.iconst 1, 1) := by decide +kernel
theorem dX9_isTaken_208 : decode cX9_isTaken 208 = .ok (.ireturn, 1) := by decide +kernel
theorem dX9_isTaken_209 : decode cX9_isTaken 209 = .ok (.iinc 1 (-1), 3) := by decide +kernel
theorem dX9_isTaken_212 : decode cX9_isTaken 212 = .ok (.goto (-200), 3) := by decide +kernel
theorem dX9_isTaken_215 : decode cX9_isTaken 215 = .ok (.iconst 0, 1) := by decide +kernel
theorem dX9_isTaken_216 : decode cX9_isTaken 216 = .ok (.ireturn, 1) := by decide +kernel
theorem dX9_attempt_0 : decode cX9_attempt 0 = .ok (.aload_n 0, 1) := by decide +kernel
theorem dX9_attempt_1 : decode cX9_attempt 1 = .ok (.iload_n 2, 1) := by decide +kernel
theorem dX9_attempt_2 : decode cX9_attempt 2 = .ok (.putfield 267, 3) := by decide +kernel
theorem dX9_attempt_5 : decode cX9_attempt 5 = .ok (.aload_n 0, 1) := by decide +kernel
theorem dX9_attempt_6 : decode cX9_attempt 6 = .ok (.dup, 1) := by decide +kernel
theorem dX9_attempt_7 : decode cX9_attempt 7 = .ok (.getfield 351, 3) := by decide +kernel
theorem dX9_attempt_10 : decode cX9_attempt 10 = .ok (.iconst 1, 1) := by decide +kernel
theorem dX9_attempt_11 : decode cX9_attempt 11 = .ok (.iadd, 1) := by decide +kernel
theorem dX9_attempt_12 : decode cX9_attempt 12 = .ok (.putfield 351, 3) := by decide +kernel
